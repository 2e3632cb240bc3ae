/-! THE CASES OF THE LAW, by program (wip/gen_cases.py) -/
theorem k_750 (sc : Nat × (Nat → Int32)) : GoesOn sc (g_L_750 sc) := by
  intro k x4 X σ b1 b2 b3 b4 b5 R h72 hz
  have R0 := R
  obtain ⟨r1, r2, r3, r4, r5, r6, r7, r8, r9, r10, r11, r12, r13, r14⟩ := R
  obtain ⟨a, e1, e2⟩ := m_rope (sc.2 (x4 + 1).toNatClampNeg) (sc.2 (x4 + 2).toNatClampNeg) r3 r4 r5
  refine ⟨X, σ, ?_, R0, Room.rf X⟩
  unfold g_L_750 g_L_1876
  rw [gd_t b1, gd_t b2, bnd e1]
  dsimp only
  rw [gd_t b1, gd_t b2, bnd e2]
  dsimp only
  rw [if_pos rfl]
theorem k_787 (sc : Nat × (Nat → Int32)) : GoesOn sc (g_L_787 sc) := by
  intro k x4 X σ b1 b2 b3 b4 b5 R h72 hz
  have R0 := R
  obtain ⟨r1, r2, r3, r4, r5, r6, r7, r8, r9, r10, r11, r12, r13, r14⟩ := R
  obtain ⟨a, e1, e2⟩ := m_number  r3 r4
  refine ⟨X, σ, ?_, R0, Room.rf X⟩
  unfold g_L_787 g_L_1876
  rw [bnd e1]
  dsimp only
  rw [bnd e2]
  dsimp only
  rw [if_pos (by rw [cmE])]
theorem k_801 (sc : Nat × (Nat → Int32)) : GoesOn sc (g_L_801 sc) := by
  intro k x4 X σ b1 b2 b3 b4 b5 R h72 hz
  have R0 := R
  obtain ⟨r1, r2, r3, r4, r5, r6, r7, r8, r9, r10, r11, r12, r13, r14⟩ := R
  obtain ⟨a, e1, e2⟩ := m_told (sc.2 (x4 + 1).toNatClampNeg) r6
  refine ⟨X, σ, ?_, R0, Room.rf X⟩
  unfold g_L_801 g_L_1876
  rw [gd_t b1, bnd e1]
  dsimp only
  rw [gd_t b1, bnd e2]
  dsimp only
  rw [if_pos rfl]
theorem k_969 (sc : Nat × (Nat → Int32)) : GoesOn sc (g_L_969 sc) := by
  intro k x4 X σ b1 b2 b3 b4 b5 R h72 hz
  have R0 := R
  obtain ⟨r1, r2, r3, r4, r5, r6, r7, r8, r9, r10, r11, r12, r13, r14⟩ := R
  obtain ⟨a, e1, e2⟩ := m_bell (sc.2 (x4 + 1).toNatClampNeg) r3 r4 r5
  refine ⟨X, σ, ?_, R0, Room.rf X⟩
  unfold g_L_969 g_L_1876
  rw [gd_t b1, bnd e1]
  dsimp only
  rw [gd_t b1, bnd e2]
  dsimp only
  rw [if_pos rfl]
theorem k_1081 (sc : Nat × (Nat → Int32)) : GoesOn sc (g_L_1081 sc) := by
  intro k x4 X σ b1 b2 b3 b4 b5 R h72 hz
  have R0 := R
  obtain ⟨r1, r2, r3, r4, r5, r6, r7, r8, r9, r10, r11, r12, r13, r14⟩ := R
  obtain ⟨a, e1, e2⟩ := m_astray (sc.2 (x4 + 1).toNatClampNeg) (sc.2 (x4 + 2).toNatClampNeg) (sc.2 (x4 + 3).toNatClampNeg) r3 r4 r5
  refine ⟨X, σ, ?_, R0, Room.rf X⟩
  unfold g_L_1081 g_L_1876
  rw [gd_t b1, gd_t b2, gd_t b3, bnd e1]
  dsimp only
  rw [gd_t b1, gd_t b2, gd_t b3, bnd e2]
  dsimp only
  rw [if_pos rfl]
theorem k_1180 (sc : Nat × (Nat → Int32)) : GoesOn sc (g_L_1180 sc) := by
  intro k x4 X σ b1 b2 b3 b4 b5 R h72 hz
  have R0 := R
  obtain ⟨r1, r2, r3, r4, r5, r6, r7, r8, r9, r10, r11, r12, r13, r14⟩ := R
  obtain ⟨a, e1, e2⟩ := m_added (sc.2 (x4 + 1).toNatClampNeg) r3 r4 r5 r9
  refine ⟨X, σ, ?_, R0, Room.rf X⟩
  unfold g_L_1180 g_L_1876
  rw [gd_t b1, bnd e1]
  dsimp only
  rw [gd_t b1, bnd e2]
  dsimp only
  rw [if_pos rfl]
theorem k_1205 (sc : Nat × (Nat → Int32)) : GoesOn sc (g_L_1205 sc) := by
  intro k x4 X σ b1 b2 b3 b4 b5 R h72 hz
  have R0 := R
  obtain ⟨r1, r2, r3, r4, r5, r6, r7, r8, r9, r10, r11, r12, r13, r14⟩ := R
  obtain ⟨a, e1, e2⟩ := m_near  r3 r4 r5 r9
  refine ⟨X, σ, ?_, R0, Room.rf X⟩
  unfold g_L_1205 g_L_1876
  rw [bnd e1]
  dsimp only
  rw [bnd e2]
  dsimp only
  rw [if_pos rfl]
theorem k_1515 (sc : Nat × (Nat → Int32)) : GoesOn sc (g_L_1515 sc) := by
  intro k x4 X σ b1 b2 b3 b4 b5 R h72 hz
  have R0 := R
  obtain ⟨r1, r2, r3, r4, r5, r6, r7, r8, r9, r10, r11, r12, r13, r14⟩ := R
  obtain ⟨a, e1, e2⟩ := m_as (sc.2 (x4 + 1).toNatClampNeg) (sc.2 (x4 + 2).toNatClampNeg) r8
  refine ⟨X, σ, ?_, R0, Room.rf X⟩
  unfold g_L_1515 g_L_1876
  rw [gd_t b1, gd_t b2, bnd e1]
  dsimp only
  rw [gd_t b1, gd_t b2, bnd e2]
  dsimp only
  rw [if_pos rfl]
theorem k_1552 (sc : Nat × (Nat → Int32)) : GoesOn sc (g_L_1552 sc) := by
  intro k x4 X σ b1 b2 b3 b4 b5 R h72 hz
  have R0 := R
  obtain ⟨r1, r2, r3, r4, r5, r6, r7, r8, r9, r10, r11, r12, r13, r14⟩ := R
  obtain ⟨a, e1, e2⟩ := m_guess (sc.2 (x4 + 1).toNatClampNeg) r8 r9
  refine ⟨X, σ, ?_, R0, Room.rf X⟩
  unfold g_L_1552 g_L_1876
  rw [gd_t b1, bnd e1]
  dsimp only
  rw [gd_t b1, bnd e2]
  dsimp only
  rw [if_pos rfl]
theorem k_1614 (sc : Nat × (Nat → Int32)) : GoesOn sc (g_L_1614 sc) := by
  intro k x4 X σ b1 b2 b3 b4 b5 R h72 hz
  have R0 := R
  obtain ⟨r1, r2, r3, r4, r5, r6, r7, r8, r9, r10, r11, r12, r13, r14⟩ := R
  obtain ⟨a, e1, e2⟩ := m_confused  r8 r9
  refine ⟨X, σ, ?_, R0, Room.rf X⟩
  unfold g_L_1614 g_L_1876
  rw [bnd e1]
  dsimp only
  rw [bnd e2]
  dsimp only
  rw [if_pos rfl]
theorem k_1763 (sc : Nat × (Nat → Int32)) : GoesOn sc (g_L_1763 sc) := by
  intro k x4 X σ b1 b2 b3 b4 b5 R h72 hz
  have R0 := R
  obtain ⟨r1, r2, r3, r4, r5, r6, r7, r8, r9, r10, r11, r12, r13, r14⟩ := R
  obtain ⟨a, e1, e2⟩ := m_odds (sc.2 (x4 + 1).toNatClampNeg) r3 r4 r5 r8 r9
  refine ⟨X, σ, ?_, R0, Room.rf X⟩
  unfold g_L_1763 g_L_1876
  rw [gd_t b1, bnd e1]
  dsimp only
  rw [gd_t b1, bnd e2]
  dsimp only
  rw [if_pos rfl]
theorem k_1851 (sc : Nat × (Nat → Int32)) : GoesOn sc (g_L_1851 sc) := by
  intro k x4 X σ b1 b2 b3 b4 b5 R h72 hz
  have R0 := R
  obtain ⟨r1, r2, r3, r4, r5, r6, r7, r8, r9, r10, r11, r12, r13, r14⟩ := R
  obtain ⟨a, e1, e2⟩ := m_count (sc.2 (x4 + 1).toNatClampNeg) r3.1 r11.1 r2.1 r9.1 r7.1
  refine ⟨X, σ, ?_, R0, Room.rf X⟩
  unfold g_L_1851 g_L_1876
  rw [gd_t b1, bnd e1]
  dsimp only
  rw [gd_t b1, bnd e2]
  dsimp only
  rw [if_pos rfl]
theorem k_252 (sc : Nat × (Nat → Int32)) : GoesOn sc (g_L_252 sc) := by
  intro k x4 X σ b1 b2 b3 b4 b5 R h72 hz
  have R0 := R
  obtain ⟨r1, r2, r3, r4, r5, r6, r7, r8, r9, r10, r11, r12, r13, r14⟩ := R
  obtain ⟨a, σ1, σ2, e1, e2, m⟩ := m_feed (sc.2 (x4 + 1).toNatClampNeg) (sc.2 (x4 + 2).toNatClampNeg) (sc.2 (x4 + 3).toNatClampNeg) (sc.2 (x4 + 4).toNatClampNeg) (sc.2 (x4 + 5).toNatClampNeg) r2
  have q := lowf (fr_X9_feed e1) (fr_X10_feed e2) rfl rfl
  obtain ⟨k1, k2, k3, k4, k5, k6, k7, k8, k9, k10, k11, k12, k13, k14⟩ := R0.keepF q.1 (ext.rf X) (q.2.hb _ X)
  refine ⟨X, σ2, ?_, ⟨k1 rfl, m, k3 rfl, k4 rfl, k5 rfl, k6 rfl, k7 rfl, k8 rfl, k9 rfl, k10 rfl, k11 rfl, k12 rfl, k13 rfl, k14 rfl⟩, Room.rf X⟩
  unfold g_L_252 g_L_1876
  rw [gd_t b1, gd_t b2, gd_t b3, gd_t b4, gd_t b5, bnd e1]
  dsimp only
  rw [gd_t b1, gd_t b2, gd_t b3, gd_t b4, gd_t b5, bnd e2]
  dsimp only
  rw [if_pos rfl]
theorem k_325 (sc : Nat × (Nat → Int32)) : GoesOn sc (g_L_325 sc) := by
  intro k x4 X σ b1 b2 b3 b4 b5 R h72 hz
  have R0 := R
  obtain ⟨r1, r2, r3, r4, r5, r6, r7, r8, r9, r10, r11, r12, r13, r14⟩ := R
  obtain ⟨a, σ1, σ2, e1, e2, m⟩ := m_end (sc.2 (x4 + 1).toNatClampNeg) r2
  have q := lowf (fr_X9_end e1) (fr_X10_end e2) rfl rfl
  obtain ⟨k1, k2, k3, k4, k5, k6, k7, k8, k9, k10, k11, k12, k13, k14⟩ := R0.keepF q.1 (ext.rf X) (q.2.hb _ X)
  refine ⟨X, σ2, ?_, ⟨k1 rfl, m, k3 rfl, k4 rfl, k5 rfl, k6 rfl, k7 rfl, k8 rfl, k9 rfl, k10 rfl, k11 rfl, k12 rfl, k13 rfl, k14 rfl⟩, Room.rf X⟩
  unfold g_L_325 g_L_1876
  rw [gd_t b1, bnd e1]
  dsimp only
  rw [gd_t b1, bnd e2]
  dsimp only
  rw [if_pos rfl]
theorem k_456 (sc : Nat × (Nat → Int32)) : GoesOn sc (g_L_456 sc) := by
  intro k x4 X σ b1 b2 b3 b4 b5 R h72 hz
  have R0 := R
  obtain ⟨r1, r2, r3, r4, r5, r6, r7, r8, r9, r10, r11, r12, r13, r14⟩ := R
  obtain ⟨a, σ1, σ2, e1, e2, m⟩ := m_set (sc.2 (x4 + 1).toNatClampNeg) (sc.2 (x4 + 2).toNatClampNeg) r1
  have q := lowf (fr_X9_set e1) (fr_X10_set e2) rfl rfl
  obtain ⟨k1, k2, k3, k4, k5, k6, k7, k8, k9, k10, k11, k12, k13, k14⟩ := R0.keepF q.1 (ext.rf X) (q.2.hb _ X)
  refine ⟨X, σ2, ?_, ⟨m, k2 rfl, k3 rfl, k4 rfl, k5 rfl, k6 rfl, k7 rfl, k8 rfl, k9 rfl, k10 rfl, k11 rfl, k12 rfl, k13 rfl, k14 rfl⟩, Room.rf X⟩
  unfold g_L_456 g_L_1876
  rw [gd_t b1, gd_t b2, bnd e1]
  dsimp only
  rw [gd_t b1, gd_t b2, bnd e2]
  dsimp only
  rw [if_pos rfl]
theorem k_493 (sc : Nat × (Nat → Int32)) : GoesOn sc (g_L_493 sc) := by
  intro k x4 X σ b1 b2 b3 b4 b5 R h72 hz
  have R0 := R
  obtain ⟨r1, r2, r3, r4, r5, r6, r7, r8, r9, r10, r11, r12, r13, r14⟩ := R
  obtain ⟨a, σ1, σ2, e1, e2, m⟩ := m_goats (sc.2 (x4 + 1).toNatClampNeg) (sc.2 (x4 + 2).toNatClampNeg) r3 r4 r5
  have q := lowf (fr_X9_goats e1) (fr_X10_goats e2) rfl rfl
  obtain ⟨k1, k2, k3, k4, k5, k6, k7, k8, k9, k10, k11, k12, k13, k14⟩ := R0.keepF q.1 (ext.rf X) (q.2.hb _ X)
  refine ⟨X, σ2, ?_, ⟨k1 rfl, k2 rfl, k3 rfl, k4 rfl, m, k6 rfl, k7 rfl, k8 rfl, k9 rfl, k10 rfl, k11 rfl, k12 rfl, k13 rfl, k14 rfl⟩, Room.rf X⟩
  unfold g_L_493 g_L_1876
  rw [gd_t b1, gd_t b2, bnd e1]
  dsimp only
  rw [gd_t b1, gd_t b2, bnd e2]
  dsimp only
  rw [if_pos rfl]
theorem k_530 (sc : Nat × (Nat → Int32)) : GoesOn sc (g_L_530 sc) := by
  intro k x4 X σ b1 b2 b3 b4 b5 R h72 hz
  have R0 := R
  obtain ⟨r1, r2, r3, r4, r5, r6, r7, r8, r9, r10, r11, r12, r13, r14⟩ := R
  obtain ⟨a, σ1, σ2, e1, e2, m⟩ := m_echo (sc.2 (x4 + 1).toNatClampNeg) (sc.2 (x4 + 2).toNatClampNeg) (sc.2 (x4 + 3).toNatClampNeg) r8
  have q := lowf (fr_X9_echo e1) (fr_X10_echo e2) rfl rfl
  obtain ⟨k1, k2, k3, k4, k5, k6, k7, k8, k9, k10, k11, k12, k13, k14⟩ := R0.keepF q.1 (ext.rf X) (q.2.hb _ X)
  refine ⟨X, σ2, ?_, ⟨k1 rfl, k2 rfl, k3 rfl, k4 rfl, k5 rfl, k6 rfl, k7 rfl, m, k9 rfl, k10 rfl, k11 rfl, k12 rfl, k13 rfl, k14 rfl⟩, Room.rf X⟩
  unfold g_L_530 g_L_1876
  rw [gd_t b1, gd_t b2, gd_t b3, bnd e1]
  dsimp only
  rw [gd_t b1, gd_t b2, gd_t b3, bnd e2]
  dsimp only
  rw [if_pos rfl]
theorem k_687 (sc : Nat × (Nat → Int32)) : GoesOn sc (g_L_687 sc) := by
  intro k x4 X σ b1 b2 b3 b4 b5 R h72 hz
  have R0 := R
  obtain ⟨r1, r2, r3, r4, r5, r6, r7, r8, r9, r10, r11, r12, r13, r14⟩ := R
  obtain ⟨a, σ1, σ2, e1, e2, m⟩ := m_act (sc.2 (x4 + 1).toNatClampNeg) (Act2_of r1 r3 r4 r5 r6 r7 r8 r10)
  have q := lowf (fr_X9_act e1) (fr_X10_act e2) rfl rfl
  obtain ⟨k1, k2, k3, k4, k5, k6, k7, k8, k9, k10, k11, k12, k13, k14⟩ := R0.keepF q.1 (ext.rf X) (q.2.hb _ X)
  refine ⟨X, σ2, ?_, ⟨k1 rfl, k2 rfl, k3 rfl, m.2.1, Act2_goat m r5 (q.1.same rfl rfl rfl), Act2_cnt m, m.2.2.2.2, k8 rfl, k9 rfl, k10 rfl, k11 rfl, k12 rfl, k13 rfl, k14 rfl⟩, Room.rf X⟩
  unfold g_L_687 g_L_1876
  rw [gd_t b1, bnd e1]
  dsimp only
  rw [gd_t b1, bnd e2]
  dsimp only
  rw [if_pos rfl]
theorem k_737 (sc : Nat × (Nat → Int32)) : GoesOn sc (g_L_737 sc) := by
  intro k x4 X σ b1 b2 b3 b4 b5 R h72 hz
  have R0 := R
  obtain ⟨r1, r2, r3, r4, r5, r6, r7, r8, r9, r10, r11, r12, r13, r14⟩ := R
  obtain ⟨a, σ1, σ2, e1, e2, m⟩ := m_undo  (Act2_of r1 r3 r4 r5 r6 r7 r8 r10)
  have q := lowf (fr_X9_undo e1) (fr_X10_undo e2) rfl rfl
  obtain ⟨k1, k2, k3, k4, k5, k6, k7, k8, k9, k10, k11, k12, k13, k14⟩ := R0.keepF q.1 (ext.rf X) (q.2.hb _ X)
  refine ⟨X, σ2, ?_, ⟨k1 rfl, k2 rfl, k3 rfl, m.2.1, Act2_goat m r5 (q.1.same rfl rfl rfl), Act2_cnt m, m.2.2.2.2, k8 rfl, k9 rfl, k10 rfl, k11 rfl, k12 rfl, k13 rfl, k14 rfl⟩, Room.rf X⟩
  unfold g_L_737 g_L_1876
  rw [bnd e1]
  dsimp only
  rw [bnd e2]
  dsimp only
  rw [if_pos rfl]
theorem k_826 (sc : Nat × (Nat → Int32)) : GoesOn sc (g_L_826 sc) := by
  intro k x4 X σ b1 b2 b3 b4 b5 R h72 hz
  have R0 := R
  obtain ⟨r1, r2, r3, r4, r5, r6, r7, r8, r9, r10, r11, r12, r13, r14⟩ := R
  obtain ⟨a, σ1, σ2, e1, e2⟩ := m_done (sc.2 (x4 + 1).toNatClampNeg) (sc.2 (x4 + 2).toNatClampNeg) r1 r3 r4 r5
  have q := lowf (fr_X9_done e1) (fr_X10_done e2) rfl rfl
  obtain ⟨k1, k2, k3, k4, k5, k6, k7, k8, k9, k10, k11, k12, k13, k14⟩ := R0.keepF q.1 (ext.rf X) (q.2.hb _ X)
  refine ⟨X, σ2, ?_, ⟨k1 rfl, k2 rfl, k3 rfl, k4 rfl, k5 rfl, k6 rfl, k7 rfl, k8 rfl, k9 rfl, k10 rfl, k11 rfl, k12 rfl, k13 rfl, k14 rfl⟩, Room.rf X⟩
  unfold g_L_826 g_L_1876
  rw [gd_t b1, gd_t b2, bnd e1]
  dsimp only
  rw [gd_t b1, gd_t b2, bnd e2]
  dsimp only
  rw [if_pos rfl]
theorem k_1218 (sc : Nat × (Nat → Int32)) : GoesOn sc (g_L_1218 sc) := by
  intro k x4 X σ b1 b2 b3 b4 b5 R h72 hz
  have R0 := R
  obtain ⟨r1, r2, r3, r4, r5, r6, r7, r8, r9, r10, r11, r12, r13, r14⟩ := R
  obtain ⟨a, σ1, σ2, e1, e2⟩ := m_product (σ := σ) (sc.2 (x4 + 1).toNatClampNeg) (sc.2 (x4 + 2).toNatClampNeg) (sc.2 (x4 + 3).toNatClampNeg) (sc.2 (x4 + 4).toNatClampNeg) 
  have q := lowf (fr_X9_product e1) (fr_X10_product e2) rfl rfl
  obtain ⟨k1, k2, k3, k4, k5, k6, k7, k8, k9, k10, k11, k12, k13, k14⟩ := R0.keepF q.1 (ext.rf X) (q.2.hb _ X)
  refine ⟨X, σ2, ?_, ⟨k1 rfl, k2 rfl, k3 rfl, k4 rfl, k5 rfl, k6 rfl, k7 rfl, k8 rfl, k9 rfl, k10 rfl, k11 rfl, k12 rfl, k13 rfl, k14 rfl⟩, Room.rf X⟩
  unfold g_L_1218 g_L_1876
  rw [gd_t b1, gd_t b2, gd_t b3, gd_t b4, bnd e1]
  dsimp only
  rw [gd_t b1, gd_t b2, gd_t b3, gd_t b4, bnd e2]
  dsimp only
  rw [if_pos (by rw [cmE])]
theorem k_1280 (sc : Nat × (Nat → Int32)) : GoesOn sc (g_L_1280 sc) := by
  intro k x4 X σ b1 b2 b3 b4 b5 R h72 hz
  have R0 := R
  obtain ⟨r1, r2, r3, r4, r5, r6, r7, r8, r9, r10, r11, r12, r13, r14⟩ := R
  obtain ⟨a, σ1, σ2, e1, e2⟩ := m_rival (σ := σ) (sc.2 (x4 + 1).toNatClampNeg) (sc.2 (x4 + 2).toNatClampNeg) 
  have q := lowf (fr_X9_rival e1) (fr_X10_rival e2) rfl rfl
  obtain ⟨k1, k2, k3, k4, k5, k6, k7, k8, k9, k10, k11, k12, k13, k14⟩ := R0.keepF q.1 (ext.rf X) (q.2.hb _ X)
  refine ⟨X, σ2, ?_, ⟨k1 rfl, k2 rfl, k3 rfl, k4 rfl, k5 rfl, k6 rfl, k7 rfl, k8 rfl, k9 rfl, k10 rfl, k11 rfl, k12 rfl, k13 rfl, k14 rfl⟩, Room.rf X⟩
  unfold g_L_1280 g_L_1876
  rw [gd_t b1, gd_t b2, bnd e1]
  dsimp only
  rw [gd_t b1, gd_t b2, bnd e2]
  dsimp only
  rw [if_pos rfl]
theorem k_1466 (sc : Nat × (Nat → Int32)) : GoesOn sc (g_L_1466 sc) := by
  intro k x4 X σ b1 b2 b3 b4 b5 R h72 hz
  have R0 := R
  obtain ⟨r1, r2, r3, r4, r5, r6, r7, r8, r9, r10, r11, r12, r13, r14⟩ := R
  obtain ⟨a, σ1, σ2, e1, e2⟩ := m_standing (sc.2 (x4 + 1).toNatClampNeg) (sc.2 (x4 + 2).toNatClampNeg) (sc.2 (x4 + 3).toNatClampNeg) r1 r3 r4 r5
  have q := lowf (fr_X9_standing e1) (fr_X10_standing e2) rfl rfl
  obtain ⟨k1, k2, k3, k4, k5, k6, k7, k8, k9, k10, k11, k12, k13, k14⟩ := R0.keepF q.1 (ext.rf X) (q.2.hb _ X)
  refine ⟨X, σ2, ?_, ⟨k1 rfl, k2 rfl, k3 rfl, k4 rfl, k5 rfl, k6 rfl, k7 rfl, k8 rfl, k9 rfl, k10 rfl, k11 rfl, k12 rfl, k13 rfl, k14 rfl⟩, Room.rf X⟩
  unfold g_L_1466 g_L_1876
  rw [gd_t b1, gd_t b2, gd_t b3, bnd e1]
  dsimp only
  rw [gd_t b1, gd_t b2, gd_t b3, bnd e2]
  dsimp only
  rw [if_pos rfl]
theorem k_1627 (sc : Nat × (Nat → Int32)) : GoesOn sc (g_L_1627 sc) := by
  intro k x4 X σ b1 b2 b3 b4 b5 R h72 hz
  have R0 := R
  obtain ⟨r1, r2, r3, r4, r5, r6, r7, r8, r9, r10, r11, r12, r13, r14⟩ := R
  obtain ⟨a, σ1, σ2, e1, e2, m⟩ := m_kids (sc.2 (x4 + 1).toNatClampNeg) r3 r5
  have q := lowf (fr_X9_kids e1) (fr_X10_kids e2) rfl rfl
  obtain ⟨k1, k2, k3, k4, k5, k6, k7, k8, k9, k10, k11, k12, k13, k14⟩ := R0.keepF q.1 (ext.rf X) (q.2.hb _ X)
  refine ⟨X, σ2, ?_, ⟨k1 rfl, k2 rfl, k3 rfl, k4 rfl, m, k6 rfl, k7 rfl, k8 rfl, k9 rfl, k10 rfl, k11 rfl, k12 rfl, k13 rfl, k14 rfl⟩, Room.rf X⟩
  unfold g_L_1627 g_L_1876
  rw [gd_t b1, bnd e1]
  dsimp only
  rw [gd_t b1, bnd e2]
  dsimp only
  rw [if_pos rfl]
theorem k_1677 (sc : Nat × (Nat → Int32)) : GoesOn sc (g_L_1677 sc) := by
  intro k x4 X σ b1 b2 b3 b4 b5 R h72 hz
  have R0 := R
  obtain ⟨r1, r2, r3, r4, r5, r6, r7, r8, r9, r10, r11, r12, r13, r14⟩ := R
  obtain ⟨a, σ1, σ2, e1, e2⟩ := m_relay (sc.2 (x4 + 1).toNatClampNeg) (sc.2 (x4 + 2).toNatClampNeg) (sc.2 (x4 + 3).toNatClampNeg) r1 r3 r4 r5
  have q := lowf (fr_X9_relay e1) (fr_X10_relay e2) rfl rfl
  obtain ⟨k1, k2, k3, k4, k5, k6, k7, k8, k9, k10, k11, k12, k13, k14⟩ := R0.keepF q.1 (ext.rf X) (q.2.hb _ X)
  refine ⟨X, σ2, ?_, ⟨k1 rfl, k2 rfl, k3 rfl, k4 rfl, k5 rfl, k6 rfl, k7 rfl, k8 rfl, k9 rfl, k10 rfl, k11 rfl, k12 rfl, k13 rfl, k14 rfl⟩, Room.rf X⟩
  unfold g_L_1677 g_L_1876
  rw [gd_t b1, gd_t b2, gd_t b3, bnd e1]
  dsimp only
  rw [gd_t b1, gd_t b2, gd_t b3, bnd e2]
  dsimp only
  rw [if_pos rfl]
theorem k_1726 (sc : Nat × (Nat → Int32)) : GoesOn sc (g_L_1726 sc) := by
  intro k x4 X σ b1 b2 b3 b4 b5 R h72 hz
  have R0 := R
  obtain ⟨r1, r2, r3, r4, r5, r6, r7, r8, r9, r10, r11, r12, r13, r14⟩ := R
  obtain ⟨a, σ1, σ2, e1, e2⟩ := m_ranked (sc.2 (x4 + 1).toNatClampNeg) (sc.2 (x4 + 2).toNatClampNeg) r1 r3 r4 r5
  have q := lowf (fr_X9_ranked e1) (fr_X10_ranked e2) rfl rfl
  obtain ⟨k1, k2, k3, k4, k5, k6, k7, k8, k9, k10, k11, k12, k13, k14⟩ := R0.keepF q.1 (ext.rf X) (q.2.hb _ X)
  refine ⟨X, σ2, ?_, ⟨k1 rfl, k2 rfl, k3 rfl, k4 rfl, k5 rfl, k6 rfl, k7 rfl, k8 rfl, k9 rfl, k10 rfl, k11 rfl, k12 rfl, k13 rfl, k14 rfl⟩, Room.rf X⟩
  unfold g_L_1726 g_L_1876
  rw [gd_t b1, gd_t b2, bnd e1]
  dsimp only
  rw [gd_t b1, gd_t b2, bnd e2]
  dsimp only
  rw [if_pos rfl]
theorem k_1788 (sc : Nat × (Nat → Int32)) : GoesOn sc (g_L_1788 sc) := by
  intro k x4 X σ b1 b2 b3 b4 b5 R h72 hz
  have R0 := R
  obtain ⟨r1, r2, r3, r4, r5, r6, r7, r8, r9, r10, r11, r12, r13, r14⟩ := R
  obtain ⟨a, σ2, e1, e2⟩ := m_make (σ := σ) (sc.2 (x4 + 1).toNatClampNeg) (sc.2 (x4 + 2).toNatClampNeg)
  have q := lowf (fr_X9_make e1) (fr_X10_make e2) rfl rfl
  obtain ⟨k1, k2, k3, k4, k5, k6, k7, k8, k9, k10, k11, k12, k13, k14⟩ := R0.keepF q.1 (ext.rf X) (q.2.hb _ X)
  refine ⟨X, σ2, ?_, ⟨k1 rfl, k2 rfl, k3 rfl, k4 rfl, k5 rfl, k6 rfl, k7 rfl, k8 rfl, k9 rfl, k10 rfl, k11 rfl, k12 rfl, k13 rfl, k14 rfl⟩, Room.rf X⟩
  unfold g_L_1788 g_L_1876
  rw [gd_t b1, gd_t b2, bnd e1]
  dsimp only
  rw [gd_t b1, gd_t b2, bnd e2]
  dsimp only
  rw [if_pos rfl]
theorem k_579 (sc : Nat × (Nat → Int32)) : GoesOn sc (g_L_579 sc) := by
  intro k x4 X σ b1 b2 b3 b4 b5 R h72 hz
  have R0 := R
  obtain ⟨r1, r2, r3, r4, r5, r6, r7, r8, r9, r10, r11, r12, r13, r14⟩ := R
  obtain ⟨σ1, σ2, e1, e2, m⟩ := m_wind ((shlJ ((sc.2 (x4 + 1).toNatClampNeg).toInt64) 32) ||| (((sc.2 (x4 + 2).toNatClampNeg).toInt64) &&& 4294967295)) r5
  have q := lowf (fr_X9_wind e1) (fr_X10_wind e2) rfl rfl
  obtain ⟨k1, k2, k3, k4, k5, k6, k7, k8, k9, k10, k11, k12, k13, k14⟩ := R0.keepF q.1 (ext.rf X) (q.2.hb _ X)
  refine ⟨X, σ2, ?_, ⟨k1 rfl, k2 rfl, k3 rfl, k4 rfl, m, k6 rfl, k7 rfl, k8 rfl, k9 rfl, k10 rfl, k11 rfl, k12 rfl, k13 rfl, k14 rfl⟩, Room.rf X⟩
  unfold g_L_579 g_L_1876
  rw [gd_t b1, gd_t b2, bnd e1, gd_t b1, gd_t b2, bnd e2]
theorem k_634 (sc : Nat × (Nat → Int32)) : GoesOn sc (g_L_634 sc) := by
  intro k x4 X σ b1 b2 b3 b4 b5 R h72 hz
  have R0 := R
  obtain ⟨r1, r2, r3, r4, r5, r6, r7, r8, r9, r10, r11, r12, r13, r14⟩ := R
  have go : ∀ y : Int32, ∃ a σ1 σ2, f_X9_add (sc.2 (x4 + 1).toNatClampNeg) y σ = some (a, σ1) ∧ f_X10_add (sc.2 (x4 + 1).toNatClampNeg) y σ1 = some (a, σ2) ∧ Rel X σ2 := by
    intro y
    obtain ⟨a, σ1, σ2, e1, e2, m⟩ := m_add (sc.2 (x4 + 1).toNatClampNeg) y (Act2_of r1 r3 r4 r5 r6 r7 r8 r10)
    have q := lowf (fr_X9_add e1) (fr_X10_add e2) rfl rfl
    obtain ⟨k1, k2, k3, k4, k5, k6, k7, k8, k9, k10, k11, k12, k13, k14⟩ := R0.keepF q.1 (ext.rf X) (q.2.hb _ X)
    exact ⟨a, σ1, σ2, e1, e2, ⟨k1 rfl, k2 rfl, k3 rfl, m.2.1, Act2_goat m r5 (q.1.same rfl rfl rfl), Act2_cnt m, m.2.2.2.2, k8 rfl, k9 rfl, k10 rfl, k11 rfl, k12 rfl, k13 rfl, k14 rfl⟩⟩
  by_cases z : (sc.2 (x4 + 2).toNatClampNeg) = 0
  · obtain ⟨a, σ1, σ2, e1, e2, rel⟩ := go 0
    refine ⟨X, σ2, ?_, rel, Room.rf X⟩
    unfold g_L_634 g_L_655 g_L_679 g_L_1876
    rw [gd_t b1, gd_t b2, if_pos z, bnd e1]
    dsimp only
    rw [gd_t b1, gd_t b2, if_pos z, bnd e2]
    dsimp only
    rw [if_pos rfl]
  · obtain ⟨a, σ1, σ2, e1, e2, rel⟩ := go 1
    refine ⟨X, σ2, ?_, rel, Room.rf X⟩
    unfold g_L_634 g_L_655 g_L_679 g_L_1876
    rw [gd_t b1, gd_t b2, if_neg z, bnd e1]
    dsimp only
    rw [gd_t b1, gd_t b2, if_neg z, bnd e2]
    dsimp only
    rw [if_pos rfl]
theorem k_863 (sc : Nat × (Nat → Int32)) : GoesOn sc (g_L_863 sc) := by
  intro k x4 X σ b1 b2 b3 b4 b5 R h72 hz
  have R0 := R
  obtain ⟨r1, r2, r3, r4, r5, r6, r7, r8, r9, r10, r11, r12, r13, r14⟩ := R
  have go : ∀ y : Int32, ∃ a σ1 σ2, f_X9_two (sc.2 (x4 + 1).toNatClampNeg) y σ = some (a, σ1) ∧ f_X10_two (sc.2 (x4 + 1).toNatClampNeg) y σ1 = some (a, σ2) ∧ Rel X σ2 := by
    intro y
    obtain ⟨a, σ1, σ2, e1, e2, m⟩ := m_two (sc.2 (x4 + 1).toNatClampNeg) y r3 r5
    have q := lowf (fr_X9_two e1) (fr_X10_two e2) rfl rfl
    obtain ⟨k1, k2, k3, k4, k5, k6, k7, k8, k9, k10, k11, k12, k13, k14⟩ := R0.keepF q.1 (ext.rf X) (q.2.hb _ X)
    exact ⟨a, σ1, σ2, e1, e2, ⟨k1 rfl, k2 rfl, k3 rfl, k4 rfl, m, k6 rfl, k7 rfl, k8 rfl, k9 rfl, k10 rfl, k11 rfl, k12 rfl, k13 rfl, k14 rfl⟩⟩
  by_cases z : (sc.2 (x4 + 2).toNatClampNeg) = 0
  · obtain ⟨a, σ1, σ2, e1, e2, rel⟩ := go 0
    refine ⟨X, σ2, ?_, rel, Room.rf X⟩
    unfold g_L_863 g_L_884 g_L_908 g_L_1876
    rw [gd_t b1, gd_t b2, if_pos z, bnd e1]
    dsimp only
    rw [gd_t b1, gd_t b2, if_pos z, bnd e2]
    dsimp only
    rw [if_pos rfl]
  · obtain ⟨a, σ1, σ2, e1, e2, rel⟩ := go 1
    refine ⟨X, σ2, ?_, rel, Room.rf X⟩
    unfold g_L_863 g_L_884 g_L_908 g_L_1876
    rw [gd_t b1, gd_t b2, if_neg z, bnd e1]
    dsimp only
    rw [gd_t b1, gd_t b2, if_neg z, bnd e2]
    dsimp only
    rw [if_pos rfl]
theorem k_916 (sc : Nat × (Nat → Int32)) : GoesOn sc (g_L_916 sc) := by
  intro k x4 X σ b1 b2 b3 b4 b5 R h72 hz
  have R0 := R
  obtain ⟨r1, r2, r3, r4, r5, r6, r7, r8, r9, r10, r11, r12, r13, r14⟩ := R
  have go : ∀ y : Int32, ∃ a σ1 σ2, f_X9_fog (sc.2 (x4 + 1).toNatClampNeg) y σ = some (a, σ1) ∧ f_X10_fog (sc.2 (x4 + 1).toNatClampNeg) y σ1 = some (a, σ2) ∧ Rel X σ2 := by
    intro y
    obtain ⟨a, σ1, σ2, e1, e2, m⟩ := m_fog (sc.2 (x4 + 1).toNatClampNeg) y r3 r5
    have q := lowf (fr_X9_fog e1) (fr_X10_fog e2) rfl rfl
    obtain ⟨k1, k2, k3, k4, k5, k6, k7, k8, k9, k10, k11, k12, k13, k14⟩ := R0.keepF q.1 (ext.rf X) (q.2.hb _ X)
    exact ⟨a, σ1, σ2, e1, e2, ⟨k1 rfl, k2 rfl, k3 rfl, k4 rfl, m, k6 rfl, k7 rfl, k8 rfl, k9 rfl, k10 rfl, k11 rfl, k12 rfl, k13 rfl, k14 rfl⟩⟩
  by_cases z : (sc.2 (x4 + 2).toNatClampNeg) = 0
  · obtain ⟨a, σ1, σ2, e1, e2, rel⟩ := go 0
    refine ⟨X, σ2, ?_, rel, Room.rf X⟩
    unfold g_L_916 g_L_937 g_L_961 g_L_1876
    rw [gd_t b1, gd_t b2, if_pos z, bnd e1]
    dsimp only
    rw [gd_t b1, gd_t b2, if_pos z, bnd e2]
    dsimp only
    rw [if_pos rfl]
  · obtain ⟨a, σ1, σ2, e1, e2, rel⟩ := go 1
    refine ⟨X, σ2, ?_, rel, Room.rf X⟩
    unfold g_L_916 g_L_937 g_L_961 g_L_1876
    rw [gd_t b1, gd_t b2, if_neg z, bnd e1]
    dsimp only
    rw [gd_t b1, gd_t b2, if_neg z, bnd e2]
    dsimp only
    rw [if_pos rfl]
theorem k_1366 (sc : Nat × (Nat → Int32)) : GoesOn sc (g_L_1366 sc) := by
  intro k x4 X σ b1 b2 b3 b4 b5 R h72 hz
  have R0 := R
  obtain ⟨r1, r2, r3, r4, r5, r6, r7, r8, r9, r10, r11, r12, r13, r14⟩ := R
  obtain ⟨a, σ1, σ2, e1, e2, S⟩ := m_tried (sc.2 (x4 + 1).toNatClampNeg) (sc.2 (x4 + 2).toNatClampNeg) r11 (Act2_of r1 r3 r4 r5 r6 r7 r8 r10)
  have S1 : Side σ σ2 := S
  refine ⟨X, σ2, ?_, S1.rel R0, Room.rf X⟩
  unfold g_L_1366 g_L_1876
  rw [gd_t b1, gd_t b2, bnd e1]
  dsimp only
  rw [gd_t b1, gd_t b2, bnd e2]
  dsimp only
  rw [if_pos (by rw [cmE])]
theorem k_1404 (sc : Nat × (Nat → Int32)) : GoesOn sc (g_L_1404 sc) := by
  intro k x4 X σ b1 b2 b3 b4 b5 R h72 hz
  have R0 := R
  obtain ⟨r1, r2, r3, r4, r5, r6, r7, r8, r9, r10, r11, r12, r13, r14⟩ := R
  obtain ⟨a, σ1, σ2, e1, e2, S⟩ := m_needs (sc.2 (x4 + 1).toNatClampNeg) (sc.2 (x4 + 2).toNatClampNeg) r11 (Act2_of r1 r3 r4 r5 r6 r7 r8 r10)
  have S1 : Side σ σ2 := S
  refine ⟨X, σ2, ?_, S1.rel R0, Room.rf X⟩
  unfold g_L_1404 g_L_1876
  rw [gd_t b1, gd_t b2, bnd e1]
  dsimp only
  rw [gd_t b1, gd_t b2, bnd e2]
  dsimp only
  rw [if_pos rfl]
theorem k_1652 (sc : Nat × (Nat → Int32)) : GoesOn sc (g_L_1652 sc) := by
  intro k x4 X σ b1 b2 b3 b4 b5 R h72 hz
  have R0 := R
  obtain ⟨r1, r2, r3, r4, r5, r6, r7, r8, r9, r10, r11, r12, r13, r14⟩ := R
  obtain ⟨a, σ1, σ2, e1, e2, S⟩ := m_herd (sc.2 (x4 + 1).toNatClampNeg) r11 (Act2_of r1 r3 r4 r5 r6 r7 r8 r10)
  have S1 : Side σ σ2 := S
  refine ⟨X, σ2, ?_, S1.rel R0, Room.rf X⟩
  unfold g_L_1652 g_L_1876
  rw [gd_t b1, bnd e1]
  dsimp only
  rw [gd_t b1, bnd e2]
  dsimp only
  rw [if_pos rfl]
theorem k_1441 (sc : Nat × (Nat → Int32)) : GoesOn sc (g_L_1441 sc) := by
  intro k x4 X σ b1 b2 b3 b4 b5 R h72 hz
  have R0 := R
  obtain ⟨r1, r2, r3, r4, r5, r6, r7, r8, r9, r10, r11, r12, r13, r14⟩ := R
  obtain ⟨a, σ1, σ2, e1, e2, S⟩ := m_cheaper (sc.2 (x4 + 1).toNatClampNeg) r3 r4 r5
  have S1 : Side σ σ2 := S
  refine ⟨X, σ2, ?_, S1.rel R0, Room.rf X⟩
  unfold g_L_1441 g_L_1876
  rw [gd_t b1, bnd e1]
  dsimp only
  rw [gd_t b1, bnd e2]
  dsimp only
  rw [if_pos rfl]
theorem k_712 (sc : Nat × (Nat → Int32)) : GoesOn sc (g_L_712 sc) := by
  intro k x4 X σ b1 b2 b3 b4 b5 R h72 hz
  have R0 := R
  obtain ⟨r1, r2, r3, r4, r5, r6, r7, r8, r9, r10, r11, r12, r13, r14⟩ := R
  obtain ⟨a, σ1, σ2, e1, e2, m, f⟩ := m_run (X := X) (sc.2 (x4 + 1).toNatClampNeg) r11 (Act2_of r1 r3 r4 r5 r6 r7 r8 r10)
  obtain ⟨k1, k2, k3, k4, k5, k6, k7, k8, k9, k10, k11, k12, k13, k14⟩ := R0.keepF (f.low (fun _ h => h) (fun _ h => h)) (ext.rf X) ((f.h72 rfl rfl).hb _ X)
  refine ⟨X, σ2, ?_, ⟨k1 rfl, k2 rfl, k3 rfl, m.2.1, Act2_goat m r5 (f.same rfl), Act2_cnt m, m.2.2.2.2, k8 rfl, k9 rfl, k10 rfl, k11 rfl, k12 rfl, k13 rfl, k14 rfl⟩, Room.rf X⟩
  unfold g_L_712 g_L_1876
  rw [gd_t b1, bnd e1]
  dsimp only
  rw [gd_t b1, bnd e2]
  dsimp only
  rw [if_pos rfl]
theorem k_994 (sc : Nat × (Nat → Int32)) : GoesOn sc (g_L_994 sc) := by
  intro k x4 X σ b1 b2 b3 b4 b5 R h72 hz
  have R0 := R
  obtain ⟨r1, r2, r3, r4, r5, r6, r7, r8, r9, r10, r11, r12, r13, r14⟩ := R
  obtain ⟨a, σ1, σ2, e1, e2, m, f⟩ := m_miss (X := X) (sc.2 (x4 + 1).toNatClampNeg) (sc.2 (x4 + 2).toNatClampNeg) r8
  obtain ⟨k1, k2, k3, k4, k5, k6, k7, k8, k9, k10, k11, k12, k13, k14⟩ := R0.keepF (f.low (fun _ h => h) (fun _ h => h)) (ext.rf X) ((f.h72 rfl rfl).hb _ X)
  refine ⟨X, σ2, ?_, ⟨k1 rfl, k2 rfl, k3 rfl, k4 rfl, k5 rfl, k6 rfl, k7 rfl, m, k9 rfl, k10 rfl, k11 rfl, k12 rfl, k13 rfl, k14 rfl⟩, Room.rf X⟩
  unfold g_L_994 g_L_1876
  rw [gd_t b1, gd_t b2, bnd e1]
  dsimp only
  rw [gd_t b1, gd_t b2, bnd e2]
  dsimp only
  rw [if_pos rfl]
theorem k_1577 (sc : Nat × (Nat → Int32)) : GoesOn sc (g_L_1577 sc) := by
  intro k x4 X σ b1 b2 b3 b4 b5 R h72 hz
  have R0 := R
  obtain ⟨r1, r2, r3, r4, r5, r6, r7, r8, r9, r10, r11, r12, r13, r14⟩ := R
  obtain ⟨a, σ1, σ2, e1, e2, m, f⟩ := m_safest (X := X) (sc.2 (x4 + 1).toNatClampNeg) (sc.2 (x4 + 2).toNatClampNeg) r8
  obtain ⟨k1, k2, k3, k4, k5, k6, k7, k8, k9, k10, k11, k12, k13, k14⟩ := R0.keepF (f.low (fun _ h => h) (fun _ h => h)) (ext.rf X) ((f.h72 rfl rfl).hb _ X)
  refine ⟨X, σ2, ?_, ⟨k1 rfl, k2 rfl, k3 rfl, k4 rfl, k5 rfl, k6 rfl, k7 rfl, m, k9 rfl, k10 rfl, k11 rfl, k12 rfl, k13 rfl, k14 rfl⟩, Room.rf X⟩
  unfold g_L_1577 g_L_1876
  rw [gd_t b1, gd_t b2, bnd e1]
  dsimp only
  rw [gd_t b1, gd_t b2, bnd e2]
  dsimp only
  rw [if_pos rfl]
theorem k_1317 (sc : Nat × (Nat → Int32)) : GoesOn sc (g_L_1317 sc) := by
  intro k x4 X σ b1 b2 b3 b4 b5 R h72 hz
  have R0 := R
  obtain ⟨r1, r2, r3, r4, r5, r6, r7, r8, r9, r10, r11, r12, r13, r14⟩ := R
  obtain ⟨a, σ2, e1, e2, f⟩ := m_all (X := X) (σ := σ) (sc.2 (x4 + 1).toNatClampNeg) (sc.2 (x4 + 2).toNatClampNeg) (sc.2 (x4 + 3).toNatClampNeg)
  obtain ⟨k1, k2, k3, k4, k5, k6, k7, k8, k9, k10, k11, k12, k13, k14⟩ := R0.keepF (f.low (fun _ h => h) (fun _ h => h)) (ext.rf X) ((f.h72 rfl rfl).hb _ X)
  refine ⟨X, σ2, ?_, ⟨k1 rfl, k2 rfl, k3 rfl, k4 rfl, k5 rfl, k6 rfl, k7 rfl, k8 rfl, k9 rfl, k10 rfl, k11 rfl, k12 rfl, k13 rfl, k14 rfl⟩, Room.rf X⟩
  unfold g_L_1317 g_L_1876
  rw [gd_t b1, gd_t b2, gd_t b3, bnd e1]
  dsimp only
  rw [gd_t b1, gd_t b2, gd_t b3, bnd e2]
  dsimp only
  rw [if_pos rfl]
theorem k_350 (sc : Nat × (Nat → Int32)) : GoesOn sc (g_L_350 sc) := by
  intro k x4 X σ b1 b2 b3 b4 b5 R h72 hz
  have R0 := R
  obtain ⟨r1, r2, r3, r4, r5, r6, r7, r8, r9, r10, r11, r12, r13, r14⟩ := R
  obtain ⟨a, σ1, σ2, e1, e2, f, km⟩ := m_fault (X := X) r2
  obtain ⟨k1, k2, k3, k4, k5, k6, k7, k8, k9, k10, k11, k12, k13, k14⟩ := R0.keepF (f.low (fun _ h => h) (fun _ h => h)) (ext.rf X) ((f.h72 rfl rfl).hb _ X)
  have q := f.same (C := [14]) (G := [(0, 7), (38, 10)]) rfl
  have sm : Rsum X σ2 := Rsum.keep (s := 6) r11 r11.2.1.2 (q.I 0 7) (q.I 38 10) (fun k _ => by rw [q.cR 14]) km (ext.rf X) ((f.h72 rfl rfl).hb _ X) (freeS_0 X)
  refine ⟨X, σ2, ?_, ⟨k1 rfl, k2 rfl, k3 rfl, k4 rfl, k5 rfl, k6 rfl, k7 rfl, k8 rfl, k9 rfl, k10 rfl, sm, k12 rfl, k13 rfl, k14 rfl⟩, Room.rf X⟩
  unfold g_L_350 g_L_1876
  rw [bnd e1]
  dsimp only
  rw [bnd e2]
  dsimp only
  rw [if_pos rfl]
theorem k_363 (sc : Nat × (Nat → Int32)) : GoesOn sc (g_L_363 sc) := by
  intro k x4 X σ b1 b2 b3 b4 b5 R h72 hz
  have R0 := R
  obtain ⟨r1, r2, r3, r4, r5, r6, r7, r8, r9, r10, r11, r12, r13, r14⟩ := R
  obtain ⟨a, Y, σ1, σ2, e1, e2, ex, z1, y1, y2, sm, tp, hb, lo⟩ := m_text r2 r11 h72 hz
  obtain ⟨k1, k2, k3, k4, k5, k6, k7, k8, k9, k10, k11, k12, k13, k14⟩ := R0.keepF lo ex hb
  refine ⟨Y, σ2, ?_, ⟨k1 rfl, tp, k3 rfl, k4 rfl, k5 rfl, k6 rfl, k7 rfl, k8 rfl, k9 rfl, k10 rfl, sm, k12 rfl, k13 rfl, k14 rfl⟩, ⟨ex.1, z1, y1, by omega⟩⟩
  unfold g_L_363 g_L_1876
  rw [bnd e1]
  dsimp only
  rw [bnd e2]
  dsimp only
  rw [if_pos rfl]
theorem k_1031 (sc : Nat × (Nat → Int32)) : GoesOn sc (g_L_1031 sc) := by
  intro k x4 X σ b1 b2 b3 b4 b5 R h72 hz
  have R0 := R
  obtain ⟨r1, r2, r3, r4, r5, r6, r7, r8, r9, r10, r11, r12, r13, r14⟩ := R
  obtain ⟨a, Y, σ1, v, e1, e2, ex, z1, y1, y2, rv, hb, lo⟩ := m_span (sc.2 (x4 + 1).toNatClampNeg) (sc.2 (x4 + 2).toNatClampNeg) (sc.2 (x4 + 3).toNatClampNeg) h72 hz r3 r4 r5 r13
  obtain ⟨k1, k2, k3, k4, k5, k6, k7, k8, k9, k10, k11, k12, k13, k14⟩ := R0.keep lo ex hb
  have fS : freeS X (fun a => isW X v ∧ v ≤ a ∧ a ≤ v + 2) := fun s n h1 h2 h3 h4 h5 h6 => ⟨fun c => (freeS_W c.1 s n h1 h2 h3 h4 h5 h6).1 c.2, fun c => (freeS_W c.1 s n h1 h2 h3 h4 h5 h6).2 c.2⟩
  have fV : ∀ t, isV X t → ¬ (isW X v ∧ v ≤ t ∧ t ≤ v + 2) ∧ ¬ (isW X v ∧ v ≤ t + 1 ∧ t + 1 ≤ v + 2) ∧ ¬ (isW X v ∧ v ≤ t + 2 ∧ t + 2 ≤ v + 2) := fun t ht => by
    obtain ⟨u1, u2, u3, u4, u5, u6, u7, u8, u9, _⟩ := ht
    have nw : ∀ x, isW X v → (eK X x = 8 ∨ (eK X x = 20 ∧ eL X x = 12)) → v ≤ x → x ≤ v + 2 → False := by
      intro x hw hx l1 l2
      obtain ⟨w1, w2, w3, w4, w5, w6, w7, _⟩ := hw
      have hc : x = v ∨ x = v + 1 ∨ x = v + 2 := by omega
      rcases hc with c | c | c
      · rw [c, w3] at hx; omega
      · rw [c, w4, w6] at hx; omega
      · rw [c, w5, w7] at hx; omega
    exact ⟨fun c => nw t c.1 (Or.inl u3) c.2.1 c.2.2, fun c => nw (t + 1) c.1 (Or.inr ⟨u4, u7⟩) c.2.1 c.2.2, fun c => nw (t + 2) c.1 (Or.inr ⟨u5, u8⟩) c.2.1 c.2.2⟩
  have fR : ∀ b, isR X b → ¬ (isW X v ∧ v ≤ b ∧ b ≤ v + 2) := fun b hb c => by
    obtain ⟨u1, u2, u3, u4⟩ := hb
    obtain ⟨⟨w1, w2, w3, w4, w5, w6, w7, _⟩, l1, l2⟩ := c
    have hc : b = v ∨ b = v + 1 ∨ b = v + 2 := by omega
    rcases hc with c | c | c
    · rw [c, w3] at u3; omega
    · rw [c, w6] at u4; omega
    · rw [c, w7] at u4; omega
  refine ⟨Y, σ1, ?_, ⟨k1 rfl, k2 rfl, k3 rfl, k4 rfl, k5 rfl, k6 rfl, k7 rfl, k8 rfl, k9 rfl, k10 rfl, k11 rfl fS, k12 rfl fV, rv, k14 rfl fR⟩, ⟨ex.1, by omega, y1, y2⟩⟩
  unfold g_L_1031 g_L_1876
  rw [gd_t b1, gd_t b2, gd_t b3, bnd e1]
  dsimp only
  rw [gd_t b1, gd_t b2, gd_t b3, bnd e2]
  dsimp only
  rw [if_pos (by rw [cmE])]
theorem k_1155 (sc : Nat × (Nat → Int32)) : GoesOn sc (g_L_1155 sc) := by
  intro k x4 X σ b1 b2 b3 b4 b5 R h72 hz
  have R0 := R
  obtain ⟨r1, r2, r3, r4, r5, r6, r7, r8, r9, r10, r11, r12, r13, r14⟩ := R
  obtain ⟨a, Y, σ1, σ2, e1, e2, rm, ex, z1, y1, y2, lo, hb⟩ := m_fewest (sc.2 (x4 + 1).toNatClampNeg) h72 (by omega) r3 r9 r14
  obtain ⟨k1, k2, k3, k4, k5, k6, k7, k8, k9, k10, k11, k12, k13, k14⟩ := R0.keep lo ex hb
  have ir : ∀ c, gR σ 19 2 = some c → isR X c := fun c hc => by
    rcases r14.2 with ⟨h1, _⟩ | ⟨b, h1, h2, _⟩
    · rw [h1] at hc; cases hc
    · rw [h1] at hc; cases hc; exact h2
  have fS : freeS X (fun c => gR σ 19 2 = some c) := fun s n h1 h2 h3 h4 h5 h6 => ⟨fun c => (freeS_R (ir _ c) s n h1 h2 h3 h4 h5 h6).1 rfl, fun c => (freeS_R (ir _ c) s n h1 h2 h3 h4 h5 h6).2 rfl⟩
  have fV : ∀ t, isV X t → ¬ (gR σ 19 2 = some t) ∧ ¬ (gR σ 19 2 = some (t + 1)) ∧ ¬ (gR σ 19 2 = some (t + 2)) := fun t ht => by
    obtain ⟨u1, u2, u3, u4, u5, u6, u7, u8, u9, _⟩ := ht
    exact ⟨fun c => by have := (ir _ c).2.2.1; omega, fun c => by have := (ir _ c).2.2.2; omega, fun c => by have := (ir _ c).2.2.2; omega⟩
  refine ⟨Y, σ2, ?_, ⟨k1 rfl, k2 rfl, k3 rfl, k4 rfl, k5 rfl, k6 rfl, k7 rfl, k8 rfl, k9 rfl, k10 rfl, k11 rfl fS, k12 rfl fV, k13 rfl, rm⟩, ⟨ex.1, by omega, y1, by omega⟩⟩
  unfold g_L_1155 g_L_1876
  rw [gd_t b1, bnd e1]
  dsimp only
  rw [gd_t b1, bnd e2]
  dsimp only
  rw [if_pos rfl]
theorem k_1825 (sc : Nat × (Nat → Int32)) : GoesOn sc (g_L_1825 sc) := by
  intro k x4 X σ b1 b2 b3 b4 b5 R h72 hz
  have R0 := R
  obtain ⟨r1, r2, r3, r4, r5, r6, r7, r8, r9, r10, r11, r12, r13, r14⟩ := R
  obtain ⟨a, Y, σ1, σ2, t, e1, e2, ex, z1, y1, y2, rkp, hb, lo⟩ := m_image h72 hz (Act2_of r1 r3 r4 r5 r6 r7 r8 r10) r5 r12
  obtain ⟨k1, k2, k3, k4, k5, k6, k7, k8, k9, k10, k11, k12, k13, k14⟩ := R0.keep lo ex hb
  have fS : freeS X (fun a => isV X t ∧ t ≤ a ∧ a ≤ t + 3) := fun s n h1 h2 h3 h4 h5 h6 => ⟨fun c => (freeS_V c.1 s n h1 h2 h3 h4 h5 h6).1 c.2, fun c => (freeS_V c.1 s n h1 h2 h3 h4 h5 h6).2 c.2⟩
  have fR : ∀ b, isR X b → ¬ (isV X t ∧ t ≤ b ∧ b ≤ t + 3) := fun b hb c => by
    obtain ⟨u1, u2, u3, u4⟩ := hb
    obtain ⟨⟨w1, w2, w3, w4, w5, w6, w7, w8, w9, _⟩, l1, l2⟩ := c
    have hc : b = t ∨ b = t + 1 ∨ b = t + 2 ∨ b = t + 3 := by omega
    rcases hc with c | c | c | c
    · rw [c, w3] at u3; omega
    · rw [c, w7] at u4; omega
    · rw [c, w8] at u4; omega
    · rw [c, w9] at u4; omega
  refine ⟨Y, σ2, ?_, ⟨k1 rfl, k2 rfl, k3 rfl, k4 rfl, k5 rfl, k6 rfl, k7 rfl, k8 rfl, k9 rfl, k10 rfl, k11 rfl fS, rkp, k13 rfl, k14 rfl fR⟩, ⟨ex.1, z1, y1, by omega⟩⟩
  unfold g_L_1825 g_L_1876
  rw [bnd e1]
  dsimp only
  rw [bnd e2]
  dsimp only
  rw [if_pos rfl]
theorem k_1838 (sc : Nat × (Nat → Int32)) : GoesOn sc (g_L_1838 sc) := by
  intro k x4 X σ b1 b2 b3 b4 b5 R h72 hz
  have R0 := R
  obtain ⟨r1, r2, r3, r4, r5, r6, r7, r8, r9, r10, r11, r12, r13, r14⟩ := R
  obtain ⟨a, σ1, σ2, e1, e2, m, gt, hi, lo, e10⟩ := m_back (by omega) (Act2_of r1 r3 r4 r5 r6 r7 r8 r10) r5 r12
  obtain ⟨k1, k2, k3, k4, k5, k6, k7, k8, k9, k10, k11, k12, k13, k14⟩ := R0.keepF lo (ext.rf X) (hi.hb _ X)
  have kp : Rkept X σ2 := r12.ex1 (lo.same rfl rfl rfl) e10 (ext.rf X) (hi.hb (fun _ => False) X) (fun _ _ => ⟨id, id, id⟩)
  have rm : Rrem X σ2 := r14.ex1 (lo.same rfl rfl rfl) e10 (ext.rf X) (hi.hb (fun _ => False) X) (fun _ _ => id)
  refine ⟨X, σ2, ?_, ⟨k1 rfl, k2 rfl, ⟨m.1.1, m.1.2.1⟩, m.2.1, gt, Act2_cnt m, m.2.2.2.2, k8 rfl, k9 rfl, k10 rfl, k11 rfl, kp, k13 rfl, rm⟩, Room.rf X⟩
  unfold g_L_1838 g_L_1876
  rw [bnd e1]
  dsimp only
  rw [bnd e2]
  dsimp only
  rw [if_pos rfl]
theorem k_376 (sc : Nat × (Nat → Int32)) : GoesOn sc (g_L_376 sc) := by
  intro k x4 X σ b1 b2 b3 b4 b5 R h72 hz
  have R0 := R
  obtain ⟨r1, r2, r3, r4, r5, r6, r7, r8, r9, r10, r11, r12, r13, r14⟩ := R
  rcases m_step (sc.2 (x4 + 1).toNatClampNeg) (sc.2 (x4 + 2).toNatClampNeg) (sc.2 (x4 + 3).toNatClampNeg) r11 with ⟨σ2, e1, e2, t⟩ | ⟨v, σ2, e1, e2, t⟩
  · have f := fr_X10_step e2
    have ex : ext X (jk X 1 6) := ⟨by show eZ X ≤ eZ X + 1; omega, fun a _ => ⟨rfl, rfl, fun _ => rfl⟩⟩
    obtain ⟨k1, k2, k3, k4, k5, k6, k7, k8, k9, k10, k11, k12, k13, k14⟩ := R0.keepF (f.low (fun _ h => h) (fun _ h => h)) ex ((f.h72 rfl rfl).hb _ X)
    have et : f_X10_thrown σ2 = some (1, σ2) := by unfold f_X10_thrown; rw [t]
    refine ⟨jk X 1 6, σ2, ?_, ⟨k1 rfl, k2 rfl, k3 rfl, k4 rfl, k5 rfl, k6 rfl, k7 rfl, k8 rfl, k9 rfl, k10 rfl, k11 rfl, k12 rfl, k13 rfl, k14 rfl⟩, ⟨by show eZ X ≤ eZ X + 1; omega, by show eZ X + 1 ≤ eZ X + 4; omega, by show eY X ≤ eY X + 6; omega, by show eY X + 6 ≤ eY X + 604; omega⟩⟩
    unfold g_L_376 g_L_453 g_L_1876
    rw [gd_t b1, gd_t b2, gd_t b3, bnd e1]
    dsimp only
    rw [gd_t b1, gd_t b2, gd_t b3, bnd e2]
    dsimp only
    rw [bnd et]
    dsimp only
    rw [if_pos rfl, if_neg (by decide)]
  · have f := fr_X10_step e2
    have f0 : frm [71] [] σ (sJ σ 71 0 v.toInt64) := frm_sJ (frm.rf σ) (by simp)
    have q := lowf f0 f rfl rfl
    obtain ⟨k1, k2, k3, k4, k5, k6, k7, k8, k9, k10, k11, k12, k13, k14⟩ := R0.keepF q.1 (ext.rf X) (q.2.hb _ X)
    have et : f_X10_thrown σ2 = some (0, σ2) := by unfold f_X10_thrown; rw [t]
    have ev : gJ σ2 71 (0 : Int32).toNatClampNeg = v.toInt64 := by
      have n0 : (0 : Int32).toNatClampNeg = 0 := rfl
      rw [n0, (f.same (C := [71]) (G := []) rfl).cJ 71, g_sJ_eq]
    refine ⟨X, σ2, ?_, ⟨k1 rfl, k2 rfl, k3 rfl, k4 rfl, k5 rfl, k6 rfl, k7 rfl, k8 rfl, k9 rfl, k10 rfl, k11 rfl, k12 rfl, k13 rfl, k14 rfl⟩, Room.rf X⟩
    unfold g_L_376 g_L_453 g_L_1876
    rw [gd_t b1, gd_t b2, gd_t b3, bnd e1]
    dsimp only
    rw [gd_t b1, gd_t b2, gd_t b3, bnd e2]
    dsimp only
    rw [bnd et]
    dsimp only
    rw [if_pos rfl, if_pos rfl, gd_t (show inb 0 1 = true from rfl), if_pos (by rw [cmE]; exact ev)]
theorem k_1130 (sc : Nat × (Nat → Int32)) : GoesOn sc (g_L_1130 sc) := by
  intro k x4 X σ b1 b2 b3 b4 b5 R h72 hz
  have R0 := R
  obtain ⟨r1, r2, r3, r4, r5, r6, r7, r8, r9, r10, r11, r12, r13, r14⟩ := R
  obtain ⟨a, σ1, σ2, e1, e2, m⟩ := m_harvest (sc.2 (x4 + 1).toNatClampNeg) r9
  have q := lowf (fr_X9_harvest e1) (fr_X10_harvest e2) rfl rfl
  obtain ⟨k1, k2, k3, k4, k5, k6, k7, k8, k9, k10, k11, k12, k13, k14⟩ := R0.keepF q.1 (ext.rf X) (q.2.hb _ X)
  have f2 := (fr_X10_harvest e2).same (C := [19, 20]) (G := [(1, 0)]) rfl
  have f1 := (fr_X9_harvest e1).same (C := []) (G := [(1, 0), (19, 2), (19, 3)]) rfl
  have hi1 := (fr_X9_harvest e1).h72 rfl rfl
  have hi2 := (fr_X10_harvest e2).h72 rfl rfl
  have rm : Rrem X σ2 := by
    have e1' := e1
    rw [c_harvest (sc.2 (x4 + 1).toNatClampNeg) r9.2.1] at e1'
    by_cases c : (0 ≤ (sc.2 (x4 + 1).toNatClampNeg).toInt ∧ (sc.2 (x4 + 1).toNatClampNeg).toInt ≤ 999999999) ∧ (gI σ 19 1).toInt < 8
    · rw [if_pos c] at e1'
      have es := congrArg (fun z => gI z 19 1) (Prod.mk.inj (Option.some.inj e1')).2
      have e19 : gI σ2 19 1 = gI σ 19 1 + 1 := by
        rw [f2.cI 19]
        refine Eq.trans es.symm ?_
        exact g_sI_eq
      have sz : (gI σ2 19 1).toInt = (gI σ 19 1).toInt + 1 := by
        have := r9.2.1.1
        rw [e19, tadd (by rw [t_1]; omega) (by rw [t_1]; omega), t_1]
      have e3 : gI σ2 19 3 = gI σ 19 3 := by rw [f2.cI 19]; exact f1.I 19 3
      have er : gR σ2 19 2 = gR σ 19 2 := by rw [f2.cR 19]; exact f1.R 19 2
      obtain ⟨h1, h2⟩ := r14
      refine ⟨⟨by rw [e3]; exact h1.1, by rw [e3, sz]; have := h1.2; omega⟩, ?_⟩
      rcases h2 with ⟨h2, h3⟩ | ⟨b, h2, h3, h4⟩
      · left; rw [er, e3]; exact ⟨h2, h3⟩
      · right
        refine ⟨b, by rw [er]; exact h2, h3, fun w => ?_⟩
        exfalso
        have := congrArg Int32.toInt w
        rw [sz, e3] at this
        have := h1.2
        omega
    · rw [if_neg c] at e1'
      have es : σ = σ1 := (Prod.mk.inj (Option.some.inj e1')).2
      subst es
      exact r14.ex ((fr_X10_harvest e2).same rfl) (ext.rf X) (hi2.hb (fun _ => False) X) (fun _ _ => id)
  refine ⟨X, σ2, ?_, ⟨k1 rfl, k2 rfl, k3 rfl, k4 rfl, k5 rfl, k6 rfl, k7 rfl, k8 rfl, m, k10 rfl, k11 rfl, k12 rfl, k13 rfl, rm⟩, Room.rf X⟩
  unfold g_L_1130 g_L_1876
  rw [gd_t b1, bnd e1]
  dsimp only
  rw [gd_t b1, bnd e2]
  dsimp only
  rw [if_pos rfl]
