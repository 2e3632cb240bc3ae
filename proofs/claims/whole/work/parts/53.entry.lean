/-! WHAT IS KNOWN AT THE LAW'S ENTRY -/
theorem in_tbl {ws : List Cond} (ps : List Nat) (h : ws = ps.filterMap (fun i => lw_tbl[i]?)) : ∀ w ∈ ws, w ∈ lw_tbl := by
  intro w hw
  rw [h] at hw
  obtain ⟨i, -, hi⟩ := List.mem_filterMap.mp hw
  exact List.mem_of_getElem? hi
theorem tb_i {w : Cond} (i : Nat) (h : lw_tbl[i]? = some w) : w ∈ lw_tbl := List.mem_of_getElem? h
theorem kn_X0 : ∀ w ∈ u_ws RX0 TX0 15, w ∈ lw_tbl := in_tbl [339, 341, 343, 345, 347, 349, 351, 353, 355, 357, 359, 361, 363, 365, 367] (by decide +kernel)
theorem ki_X0 : Cond.instantiable RX0 15 ∈ lw_tbl := tb_i 319 (by decide +kernel)
theorem kn_X1 : ∀ w ∈ u_ws RX1 TX1 3, w ∈ lw_tbl := in_tbl [249, 251, 253] (by decide +kernel)
theorem ki_X1 : Cond.instantiable RX1 3 ∈ lw_tbl := tb_i 241 (by decide +kernel)
theorem kn_X2 : ∀ w ∈ u_ws RX2 TX2 3, w ∈ lw_tbl := in_tbl [205, 207, 209] (by decide +kernel)
theorem ki_X2 : Cond.instantiable RX2 3 ∈ lw_tbl := tb_i 196 (by decide +kernel)
theorem kn_X3 : ∀ w ∈ u_ws RX3 TX3 4, w ∈ lw_tbl := in_tbl [268, 270, 272, 274] (by decide +kernel)
theorem ki_X3 : Cond.instantiable RX3 4 ∈ lw_tbl := tb_i 257 (by decide +kernel)
theorem kn_X4 : ∀ w ∈ u_ws RX4 TX4 2, w ∈ lw_tbl := in_tbl [582, 584] (by decide +kernel)
theorem ki_X4 : Cond.instantiable RX4 2 ∈ lw_tbl := tb_i 560 (by decide +kernel)
theorem kn_X5 : ∀ w ∈ u_ws RX5 TX5 5, w ∈ lw_tbl := in_tbl [227, 229, 231, 233, 235] (by decide +kernel)
theorem ki_X5 : Cond.instantiable RX5 5 ∈ lw_tbl := tb_i 214 (by decide +kernel)
theorem kn_X6 : ∀ w ∈ u_ws RX6 TX6 11, w ∈ lw_tbl := in_tbl [295, 297, 299, 301, 303, 305, 307, 309, 311, 313, 315] (by decide +kernel)
theorem ki_X6 : Cond.instantiable RX6 11 ∈ lw_tbl := tb_i 278 (by decide +kernel)
theorem kn_X7 : ∀ w ∈ u_ws RX7 TX7 13, w ∈ lw_tbl := in_tbl [167, 169, 171, 173, 175, 177, 179, 181, 183, 185, 187, 189, 191] (by decide +kernel)
theorem ki_X7 : Cond.instantiable RX7 13 ∈ lw_tbl := tb_i 112 (by decide +kernel)
theorem kn_X8 : ∀ w ∈ u_ws RX8 TX8 5, w ∈ lw_tbl := in_tbl [863, 865, 867, 869, 871] (by decide +kernel)
theorem ki_X8 : Cond.instantiable RX8 5 ∈ lw_tbl := tb_i 853 (by decide +kernel)
theorem kn_X9 : ∀ w ∈ u_ws RX9 TX9 18, w ∈ lw_tbl := in_tbl [389, 391, 393, 395, 397, 399, 401, 403, 405, 407, 409, 411, 413, 415, 417, 419, 421, 423] (by decide +kernel)
theorem ki_X9 : Cond.instantiable RX9 18 ∈ lw_tbl := tb_i 104 (by decide +kernel)
theorem kn_X10 : ∀ w ∈ u_ws RX10 TX10 57, w ∈ lw_tbl := in_tbl [1286, 1288, 1290, 1292, 1294, 1296, 1298, 1300, 1302, 1304, 1306, 1308, 1310, 1312, 1314, 1316, 1318, 1320, 1322, 1324, 1326, 1328, 1330, 1332, 1334, 1336, 1338, 1340, 1342, 1344, 1346, 1348, 1350, 1352, 1354, 1356, 1358, 1360, 1362, 1364, 1366, 1368, 1370, 1372, 1374, 1376, 1378, 1380, 1382, 1384, 1386, 1388, 1390, 1392, 1394, 1396, 1398] (by decide +kernel)
theorem ki_X10 : Cond.instantiable RX10 57 ∈ lw_tbl := tb_i 1222 (by decide +kernel)
theorem arr_K {s : State} {args : Array Value} {ty : FieldType} (h : (Cond.arrayClass ty).before args s = true) (hne : ∀ C, ty ≠ .object C) : ∃ cA : ClassId, ArrOfT s cA ty ∧ va_RA s cA ty := by
  obtain ⟨c, k, comp, h1, h2, h3⟩ := Cond.arrayClass_spec h
  refine ⟨c, fun n z => ⟨fun k => (by intro q; cases q), k, h2, comp, h3⟩, ?_⟩
  cases ty with
  | object C => exact absurd rfl (hne C)
  | _ => exact h1
theorem arr_KO {s : State} {args : Array Value} {C : String} (h : (Cond.arrayOver (.object C)).before args s = true) : ∃ cA : ClassId, ArrOfT s cA (.object C) ∧ va_RA s cA (.object C) := by
  obtain ⟨comp, c, k, h1, h2, h3, h4, h5⟩ := Cond.arrayOver_spec h
  exact ⟨c, fun n z => ⟨fun k => (by intro q; cases q), k, h3, comp, h4⟩, k, comp, h3, h4, h1, h5⟩
theorem eq_ev {args : Array Value} {s : State} {a b : Term} {v : Value} (h : (Cond.eq a b).before args s = true) (hb : b.eval args s none [] s = some v) : a.eval args s none [] s = some v := by
  obtain ⟨w, h1, h2⟩ := Cond.eq_one (show (Cond.eq a b).holds args s none s [] = true from h)
  rw [hb] at h2
  cases h2
  exact h1

theorem vkS_one {len : List Nat} {byt : List (List Int32)} {adK adV : Nat → Nat} {A : Nat → Prop} {U : State} {H : Heap} (h : vk_S 1 len byt adK adV A U H) : vk_S 1 len byt (fun _ => adK 0) (fun _ => adV 0) A U H := ⟨fun i hi => by
  have h0 : i = 0 := by omega
  subst h0; exact h.1 0 hi, fun i j hi hj _ => by omega⟩
set_option maxHeartbeats 2000000 in
theorem kG_at {p : Program} {s : State} {m : MethodId} {meth : Method} {c : Code} {b L : Nat} {xs : Nat → Int32} (C0 : lw_At p s m meth c b L xs) : ∃ (ad : Nat → Nat) (D : va_G) (ca : Nat → ClassId), ad SN = b ∧ kG s.heap.size ad D ca (L, xs) s s.heap := by
  obtain ⟨-, -, -, -, -, hts, hX, hbl, -, hgv⟩ := C0
  have hs := flat_of_before _ hgv
  have hA : ∀ a : Nat, a < s.heap.size → ¬ s.heap.size ≤ a := fun a h1 h2 => absurd h2 (Nat.not_le.mpr h1)
  obtain ⟨c0, i0, k0⟩ := u_known (C := RX0) (T := TX0) (N := 15) (n := 15) hts kn_X0 (hts _ ki_X0)
  obtain ⟨c1, i1, k1⟩ := u_known (C := RX1) (T := TX1) (N := 3) (n := 3) hts kn_X1 (hts _ ki_X1)
  obtain ⟨c2, i2, k2⟩ := u_known (C := RX2) (T := TX2) (N := 3) (n := 3) hts kn_X2 (hts _ ki_X2)
  obtain ⟨c3, i3, k3⟩ := u_known (C := RX3) (T := TX3) (N := 4) (n := 4) hts kn_X3 (hts _ ki_X3)
  obtain ⟨c4, i4, k4⟩ := u_known (C := RX4) (T := TX4) (N := 2) (n := 2) hts kn_X4 (hts _ ki_X4)
  obtain ⟨c5, i5, k5⟩ := u_known (C := RX5) (T := TX5) (N := 5) (n := 5) hts kn_X5 (hts _ ki_X5)
  obtain ⟨c6, i6, k6⟩ := u_known (C := RX6) (T := TX6) (N := 11) (n := 11) hts kn_X6 (hts _ ki_X6)
  obtain ⟨c7, i7, k7⟩ := u_known (C := RX7) (T := TX7) (N := 13) (n := 13) hts kn_X7 (hts _ ki_X7)
  obtain ⟨c8, i8, k8⟩ := u_known (C := RX8) (T := TX8) (N := 5) (n := 5) hts kn_X8 (hts _ ki_X8)
  obtain ⟨c9, i9, k9⟩ := u_known (C := RX9) (T := TX9) (N := 18) (n := 18) hts kn_X9 (hts _ ki_X9)
  obtain ⟨c10, i10, k10⟩ := u_known (C := RX10) (T := TX10) (N := 57) (n := 57) hts kn_X10 (hts _ ki_X10)
  obtain ⟨a0, q0⟩ := arr_K (hts (.arrayClass .int) (tb_i 194 (by decide +kernel))) (fun _ h => by cases h)
  obtain ⟨a1, q1⟩ := arr_K (hts (.arrayClass .long) (tb_i 212 (by decide +kernel))) (fun _ h => by cases h)
  obtain ⟨a2, q2⟩ := arr_K (hts (.arrayClass .boolean) (tb_i 370 (by decide +kernel))) (fun _ h => by cases h)
  have hAO := hts (.arrayOver (.object "GoatAbacus$Sum")) (tb_i 239 (by decide +kernel))
  obtain ⟨a3, q3⟩ := arr_KO hAO
  have hlen : (Term.length (.static "GoatAbacus" "TENS" "[J")).eval #[Value.ref b] s none [] s = some (.int (Int32.ofNat 13)) := eq_ev (hs (.eq (.length (.static "GoatAbacus" "TENS" "[J")) (.int 13)) (by decide +kernel)) rfl
  have hel : ∀ j : Nat, j < 13 → (Term.elem (.static "GoatAbacus" "TENS" "[J") (.int (Int32.ofNat j))).eval #[Value.ref b] s none [] s = some (.long (tens j)) := by
    intro j hj
    match j, hj with
    | 0, _ => exact eq_ev (hs (.eq (.elem (.static "GoatAbacus" "TENS" "[J") (.int 0)) (.long 1)) (by decide +kernel)) rfl
    | 1, _ => exact eq_ev (hs (.eq (.elem (.static "GoatAbacus" "TENS" "[J") (.int 1)) (.long 10)) (by decide +kernel)) rfl
    | 2, _ => exact eq_ev (hs (.eq (.elem (.static "GoatAbacus" "TENS" "[J") (.int 2)) (.long 100)) (by decide +kernel)) rfl
    | 3, _ => exact eq_ev (hs (.eq (.elem (.static "GoatAbacus" "TENS" "[J") (.int 3)) (.long 1000)) (by decide +kernel)) rfl
    | 4, _ => exact eq_ev (hs (.eq (.elem (.static "GoatAbacus" "TENS" "[J") (.int 4)) (.long 10000)) (by decide +kernel)) rfl
    | 5, _ => exact eq_ev (hs (.eq (.elem (.static "GoatAbacus" "TENS" "[J") (.int 5)) (.long 100000)) (by decide +kernel)) rfl
    | 6, _ => exact eq_ev (hs (.eq (.elem (.static "GoatAbacus" "TENS" "[J") (.int 6)) (.long 1000000)) (by decide +kernel)) rfl
    | 7, _ => exact eq_ev (hs (.eq (.elem (.static "GoatAbacus" "TENS" "[J") (.int 7)) (.long 10000000)) (by decide +kernel)) rfl
    | 8, _ => exact eq_ev (hs (.eq (.elem (.static "GoatAbacus" "TENS" "[J") (.int 8)) (.long 100000000)) (by decide +kernel)) rfl
    | 9, _ => exact eq_ev (hs (.eq (.elem (.static "GoatAbacus" "TENS" "[J") (.int 9)) (.long 1000000000)) (by decide +kernel)) rfl
    | 10, _ => exact eq_ev (hs (.eq (.elem (.static "GoatAbacus" "TENS" "[J") (.int 10)) (.long 10000000000)) (by decide +kernel)) rfl
    | 11, _ => exact eq_ev (hs (.eq (.elem (.static "GoatAbacus" "TENS" "[J") (.int 11)) (.long 100000000000)) (by decide +kernel)) rfl
    | 12, _ => exact eq_ev (hs (.eq (.elem (.static "GoatAbacus" "TENS" "[J") (.int 12)) (.long 1000000000000)) (by decide +kernel)) rfl
    | n + 13, h => exact absurd h (by omega)
  obtain ⟨tT, eT, vT⟩ := va_Tof (A := fun q => s.heap.size ≤ q) (by decide) (hs (.arrayOf (.static "GoatAbacus" "TENS" "[J") .long) (by decide +kernel)) hlen hel hA
  have hZ : va_Z "GoatAbacus" "TENS" "[J" (.ref tT) (fun q => s.heap.size ≤ q) s s.heap := va_Zof (hts (.laysStatic "GoatAbacus" "TENS" "[J") (tb_i 633 (by decide +kernel))) (hts (.initialized "GoatAbacus") (tb_i 79 (by decide +kernel))) eT hA
  have f0 : ∀ i : Nat, i < 1 → i = 0 := fun i h => by omega
  have f1 : ∀ i : Nat, i < 1 → ([5] : List Nat).getD i 0 < 2 ^ 31 := fun i h => by rw [f0 i h]; decide
  have f2 : ∀ i : Nat, i < 1 → (Cond.eq (.length (.field (.string "GoatAbacus$Tape" 40) "java/lang/String" "value" "[B")) (.int (Int32.ofNat (([5] : List Nat).getD i 0)))).before #[Value.ref b] s = true := fun i h => by rw [f0 i h]; exact hs (.eq (.length (.field (.string "GoatAbacus$Tape" 40) "java/lang/String" "value" "[B")) (.int 5)) (by decide +kernel)
  have f3 : ∀ i : Nat, i < 1 → ∀ j : Nat, j < ([5] : List Nat).getD i 0 → (Cond.eq (.elem (.field (.string "GoatAbacus$Tape" 40) "java/lang/String" "value" "[B") (.int (Int32.ofNat j))) (.int ((([[97, 116, 100, 104, 122]] : List (List Int32)).getD i []).getD j 0))).before #[Value.ref b] s = true := by
    intro i hi j hj
    have hi := f0 i hi
    subst hi
    have hj : j < 5 := hj
    match j, hj with
    | 0, _ => exact hs (.eq (.elem (.field (.string "GoatAbacus$Tape" 40) "java/lang/String" "value" "[B") (.int 0)) (.int 97)) (by decide +kernel)
    | 1, _ => exact hs (.eq (.elem (.field (.string "GoatAbacus$Tape" 40) "java/lang/String" "value" "[B") (.int 1)) (.int 116)) (by decide +kernel)
    | 2, _ => exact hs (.eq (.elem (.field (.string "GoatAbacus$Tape" 40) "java/lang/String" "value" "[B") (.int 2)) (.int 100)) (by decide +kernel)
    | 3, _ => exact hs (.eq (.elem (.field (.string "GoatAbacus$Tape" 40) "java/lang/String" "value" "[B") (.int 3)) (.int 104)) (by decide +kernel)
    | 4, _ => exact hs (.eq (.elem (.field (.string "GoatAbacus$Tape" 40) "java/lang/String" "value" "[B") (.int 4)) (.int 122)) (by decide +kernel)
    | n + 5, h => exact absurd h (by omega)
  obtain ⟨adK, adV, hS1, hK1⟩ := vk_Sof (args := #[Value.ref b]) (s := s) (N := 1) (tm := fun _ => (.string "GoatAbacus$Tape" 40)) (len := [5]) (byt := [[97, 116, 100, 104, 122]]) (A := fun q => s.heap.size ≤ q) f1 (fun i hi => hs (.exactly (.string "GoatAbacus$Tape" 40) "java/lang/String") (by decide +kernel)) (fun i hi => hs (.eq (.field (.string "GoatAbacus$Tape" 40) "java/lang/String" "coder" "B") (.int 0)) (by decide +kernel)) (fun i hi => hs (.arrayOf (.field (.string "GoatAbacus$Tape" 40) "java/lang/String" "value" "[B") .byte) (by decide +kernel)) f2 f3 (fun i j hi hj hn => absurd ((f0 i hi).trans (f0 j hj).symm) hn) hA
  have hS2 : vk_S 1 [5] [[97, 116, 100, 104, 122]] (fun _ => adK 0) (fun _ => adV 0) (fun q => s.heap.size ≤ q) s s.heap := vkS_one hS1
  refine ⟨fun n => bif Nat.blt n 1000000 then s.heap.size + n else bif Nat.beq n TN then tT else bif Nat.beq n SN then b else adK 0, (fun k => ([c0, c1, c2, c3, c4, c5, c6, c7, c8, c9, c10] : List ClassId).getD k c0, fun k => ([i0, i1, i2, i3, i4, i5, i6, i7, i8, i9, i10] : List (Nat → Nat)).getD k i0), fun k => ([a0, a1, a2, a3] : List ClassId).getD k a0, rfl, ⟨fun k q h => ?_, fun k q h => ?_⟩, fun t ht => va_Nw.of rfl (hts _ (nestM_ok t ht)), fun t ht => va_Nw.of rfl (hts _ (nestF_ok t ht)), hZ, vT, hX, hbl, fun n hn => ?_, hAO, va_Nw.of rfl (hts _ (tb_i 573 (by decide +kernel))), ⟨hts (.stringRef "GoatAbacus$Tape" 40 "atdhz") (tb_i 461 (by decide +kernel)), hK1 0 (by omega)⟩, adV 0, hS2, va_Zof (hts (.laysStatic "java/lang/String" "COMPACT_STRINGS" "Z") (tb_i 475 (by decide +kernel))) (hts (.initialized "java/lang/String") (tb_i 90 (by decide +kernel))) (eq_ev (hs (.eq (.static "java/lang/String" "COMPACT_STRINGS" "Z") (.int 1)) (by decide +kernel)) rfl) hA⟩
  · match k, h with
    | 0, h => cases h; exact k0
    | 1, h => cases h; exact k1
    | 2, h => cases h; exact k2
    | 3, h => cases h; exact k3
    | 4, h => cases h; exact k4
    | 5, h => cases h; exact k5
    | 6, h => cases h; exact k6
    | 7, h => cases h; exact k7
    | 8, h => cases h; exact k8
    | 9, h => cases h; exact k9
    | 10, h => cases h; exact k10
    | n + 11, h => simp [vwCl] at h
  · match k, h with
    | 0, h => cases h; exact q0
    | 1, h => cases h; exact q1
    | 2, h => cases h; exact q2
    | 3, h => cases h; exact q3
    | n + 4, h => simp at h
  · show (bif Nat.blt n 1000000 then s.heap.size + n else _) = _
    rw [Nat.blt_eq.mpr hn]; rfl
/-- what a throw needs -/
abbrev NSE : String := "java/util/NoSuchElementException"
def kX (B : Nat) (U : State) (H : Heap) : Prop := vx_Zq Bundle.tN "UNASSIGNED_STACK" Bundle.steD (fun q => B ≤ q) U H ∧ vx_Zq Bundle.tN "SUPPRESSED_SENTINEL" Bundle.listD (fun q => B ≤ q) U H ∧ (∃ sa, vk_R "GoatAbacus" 124 "no such sum" sa U) ∧ (∃ sa, vk_R "GoatAbacus" 130 "no such step" sa U) ∧ va_Nw (.castable NSE NSE) U ∧ va_Nw (.declares (Bundle.initS "java/lang/RuntimeException")) U ∧ va_Nw (.declares (Bundle.initS "java/lang/Exception")) U ∧ va_Nw (.declares (Bundle.initS "java/lang/Throwable")) U
theorem kX_to : KXto kX := by
  intro B s U H0 H h hW hq
  obtain ⟨h1, h2, ⟨sa, h3⟩, ⟨sb, h4⟩, h5, h6, h7, h8⟩ := h
  exact ⟨vx_Zq.moved hW.alike (h1.kept hq), vx_Zq.moved hW.alike (h2.kept hq), ⟨sa, vk_R.warm hW h3⟩, ⟨sb, vk_R.warm hW h4⟩, h5.warmC hW, h6.warmD hW, h7.warmD hW, h8.warmD hW⟩
theorem kX_at {p : Program} {s : State} {m : MethodId} {meth : Method} {c : Code} {b L : Nat} {xs : Nat → Int32} (C0 : lw_At p s m meth c b L xs) : kX s.heap.size s s.heap := by
  obtain ⟨-, -, -, -, -, hts, -, -, -, hgv⟩ := C0
  have hs := flat_of_before _ hgv
  have hA : ∀ a : Nat, a < s.heap.size → ¬ s.heap.size ≤ a := fun a h1 h2 => absurd h2 (Nat.not_le.mpr h1)
  obtain ⟨s124, -, -, -, e124, -⟩ := Cond.exactly_spec (args := #[Value.ref b]) (first := s) (o := none) (s := s) (idx := []) (t := (.string "GoatAbacus" 124)) (cls := "java/lang/String") (hs (.exactly (.string "GoatAbacus" 124) "java/lang/String") (by decide +kernel))
  obtain ⟨s130, -, -, -, e130, -⟩ := Cond.exactly_spec (args := #[Value.ref b]) (first := s) (o := none) (s := s) (idx := []) (t := (.string "GoatAbacus" 130)) (cls := "java/lang/String") (hs (.exactly (.string "GoatAbacus" 130) "java/lang/String") (by decide +kernel))
  exact ⟨vx_Zqof (args := #[Value.ref b]) (hts (.laysStatic "java/lang/Throwable" "UNASSIGNED_STACK" "[Ljava/lang/StackTraceElement;") (tb_i 1182 (by decide +kernel))) (hts (.initialized "java/lang/Throwable") (tb_i 97 (by decide +kernel))) (hs (.isRef (.static "java/lang/Throwable" "UNASSIGNED_STACK" "[Ljava/lang/StackTraceElement;")) (by decide +kernel)) hA, vx_Zqof (args := #[Value.ref b]) (hts (.laysStatic "java/lang/Throwable" "SUPPRESSED_SENTINEL" "Ljava/util/List;") (tb_i 1184 (by decide +kernel))) (hts (.initialized "java/lang/Throwable") (tb_i 97 (by decide +kernel))) (hs (.isRef (.static "java/lang/Throwable" "SUPPRESSED_SENTINEL" "Ljava/util/List;")) (by decide +kernel)) hA, ⟨s124, hts (.stringRef "GoatAbacus" 124 "no such sum") (tb_i 1194 (by decide +kernel)), e124⟩, ⟨s130, hts (.stringRef "GoatAbacus" 130 "no such step") (tb_i 1220 (by decide +kernel)), e130⟩, va_Nw.of rfl (hts (.castable NSE NSE) (tb_i 1157 (by decide +kernel))), va_Nw.of rfl (hts (.declares ⟨"java/lang/RuntimeException", "<init>", "(Ljava/lang/String;)V"⟩) (tb_i 1159 (by decide +kernel))), va_Nw.of rfl (hts (.declares ⟨"java/lang/Exception", "<init>", "(Ljava/lang/String;)V"⟩) (tb_i 1161 (by decide +kernel))), va_Nw.of rfl (hts (.declares ⟨"java/lang/Throwable", "<init>", "(Ljava/lang/String;)V"⟩) (tb_i 1163 (by decide +kernel)))⟩
