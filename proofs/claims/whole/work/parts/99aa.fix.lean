/-! THE CONSTRUCTORS ONCE MORE, by program (wip/gen_fix.py) -/
def e_X0_init_bz (o : Nat) (X : En) (σ : St) : Option (En × St) :=
  (gd (rk X o 1) (mkA X σ 20 12 fun t1 Y2 τ3 => gd (rk Y2 o 1) (gd (rk Y2 t1 20) (ptS Y2 o 0 t1 fun Y5 => gd (rk Y5 o 1) (mkA Y5 τ3 20 12 fun t7 Y8 τ9 => gd (rk Y8 o 1) (gd (rk Y8 t7 20) (ptS Y8 o 1 t7 fun Y11 => gd (rk Y11 o 1) (mkA Y11 τ9 20 12 fun t13 Y14 τ15 => gd (rk Y14 o 1) (gd (rk Y14 t13 20) (ptS Y14 o 2 t13 fun Y17 => gd (rk Y17 o 1) (mkA Y17 τ15 20 12 fun t19 Y20 τ21 => gd (rk Y20 o 1) (gd (rk Y20 t19 20) (ptS Y20 o 3 t19 fun Y23 => gd (rk Y23 o 1) (mkA Y23 τ21 22 12 fun t25 Y26 τ27 => gd (rk Y26 o 1) (gd (rk Y26 t25 22) (ptS Y26 o 4 t25 fun Y29 => gd (rk Y29 o 1) (mkA Y29 τ27 20 12 fun t31 Y32 τ33 => gd (rk Y32 o 1) (gd (rk Y32 t31 20) (ptS Y32 o 5 t31 fun Y35 => gd (rk Y35 o 1) (mkA Y35 τ33 20 12 fun t37 Y38 τ39 => gd (rk Y38 o 1) (gd (rk Y38 t37 20) (ptS Y38 o 6 t37 fun Y41 => gd (rk Y41 o 1) (mkA Y41 τ39 22 12 fun t43 Y44 τ45 => gd (rk Y44 o 1) (gd (rk Y44 t43 22) (ptS Y44 o 7 t43 fun Y47 => gd (rk Y47 o 1) (mkA Y47 τ45 22 12 fun t49 Y50 τ51 => gd (rk Y50 o 1) (gd (rk Y50 t49 22) (ptS Y50 o 8 t49 fun Y53 => gd (rk Y53 o 1) (mkA Y53 τ51 20 12 fun t55 Y56 τ57 => gd (rk Y56 o 1) (gd (rk Y56 t55 20) (ptS Y56 o 9 t55 fun Y59 => gd (rk Y59 o 1) (some (Y59, τ57)))))))))))))))))))))))))))))))))
def e_X0_init_z (o : Nat) (X : En) (σ : St) : Option (En × St) :=
  (e_X0_init_bz o X σ).bind fun p => gd (Nat.ble (eZ X) (eZ p.1) && Nat.ble (eY X) (eY p.1)) (some p)
def e_X9_init_bz (o : Nat) (x1 : Int32) (X : En) (σ : St) : Option (En × St) :=
  (gd (rk X o 10) (mkO X σ 8 13 fun t1 Y2 τ3 => gd (rk Y2 o 10) (gd (rk Y2 t1 8) ((e_X7_init t1 (mxI 2 (mnI 12 x1)) Y2 τ3).bind fun p5 => (gd (rk p5.1 o 10) (gd (rk p5.1 t1 8) (ptS p5.1 o 0 t1 fun Y6 => gd (rk Y6 o 10) (mkO Y6 p5.2 8 13 fun t8 Y9 τ10 => gd (rk Y9 o 10) (gd (rk Y9 t8 8) ((eS Y9 o 0).bind fun b12 => (gd (rk Y9 b12 8) ((e_X7_init t8 (gI τ10 b12 0) Y9 τ10).bind fun p14 => (gd (rk p14.1 o 10) (gd (rk p14.1 t8 8) (ptS p14.1 o 1 t8 fun Y15 => gd (rk Y15 o 10) (mkO Y15 p14.2 3 3 fun t17 Y18 τ19 => gd (rk Y18 o 10) (gd (rk Y18 t17 3) ((e_X2_init t17 Y18 τ19).bind fun p21 => (gd (rk p21.1 o 10) (gd (rk p21.1 t17 3) (ptS p21.1 o 4 t17 fun Y22 => gd (rk Y22 o 10) (mkO Y22 p21.2 6 5 fun t24 Y25 τ26 => gd (rk Y25 o 10) (gd (rk Y25 t24 6) ((e_X5_init t24 Y25 τ26).bind fun p28 => (gd (rk p28.1 o 10) (gd (rk p28.1 t24 6) (ptS p28.1 o 5 t24 fun Y29 => gd (rk Y29 o 10) (mkA Y29 p28.2 23 6 fun t31 Y32 τ33 => gd (rk Y32 o 10) (gd (rk Y32 t31 23) (ptS Y32 o 6 t31 fun Y35 => gd (rk Y35 o 10) (mkO Y35 τ33 2 3 fun t37 Y38 τ39 => gd (rk Y38 o 10) (gd (rk Y38 t37 2) ((e_X1_init t37 Y38 τ39).bind fun p41 => (gd (rk p41.1 o 10) (gd (rk p41.1 t37 2) (ptS p41.1 o 8 t37 fun Y42 => gd (rk Y42 o 10) (mkO Y42 p41.2 4 4 fun t44 Y45 τ46 => gd (rk Y45 o 10) (gd (rk Y45 t44 4) ((e_X3_init t44 Y45 τ46).bind fun p48 => (gd (rk p48.1 o 10) (gd (rk p48.1 t44 4) (ptS p48.1 o 9 t44 fun Y49 => gd (rk Y49 o 10) (mkO Y49 p48.2 7 11 fun t51 Y52 τ53 => gd (rk Y52 o 10) (gd (rk Y52 t51 7) ((e_X6_init t51 Y52 τ53).bind fun p55 => (gd (rk p55.1 o 10) (gd (rk p55.1 t51 7) (ptS p55.1 o 10 t51 fun Y56 => gd (rk Y56 o 10) (mkO Y56 p55.2 1 15 fun t58 Y59 τ60 => gd (rk Y59 o 10) (gd (rk Y59 t58 1) ((e_X0_init_z t58 Y59 τ60).bind fun p62 => (gd (rk p62.1 o 10) (gd (rk p62.1 t58 1) (ptS p62.1 o 11 t58 fun Y63 => gd (rk Y63 o 10) (some (Y63, (sI (sI (sI p62.2 o 15 1) o 16 2) o 17 1)))))))))))))))))))))))))))))))))))))))))))))))))))))))))
def e_X9_init_z (o : Nat) (x1 : Int32) (X : En) (σ : St) : Option (En × St) :=
  (e_X9_init_bz o x1 X σ).bind fun p => gd (Nat.ble (eZ X) (eZ p.1) && Nat.ble (eY X) (eY p.1)) (some p)
def e_X10_init_bz (o : Nat) (x1 : Int32) (X : En) (σ : St) : Option (En × St) :=
  (gd (rk X o 11) (mkA X σ 20 160 fun t1 Y2 τ3 => gd (rk Y2 o 11) (gd (rk Y2 t1 20) (ptS Y2 o 2 t1 fun Y5 => gd (rk Y5 o 11) (mkA Y5 τ3 20 84 fun t7 Y8 τ9 => gd (rk Y8 o 11) (gd (rk Y8 t7 20) (ptS Y8 o 6 t7 fun Y11 => gd (rk Y11 o 11) (mkA Y11 τ9 20 84 fun t13 Y14 τ15 => gd (rk Y14 o 11) (gd (rk Y14 t13 20) (ptS Y14 o 7 t13 fun Y17 => gd (rk Y17 o 11) (mkA Y17 τ15 20 84 fun t19 Y20 τ21 => gd (rk Y20 o 11) (gd (rk Y20 t19 20) (ptS Y20 o 8 t19 fun Y23 => gd (rk Y23 o 11) (mkA Y23 τ21 20 7 fun t25 Y26 τ27 => gd (rk Y26 o 11) (gd (rk Y26 t25 20) (ptS Y26 o 9 t25 fun Y29 => gd (rk Y29 o 11) (mkA Y29 (sI (sI (sI τ27 o 12 1) o 13 2) o 14 1) 20 12 fun t31 Y32 τ33 => gd (rk Y32 o 11) (gd (rk Y32 t31 20) (ptS Y32 o 15 t31 fun Y35 => gd (rk Y35 o 11) (mkA Y35 τ33 20 100 fun t37 Y38 τ39 => gd (rk Y38 o 11) (gd (rk Y38 t37 20) (ptS Y38 o 16 t37 fun Y41 => gd (rk Y41 o 11) (mkA Y41 τ39 20 19 fun t43 Y44 τ45 => gd (rk Y44 o 11) (gd (rk Y44 t43 20) (ptS Y44 o 17 t43 fun Y47 => gd (rk Y47 o 11) (mkA Y47 τ45 20 12 fun t49 Y50 τ51 => gd (rk Y50 o 11) (gd (rk Y50 t49 20) (ptS Y50 o 23 t49 fun Y53 => gd (rk Y53 o 11) (mkA Y53 τ51 20 12 fun t55 Y56 τ57 => gd (rk Y56 o 11) (gd (rk Y56 t55 20) (ptS Y56 o 24 t55 fun Y59 => gd (rk Y59 o 11) (mkA Y59 τ57 20 760 fun t61 Y62 τ63 => gd (rk Y62 o 11) (gd (rk Y62 t61 20) (ptS Y62 o 25 t61 fun Y65 => gd (rk Y65 o 11) (mkA Y65 τ63 21 40 fun t67 Y68 τ69 => gd (rk Y68 o 11) (gd (rk Y68 t67 21) (ptS Y68 o 26 t67 fun Y71 => gd (rk Y71 o 11) (mkA Y71 τ69 20 12 fun t73 Y74 τ75 => gd (rk Y74 o 11) (gd (rk Y74 t73 20) (ptS Y74 o 29 t73 fun Y77 => gd (rk Y77 o 11) (mkA Y77 τ75 21 99 fun t79 Y80 τ81 => gd (rk Y80 o 11) (gd (rk Y80 t79 21) (ptS Y80 o 30 t79 fun Y83 => gd (rk Y83 o 11) (mkA Y83 τ81 21 99 fun t85 Y86 τ87 => gd (rk Y86 o 11) (gd (rk Y86 t85 21) (ptS Y86 o 31 t85 fun Y89 => gd (rk Y89 o 11) (mkA Y89 τ87 20 8 fun t91 Y92 τ93 => gd (rk Y92 o 11) (gd (rk Y92 t91 20) (ptS Y92 o 32 t91 fun Y95 => gd (rk Y95 o 11) (mkA Y95 τ93 20 256 fun t97 Y98 τ99 => gd (rk Y98 o 11) (gd (rk Y98 t97 20) (ptS Y98 o 34 t97 fun Y101 => gd (rk Y101 o 11) (mkA Y101 τ99 20 10 fun t103 Y104 τ105 => gd (rk Y104 o 11) (gd (rk Y104 t103 20) (ptS Y104 o 38 t103 fun Y107 => gd (rk Y107 o 11) (mkA Y107 τ105 20 19 fun t109 Y110 τ111 => gd (rk Y110 o 11) (gd (rk Y110 t109 20) (ptS Y110 o 39 t109 fun Y113 => gd (rk Y113 o 11) (mkA Y113 τ111 20 12 fun t115 Y116 τ117 => gd (rk Y116 o 11) (gd (rk Y116 t115 20) (ptS Y116 o 40 t115 fun Y119 => gd (rk Y119 o 11) (mkA Y119 τ117 20 12 fun t121 Y122 τ123 => gd (rk Y122 o 11) (gd (rk Y122 t121 20) (ptS Y122 o 41 t121 fun Y125 => gd (rk Y125 o 11) (mkA Y125 τ123 22 12 fun t127 Y128 τ129 => gd (rk Y128 o 11) (gd (rk Y128 t127 22) (ptS Y128 o 42 t127 fun Y131 => gd (rk Y131 o 11) (mkA Y131 τ129 22 12 fun t133 Y134 τ135 => gd (rk Y134 o 11) (gd (rk Y134 t133 22) (ptS Y134 o 43 t133 fun Y137 => gd (rk Y137 o 11) (mkA Y137 τ135 20 12 fun t139 Y140 τ141 => gd (rk Y140 o 11) (gd (rk Y140 t139 20) (ptS Y140 o 44 t139 fun Y143 => gd (rk Y143 o 11) (mkA Y143 τ141 20 12 fun t145 Y146 τ147 => gd (rk Y146 o 11) (gd (rk Y146 t145 20) (ptS Y146 o 45 t145 fun Y149 => gd (rk Y149 o 11) (mkA Y149 τ147 20 12 fun t151 Y152 τ153 => gd (rk Y152 o 11) (gd (rk Y152 t151 20) (ptS Y152 o 46 t151 fun Y155 => gd (rk Y155 o 11) (mkA Y155 τ153 20 9 fun t157 Y158 τ159 => gd (rk Y158 o 11) (gd (rk Y158 t157 20) (ptS Y158 o 47 t157 fun Y161 => gd (rk Y161 o 11) (mkA Y161 τ159 20 9 fun t163 Y164 τ165 => gd (rk Y164 o 11) (gd (rk Y164 t163 20) (ptS Y164 o 48 t163 fun Y167 => gd (rk Y167 o 11) (mkA Y167 τ165 20 1000 fun t169 Y170 τ171 => gd (rk Y170 o 11) (gd (rk Y170 t169 20) (ptS Y170 o 49 t169 fun Y173 => gd (rk Y173 o 11) (mkA Y173 τ171 22 1000 fun t175 Y176 τ177 => gd (rk Y176 o 11) (gd (rk Y176 t175 22) (ptS Y176 o 50 t175 fun Y179 => gd (rk Y179 o 11) (mkA Y179 τ177 20 19 fun t181 Y182 τ183 => gd (rk Y182 o 11) (gd (rk Y182 t181 20) (ptS Y182 o 51 t181 fun Y185 => gd (rk Y185 o 11) (mkA Y185 τ183 20 12 fun t187 Y188 τ189 => gd (rk Y188 o 11) (gd (rk Y188 t187 20) (ptS Y188 o 52 t187 fun Y191 => gd (rk Y191 o 11) (e_X10_init_296 o FU 0 Y191 (sI τ189 o 1 (mxI 2 (mnI 12 x1)))))))))))))))))))))))))))))))))))))))))))))))))))))))))))))))))))))))))))))))))))))))))))))))))))))
def e_X10_init_z (o : Nat) (x1 : Int32) (X : En) (σ : St) : Option (En × St) :=
  (e_X10_init_bz o x1 X σ).bind fun p => gd (Nat.ble (eZ X) (eZ p.1) && Nat.ble (eY X) (eY p.1)) (some p)
def e_L_pre_z (sc : Nat × (Nat → Int32)) (X : En) (σ : St) : Option (Nat × Nat × Nat × En × St) :=
  (mkO X σ 10 18 fun t1 Y2 τ3 => gd (rk Y2 t1 10) ((e_X9_init_z t1 (if 0 < sc.1 then sc.2 0 else 0) Y2 τ3).bind fun p5 => (gd (rk p5.1 t1 10) (mkO p5.1 p5.2 11 57 fun t6 Y7 τ8 => gd (rk Y7 t1 10) (gd (rk Y7 t6 11) ((e_X10_init_z t6 (if 0 < sc.1 then sc.2 0 else 0) Y7 τ8).bind fun p10 => (gd (rk p10.1 t1 10) (gd (rk p10.1 t6 11) (mkA p10.1 p10.2 21 1 fun t11 Y12 τ13 => gd (rk Y12 t6 11) (gd (rk Y12 t1 10) (gd (rk Y12 t11 21) (some (t1, t6, t11, Y12, τ13)))))))))))))
theorem ce_X0_init_z {pr : Ct} {sc : Nat × (Nat → Int32)} (d : Nat)  {X2 : En} {σ2 : St} {o : Nat} {X : En} {σ : St} (h : e_X0_init_z o X σ = some (X2, σ2)) : Cl MT pr sc (d + 0 + 1) 0 [.ref o] X σ none X2 σ2 := by
  unfold e_X0_init_z at h
  obtain ⟨p, hp, h⟩ := bind_sp h
  obtain ⟨hz, h⟩ := gd_some h
  cases h
  refine cl_of2 mr_X0_init rfl rfl hz ?_
  have h := hp
  clear hp
  unfold e_X0_init_bz at h
  obtain ⟨hk_o_X, h⟩ := gd_some h
  refine Ex.blk 4 rfl ?_
  show Ex mr_X0_init sc (Cl MT pr sc (d + 0)) (rtE none X2 σ2) (7, [(0, .ref o)], [.int 12, .ref o], X, σ)
  obtain ⟨t1, Y2, τ3, he4, h⟩ := mkA_sp h
  refine ex_nwa rfl (by decide) he4 ?_
  show Ex mr_X0_init sc (Cl MT pr sc (d + 0)) (rtE none X2 σ2) (9, [(0, .ref o)], [.ref t1, .ref o], Y2, τ3)
  obtain ⟨hk_o_Y2, h⟩ := gd_some h
  obtain ⟨hk_t1_Y2, h⟩ := gd_some h
  obtain ⟨Y5, he6, h⟩ := ptS_sp h
  refine ex_putS rfl hk_o_Y2 rfl he6 ?_
  show Ex mr_X0_init sc (Cl MT pr sc (d + 0)) (rtE none X2 σ2) (12, [(0, .ref o)], [], Y5, τ3)
  obtain ⟨hk_o_Y5, h⟩ := gd_some h
  refine Ex.blk 2 rfl ?_
  show Ex mr_X0_init sc (Cl MT pr sc (d + 0)) (rtE none X2 σ2) (15, [(0, .ref o)], [.int 12, .ref o], Y5, τ3)
  obtain ⟨t7, Y8, τ9, he10, h⟩ := mkA_sp h
  refine ex_nwa rfl (by decide) he10 ?_
  show Ex mr_X0_init sc (Cl MT pr sc (d + 0)) (rtE none X2 σ2) (17, [(0, .ref o)], [.ref t7, .ref o], Y8, τ9)
  obtain ⟨hk_o_Y8, h⟩ := gd_some h
  obtain ⟨hk_t7_Y8, h⟩ := gd_some h
  obtain ⟨Y11, he12, h⟩ := ptS_sp h
  refine ex_putS rfl hk_o_Y8 rfl he12 ?_
  show Ex mr_X0_init sc (Cl MT pr sc (d + 0)) (rtE none X2 σ2) (20, [(0, .ref o)], [], Y11, τ9)
  obtain ⟨hk_o_Y11, h⟩ := gd_some h
  refine Ex.blk 2 rfl ?_
  show Ex mr_X0_init sc (Cl MT pr sc (d + 0)) (rtE none X2 σ2) (23, [(0, .ref o)], [.int 12, .ref o], Y11, τ9)
  obtain ⟨t13, Y14, τ15, he16, h⟩ := mkA_sp h
  refine ex_nwa rfl (by decide) he16 ?_
  show Ex mr_X0_init sc (Cl MT pr sc (d + 0)) (rtE none X2 σ2) (25, [(0, .ref o)], [.ref t13, .ref o], Y14, τ15)
  obtain ⟨hk_o_Y14, h⟩ := gd_some h
  obtain ⟨hk_t13_Y14, h⟩ := gd_some h
  obtain ⟨Y17, he18, h⟩ := ptS_sp h
  refine ex_putS rfl hk_o_Y14 rfl he18 ?_
  show Ex mr_X0_init sc (Cl MT pr sc (d + 0)) (rtE none X2 σ2) (28, [(0, .ref o)], [], Y17, τ15)
  obtain ⟨hk_o_Y17, h⟩ := gd_some h
  refine Ex.blk 2 rfl ?_
  show Ex mr_X0_init sc (Cl MT pr sc (d + 0)) (rtE none X2 σ2) (31, [(0, .ref o)], [.int 12, .ref o], Y17, τ15)
  obtain ⟨t19, Y20, τ21, he22, h⟩ := mkA_sp h
  refine ex_nwa rfl (by decide) he22 ?_
  show Ex mr_X0_init sc (Cl MT pr sc (d + 0)) (rtE none X2 σ2) (33, [(0, .ref o)], [.ref t19, .ref o], Y20, τ21)
  obtain ⟨hk_o_Y20, h⟩ := gd_some h
  obtain ⟨hk_t19_Y20, h⟩ := gd_some h
  obtain ⟨Y23, he24, h⟩ := ptS_sp h
  refine ex_putS rfl hk_o_Y20 rfl he24 ?_
  show Ex mr_X0_init sc (Cl MT pr sc (d + 0)) (rtE none X2 σ2) (36, [(0, .ref o)], [], Y23, τ21)
  obtain ⟨hk_o_Y23, h⟩ := gd_some h
  refine Ex.blk 2 rfl ?_
  show Ex mr_X0_init sc (Cl MT pr sc (d + 0)) (rtE none X2 σ2) (39, [(0, .ref o)], [.int 12, .ref o], Y23, τ21)
  obtain ⟨t25, Y26, τ27, he28, h⟩ := mkA_sp h
  refine ex_nwa rfl (by decide) he28 ?_
  show Ex mr_X0_init sc (Cl MT pr sc (d + 0)) (rtE none X2 σ2) (41, [(0, .ref o)], [.ref t25, .ref o], Y26, τ27)
  obtain ⟨hk_o_Y26, h⟩ := gd_some h
  obtain ⟨hk_t25_Y26, h⟩ := gd_some h
  obtain ⟨Y29, he30, h⟩ := ptS_sp h
  refine ex_putS rfl hk_o_Y26 rfl he30 ?_
  show Ex mr_X0_init sc (Cl MT pr sc (d + 0)) (rtE none X2 σ2) (44, [(0, .ref o)], [], Y29, τ27)
  obtain ⟨hk_o_Y29, h⟩ := gd_some h
  refine Ex.blk 2 rfl ?_
  show Ex mr_X0_init sc (Cl MT pr sc (d + 0)) (rtE none X2 σ2) (47, [(0, .ref o)], [.int 12, .ref o], Y29, τ27)
  obtain ⟨t31, Y32, τ33, he34, h⟩ := mkA_sp h
  refine ex_nwa rfl (by decide) he34 ?_
  show Ex mr_X0_init sc (Cl MT pr sc (d + 0)) (rtE none X2 σ2) (49, [(0, .ref o)], [.ref t31, .ref o], Y32, τ33)
  obtain ⟨hk_o_Y32, h⟩ := gd_some h
  obtain ⟨hk_t31_Y32, h⟩ := gd_some h
  obtain ⟨Y35, he36, h⟩ := ptS_sp h
  refine ex_putS rfl hk_o_Y32 rfl he36 ?_
  show Ex mr_X0_init sc (Cl MT pr sc (d + 0)) (rtE none X2 σ2) (52, [(0, .ref o)], [], Y35, τ33)
  obtain ⟨hk_o_Y35, h⟩ := gd_some h
  refine Ex.blk 2 rfl ?_
  show Ex mr_X0_init sc (Cl MT pr sc (d + 0)) (rtE none X2 σ2) (55, [(0, .ref o)], [.int 12, .ref o], Y35, τ33)
  obtain ⟨t37, Y38, τ39, he40, h⟩ := mkA_sp h
  refine ex_nwa rfl (by decide) he40 ?_
  show Ex mr_X0_init sc (Cl MT pr sc (d + 0)) (rtE none X2 σ2) (57, [(0, .ref o)], [.ref t37, .ref o], Y38, τ39)
  obtain ⟨hk_o_Y38, h⟩ := gd_some h
  obtain ⟨hk_t37_Y38, h⟩ := gd_some h
  obtain ⟨Y41, he42, h⟩ := ptS_sp h
  refine ex_putS rfl hk_o_Y38 rfl he42 ?_
  show Ex mr_X0_init sc (Cl MT pr sc (d + 0)) (rtE none X2 σ2) (60, [(0, .ref o)], [], Y41, τ39)
  obtain ⟨hk_o_Y41, h⟩ := gd_some h
  refine Ex.blk 2 rfl ?_
  show Ex mr_X0_init sc (Cl MT pr sc (d + 0)) (rtE none X2 σ2) (63, [(0, .ref o)], [.int 12, .ref o], Y41, τ39)
  obtain ⟨t43, Y44, τ45, he46, h⟩ := mkA_sp h
  refine ex_nwa rfl (by decide) he46 ?_
  show Ex mr_X0_init sc (Cl MT pr sc (d + 0)) (rtE none X2 σ2) (65, [(0, .ref o)], [.ref t43, .ref o], Y44, τ45)
  obtain ⟨hk_o_Y44, h⟩ := gd_some h
  obtain ⟨hk_t43_Y44, h⟩ := gd_some h
  obtain ⟨Y47, he48, h⟩ := ptS_sp h
  refine ex_putS rfl hk_o_Y44 rfl he48 ?_
  show Ex mr_X0_init sc (Cl MT pr sc (d + 0)) (rtE none X2 σ2) (68, [(0, .ref o)], [], Y47, τ45)
  obtain ⟨hk_o_Y47, h⟩ := gd_some h
  refine Ex.blk 2 rfl ?_
  show Ex mr_X0_init sc (Cl MT pr sc (d + 0)) (rtE none X2 σ2) (71, [(0, .ref o)], [.int 12, .ref o], Y47, τ45)
  obtain ⟨t49, Y50, τ51, he52, h⟩ := mkA_sp h
  refine ex_nwa rfl (by decide) he52 ?_
  show Ex mr_X0_init sc (Cl MT pr sc (d + 0)) (rtE none X2 σ2) (73, [(0, .ref o)], [.ref t49, .ref o], Y50, τ51)
  obtain ⟨hk_o_Y50, h⟩ := gd_some h
  obtain ⟨hk_t49_Y50, h⟩ := gd_some h
  obtain ⟨Y53, he54, h⟩ := ptS_sp h
  refine ex_putS rfl hk_o_Y50 rfl he54 ?_
  show Ex mr_X0_init sc (Cl MT pr sc (d + 0)) (rtE none X2 σ2) (76, [(0, .ref o)], [], Y53, τ51)
  obtain ⟨hk_o_Y53, h⟩ := gd_some h
  refine Ex.blk 2 rfl ?_
  show Ex mr_X0_init sc (Cl MT pr sc (d + 0)) (rtE none X2 σ2) (79, [(0, .ref o)], [.int 12, .ref o], Y53, τ51)
  obtain ⟨t55, Y56, τ57, he58, h⟩ := mkA_sp h
  refine ex_nwa rfl (by decide) he58 ?_
  show Ex mr_X0_init sc (Cl MT pr sc (d + 0)) (rtE none X2 σ2) (81, [(0, .ref o)], [.ref t55, .ref o], Y56, τ57)
  obtain ⟨hk_o_Y56, h⟩ := gd_some h
  obtain ⟨hk_t55_Y56, h⟩ := gd_some h
  obtain ⟨Y59, he60, h⟩ := ptS_sp h
  refine ex_putS rfl hk_o_Y56 rfl he60 ?_
  show Ex mr_X0_init sc (Cl MT pr sc (d + 0)) (rtE none X2 σ2) (84, [(0, .ref o)], [], Y59, τ57)
  obtain ⟨hk_o_Y59, h⟩ := gd_some h
  refine Ex.blk 1 rfl ?_
  cases h
  exact And.intro trivial ⟨rfl, rfl, rfl⟩
theorem ce_X9_init_z {pr : Ct} {sc : Nat × (Nat → Int32)} (d : Nat)  {X2 : En} {σ2 : St} {o : Nat} {x1 : Int32} {X : En} {σ : St} (h : e_X9_init_z o x1 X σ = some (X2, σ2)) : Cl MT pr sc (d + 2 + 1) 81 [.ref o, .int x1] X σ none X2 σ2 := by
  unfold e_X9_init_z at h
  obtain ⟨p, hp, h⟩ := bind_sp h
  obtain ⟨hz, h⟩ := gd_some h
  cases h
  refine cl_of2 mr_X9_init rfl rfl hz ?_
  have h := hp
  clear hp
  unfold e_X9_init_bz at h
  obtain ⟨hk_o_X, h⟩ := gd_some h
  refine Ex.blk 3 rfl ?_
  show Ex mr_X9_init sc (Cl MT pr sc (d + 2)) (rtE none X2 σ2) (5, [(0, .ref o), (1, .int x1)], [.ref o], X, σ)
  obtain ⟨t1, Y2, τ3, he4, h⟩ := mkO_sp h
  refine ex_new rfl he4 ?_
  show Ex mr_X9_init sc (Cl MT pr sc (d + 2)) (rtE none X2 σ2) (8, [(0, .ref o), (1, .int x1)], [.ref t1, .ref o], Y2, τ3)
  obtain ⟨hk_o_Y2, h⟩ := gd_some h
  obtain ⟨hk_t1_Y2, h⟩ := gd_some h
  refine Ex.blk 5 rfl ?_
  show Ex mr_X9_init sc (Cl MT pr sc (d + 2)) (rtE none X2 σ2) (16, [(0, .ref o), (1, .int x1)], [.int (mnI 12 x1), .int 2, .ref t1, .ref t1, .ref o], Y2, τ3)
  refine Ex.blk 1 rfl ?_
  show Ex mr_X9_init sc (Cl MT pr sc (d + 2)) (rtE none X2 σ2) (19, [(0, .ref o), (1, .int x1)], [.int (mxI 2 (mnI 12 x1)), .ref t1, .ref t1, .ref o], Y2, τ3)
  obtain ⟨p5, hp5, h⟩ := bind_sp h
  refine Ex.blk 1 rfl ?_
  refine Exists.intro none (Exists.intro p5.1 (Exists.intro p5.2 (And.intro (ce_X7_init (d + 0) hp5) ?_)))
  show Ex mr_X9_init sc (Cl MT pr sc (d + 2)) (rtE none X2 σ2) (22, [(0, .ref o), (1, .int x1)], [.ref t1, .ref o], p5.1, p5.2)
  obtain ⟨hk_o_p5_1, h⟩ := gd_some h
  obtain ⟨hk_t1_p5_1, h⟩ := gd_some h
  obtain ⟨Y6, he7, h⟩ := ptS_sp h
  refine ex_putS rfl hk_o_p5_1 rfl he7 ?_
  show Ex mr_X9_init sc (Cl MT pr sc (d + 2)) (rtE none X2 σ2) (25, [(0, .ref o), (1, .int x1)], [], Y6, p5.2)
  obtain ⟨hk_o_Y6, h⟩ := gd_some h
  refine Ex.blk 1 rfl ?_
  show Ex mr_X9_init sc (Cl MT pr sc (d + 2)) (rtE none X2 σ2) (26, [(0, .ref o), (1, .int x1)], [.ref o], Y6, p5.2)
  obtain ⟨t8, Y9, τ10, he11, h⟩ := mkO_sp h
  refine ex_new rfl he11 ?_
  show Ex mr_X9_init sc (Cl MT pr sc (d + 2)) (rtE none X2 σ2) (29, [(0, .ref o), (1, .int x1)], [.ref t8, .ref o], Y9, τ10)
  obtain ⟨hk_o_Y9, h⟩ := gd_some h
  obtain ⟨hk_t8_Y9, h⟩ := gd_some h
  refine Ex.blk 2 rfl ?_
  show Ex mr_X9_init sc (Cl MT pr sc (d + 2)) (rtE none X2 σ2) (31, [(0, .ref o), (1, .int x1)], [.ref o, .ref t8, .ref t8, .ref o], Y9, τ10)
  obtain ⟨b12, hb13, h⟩ := bind_sp h
  refine ex_get rfl hk_o_Y9 (congrArg orv hb13) ?_
  show Ex mr_X9_init sc (Cl MT pr sc (d + 2)) (rtE none X2 σ2) (34, [(0, .ref o), (1, .int x1)], [.ref b12, .ref t8, .ref t8, .ref o], Y9, τ10)
  obtain ⟨hk_b12_Y9, h⟩ := gd_some h
  refine ex_get rfl hk_b12_Y9 rfl ?_
  show Ex mr_X9_init sc (Cl MT pr sc (d + 2)) (rtE none X2 σ2) (37, [(0, .ref o), (1, .int x1)], [.int (gI τ10 b12 0), .ref t8, .ref t8, .ref o], Y9, τ10)
  obtain ⟨p14, hp14, h⟩ := bind_sp h
  refine Ex.blk 1 rfl ?_
  refine Exists.intro none (Exists.intro p14.1 (Exists.intro p14.2 (And.intro (ce_X7_init (d + 0) hp14) ?_)))
  show Ex mr_X9_init sc (Cl MT pr sc (d + 2)) (rtE none X2 σ2) (40, [(0, .ref o), (1, .int x1)], [.ref t8, .ref o], p14.1, p14.2)
  obtain ⟨hk_o_p14_1, h⟩ := gd_some h
  obtain ⟨hk_t8_p14_1, h⟩ := gd_some h
  obtain ⟨Y15, he16, h⟩ := ptS_sp h
  refine ex_putS rfl hk_o_p14_1 rfl he16 ?_
  show Ex mr_X9_init sc (Cl MT pr sc (d + 2)) (rtE none X2 σ2) (43, [(0, .ref o), (1, .int x1)], [], Y15, p14.2)
  obtain ⟨hk_o_Y15, h⟩ := gd_some h
  refine Ex.blk 1 rfl ?_
  show Ex mr_X9_init sc (Cl MT pr sc (d + 2)) (rtE none X2 σ2) (44, [(0, .ref o), (1, .int x1)], [.ref o], Y15, p14.2)
  obtain ⟨t17, Y18, τ19, he20, h⟩ := mkO_sp h
  refine ex_new rfl he20 ?_
  show Ex mr_X9_init sc (Cl MT pr sc (d + 2)) (rtE none X2 σ2) (47, [(0, .ref o), (1, .int x1)], [.ref t17, .ref o], Y18, τ19)
  obtain ⟨hk_o_Y18, h⟩ := gd_some h
  obtain ⟨hk_t17_Y18, h⟩ := gd_some h
  refine Ex.blk 1 rfl ?_
  show Ex mr_X9_init sc (Cl MT pr sc (d + 2)) (rtE none X2 σ2) (48, [(0, .ref o), (1, .int x1)], [.ref t17, .ref t17, .ref o], Y18, τ19)
  obtain ⟨p21, hp21, h⟩ := bind_sp h
  refine Ex.blk 1 rfl ?_
  refine Exists.intro none (Exists.intro p21.1 (Exists.intro p21.2 (And.intro (ce_X2_init (d + 1) hp21) ?_)))
  show Ex mr_X9_init sc (Cl MT pr sc (d + 2)) (rtE none X2 σ2) (51, [(0, .ref o), (1, .int x1)], [.ref t17, .ref o], p21.1, p21.2)
  obtain ⟨hk_o_p21_1, h⟩ := gd_some h
  obtain ⟨hk_t17_p21_1, h⟩ := gd_some h
  obtain ⟨Y22, he23, h⟩ := ptS_sp h
  refine ex_putS rfl hk_o_p21_1 rfl he23 ?_
  show Ex mr_X9_init sc (Cl MT pr sc (d + 2)) (rtE none X2 σ2) (54, [(0, .ref o), (1, .int x1)], [], Y22, p21.2)
  obtain ⟨hk_o_Y22, h⟩ := gd_some h
  refine Ex.blk 1 rfl ?_
  show Ex mr_X9_init sc (Cl MT pr sc (d + 2)) (rtE none X2 σ2) (55, [(0, .ref o), (1, .int x1)], [.ref o], Y22, p21.2)
  obtain ⟨t24, Y25, τ26, he27, h⟩ := mkO_sp h
  refine ex_new rfl he27 ?_
  show Ex mr_X9_init sc (Cl MT pr sc (d + 2)) (rtE none X2 σ2) (58, [(0, .ref o), (1, .int x1)], [.ref t24, .ref o], Y25, τ26)
  obtain ⟨hk_o_Y25, h⟩ := gd_some h
  obtain ⟨hk_t24_Y25, h⟩ := gd_some h
  refine Ex.blk 1 rfl ?_
  show Ex mr_X9_init sc (Cl MT pr sc (d + 2)) (rtE none X2 σ2) (59, [(0, .ref o), (1, .int x1)], [.ref t24, .ref t24, .ref o], Y25, τ26)
  obtain ⟨p28, hp28, h⟩ := bind_sp h
  refine Ex.blk 1 rfl ?_
  refine Exists.intro none (Exists.intro p28.1 (Exists.intro p28.2 (And.intro (ce_X5_init (d + 1) hp28) ?_)))
  show Ex mr_X9_init sc (Cl MT pr sc (d + 2)) (rtE none X2 σ2) (62, [(0, .ref o), (1, .int x1)], [.ref t24, .ref o], p28.1, p28.2)
  obtain ⟨hk_o_p28_1, h⟩ := gd_some h
  obtain ⟨hk_t24_p28_1, h⟩ := gd_some h
  obtain ⟨Y29, he30, h⟩ := ptS_sp h
  refine ex_putS rfl hk_o_p28_1 rfl he30 ?_
  show Ex mr_X9_init sc (Cl MT pr sc (d + 2)) (rtE none X2 σ2) (65, [(0, .ref o), (1, .int x1)], [], Y29, p28.2)
  obtain ⟨hk_o_Y29, h⟩ := gd_some h
  refine Ex.blk 2 rfl ?_
  show Ex mr_X9_init sc (Cl MT pr sc (d + 2)) (rtE none X2 σ2) (68, [(0, .ref o), (1, .int x1)], [.int 6, .ref o], Y29, p28.2)
  obtain ⟨t31, Y32, τ33, he34, h⟩ := mkA_sp h
  refine ex_nwr rfl (by decide) he34 ?_
  show Ex mr_X9_init sc (Cl MT pr sc (d + 2)) (rtE none X2 σ2) (71, [(0, .ref o), (1, .int x1)], [.ref t31, .ref o], Y32, τ33)
  obtain ⟨hk_o_Y32, h⟩ := gd_some h
  obtain ⟨hk_t31_Y32, h⟩ := gd_some h
  obtain ⟨Y35, he36, h⟩ := ptS_sp h
  refine ex_putS rfl hk_o_Y32 rfl he36 ?_
  show Ex mr_X9_init sc (Cl MT pr sc (d + 2)) (rtE none X2 σ2) (74, [(0, .ref o), (1, .int x1)], [], Y35, τ33)
  obtain ⟨hk_o_Y35, h⟩ := gd_some h
  refine Ex.blk 1 rfl ?_
  show Ex mr_X9_init sc (Cl MT pr sc (d + 2)) (rtE none X2 σ2) (75, [(0, .ref o), (1, .int x1)], [.ref o], Y35, τ33)
  obtain ⟨t37, Y38, τ39, he40, h⟩ := mkO_sp h
  refine ex_new rfl he40 ?_
  show Ex mr_X9_init sc (Cl MT pr sc (d + 2)) (rtE none X2 σ2) (78, [(0, .ref o), (1, .int x1)], [.ref t37, .ref o], Y38, τ39)
  obtain ⟨hk_o_Y38, h⟩ := gd_some h
  obtain ⟨hk_t37_Y38, h⟩ := gd_some h
  refine Ex.blk 1 rfl ?_
  show Ex mr_X9_init sc (Cl MT pr sc (d + 2)) (rtE none X2 σ2) (79, [(0, .ref o), (1, .int x1)], [.ref t37, .ref t37, .ref o], Y38, τ39)
  obtain ⟨p41, hp41, h⟩ := bind_sp h
  refine Ex.blk 1 rfl ?_
  refine Exists.intro none (Exists.intro p41.1 (Exists.intro p41.2 (And.intro (ce_X1_init (d + 1) hp41) ?_)))
  show Ex mr_X9_init sc (Cl MT pr sc (d + 2)) (rtE none X2 σ2) (82, [(0, .ref o), (1, .int x1)], [.ref t37, .ref o], p41.1, p41.2)
  obtain ⟨hk_o_p41_1, h⟩ := gd_some h
  obtain ⟨hk_t37_p41_1, h⟩ := gd_some h
  obtain ⟨Y42, he43, h⟩ := ptS_sp h
  refine ex_putS rfl hk_o_p41_1 rfl he43 ?_
  show Ex mr_X9_init sc (Cl MT pr sc (d + 2)) (rtE none X2 σ2) (85, [(0, .ref o), (1, .int x1)], [], Y42, p41.2)
  obtain ⟨hk_o_Y42, h⟩ := gd_some h
  refine Ex.blk 1 rfl ?_
  show Ex mr_X9_init sc (Cl MT pr sc (d + 2)) (rtE none X2 σ2) (86, [(0, .ref o), (1, .int x1)], [.ref o], Y42, p41.2)
  obtain ⟨t44, Y45, τ46, he47, h⟩ := mkO_sp h
  refine ex_new rfl he47 ?_
  show Ex mr_X9_init sc (Cl MT pr sc (d + 2)) (rtE none X2 σ2) (89, [(0, .ref o), (1, .int x1)], [.ref t44, .ref o], Y45, τ46)
  obtain ⟨hk_o_Y45, h⟩ := gd_some h
  obtain ⟨hk_t44_Y45, h⟩ := gd_some h
  refine Ex.blk 1 rfl ?_
  show Ex mr_X9_init sc (Cl MT pr sc (d + 2)) (rtE none X2 σ2) (90, [(0, .ref o), (1, .int x1)], [.ref t44, .ref t44, .ref o], Y45, τ46)
  obtain ⟨p48, hp48, h⟩ := bind_sp h
  refine Ex.blk 1 rfl ?_
  refine Exists.intro none (Exists.intro p48.1 (Exists.intro p48.2 (And.intro (ce_X3_init (d + 1) hp48) ?_)))
  show Ex mr_X9_init sc (Cl MT pr sc (d + 2)) (rtE none X2 σ2) (93, [(0, .ref o), (1, .int x1)], [.ref t44, .ref o], p48.1, p48.2)
  obtain ⟨hk_o_p48_1, h⟩ := gd_some h
  obtain ⟨hk_t44_p48_1, h⟩ := gd_some h
  obtain ⟨Y49, he50, h⟩ := ptS_sp h
  refine ex_putS rfl hk_o_p48_1 rfl he50 ?_
  show Ex mr_X9_init sc (Cl MT pr sc (d + 2)) (rtE none X2 σ2) (96, [(0, .ref o), (1, .int x1)], [], Y49, p48.2)
  obtain ⟨hk_o_Y49, h⟩ := gd_some h
  refine Ex.blk 1 rfl ?_
  show Ex mr_X9_init sc (Cl MT pr sc (d + 2)) (rtE none X2 σ2) (97, [(0, .ref o), (1, .int x1)], [.ref o], Y49, p48.2)
  obtain ⟨t51, Y52, τ53, he54, h⟩ := mkO_sp h
  refine ex_new rfl he54 ?_
  show Ex mr_X9_init sc (Cl MT pr sc (d + 2)) (rtE none X2 σ2) (100, [(0, .ref o), (1, .int x1)], [.ref t51, .ref o], Y52, τ53)
  obtain ⟨hk_o_Y52, h⟩ := gd_some h
  obtain ⟨hk_t51_Y52, h⟩ := gd_some h
  refine Ex.blk 1 rfl ?_
  show Ex mr_X9_init sc (Cl MT pr sc (d + 2)) (rtE none X2 σ2) (101, [(0, .ref o), (1, .int x1)], [.ref t51, .ref t51, .ref o], Y52, τ53)
  obtain ⟨p55, hp55, h⟩ := bind_sp h
  refine Ex.blk 1 rfl ?_
  refine Exists.intro none (Exists.intro p55.1 (Exists.intro p55.2 (And.intro (ce_X6_init (d + 1) hp55) ?_)))
  show Ex mr_X9_init sc (Cl MT pr sc (d + 2)) (rtE none X2 σ2) (104, [(0, .ref o), (1, .int x1)], [.ref t51, .ref o], p55.1, p55.2)
  obtain ⟨hk_o_p55_1, h⟩ := gd_some h
  obtain ⟨hk_t51_p55_1, h⟩ := gd_some h
  obtain ⟨Y56, he57, h⟩ := ptS_sp h
  refine ex_putS rfl hk_o_p55_1 rfl he57 ?_
  show Ex mr_X9_init sc (Cl MT pr sc (d + 2)) (rtE none X2 σ2) (107, [(0, .ref o), (1, .int x1)], [], Y56, p55.2)
  obtain ⟨hk_o_Y56, h⟩ := gd_some h
  refine Ex.blk 1 rfl ?_
  show Ex mr_X9_init sc (Cl MT pr sc (d + 2)) (rtE none X2 σ2) (108, [(0, .ref o), (1, .int x1)], [.ref o], Y56, p55.2)
  obtain ⟨t58, Y59, τ60, he61, h⟩ := mkO_sp h
  refine ex_new rfl he61 ?_
  show Ex mr_X9_init sc (Cl MT pr sc (d + 2)) (rtE none X2 σ2) (111, [(0, .ref o), (1, .int x1)], [.ref t58, .ref o], Y59, τ60)
  obtain ⟨hk_o_Y59, h⟩ := gd_some h
  obtain ⟨hk_t58_Y59, h⟩ := gd_some h
  refine Ex.blk 1 rfl ?_
  show Ex mr_X9_init sc (Cl MT pr sc (d + 2)) (rtE none X2 σ2) (112, [(0, .ref o), (1, .int x1)], [.ref t58, .ref t58, .ref o], Y59, τ60)
  obtain ⟨p62, hp62, h⟩ := bind_sp h
  refine Ex.blk 1 rfl ?_
  refine Exists.intro none (Exists.intro p62.1 (Exists.intro p62.2 (And.intro (ce_X0_init_z (d + 1) hp62) ?_)))
  show Ex mr_X9_init sc (Cl MT pr sc (d + 2)) (rtE none X2 σ2) (115, [(0, .ref o), (1, .int x1)], [.ref t58, .ref o], p62.1, p62.2)
  obtain ⟨hk_o_p62_1, h⟩ := gd_some h
  obtain ⟨hk_t58_p62_1, h⟩ := gd_some h
  obtain ⟨Y63, he64, h⟩ := ptS_sp h
  refine ex_putS rfl hk_o_p62_1 rfl he64 ?_
  show Ex mr_X9_init sc (Cl MT pr sc (d + 2)) (rtE none X2 σ2) (118, [(0, .ref o), (1, .int x1)], [], Y63, p62.2)
  obtain ⟨hk_o_Y63, h⟩ := gd_some h
  refine Ex.blk 2 rfl ?_
  show Ex mr_X9_init sc (Cl MT pr sc (d + 2)) (rtE none X2 σ2) (120, [(0, .ref o), (1, .int x1)], [.int 1, .ref o], Y63, p62.2)
  refine ex_putI rfl hk_o_Y63 rfl ?_
  show Ex mr_X9_init sc (Cl MT pr sc (d + 2)) (rtE none X2 σ2) (123, [(0, .ref o), (1, .int x1)], [], Y63, (sI p62.2 o 15 1))
  refine Ex.blk 2 rfl ?_
  show Ex mr_X9_init sc (Cl MT pr sc (d + 2)) (rtE none X2 σ2) (125, [(0, .ref o), (1, .int x1)], [.int 2, .ref o], Y63, (sI p62.2 o 15 1))
  refine ex_putI rfl hk_o_Y63 rfl ?_
  show Ex mr_X9_init sc (Cl MT pr sc (d + 2)) (rtE none X2 σ2) (128, [(0, .ref o), (1, .int x1)], [], Y63, (sI (sI p62.2 o 15 1) o 16 2))
  refine Ex.blk 2 rfl ?_
  show Ex mr_X9_init sc (Cl MT pr sc (d + 2)) (rtE none X2 σ2) (130, [(0, .ref o), (1, .int x1)], [.int 1, .ref o], Y63, (sI (sI p62.2 o 15 1) o 16 2))
  refine ex_putI rfl hk_o_Y63 rfl ?_
  show Ex mr_X9_init sc (Cl MT pr sc (d + 2)) (rtE none X2 σ2) (133, [(0, .ref o), (1, .int x1)], [], Y63, (sI (sI (sI p62.2 o 15 1) o 16 2) o 17 1))
  refine Ex.blk 1 rfl ?_
  cases h
  exact And.intro trivial ⟨rfl, rfl, rfl⟩
theorem ce_X10_init_z {pr : Ct} {sc : Nat × (Nat → Int32)} (d : Nat)  {X2 : En} {σ2 : St} {o : Nat} {x1 : Int32} {X : En} {σ : St} (h : e_X10_init_z o x1 X σ = some (X2, σ2)) : Cl MT pr sc (d + 0 + 1) 150 [.ref o, .int x1] X σ none X2 σ2 := by
  unfold e_X10_init_z at h
  obtain ⟨p, hp, h⟩ := bind_sp h
  obtain ⟨hz, h⟩ := gd_some h
  cases h
  refine cl_of2 mr_X10_init rfl rfl hz ?_
  have h := hp
  clear hp
  unfold e_X10_init_bz at h
  obtain ⟨hk_o_X, h⟩ := gd_some h
  refine Ex.blk 4 rfl ?_
  show Ex mr_X10_init sc (Cl MT pr sc (d + 0)) (rtE none X2 σ2) (8, [(0, .ref o), (1, .int x1)], [.int 160, .ref o], X, σ)
  obtain ⟨t1, Y2, τ3, he4, h⟩ := mkA_sp h
  refine ex_nwa rfl (by decide) he4 ?_
  show Ex mr_X10_init sc (Cl MT pr sc (d + 0)) (rtE none X2 σ2) (10, [(0, .ref o), (1, .int x1)], [.ref t1, .ref o], Y2, τ3)
  obtain ⟨hk_o_Y2, h⟩ := gd_some h
  obtain ⟨hk_t1_Y2, h⟩ := gd_some h
  obtain ⟨Y5, he6, h⟩ := ptS_sp h
  refine ex_putS rfl hk_o_Y2 rfl he6 ?_
  show Ex mr_X10_init sc (Cl MT pr sc (d + 0)) (rtE none X2 σ2) (13, [(0, .ref o), (1, .int x1)], [], Y5, τ3)
  obtain ⟨hk_o_Y5, h⟩ := gd_some h
  refine Ex.blk 2 rfl ?_
  show Ex mr_X10_init sc (Cl MT pr sc (d + 0)) (rtE none X2 σ2) (16, [(0, .ref o), (1, .int x1)], [.int 84, .ref o], Y5, τ3)
  obtain ⟨t7, Y8, τ9, he10, h⟩ := mkA_sp h
  refine ex_nwa rfl (by decide) he10 ?_
  show Ex mr_X10_init sc (Cl MT pr sc (d + 0)) (rtE none X2 σ2) (18, [(0, .ref o), (1, .int x1)], [.ref t7, .ref o], Y8, τ9)
  obtain ⟨hk_o_Y8, h⟩ := gd_some h
  obtain ⟨hk_t7_Y8, h⟩ := gd_some h
  obtain ⟨Y11, he12, h⟩ := ptS_sp h
  refine ex_putS rfl hk_o_Y8 rfl he12 ?_
  show Ex mr_X10_init sc (Cl MT pr sc (d + 0)) (rtE none X2 σ2) (21, [(0, .ref o), (1, .int x1)], [], Y11, τ9)
  obtain ⟨hk_o_Y11, h⟩ := gd_some h
  refine Ex.blk 2 rfl ?_
  show Ex mr_X10_init sc (Cl MT pr sc (d + 0)) (rtE none X2 σ2) (24, [(0, .ref o), (1, .int x1)], [.int 84, .ref o], Y11, τ9)
  obtain ⟨t13, Y14, τ15, he16, h⟩ := mkA_sp h
  refine ex_nwa rfl (by decide) he16 ?_
  show Ex mr_X10_init sc (Cl MT pr sc (d + 0)) (rtE none X2 σ2) (26, [(0, .ref o), (1, .int x1)], [.ref t13, .ref o], Y14, τ15)
  obtain ⟨hk_o_Y14, h⟩ := gd_some h
  obtain ⟨hk_t13_Y14, h⟩ := gd_some h
  obtain ⟨Y17, he18, h⟩ := ptS_sp h
  refine ex_putS rfl hk_o_Y14 rfl he18 ?_
  show Ex mr_X10_init sc (Cl MT pr sc (d + 0)) (rtE none X2 σ2) (29, [(0, .ref o), (1, .int x1)], [], Y17, τ15)
  obtain ⟨hk_o_Y17, h⟩ := gd_some h
  refine Ex.blk 2 rfl ?_
  show Ex mr_X10_init sc (Cl MT pr sc (d + 0)) (rtE none X2 σ2) (32, [(0, .ref o), (1, .int x1)], [.int 84, .ref o], Y17, τ15)
  obtain ⟨t19, Y20, τ21, he22, h⟩ := mkA_sp h
  refine ex_nwa rfl (by decide) he22 ?_
  show Ex mr_X10_init sc (Cl MT pr sc (d + 0)) (rtE none X2 σ2) (34, [(0, .ref o), (1, .int x1)], [.ref t19, .ref o], Y20, τ21)
  obtain ⟨hk_o_Y20, h⟩ := gd_some h
  obtain ⟨hk_t19_Y20, h⟩ := gd_some h
  obtain ⟨Y23, he24, h⟩ := ptS_sp h
  refine ex_putS rfl hk_o_Y20 rfl he24 ?_
  show Ex mr_X10_init sc (Cl MT pr sc (d + 0)) (rtE none X2 σ2) (37, [(0, .ref o), (1, .int x1)], [], Y23, τ21)
  obtain ⟨hk_o_Y23, h⟩ := gd_some h
  refine Ex.blk 2 rfl ?_
  show Ex mr_X10_init sc (Cl MT pr sc (d + 0)) (rtE none X2 σ2) (40, [(0, .ref o), (1, .int x1)], [.int 7, .ref o], Y23, τ21)
  obtain ⟨t25, Y26, τ27, he28, h⟩ := mkA_sp h
  refine ex_nwa rfl (by decide) he28 ?_
  show Ex mr_X10_init sc (Cl MT pr sc (d + 0)) (rtE none X2 σ2) (42, [(0, .ref o), (1, .int x1)], [.ref t25, .ref o], Y26, τ27)
  obtain ⟨hk_o_Y26, h⟩ := gd_some h
  obtain ⟨hk_t25_Y26, h⟩ := gd_some h
  obtain ⟨Y29, he30, h⟩ := ptS_sp h
  refine ex_putS rfl hk_o_Y26 rfl he30 ?_
  show Ex mr_X10_init sc (Cl MT pr sc (d + 0)) (rtE none X2 σ2) (45, [(0, .ref o), (1, .int x1)], [], Y29, τ27)
  obtain ⟨hk_o_Y29, h⟩ := gd_some h
  refine Ex.blk 2 rfl ?_
  show Ex mr_X10_init sc (Cl MT pr sc (d + 0)) (rtE none X2 σ2) (47, [(0, .ref o), (1, .int x1)], [.int 1, .ref o], Y29, τ27)
  refine ex_putI rfl hk_o_Y29 rfl ?_
  show Ex mr_X10_init sc (Cl MT pr sc (d + 0)) (rtE none X2 σ2) (50, [(0, .ref o), (1, .int x1)], [], Y29, (sI τ27 o 12 1))
  refine Ex.blk 2 rfl ?_
  show Ex mr_X10_init sc (Cl MT pr sc (d + 0)) (rtE none X2 σ2) (52, [(0, .ref o), (1, .int x1)], [.int 2, .ref o], Y29, (sI τ27 o 12 1))
  refine ex_putI rfl hk_o_Y29 rfl ?_
  show Ex mr_X10_init sc (Cl MT pr sc (d + 0)) (rtE none X2 σ2) (55, [(0, .ref o), (1, .int x1)], [], Y29, (sI (sI τ27 o 12 1) o 13 2))
  refine Ex.blk 2 rfl ?_
  show Ex mr_X10_init sc (Cl MT pr sc (d + 0)) (rtE none X2 σ2) (57, [(0, .ref o), (1, .int x1)], [.int 1, .ref o], Y29, (sI (sI τ27 o 12 1) o 13 2))
  refine ex_putI rfl hk_o_Y29 rfl ?_
  show Ex mr_X10_init sc (Cl MT pr sc (d + 0)) (rtE none X2 σ2) (60, [(0, .ref o), (1, .int x1)], [], Y29, (sI (sI (sI τ27 o 12 1) o 13 2) o 14 1))
  refine Ex.blk 2 rfl ?_
  show Ex mr_X10_init sc (Cl MT pr sc (d + 0)) (rtE none X2 σ2) (63, [(0, .ref o), (1, .int x1)], [.int 12, .ref o], Y29, (sI (sI (sI τ27 o 12 1) o 13 2) o 14 1))
  obtain ⟨t31, Y32, τ33, he34, h⟩ := mkA_sp h
  refine ex_nwa rfl (by decide) he34 ?_
  show Ex mr_X10_init sc (Cl MT pr sc (d + 0)) (rtE none X2 σ2) (65, [(0, .ref o), (1, .int x1)], [.ref t31, .ref o], Y32, τ33)
  obtain ⟨hk_o_Y32, h⟩ := gd_some h
  obtain ⟨hk_t31_Y32, h⟩ := gd_some h
  obtain ⟨Y35, he36, h⟩ := ptS_sp h
  refine ex_putS rfl hk_o_Y32 rfl he36 ?_
  show Ex mr_X10_init sc (Cl MT pr sc (d + 0)) (rtE none X2 σ2) (68, [(0, .ref o), (1, .int x1)], [], Y35, τ33)
  obtain ⟨hk_o_Y35, h⟩ := gd_some h
  refine Ex.blk 2 rfl ?_
  show Ex mr_X10_init sc (Cl MT pr sc (d + 0)) (rtE none X2 σ2) (71, [(0, .ref o), (1, .int x1)], [.int 100, .ref o], Y35, τ33)
  obtain ⟨t37, Y38, τ39, he40, h⟩ := mkA_sp h
  refine ex_nwa rfl (by decide) he40 ?_
  show Ex mr_X10_init sc (Cl MT pr sc (d + 0)) (rtE none X2 σ2) (73, [(0, .ref o), (1, .int x1)], [.ref t37, .ref o], Y38, τ39)
  obtain ⟨hk_o_Y38, h⟩ := gd_some h
  obtain ⟨hk_t37_Y38, h⟩ := gd_some h
  obtain ⟨Y41, he42, h⟩ := ptS_sp h
  refine ex_putS rfl hk_o_Y38 rfl he42 ?_
  show Ex mr_X10_init sc (Cl MT pr sc (d + 0)) (rtE none X2 σ2) (76, [(0, .ref o), (1, .int x1)], [], Y41, τ39)
  obtain ⟨hk_o_Y41, h⟩ := gd_some h
  refine Ex.blk 2 rfl ?_
  show Ex mr_X10_init sc (Cl MT pr sc (d + 0)) (rtE none X2 σ2) (79, [(0, .ref o), (1, .int x1)], [.int 19, .ref o], Y41, τ39)
  obtain ⟨t43, Y44, τ45, he46, h⟩ := mkA_sp h
  refine ex_nwa rfl (by decide) he46 ?_
  show Ex mr_X10_init sc (Cl MT pr sc (d + 0)) (rtE none X2 σ2) (81, [(0, .ref o), (1, .int x1)], [.ref t43, .ref o], Y44, τ45)
  obtain ⟨hk_o_Y44, h⟩ := gd_some h
  obtain ⟨hk_t43_Y44, h⟩ := gd_some h
  obtain ⟨Y47, he48, h⟩ := ptS_sp h
  refine ex_putS rfl hk_o_Y44 rfl he48 ?_
  show Ex mr_X10_init sc (Cl MT pr sc (d + 0)) (rtE none X2 σ2) (84, [(0, .ref o), (1, .int x1)], [], Y47, τ45)
  obtain ⟨hk_o_Y47, h⟩ := gd_some h
  refine Ex.blk 2 rfl ?_
  show Ex mr_X10_init sc (Cl MT pr sc (d + 0)) (rtE none X2 σ2) (87, [(0, .ref o), (1, .int x1)], [.int 12, .ref o], Y47, τ45)
  obtain ⟨t49, Y50, τ51, he52, h⟩ := mkA_sp h
  refine ex_nwa rfl (by decide) he52 ?_
  show Ex mr_X10_init sc (Cl MT pr sc (d + 0)) (rtE none X2 σ2) (89, [(0, .ref o), (1, .int x1)], [.ref t49, .ref o], Y50, τ51)
  obtain ⟨hk_o_Y50, h⟩ := gd_some h
  obtain ⟨hk_t49_Y50, h⟩ := gd_some h
  obtain ⟨Y53, he54, h⟩ := ptS_sp h
  refine ex_putS rfl hk_o_Y50 rfl he54 ?_
  show Ex mr_X10_init sc (Cl MT pr sc (d + 0)) (rtE none X2 σ2) (92, [(0, .ref o), (1, .int x1)], [], Y53, τ51)
  obtain ⟨hk_o_Y53, h⟩ := gd_some h
  refine Ex.blk 2 rfl ?_
  show Ex mr_X10_init sc (Cl MT pr sc (d + 0)) (rtE none X2 σ2) (95, [(0, .ref o), (1, .int x1)], [.int 12, .ref o], Y53, τ51)
  obtain ⟨t55, Y56, τ57, he58, h⟩ := mkA_sp h
  refine ex_nwa rfl (by decide) he58 ?_
  show Ex mr_X10_init sc (Cl MT pr sc (d + 0)) (rtE none X2 σ2) (97, [(0, .ref o), (1, .int x1)], [.ref t55, .ref o], Y56, τ57)
  obtain ⟨hk_o_Y56, h⟩ := gd_some h
  obtain ⟨hk_t55_Y56, h⟩ := gd_some h
  obtain ⟨Y59, he60, h⟩ := ptS_sp h
  refine ex_putS rfl hk_o_Y56 rfl he60 ?_
  show Ex mr_X10_init sc (Cl MT pr sc (d + 0)) (rtE none X2 σ2) (100, [(0, .ref o), (1, .int x1)], [], Y59, τ57)
  obtain ⟨hk_o_Y59, h⟩ := gd_some h
  refine Ex.blk 2 rfl ?_
  show Ex mr_X10_init sc (Cl MT pr sc (d + 0)) (rtE none X2 σ2) (104, [(0, .ref o), (1, .int x1)], [.int 760, .ref o], Y59, τ57)
  obtain ⟨t61, Y62, τ63, he64, h⟩ := mkA_sp h
  refine ex_nwa rfl (by decide) he64 ?_
  show Ex mr_X10_init sc (Cl MT pr sc (d + 0)) (rtE none X2 σ2) (106, [(0, .ref o), (1, .int x1)], [.ref t61, .ref o], Y62, τ63)
  obtain ⟨hk_o_Y62, h⟩ := gd_some h
  obtain ⟨hk_t61_Y62, h⟩ := gd_some h
  obtain ⟨Y65, he66, h⟩ := ptS_sp h
  refine ex_putS rfl hk_o_Y62 rfl he66 ?_
  show Ex mr_X10_init sc (Cl MT pr sc (d + 0)) (rtE none X2 σ2) (109, [(0, .ref o), (1, .int x1)], [], Y65, τ63)
  obtain ⟨hk_o_Y65, h⟩ := gd_some h
  refine Ex.blk 2 rfl ?_
  show Ex mr_X10_init sc (Cl MT pr sc (d + 0)) (rtE none X2 σ2) (112, [(0, .ref o), (1, .int x1)], [.int 40, .ref o], Y65, τ63)
  obtain ⟨t67, Y68, τ69, he70, h⟩ := mkA_sp h
  refine ex_nwa rfl (by decide) he70 ?_
  show Ex mr_X10_init sc (Cl MT pr sc (d + 0)) (rtE none X2 σ2) (114, [(0, .ref o), (1, .int x1)], [.ref t67, .ref o], Y68, τ69)
  obtain ⟨hk_o_Y68, h⟩ := gd_some h
  obtain ⟨hk_t67_Y68, h⟩ := gd_some h
  obtain ⟨Y71, he72, h⟩ := ptS_sp h
  refine ex_putS rfl hk_o_Y68 rfl he72 ?_
  show Ex mr_X10_init sc (Cl MT pr sc (d + 0)) (rtE none X2 σ2) (117, [(0, .ref o), (1, .int x1)], [], Y71, τ69)
  obtain ⟨hk_o_Y71, h⟩ := gd_some h
  refine Ex.blk 2 rfl ?_
  show Ex mr_X10_init sc (Cl MT pr sc (d + 0)) (rtE none X2 σ2) (120, [(0, .ref o), (1, .int x1)], [.int 12, .ref o], Y71, τ69)
  obtain ⟨t73, Y74, τ75, he76, h⟩ := mkA_sp h
  refine ex_nwa rfl (by decide) he76 ?_
  show Ex mr_X10_init sc (Cl MT pr sc (d + 0)) (rtE none X2 σ2) (122, [(0, .ref o), (1, .int x1)], [.ref t73, .ref o], Y74, τ75)
  obtain ⟨hk_o_Y74, h⟩ := gd_some h
  obtain ⟨hk_t73_Y74, h⟩ := gd_some h
  obtain ⟨Y77, he78, h⟩ := ptS_sp h
  refine ex_putS rfl hk_o_Y74 rfl he78 ?_
  show Ex mr_X10_init sc (Cl MT pr sc (d + 0)) (rtE none X2 σ2) (125, [(0, .ref o), (1, .int x1)], [], Y77, τ75)
  obtain ⟨hk_o_Y77, h⟩ := gd_some h
  refine Ex.blk 2 rfl ?_
  show Ex mr_X10_init sc (Cl MT pr sc (d + 0)) (rtE none X2 σ2) (128, [(0, .ref o), (1, .int x1)], [.int 99, .ref o], Y77, τ75)
  obtain ⟨t79, Y80, τ81, he82, h⟩ := mkA_sp h
  refine ex_nwa rfl (by decide) he82 ?_
  show Ex mr_X10_init sc (Cl MT pr sc (d + 0)) (rtE none X2 σ2) (130, [(0, .ref o), (1, .int x1)], [.ref t79, .ref o], Y80, τ81)
  obtain ⟨hk_o_Y80, h⟩ := gd_some h
  obtain ⟨hk_t79_Y80, h⟩ := gd_some h
  obtain ⟨Y83, he84, h⟩ := ptS_sp h
  refine ex_putS rfl hk_o_Y80 rfl he84 ?_
  show Ex mr_X10_init sc (Cl MT pr sc (d + 0)) (rtE none X2 σ2) (133, [(0, .ref o), (1, .int x1)], [], Y83, τ81)
  obtain ⟨hk_o_Y83, h⟩ := gd_some h
  refine Ex.blk 2 rfl ?_
  show Ex mr_X10_init sc (Cl MT pr sc (d + 0)) (rtE none X2 σ2) (136, [(0, .ref o), (1, .int x1)], [.int 99, .ref o], Y83, τ81)
  obtain ⟨t85, Y86, τ87, he88, h⟩ := mkA_sp h
  refine ex_nwa rfl (by decide) he88 ?_
  show Ex mr_X10_init sc (Cl MT pr sc (d + 0)) (rtE none X2 σ2) (138, [(0, .ref o), (1, .int x1)], [.ref t85, .ref o], Y86, τ87)
  obtain ⟨hk_o_Y86, h⟩ := gd_some h
  obtain ⟨hk_t85_Y86, h⟩ := gd_some h
  obtain ⟨Y89, he90, h⟩ := ptS_sp h
  refine ex_putS rfl hk_o_Y86 rfl he90 ?_
  show Ex mr_X10_init sc (Cl MT pr sc (d + 0)) (rtE none X2 σ2) (141, [(0, .ref o), (1, .int x1)], [], Y89, τ87)
  obtain ⟨hk_o_Y89, h⟩ := gd_some h
  refine Ex.blk 2 rfl ?_
  show Ex mr_X10_init sc (Cl MT pr sc (d + 0)) (rtE none X2 σ2) (144, [(0, .ref o), (1, .int x1)], [.int 8, .ref o], Y89, τ87)
  obtain ⟨t91, Y92, τ93, he94, h⟩ := mkA_sp h
  refine ex_nwa rfl (by decide) he94 ?_
  show Ex mr_X10_init sc (Cl MT pr sc (d + 0)) (rtE none X2 σ2) (146, [(0, .ref o), (1, .int x1)], [.ref t91, .ref o], Y92, τ93)
  obtain ⟨hk_o_Y92, h⟩ := gd_some h
  obtain ⟨hk_t91_Y92, h⟩ := gd_some h
  obtain ⟨Y95, he96, h⟩ := ptS_sp h
  refine ex_putS rfl hk_o_Y92 rfl he96 ?_
  show Ex mr_X10_init sc (Cl MT pr sc (d + 0)) (rtE none X2 σ2) (149, [(0, .ref o), (1, .int x1)], [], Y95, τ93)
  obtain ⟨hk_o_Y95, h⟩ := gd_some h
  refine Ex.blk 2 rfl ?_
  show Ex mr_X10_init sc (Cl MT pr sc (d + 0)) (rtE none X2 σ2) (153, [(0, .ref o), (1, .int x1)], [.int 256, .ref o], Y95, τ93)
  obtain ⟨t97, Y98, τ99, he100, h⟩ := mkA_sp h
  refine ex_nwa rfl (by decide) he100 ?_
  show Ex mr_X10_init sc (Cl MT pr sc (d + 0)) (rtE none X2 σ2) (155, [(0, .ref o), (1, .int x1)], [.ref t97, .ref o], Y98, τ99)
  obtain ⟨hk_o_Y98, h⟩ := gd_some h
  obtain ⟨hk_t97_Y98, h⟩ := gd_some h
  obtain ⟨Y101, he102, h⟩ := ptS_sp h
  refine ex_putS rfl hk_o_Y98 rfl he102 ?_
  show Ex mr_X10_init sc (Cl MT pr sc (d + 0)) (rtE none X2 σ2) (158, [(0, .ref o), (1, .int x1)], [], Y101, τ99)
  obtain ⟨hk_o_Y101, h⟩ := gd_some h
  refine Ex.blk 2 rfl ?_
  show Ex mr_X10_init sc (Cl MT pr sc (d + 0)) (rtE none X2 σ2) (161, [(0, .ref o), (1, .int x1)], [.int 10, .ref o], Y101, τ99)
  obtain ⟨t103, Y104, τ105, he106, h⟩ := mkA_sp h
  refine ex_nwa rfl (by decide) he106 ?_
  show Ex mr_X10_init sc (Cl MT pr sc (d + 0)) (rtE none X2 σ2) (163, [(0, .ref o), (1, .int x1)], [.ref t103, .ref o], Y104, τ105)
  obtain ⟨hk_o_Y104, h⟩ := gd_some h
  obtain ⟨hk_t103_Y104, h⟩ := gd_some h
  obtain ⟨Y107, he108, h⟩ := ptS_sp h
  refine ex_putS rfl hk_o_Y104 rfl he108 ?_
  show Ex mr_X10_init sc (Cl MT pr sc (d + 0)) (rtE none X2 σ2) (166, [(0, .ref o), (1, .int x1)], [], Y107, τ105)
  obtain ⟨hk_o_Y107, h⟩ := gd_some h
  refine Ex.blk 2 rfl ?_
  show Ex mr_X10_init sc (Cl MT pr sc (d + 0)) (rtE none X2 σ2) (169, [(0, .ref o), (1, .int x1)], [.int 19, .ref o], Y107, τ105)
  obtain ⟨t109, Y110, τ111, he112, h⟩ := mkA_sp h
  refine ex_nwa rfl (by decide) he112 ?_
  show Ex mr_X10_init sc (Cl MT pr sc (d + 0)) (rtE none X2 σ2) (171, [(0, .ref o), (1, .int x1)], [.ref t109, .ref o], Y110, τ111)
  obtain ⟨hk_o_Y110, h⟩ := gd_some h
  obtain ⟨hk_t109_Y110, h⟩ := gd_some h
  obtain ⟨Y113, he114, h⟩ := ptS_sp h
  refine ex_putS rfl hk_o_Y110 rfl he114 ?_
  show Ex mr_X10_init sc (Cl MT pr sc (d + 0)) (rtE none X2 σ2) (174, [(0, .ref o), (1, .int x1)], [], Y113, τ111)
  obtain ⟨hk_o_Y113, h⟩ := gd_some h
  refine Ex.blk 2 rfl ?_
  show Ex mr_X10_init sc (Cl MT pr sc (d + 0)) (rtE none X2 σ2) (177, [(0, .ref o), (1, .int x1)], [.int 12, .ref o], Y113, τ111)
  obtain ⟨t115, Y116, τ117, he118, h⟩ := mkA_sp h
  refine ex_nwa rfl (by decide) he118 ?_
  show Ex mr_X10_init sc (Cl MT pr sc (d + 0)) (rtE none X2 σ2) (179, [(0, .ref o), (1, .int x1)], [.ref t115, .ref o], Y116, τ117)
  obtain ⟨hk_o_Y116, h⟩ := gd_some h
  obtain ⟨hk_t115_Y116, h⟩ := gd_some h
  obtain ⟨Y119, he120, h⟩ := ptS_sp h
  refine ex_putS rfl hk_o_Y116 rfl he120 ?_
  show Ex mr_X10_init sc (Cl MT pr sc (d + 0)) (rtE none X2 σ2) (182, [(0, .ref o), (1, .int x1)], [], Y119, τ117)
  obtain ⟨hk_o_Y119, h⟩ := gd_some h
  refine Ex.blk 2 rfl ?_
  show Ex mr_X10_init sc (Cl MT pr sc (d + 0)) (rtE none X2 σ2) (185, [(0, .ref o), (1, .int x1)], [.int 12, .ref o], Y119, τ117)
  obtain ⟨t121, Y122, τ123, he124, h⟩ := mkA_sp h
  refine ex_nwa rfl (by decide) he124 ?_
  show Ex mr_X10_init sc (Cl MT pr sc (d + 0)) (rtE none X2 σ2) (187, [(0, .ref o), (1, .int x1)], [.ref t121, .ref o], Y122, τ123)
  obtain ⟨hk_o_Y122, h⟩ := gd_some h
  obtain ⟨hk_t121_Y122, h⟩ := gd_some h
  obtain ⟨Y125, he126, h⟩ := ptS_sp h
  refine ex_putS rfl hk_o_Y122 rfl he126 ?_
  show Ex mr_X10_init sc (Cl MT pr sc (d + 0)) (rtE none X2 σ2) (190, [(0, .ref o), (1, .int x1)], [], Y125, τ123)
  obtain ⟨hk_o_Y125, h⟩ := gd_some h
  refine Ex.blk 2 rfl ?_
  show Ex mr_X10_init sc (Cl MT pr sc (d + 0)) (rtE none X2 σ2) (193, [(0, .ref o), (1, .int x1)], [.int 12, .ref o], Y125, τ123)
  obtain ⟨t127, Y128, τ129, he130, h⟩ := mkA_sp h
  refine ex_nwa rfl (by decide) he130 ?_
  show Ex mr_X10_init sc (Cl MT pr sc (d + 0)) (rtE none X2 σ2) (195, [(0, .ref o), (1, .int x1)], [.ref t127, .ref o], Y128, τ129)
  obtain ⟨hk_o_Y128, h⟩ := gd_some h
  obtain ⟨hk_t127_Y128, h⟩ := gd_some h
  obtain ⟨Y131, he132, h⟩ := ptS_sp h
  refine ex_putS rfl hk_o_Y128 rfl he132 ?_
  show Ex mr_X10_init sc (Cl MT pr sc (d + 0)) (rtE none X2 σ2) (198, [(0, .ref o), (1, .int x1)], [], Y131, τ129)
  obtain ⟨hk_o_Y131, h⟩ := gd_some h
  refine Ex.blk 2 rfl ?_
  show Ex mr_X10_init sc (Cl MT pr sc (d + 0)) (rtE none X2 σ2) (201, [(0, .ref o), (1, .int x1)], [.int 12, .ref o], Y131, τ129)
  obtain ⟨t133, Y134, τ135, he136, h⟩ := mkA_sp h
  refine ex_nwa rfl (by decide) he136 ?_
  show Ex mr_X10_init sc (Cl MT pr sc (d + 0)) (rtE none X2 σ2) (203, [(0, .ref o), (1, .int x1)], [.ref t133, .ref o], Y134, τ135)
  obtain ⟨hk_o_Y134, h⟩ := gd_some h
  obtain ⟨hk_t133_Y134, h⟩ := gd_some h
  obtain ⟨Y137, he138, h⟩ := ptS_sp h
  refine ex_putS rfl hk_o_Y134 rfl he138 ?_
  show Ex mr_X10_init sc (Cl MT pr sc (d + 0)) (rtE none X2 σ2) (206, [(0, .ref o), (1, .int x1)], [], Y137, τ135)
  obtain ⟨hk_o_Y137, h⟩ := gd_some h
  refine Ex.blk 2 rfl ?_
  show Ex mr_X10_init sc (Cl MT pr sc (d + 0)) (rtE none X2 σ2) (209, [(0, .ref o), (1, .int x1)], [.int 12, .ref o], Y137, τ135)
  obtain ⟨t139, Y140, τ141, he142, h⟩ := mkA_sp h
  refine ex_nwa rfl (by decide) he142 ?_
  show Ex mr_X10_init sc (Cl MT pr sc (d + 0)) (rtE none X2 σ2) (211, [(0, .ref o), (1, .int x1)], [.ref t139, .ref o], Y140, τ141)
  obtain ⟨hk_o_Y140, h⟩ := gd_some h
  obtain ⟨hk_t139_Y140, h⟩ := gd_some h
  obtain ⟨Y143, he144, h⟩ := ptS_sp h
  refine ex_putS rfl hk_o_Y140 rfl he144 ?_
  show Ex mr_X10_init sc (Cl MT pr sc (d + 0)) (rtE none X2 σ2) (214, [(0, .ref o), (1, .int x1)], [], Y143, τ141)
  obtain ⟨hk_o_Y143, h⟩ := gd_some h
  refine Ex.blk 2 rfl ?_
  show Ex mr_X10_init sc (Cl MT pr sc (d + 0)) (rtE none X2 σ2) (217, [(0, .ref o), (1, .int x1)], [.int 12, .ref o], Y143, τ141)
  obtain ⟨t145, Y146, τ147, he148, h⟩ := mkA_sp h
  refine ex_nwa rfl (by decide) he148 ?_
  show Ex mr_X10_init sc (Cl MT pr sc (d + 0)) (rtE none X2 σ2) (219, [(0, .ref o), (1, .int x1)], [.ref t145, .ref o], Y146, τ147)
  obtain ⟨hk_o_Y146, h⟩ := gd_some h
  obtain ⟨hk_t145_Y146, h⟩ := gd_some h
  obtain ⟨Y149, he150, h⟩ := ptS_sp h
  refine ex_putS rfl hk_o_Y146 rfl he150 ?_
  show Ex mr_X10_init sc (Cl MT pr sc (d + 0)) (rtE none X2 σ2) (222, [(0, .ref o), (1, .int x1)], [], Y149, τ147)
  obtain ⟨hk_o_Y149, h⟩ := gd_some h
  refine Ex.blk 2 rfl ?_
  show Ex mr_X10_init sc (Cl MT pr sc (d + 0)) (rtE none X2 σ2) (225, [(0, .ref o), (1, .int x1)], [.int 12, .ref o], Y149, τ147)
  obtain ⟨t151, Y152, τ153, he154, h⟩ := mkA_sp h
  refine ex_nwa rfl (by decide) he154 ?_
  show Ex mr_X10_init sc (Cl MT pr sc (d + 0)) (rtE none X2 σ2) (227, [(0, .ref o), (1, .int x1)], [.ref t151, .ref o], Y152, τ153)
  obtain ⟨hk_o_Y152, h⟩ := gd_some h
  obtain ⟨hk_t151_Y152, h⟩ := gd_some h
  obtain ⟨Y155, he156, h⟩ := ptS_sp h
  refine ex_putS rfl hk_o_Y152 rfl he156 ?_
  show Ex mr_X10_init sc (Cl MT pr sc (d + 0)) (rtE none X2 σ2) (230, [(0, .ref o), (1, .int x1)], [], Y155, τ153)
  obtain ⟨hk_o_Y155, h⟩ := gd_some h
  refine Ex.blk 2 rfl ?_
  show Ex mr_X10_init sc (Cl MT pr sc (d + 0)) (rtE none X2 σ2) (233, [(0, .ref o), (1, .int x1)], [.int 9, .ref o], Y155, τ153)
  obtain ⟨t157, Y158, τ159, he160, h⟩ := mkA_sp h
  refine ex_nwa rfl (by decide) he160 ?_
  show Ex mr_X10_init sc (Cl MT pr sc (d + 0)) (rtE none X2 σ2) (235, [(0, .ref o), (1, .int x1)], [.ref t157, .ref o], Y158, τ159)
  obtain ⟨hk_o_Y158, h⟩ := gd_some h
  obtain ⟨hk_t157_Y158, h⟩ := gd_some h
  obtain ⟨Y161, he162, h⟩ := ptS_sp h
  refine ex_putS rfl hk_o_Y158 rfl he162 ?_
  show Ex mr_X10_init sc (Cl MT pr sc (d + 0)) (rtE none X2 σ2) (238, [(0, .ref o), (1, .int x1)], [], Y161, τ159)
  obtain ⟨hk_o_Y161, h⟩ := gd_some h
  refine Ex.blk 2 rfl ?_
  show Ex mr_X10_init sc (Cl MT pr sc (d + 0)) (rtE none X2 σ2) (241, [(0, .ref o), (1, .int x1)], [.int 9, .ref o], Y161, τ159)
  obtain ⟨t163, Y164, τ165, he166, h⟩ := mkA_sp h
  refine ex_nwa rfl (by decide) he166 ?_
  show Ex mr_X10_init sc (Cl MT pr sc (d + 0)) (rtE none X2 σ2) (243, [(0, .ref o), (1, .int x1)], [.ref t163, .ref o], Y164, τ165)
  obtain ⟨hk_o_Y164, h⟩ := gd_some h
  obtain ⟨hk_t163_Y164, h⟩ := gd_some h
  obtain ⟨Y167, he168, h⟩ := ptS_sp h
  refine ex_putS rfl hk_o_Y164 rfl he168 ?_
  show Ex mr_X10_init sc (Cl MT pr sc (d + 0)) (rtE none X2 σ2) (246, [(0, .ref o), (1, .int x1)], [], Y167, τ165)
  obtain ⟨hk_o_Y167, h⟩ := gd_some h
  refine Ex.blk 2 rfl ?_
  show Ex mr_X10_init sc (Cl MT pr sc (d + 0)) (rtE none X2 σ2) (250, [(0, .ref o), (1, .int x1)], [.int 1000, .ref o], Y167, τ165)
  obtain ⟨t169, Y170, τ171, he172, h⟩ := mkA_sp h
  refine ex_nwa rfl (by decide) he172 ?_
  show Ex mr_X10_init sc (Cl MT pr sc (d + 0)) (rtE none X2 σ2) (252, [(0, .ref o), (1, .int x1)], [.ref t169, .ref o], Y170, τ171)
  obtain ⟨hk_o_Y170, h⟩ := gd_some h
  obtain ⟨hk_t169_Y170, h⟩ := gd_some h
  obtain ⟨Y173, he174, h⟩ := ptS_sp h
  refine ex_putS rfl hk_o_Y170 rfl he174 ?_
  show Ex mr_X10_init sc (Cl MT pr sc (d + 0)) (rtE none X2 σ2) (255, [(0, .ref o), (1, .int x1)], [], Y173, τ171)
  obtain ⟨hk_o_Y173, h⟩ := gd_some h
  refine Ex.blk 2 rfl ?_
  show Ex mr_X10_init sc (Cl MT pr sc (d + 0)) (rtE none X2 σ2) (259, [(0, .ref o), (1, .int x1)], [.int 1000, .ref o], Y173, τ171)
  obtain ⟨t175, Y176, τ177, he178, h⟩ := mkA_sp h
  refine ex_nwa rfl (by decide) he178 ?_
  show Ex mr_X10_init sc (Cl MT pr sc (d + 0)) (rtE none X2 σ2) (261, [(0, .ref o), (1, .int x1)], [.ref t175, .ref o], Y176, τ177)
  obtain ⟨hk_o_Y176, h⟩ := gd_some h
  obtain ⟨hk_t175_Y176, h⟩ := gd_some h
  obtain ⟨Y179, he180, h⟩ := ptS_sp h
  refine ex_putS rfl hk_o_Y176 rfl he180 ?_
  show Ex mr_X10_init sc (Cl MT pr sc (d + 0)) (rtE none X2 σ2) (264, [(0, .ref o), (1, .int x1)], [], Y179, τ177)
  obtain ⟨hk_o_Y179, h⟩ := gd_some h
  refine Ex.blk 2 rfl ?_
  show Ex mr_X10_init sc (Cl MT pr sc (d + 0)) (rtE none X2 σ2) (267, [(0, .ref o), (1, .int x1)], [.int 19, .ref o], Y179, τ177)
  obtain ⟨t181, Y182, τ183, he184, h⟩ := mkA_sp h
  refine ex_nwa rfl (by decide) he184 ?_
  show Ex mr_X10_init sc (Cl MT pr sc (d + 0)) (rtE none X2 σ2) (269, [(0, .ref o), (1, .int x1)], [.ref t181, .ref o], Y182, τ183)
  obtain ⟨hk_o_Y182, h⟩ := gd_some h
  obtain ⟨hk_t181_Y182, h⟩ := gd_some h
  obtain ⟨Y185, he186, h⟩ := ptS_sp h
  refine ex_putS rfl hk_o_Y182 rfl he186 ?_
  show Ex mr_X10_init sc (Cl MT pr sc (d + 0)) (rtE none X2 σ2) (272, [(0, .ref o), (1, .int x1)], [], Y185, τ183)
  obtain ⟨hk_o_Y185, h⟩ := gd_some h
  refine Ex.blk 2 rfl ?_
  show Ex mr_X10_init sc (Cl MT pr sc (d + 0)) (rtE none X2 σ2) (275, [(0, .ref o), (1, .int x1)], [.int 12, .ref o], Y185, τ183)
  obtain ⟨t187, Y188, τ189, he190, h⟩ := mkA_sp h
  refine ex_nwa rfl (by decide) he190 ?_
  show Ex mr_X10_init sc (Cl MT pr sc (d + 0)) (rtE none X2 σ2) (277, [(0, .ref o), (1, .int x1)], [.ref t187, .ref o], Y188, τ189)
  obtain ⟨hk_o_Y188, h⟩ := gd_some h
  obtain ⟨hk_t187_Y188, h⟩ := gd_some h
  obtain ⟨Y191, he192, h⟩ := ptS_sp h
  refine ex_putS rfl hk_o_Y188 rfl he192 ?_
  show Ex mr_X10_init sc (Cl MT pr sc (d + 0)) (rtE none X2 σ2) (280, [(0, .ref o), (1, .int x1)], [], Y191, τ189)
  obtain ⟨hk_o_Y191, h⟩ := gd_some h
  refine Ex.blk 5 rfl ?_
  show Ex mr_X10_init sc (Cl MT pr sc (d + 0)) (rtE none X2 σ2) (288, [(0, .ref o), (1, .int x1)], [.int (mnI 12 x1), .int 2, .ref o], Y191, τ189)
  refine Ex.blk 1 rfl ?_
  show Ex mr_X10_init sc (Cl MT pr sc (d + 0)) (rtE none X2 σ2) (291, [(0, .ref o), (1, .int x1)], [.int (mxI 2 (mnI 12 x1)), .ref o], Y191, τ189)
  refine ex_putI rfl hk_o_Y191 rfl ?_
  show Ex mr_X10_init sc (Cl MT pr sc (d + 0)) (rtE none X2 σ2) (294, [(0, .ref o), (1, .int x1)], [], Y191, (sI τ189 o 1 (mxI 2 (mnI 12 x1))))
  refine Ex.blk 2 rfl ?_
  show Ex mr_X10_init sc (Cl MT pr sc (d + 0)) (rtE none X2 σ2) (296, [(2, .int 0), (0, .ref o), (1, .int x1)], [], Y191, (sI τ189 o 1 (mxI 2 (mnI 12 x1))))
  show Ex mr_X10_init sc (Cl MT pr sc (d + 0)) (rtE none X2 σ2) (296, [(2, .int 0), (0, .ref o), (1, .int x1)], [], Y191, (sI τ189 o 1 (mxI 2 (mnI 12 x1))))
  refine Ex.pick (lv' := _) [1, 0] rfl ?_
  exact le_X10_init_296 d o FU _ _ _ h
theorem le_L_pre_z {pr : Ct} (sc : Nat × (Nat → Int32)) (hsc : sc.1 ≤ 3073) (hpr : ∀ (c : Int32) (E : En) (σ : St) (d : Nat), Cl MT pr sc (d + 9) 51 [.ref LN, .int c] E σ (some (.int (ixo c))) E σ) {rt : Rt} {t1 t2 t3 : Nat} {X2 : En} {σ2 : St} (X : En) (σ : St) (h : e_L_pre_z sc X σ = some (t1, t2, t3, X2, σ2)) (hx : ExL pr sc rt (33, [(4, .int 1), (3, .ref t3), (2, .ref t2), (1, .ref t1), (0, .ref SN)], [], X2, σ2)) : ExL pr sc rt (0, [(0, .ref SN)], [], X, σ) := by
  unfold e_L_pre_z at h
  obtain ⟨t1, Y2, τ3, he4, h⟩ := mkO_sp h
  refine exL_new rfl he4 ?_
  show ExL pr sc rt (3, [(0, .ref SN)], [.ref t1], Y2, τ3)
  obtain ⟨hk_t1_Y2, h⟩ := gd_some h
  refine ExL.blk 3 rfl ?_
  show ExL pr sc rt (6, [(0, .ref SN)], [.int 0, .ref SN, .ref t1, .ref t1], Y2, τ3)
  refine ExL.blk 1 rfl ?_
  refine Exists.intro (some (.int (if 0 < sc.1 then sc.2 0 else 0))) (Exists.intro (Y2) (Exists.intro (τ3) (And.intro (cl_L_cell hsc 59) ?_)))
  show ExL pr sc rt (9, [(0, .ref SN)], [.int (if 0 < sc.1 then sc.2 0 else 0), .ref t1, .ref t1], Y2, τ3)
  obtain ⟨p5, hp5, h⟩ := bind_sp h
  refine ExL.blk 1 rfl ?_
  refine Exists.intro none (Exists.intro p5.1 (Exists.intro p5.2 (And.intro (ce_X9_init_z 57 hp5) ?_)))
  show ExL pr sc rt (12, [(0, .ref SN)], [.ref t1], p5.1, p5.2)
  obtain ⟨hk_t1_p5_1, h⟩ := gd_some h
  refine ExL.blk 1 rfl ?_
  show ExL pr sc rt (13, [(1, .ref t1), (0, .ref SN)], [], p5.1, p5.2)
  obtain ⟨t6, Y7, τ8, he9, h⟩ := mkO_sp h
  refine exL_new rfl he9 ?_
  show ExL pr sc rt (16, [(1, .ref t1), (0, .ref SN)], [.ref t6], Y7, τ8)
  obtain ⟨hk_t1_Y7, h⟩ := gd_some h
  obtain ⟨hk_t6_Y7, h⟩ := gd_some h
  refine ExL.blk 3 rfl ?_
  show ExL pr sc rt (19, [(1, .ref t1), (0, .ref SN)], [.int 0, .ref SN, .ref t6, .ref t6], Y7, τ8)
  refine ExL.blk 1 rfl ?_
  refine Exists.intro (some (.int (if 0 < sc.1 then sc.2 0 else 0))) (Exists.intro (Y7) (Exists.intro (τ8) (And.intro (cl_L_cell hsc 59) ?_)))
  show ExL pr sc rt (22, [(1, .ref t1), (0, .ref SN)], [.int (if 0 < sc.1 then sc.2 0 else 0), .ref t6, .ref t6], Y7, τ8)
  obtain ⟨p10, hp10, h⟩ := bind_sp h
  refine ExL.blk 1 rfl ?_
  refine Exists.intro none (Exists.intro p10.1 (Exists.intro p10.2 (And.intro (ce_X10_init_z 59 hp10) ?_)))
  show ExL pr sc rt (25, [(1, .ref t1), (0, .ref SN)], [.ref t6], p10.1, p10.2)
  obtain ⟨hk_t1_p10_1, h⟩ := gd_some h
  obtain ⟨hk_t6_p10_1, h⟩ := gd_some h
  refine ExL.blk 2 rfl ?_
  show ExL pr sc rt (27, [(2, .ref t6), (1, .ref t1), (0, .ref SN)], [.int 1], p10.1, p10.2)
  obtain ⟨t11, Y12, τ13, he14, h⟩ := mkA_sp h
  refine exL_nwa rfl (by decide) he14 ?_
  show ExL pr sc rt (29, [(2, .ref t6), (1, .ref t1), (0, .ref SN)], [.ref t11], Y12, τ13)
  obtain ⟨hk_t6_Y12, h⟩ := gd_some h
  obtain ⟨hk_t1_Y12, h⟩ := gd_some h
  obtain ⟨hk_t11_Y12, h⟩ := gd_some h
  refine ExL.blk 3 rfl ?_
  show ExL pr sc rt (33, [(4, .int 1), (3, .ref t11), (2, .ref t6), (1, .ref t1), (0, .ref SN)], [], Y12, τ13)
  show ExL pr sc rt (33, [(4, .int 1), (3, .ref t11), (2, .ref t6), (1, .ref t1), (0, .ref SN)], [], Y12, τ13)
  cases h
  exact hx
