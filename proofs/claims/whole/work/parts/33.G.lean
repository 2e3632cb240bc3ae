/-! THE OTHER METHODS AS PURE FUNCTIONS, by program (wip/gen_G.py) -/
def e_J7_fill_53178_5 (ar : Nat) : Nat → Int32 → Int32 → Int32 → En → St → Option (En × St)
  | 0, _, _, _, _, _ => none
  | n + 1, x1, x2, x3, X, σ =>
    (gd (rk X ar 20) (if x3 ≤ x2 then
 (some (X, σ))
 else
 (gd (inb x2 (eL X ar)) (e_J7_fill_53178_5 ar n x1 (x2 + 1) x3 X (sI σ ar x2.toNatClampNeg x1)))))
def e_J7_fill_53178_b (ar : Nat) (x1 : Int32) (X : En) (σ : St) : Option (En × St) :=
  (gd (rk X ar 20) (e_J7_fill_53178_5 ar FU x1 0 (Int32.ofNat (eL X ar)) X σ))
def e_J7_fill_53178 (ar : Nat) (x1 : Int32) (X : En) (σ : St) : Option (En × St) :=
  (e_J7_fill_53178_b ar x1 X σ).bind fun p => gd (Nat.ble (eZ X) (eZ p.1) && Nat.ble (eY X) (eY p.1)) (some p)
def e_X7_init_b (o : Nat) (x1 : Int32) (X : En) (σ : St) : Option (En × St) :=
  (gd (rk X o 8) (mkA X σ 20 12 fun t1 Y2 τ3 => gd (rk Y2 o 8) (gd (rk Y2 t1 20) (ptS Y2 o 1 t1 fun Y5 => gd (rk Y5 o 8) (mkA Y5 τ3 20 12 fun t7 Y8 τ9 => gd (rk Y8 o 8) (gd (rk Y8 t7 20) (ptS Y8 o 2 t7 fun Y11 => gd (rk Y11 o 8) (mkA Y11 τ9 20 12 fun t13 Y14 τ15 => gd (rk Y14 o 8) (gd (rk Y14 t13 20) (ptS Y14 o 3 t13 fun Y17 => gd (rk Y17 o 8) ((eS Y17 o 2).bind fun b19 => (gd (rk Y17 b19 20) ((e_J7_fill_53178 b19 9 Y17 (sI τ15 o 0 x1)).bind fun p21 => (gd (rk p21.1 o 8) (some (p21.1, p21.2))))))))))))))))
def e_X7_init (o : Nat) (x1 : Int32) (X : En) (σ : St) : Option (En × St) :=
  (e_X7_init_b o x1 X σ).bind fun p => gd (Nat.ble (eZ X) (eZ p.1) && Nat.ble (eY X) (eY p.1)) (some p)
def e_X2_init_b (o : Nat) (X : En) (σ : St) : Option (En × St) :=
  (gd (rk X o 3) (mkA X σ 21 320 fun t1 Y2 τ3 => gd (rk Y2 o 3) (gd (rk Y2 t1 21) (ptS Y2 o 0 t1 fun Y5 => gd (rk Y5 o 3) (some (Y5, τ3))))))
def e_X2_init (o : Nat) (X : En) (σ : St) : Option (En × St) :=
  (e_X2_init_b o X σ).bind fun p => gd (Nat.ble (eZ X) (eZ p.1) && Nat.ble (eY X) (eY p.1)) (some p)
def e_X5_init_b (o : Nat) (X : En) (σ : St) : Option (En × St) :=
  (gd (rk X o 6) (mkA X σ 20 160 fun t1 Y2 τ3 => gd (rk Y2 o 6) (gd (rk Y2 t1 20) (ptS Y2 o 0 t1 fun Y5 => gd (rk Y5 o 6) (mkA Y5 τ3 20 36 fun t7 Y8 τ9 => gd (rk Y8 o 6) (gd (rk Y8 t7 20) (ptS Y8 o 2 t7 fun Y11 => gd (rk Y11 o 6) (some (Y11, τ9)))))))))
def e_X5_init (o : Nat) (X : En) (σ : St) : Option (En × St) :=
  (e_X5_init_b o X σ).bind fun p => gd (Nat.ble (eZ X) (eZ p.1) && Nat.ble (eY X) (eY p.1)) (some p)
def e_X1_init_30 (o : Nat) : Nat → Int32 → En → St → Option (En × St)
  | 0, _, _, _ => none
  | n + 1, x1, X, σ =>
    (gd (rk X o 2) (if (9 : Int32) < x1 then
 (some (X, σ))
 else
 ((eS X o 0).bind fun b15 => (gd (rk X b15 20) (gd (inb (11 * x1) (eL X b15)) (e_X1_init_30 o n (x1 + 1) X (sI σ b15 (11 * x1).toNatClampNeg 100)))))))
def e_X1_init_b (o : Nat) (X : En) (σ : St) : Option (En × St) :=
  (gd (rk X o 2) (mkA X σ 20 100 fun t1 Y2 τ3 => gd (rk Y2 o 2) (gd (rk Y2 t1 20) (ptS Y2 o 0 t1 fun Y5 => gd (rk Y5 o 2) (mkA Y5 τ3 21 99 fun t7 Y8 τ9 => gd (rk Y8 o 2) (gd (rk Y8 t7 21) (mkA Y8 (sR τ9 o 1 (some t7)) 21 99 fun t11 Y12 τ13 => gd (rk Y12 o 2) (gd (rk Y12 t11 21) (e_X1_init_30 o FU 0 Y12 (sR τ13 o 2 (some t11)))))))))))
def e_X1_init (o : Nat) (X : En) (σ : St) : Option (En × St) :=
  (e_X1_init_b o X σ).bind fun p => gd (Nat.ble (eZ X) (eZ p.1) && Nat.ble (eY X) (eY p.1)) (some p)
def e_X3_init_b (o : Nat) (X : En) (σ : St) : Option (En × St) :=
  (gd (rk X o 4) (mkA X σ 20 8 fun t1 Y2 τ3 => gd (rk Y2 o 4) (gd (rk Y2 t1 20) (ptS Y2 o 0 t1 fun Y5 => gd (rk Y5 o 4) (some (Y5, τ3))))))
def e_X3_init (o : Nat) (X : En) (σ : St) : Option (En × St) :=
  (e_X3_init_b o X σ).bind fun p => gd (Nat.ble (eZ X) (eZ p.1) && Nat.ble (eY X) (eY p.1)) (some p)
def e_X6_init_b (o : Nat) (X : En) (σ : St) : Option (En × St) :=
  (gd (rk X o 7) (mkA X σ 20 24 fun t1 Y2 τ3 => gd (rk Y2 o 7) (gd (rk Y2 t1 20) (ptS Y2 o 0 t1 fun Y5 => gd (rk Y5 o 7) (mkA Y5 τ3 20 24 fun t7 Y8 τ9 => gd (rk Y8 o 7) (gd (rk Y8 t7 20) (ptS Y8 o 1 t7 fun Y11 => gd (rk Y11 o 7) (mkA Y11 τ9 20 24 fun t13 Y14 τ15 => gd (rk Y14 o 7) (gd (rk Y14 t13 20) (ptS Y14 o 2 t13 fun Y17 => gd (rk Y17 o 7) (mkA Y17 τ15 20 12 fun t19 Y20 τ21 => gd (rk Y20 o 7) (gd (rk Y20 t19 20) (ptS Y20 o 3 t19 fun Y23 => gd (rk Y23 o 7) (mkA Y23 τ21 20 12 fun t25 Y26 τ27 => gd (rk Y26 o 7) (gd (rk Y26 t25 20) (ptS Y26 o 4 t25 fun Y29 => gd (rk Y29 o 7) (some (Y29, (sI τ27 o 5 1)))))))))))))))))))
def e_X6_init (o : Nat) (X : En) (σ : St) : Option (En × St) :=
  (e_X6_init_b o X σ).bind fun p => gd (Nat.ble (eZ X) (eZ p.1) && Nat.ble (eY X) (eY p.1)) (some p)
def e_X0_init_b (o : Nat) (X : En) (σ : St) : Option (En × St) :=
  (gd (rk X o 1) (mkA X σ 20 12 fun t1 Y2 τ3 => gd (rk Y2 o 1) (gd (rk Y2 t1 20) (ptS Y2 o 0 t1 fun Y5 => gd (rk Y5 o 1) (mkA Y5 τ3 20 12 fun t7 Y8 τ9 => gd (rk Y8 o 1) (gd (rk Y8 t7 20) (ptS Y8 o 1 t7 fun Y11 => gd (rk Y11 o 1) (mkA Y11 τ9 20 12 fun t13 Y14 τ15 => gd (rk Y14 o 1) (gd (rk Y14 t13 20) (ptS Y14 o 2 t13 fun Y17 => gd (rk Y17 o 1) (mkA Y17 τ15 20 12 fun t19 Y20 τ21 => gd (rk Y20 o 1) (gd (rk Y20 t19 20) (ptS Y20 o 3 t19 fun Y23 => gd (rk Y23 o 1) (mkA Y23 τ21 22 12 fun t25 Y26 τ27 => gd (rk Y26 o 1) (gd (rk Y26 t25 23) (ptS Y26 o 4 t25 fun Y29 => gd (rk Y29 o 1) (mkA Y29 τ27 20 12 fun t31 Y32 τ33 => gd (rk Y32 o 1) (gd (rk Y32 t31 20) (ptS Y32 o 5 t31 fun Y35 => gd (rk Y35 o 1) (mkA Y35 τ33 20 12 fun t37 Y38 τ39 => gd (rk Y38 o 1) (gd (rk Y38 t37 20) (ptS Y38 o 6 t37 fun Y41 => gd (rk Y41 o 1) (mkA Y41 τ39 22 12 fun t43 Y44 τ45 => gd (rk Y44 o 1) (gd (rk Y44 t43 23) (ptS Y44 o 7 t43 fun Y47 => gd (rk Y47 o 1) (mkA Y47 τ45 22 12 fun t49 Y50 τ51 => gd (rk Y50 o 1) (gd (rk Y50 t49 23) (ptS Y50 o 8 t49 fun Y53 => gd (rk Y53 o 1) (mkA Y53 τ51 20 12 fun t55 Y56 τ57 => gd (rk Y56 o 1) (gd (rk Y56 t55 20) (ptS Y56 o 9 t55 fun Y59 => gd (rk Y59 o 1) (some (Y59, τ57)))))))))))))))))))))))))))))))))
def e_X0_init (o : Nat) (X : En) (σ : St) : Option (En × St) :=
  (e_X0_init_b o X σ).bind fun p => gd (Nat.ble (eZ X) (eZ p.1) && Nat.ble (eY X) (eY p.1)) (some p)
def e_X9_init_b (o : Nat) (x1 : Int32) (X : En) (σ : St) : Option (En × St) :=
  (gd (rk X o 10) (mkO X σ 8 13 fun t1 Y2 τ3 => gd (rk Y2 o 10) (gd (rk Y2 t1 8) ((e_X7_init t1 (mxI 2 (mnI 12 x1)) Y2 τ3).bind fun p5 => (gd (rk p5.1 o 10) (gd (rk p5.1 t1 8) (ptS p5.1 o 0 t1 fun Y6 => gd (rk Y6 o 10) (mkO Y6 p5.2 8 13 fun t8 Y9 τ10 => gd (rk Y9 o 10) (gd (rk Y9 t8 8) ((eS Y9 o 0).bind fun b12 => (gd (rk Y9 b12 8) ((e_X7_init t8 (gI τ10 b12 0) Y9 τ10).bind fun p14 => (gd (rk p14.1 o 10) (gd (rk p14.1 t8 8) (ptS p14.1 o 1 t8 fun Y15 => gd (rk Y15 o 10) (mkO Y15 p14.2 3 3 fun t17 Y18 τ19 => gd (rk Y18 o 10) (gd (rk Y18 t17 3) ((e_X2_init t17 Y18 τ19).bind fun p21 => (gd (rk p21.1 o 10) (gd (rk p21.1 t17 3) (ptS p21.1 o 4 t17 fun Y22 => gd (rk Y22 o 10) (mkO Y22 p21.2 6 5 fun t24 Y25 τ26 => gd (rk Y25 o 10) (gd (rk Y25 t24 6) ((e_X5_init t24 Y25 τ26).bind fun p28 => (gd (rk p28.1 o 10) (gd (rk p28.1 t24 6) (ptS p28.1 o 5 t24 fun Y29 => gd (rk Y29 o 10) (mkA Y29 p28.2 23 6 fun t31 Y32 τ33 => gd (rk Y32 o 10) (gd (rk Y32 t31 23) (ptS Y32 o 6 t31 fun Y35 => gd (rk Y35 o 10) (mkO Y35 τ33 2 3 fun t37 Y38 τ39 => gd (rk Y38 o 10) (gd (rk Y38 t37 2) ((e_X1_init t37 Y38 τ39).bind fun p41 => (gd (rk p41.1 o 10) (gd (rk p41.1 t37 2) (ptS p41.1 o 8 t37 fun Y42 => gd (rk Y42 o 10) (mkO Y42 p41.2 4 4 fun t44 Y45 τ46 => gd (rk Y45 o 10) (gd (rk Y45 t44 4) ((e_X3_init t44 Y45 τ46).bind fun p48 => (gd (rk p48.1 o 10) (gd (rk p48.1 t44 4) (ptS p48.1 o 9 t44 fun Y49 => gd (rk Y49 o 10) (mkO Y49 p48.2 7 11 fun t51 Y52 τ53 => gd (rk Y52 o 10) (gd (rk Y52 t51 7) ((e_X6_init t51 Y52 τ53).bind fun p55 => (gd (rk p55.1 o 10) (gd (rk p55.1 t51 7) (ptS p55.1 o 10 t51 fun Y56 => gd (rk Y56 o 10) (mkO Y56 p55.2 1 15 fun t58 Y59 τ60 => gd (rk Y59 o 10) (gd (rk Y59 t58 1) ((e_X0_init t58 Y59 τ60).bind fun p62 => (gd (rk p62.1 o 10) (gd (rk p62.1 t58 1) (ptS p62.1 o 11 t58 fun Y63 => gd (rk Y63 o 10) (some (Y63, (sI (sI (sI p62.2 o 15 1) o 16 2) o 17 1)))))))))))))))))))))))))))))))))))))))))))))))))))))))))
def e_X9_init (o : Nat) (x1 : Int32) (X : En) (σ : St) : Option (En × St) :=
  (e_X9_init_b o x1 X σ).bind fun p => gd (Nat.ble (eZ X) (eZ p.1) && Nat.ble (eY X) (eY p.1)) (some p)
def e_X10_init_296 (o : Nat) : Nat → Int32 → En → St → Option (En × St)
  | 0, _, _, _ => none
  | n + 1, x2, X, σ =>
    (gd (rk X o 11) (if (12 : Int32) ≤ x2 then
 (some (X, σ))
 else
 ((eS X o 15).bind fun b193 => (gd (rk X b193 20) (gd (inb x2 (eL X b193)) (e_X10_init_296 o n (x2 + 1) X (sI σ b193 x2.toNatClampNeg 9)))))))
def e_X10_init_b (o : Nat) (x1 : Int32) (X : En) (σ : St) : Option (En × St) :=
  (gd (rk X o 11) (mkA X σ 20 160 fun t1 Y2 τ3 => gd (rk Y2 o 11) (gd (rk Y2 t1 20) (ptS Y2 o 2 t1 fun Y5 => gd (rk Y5 o 11) (mkA Y5 τ3 20 84 fun t7 Y8 τ9 => gd (rk Y8 o 11) (gd (rk Y8 t7 20) (ptS Y8 o 6 t7 fun Y11 => gd (rk Y11 o 11) (mkA Y11 τ9 20 84 fun t13 Y14 τ15 => gd (rk Y14 o 11) (gd (rk Y14 t13 20) (ptS Y14 o 7 t13 fun Y17 => gd (rk Y17 o 11) (mkA Y17 τ15 20 84 fun t19 Y20 τ21 => gd (rk Y20 o 11) (gd (rk Y20 t19 20) (ptS Y20 o 8 t19 fun Y23 => gd (rk Y23 o 11) (mkA Y23 τ21 20 7 fun t25 Y26 τ27 => gd (rk Y26 o 11) (gd (rk Y26 t25 20) (ptS Y26 o 9 t25 fun Y29 => gd (rk Y29 o 11) (mkA Y29 (sI (sI (sI τ27 o 12 1) o 13 2) o 14 1) 20 12 fun t31 Y32 τ33 => gd (rk Y32 o 11) (gd (rk Y32 t31 20) (ptS Y32 o 15 t31 fun Y35 => gd (rk Y35 o 11) (mkA Y35 τ33 20 100 fun t37 Y38 τ39 => gd (rk Y38 o 11) (gd (rk Y38 t37 20) (ptS Y38 o 16 t37 fun Y41 => gd (rk Y41 o 11) (mkA Y41 τ39 20 19 fun t43 Y44 τ45 => gd (rk Y44 o 11) (gd (rk Y44 t43 20) (ptS Y44 o 17 t43 fun Y47 => gd (rk Y47 o 11) (mkA Y47 τ45 20 12 fun t49 Y50 τ51 => gd (rk Y50 o 11) (gd (rk Y50 t49 20) (ptS Y50 o 23 t49 fun Y53 => gd (rk Y53 o 11) (mkA Y53 τ51 20 12 fun t55 Y56 τ57 => gd (rk Y56 o 11) (gd (rk Y56 t55 20) (ptS Y56 o 24 t55 fun Y59 => gd (rk Y59 o 11) (mkA Y59 τ57 20 760 fun t61 Y62 τ63 => gd (rk Y62 o 11) (gd (rk Y62 t61 20) (ptS Y62 o 25 t61 fun Y65 => gd (rk Y65 o 11) (mkA Y65 τ63 21 40 fun t67 Y68 τ69 => gd (rk Y68 o 11) (gd (rk Y68 t67 21) (ptS Y68 o 26 t67 fun Y71 => gd (rk Y71 o 11) (mkA Y71 τ69 20 12 fun t73 Y74 τ75 => gd (rk Y74 o 11) (gd (rk Y74 t73 20) (ptS Y74 o 29 t73 fun Y77 => gd (rk Y77 o 11) (mkA Y77 τ75 21 99 fun t79 Y80 τ81 => gd (rk Y80 o 11) (gd (rk Y80 t79 21) (ptS Y80 o 30 t79 fun Y83 => gd (rk Y83 o 11) (mkA Y83 τ81 21 99 fun t85 Y86 τ87 => gd (rk Y86 o 11) (gd (rk Y86 t85 21) (ptS Y86 o 31 t85 fun Y89 => gd (rk Y89 o 11) (mkA Y89 τ87 20 8 fun t91 Y92 τ93 => gd (rk Y92 o 11) (gd (rk Y92 t91 20) (ptS Y92 o 32 t91 fun Y95 => gd (rk Y95 o 11) (mkA Y95 τ93 20 256 fun t97 Y98 τ99 => gd (rk Y98 o 11) (gd (rk Y98 t97 20) (ptS Y98 o 34 t97 fun Y101 => gd (rk Y101 o 11) (mkA Y101 τ99 20 10 fun t103 Y104 τ105 => gd (rk Y104 o 11) (gd (rk Y104 t103 20) (ptS Y104 o 38 t103 fun Y107 => gd (rk Y107 o 11) (mkA Y107 τ105 20 19 fun t109 Y110 τ111 => gd (rk Y110 o 11) (gd (rk Y110 t109 20) (ptS Y110 o 39 t109 fun Y113 => gd (rk Y113 o 11) (mkA Y113 τ111 20 12 fun t115 Y116 τ117 => gd (rk Y116 o 11) (gd (rk Y116 t115 20) (ptS Y116 o 40 t115 fun Y119 => gd (rk Y119 o 11) (mkA Y119 τ117 20 12 fun t121 Y122 τ123 => gd (rk Y122 o 11) (gd (rk Y122 t121 20) (ptS Y122 o 41 t121 fun Y125 => gd (rk Y125 o 11) (mkA Y125 τ123 22 12 fun t127 Y128 τ129 => gd (rk Y128 o 11) (gd (rk Y128 t127 23) (ptS Y128 o 42 t127 fun Y131 => gd (rk Y131 o 11) (mkA Y131 τ129 22 12 fun t133 Y134 τ135 => gd (rk Y134 o 11) (gd (rk Y134 t133 23) (ptS Y134 o 43 t133 fun Y137 => gd (rk Y137 o 11) (mkA Y137 τ135 20 12 fun t139 Y140 τ141 => gd (rk Y140 o 11) (gd (rk Y140 t139 20) (ptS Y140 o 44 t139 fun Y143 => gd (rk Y143 o 11) (mkA Y143 τ141 20 12 fun t145 Y146 τ147 => gd (rk Y146 o 11) (gd (rk Y146 t145 20) (ptS Y146 o 45 t145 fun Y149 => gd (rk Y149 o 11) (mkA Y149 τ147 20 12 fun t151 Y152 τ153 => gd (rk Y152 o 11) (gd (rk Y152 t151 20) (ptS Y152 o 46 t151 fun Y155 => gd (rk Y155 o 11) (mkA Y155 τ153 20 9 fun t157 Y158 τ159 => gd (rk Y158 o 11) (gd (rk Y158 t157 20) (ptS Y158 o 47 t157 fun Y161 => gd (rk Y161 o 11) (mkA Y161 τ159 20 9 fun t163 Y164 τ165 => gd (rk Y164 o 11) (gd (rk Y164 t163 20) (ptS Y164 o 48 t163 fun Y167 => gd (rk Y167 o 11) (mkA Y167 τ165 20 1000 fun t169 Y170 τ171 => gd (rk Y170 o 11) (gd (rk Y170 t169 20) (ptS Y170 o 49 t169 fun Y173 => gd (rk Y173 o 11) (mkA Y173 τ171 22 1000 fun t175 Y176 τ177 => gd (rk Y176 o 11) (gd (rk Y176 t175 23) (ptS Y176 o 50 t175 fun Y179 => gd (rk Y179 o 11) (mkA Y179 τ177 20 19 fun t181 Y182 τ183 => gd (rk Y182 o 11) (gd (rk Y182 t181 20) (ptS Y182 o 51 t181 fun Y185 => gd (rk Y185 o 11) (mkA Y185 τ183 20 12 fun t187 Y188 τ189 => gd (rk Y188 o 11) (gd (rk Y188 t187 20) (ptS Y188 o 52 t187 fun Y191 => gd (rk Y191 o 11) (e_X10_init_296 o FU 0 Y191 (sI τ189 o 1 (mxI 2 (mnI 12 x1)))))))))))))))))))))))))))))))))))))))))))))))))))))))))))))))))))))))))))))))))))))))))))))))))))))
def e_X10_init (o : Nat) (x1 : Int32) (X : En) (σ : St) : Option (En × St) :=
  (e_X10_init_b o x1 X σ).bind fun p => gd (Nat.ble (eZ X) (eZ p.1) && Nat.ble (eY X) (eY p.1)) (some p)
def g_J7_fill_53178_5 (ar : Nat) : Nat → Int32 → Int32 → Int32 → En → St → Option (En × St)
  | 0, _, _, _, _, _ => none
  | n + 1, x1, x2, x3, X, σ =>
    (gd (rk (mk X) ar 20) (if x3 ≤ x2 then
 (some (X, σ))
 else
 (gd (inb x2 (eL (mk X) ar)) (g_J7_fill_53178_5 ar n x1 (x2 + 1) x3 X (sI σ ar x2.toNatClampNeg x1)))))
def g_J7_fill_53178_b (ar : Nat) (x1 : Int32) (X : En) (σ : St) : Option (En × St) :=
  (gd (rk (mk X) ar 20) (g_J7_fill_53178_5 ar FU x1 0 (Int32.ofNat (eL (mk X) ar)) X σ))
def g_J7_fill_53178 (ar : Nat) (x1 : Int32) (X : En) (σ : St) : Option (En × St) :=
  (g_J7_fill_53178_b ar x1 X σ).bind fun p => gd (Nat.ble (eZ X) (eZ p.1) && Nat.ble (eY X) (eY p.1)) (some p)
def g_J7_fill_d0a16_6 (ar : Nat) : Nat → Int64 → Int32 → Int32 → En → St → Option (En × St)
  | 0, _, _, _, _, _ => none
  | n + 1, x1, x3, x4, X, σ =>
    (gd (rk (mk X) ar 21) (if x4 ≤ x3 then
 (some (X, σ))
 else
 (gd (inb x3 (eL (mk X) ar)) (g_J7_fill_d0a16_6 ar n x1 (x3 + 1) x4 X (sJ σ ar x3.toNatClampNeg x1)))))
def g_J7_fill_d0a16_b (ar : Nat) (x1 : Int64) (X : En) (σ : St) : Option (En × St) :=
  (gd (rk (mk X) ar 21) (g_J7_fill_d0a16_6 ar FU x1 0 (Int32.ofNat (eL (mk X) ar)) X σ))
def g_J7_fill_d0a16 (ar : Nat) (x1 : Int64) (X : En) (σ : St) : Option (En × St) :=
  (g_J7_fill_d0a16_b ar x1 X σ).bind fun p => gd (Nat.ble (eZ X) (eZ p.1) && Nat.ble (eY X) (eY p.1)) (some p)
def g_X7_init_b (o : Nat) (x1 : Int32) (X : En) (σ : St) : Option (En × St) :=
  (gd (rk (mk X) o 8) (gd (Nat.ble 72 (eZ X)) (mkA X σ 20 12 fun t1 Y2 τ3 => gd (rk (mk Y2) o 8) (gd (rk (mk Y2) t1 20) (gd (Nat.ble 72 o) (ptS Y2 o 1 t1 fun Y5 => gd (rk (mk Y5) o 8) (gd (Nat.ble 72 (eZ Y5)) (mkA Y5 τ3 20 12 fun t7 Y8 τ9 => gd (rk (mk Y8) o 8) (gd (rk (mk Y8) t7 20) (gd (Nat.ble 72 o) (ptS Y8 o 2 t7 fun Y11 => gd (rk (mk Y11) o 8) (gd (Nat.ble 72 (eZ Y11)) (mkA Y11 τ9 20 12 fun t13 Y14 τ15 => gd (rk (mk Y14) o 8) (gd (rk (mk Y14) t13 20) (gd (Nat.ble 72 o) (ptS Y14 o 3 t13 fun Y17 => gd (rk (mk Y17) o 8) ((eS (mk Y17) o 2).bind fun b19 => (gd (rk (mk Y17) b19 20) ((g_J7_fill_53178 b19 9 Y17 (sI τ15 o 0 x1)).bind fun p21 => (gd (rk (mk p21.1) o 8) (some (p21.1, p21.2))))))))))))))))))))))
def g_X7_init (o : Nat) (x1 : Int32) (X : En) (σ : St) : Option (En × St) :=
  (g_X7_init_b o x1 X σ).bind fun p => gd (Nat.ble (eZ X) (eZ p.1) && Nat.ble (eY X) (eY p.1)) (some p)
def g_X7_startCounts_b (o : Nat) (X : En) (σ : St) : Option (En × St) :=
  (gd (rk (mk X) o 8) (some (X, (sI (sI (sI (sI (sI (sI σ o 7 0) o 8 0) o 9 0) o 10 0) o 11 0) o 12 0))))
def g_X7_startCounts (o : Nat) (X : En) (σ : St) : Option (En × St) :=
  (g_X7_startCounts_b o X σ).bind fun p => gd (Nat.ble (eZ X) (eZ p.1) && Nat.ble (eY X) (eY p.1)) (some p)
def g_X7_beginAs_53 (o : Nat) (q : Nat) (X : En) (σ : St) : Option (En × St) :=
  (gd (rk (mk X) o 8) ((g_X7_startCounts o X σ).bind fun p19 => (gd (rk (mk p19.1) o 8) (some (p19.1, p19.2)))))
def g_X7_beginAs_23 (o : Nat) (q : Nat) (X : En) (σ : St) : Option (En × St) :=
  (gd (rk (mk X) o 8) (gd (rk (mk X) q 8) ((eS (mk X) q 2).bind fun b7 => (gd (rk (mk X) b7 20) ((eS (mk X) o 2).bind fun b9 => (gd (rk (mk X) b9 20) (gd (!(Nat.beq b7 b9)) (gd (decide (¬ (12 : Int32) < 0) && Nat.ble (12 : Int32).toNatClampNeg (eL (mk X) b7) && Nat.ble (12 : Int32).toNatClampNeg (eL (mk X) b9)) ((eS (mk X) q 1).bind fun b13 => (gd (rk (mk X) b13 20) ((eS (mk X) o 3).bind fun b15 => (gd (rk (mk X) b15 20) (gd (!(Nat.beq b13 b15)) (gd (decide (¬ (12 : Int32) < 0) && Nat.ble (12 : Int32).toNatClampNeg (eL (mk X) b13) && Nat.ble (12 : Int32).toNatClampNeg (eL (mk X) b15)) (g_X7_beginAs_53 o q X (cpI (cpI σ b7 0 b9 0 (12 : Int32).toNatClampNeg) b13 0 b15 0 (12 : Int32).toNatClampNeg))))))))))))))))
def g_X7_beginAs_b (o : Nat) (q : Nat) (X : En) (σ : St) : Option (En × St) :=
  (gd (rk (mk X) o 8) (gd (rk (mk X) q 8) ((eS (mk X) q 1).bind fun b1 => (gd (rk (mk X) b1 20) ((eS (mk X) o 1).bind fun b3 => (gd (rk (mk X) b3 20) (gd (!(Nat.beq b1 b3)) (gd (decide (¬ (12 : Int32) < 0) && Nat.ble (12 : Int32).toNatClampNeg (eL (mk X) b1) && Nat.ble (12 : Int32).toNatClampNeg (eL (mk X) b3)) (g_X7_beginAs_23 o q X (cpI (sI σ o 0 (gI σ q 0)) b1 0 b3 0 (12 : Int32).toNatClampNeg))))))))))
def g_X7_beginAs (o : Nat) (q : Nat) (X : En) (σ : St) : Option (En × St) :=
  (g_X7_beginAs_b o q X σ).bind fun p => gd (Nat.ble (eZ X) (eZ p.1) && Nat.ble (eY X) (eY p.1)) (some p)
def g_X7_becomeAs_69 (o : Nat) (q : Nat) (X : En) (σ : St) : Option (En × St) :=
  (gd (rk (mk X) o 8) (gd (rk (mk X) q 8) (some (X, (sI σ o 12 (gI σ q 12))))))
def g_X7_becomeAs_53 (o : Nat) (q : Nat) (X : En) (σ : St) : Option (En × St) :=
  (gd (rk (mk X) o 8) (gd (rk (mk X) q 8) (g_X7_becomeAs_69 o q X (sI (sI σ o 10 (gI σ q 10)) o 11 (gI (sI σ o 10 (gI σ q 10)) q 11)))))
def g_X7_becomeAs_37 (o : Nat) (q : Nat) (X : En) (σ : St) : Option (En × St) :=
  (gd (rk (mk X) o 8) (gd (rk (mk X) q 8) (g_X7_becomeAs_53 o q X (sI (sI σ o 8 (gI σ q 8)) o 9 (gI (sI σ o 8 (gI σ q 8)) q 9)))))
def g_X7_becomeAs_21 (o : Nat) (q : Nat) (X : En) (σ : St) : Option (En × St) :=
  (gd (rk (mk X) o 8) (gd (rk (mk X) q 8) (g_X7_becomeAs_37 o q X (sI (sJ σ o 6 (gJ σ q 6)) o 7 (gI (sJ σ o 6 (gJ σ q 6)) q 7)))))
def g_X7_becomeAs_b (o : Nat) (q : Nat) (X : En) (σ : St) : Option (En × St) :=
  (gd (rk (mk X) o 8) (gd (rk (mk X) q 8) ((g_X7_beginAs o q X σ).bind fun p1 => (gd (rk (mk p1.1) o 8) (gd (rk (mk p1.1) q 8) (g_X7_becomeAs_21 o q p1.1 (sI (sI p1.2 o 4 (gI p1.2 q 4)) o 5 (gI (sI p1.2 o 4 (gI p1.2 q 4)) q 5))))))))
def g_X7_becomeAs (o : Nat) (q : Nat) (X : En) (σ : St) : Option (En × St) :=
  (g_X7_becomeAs_b o q X σ).bind fun p => gd (Nat.ble (eZ X) (eZ p.1) && Nat.ble (eY X) (eY p.1)) (some p)
def g_X9_image_25 (X : En) (σ : St) : Option (Int32 × En × St) :=
  (mR (gR σ 0 2) (none) (fun b3 => gd (rk (mk X) b3 8) ((g_X7_becomeAs b3 1 X σ).bind fun p5 => (some ((gI (sI p5.2 0 3 (gI p5.2 0 13)) 0 13), p5.1, (sI p5.2 0 3 (gI p5.2 0 13)))))))
def g_X9_image_b (X : En) (σ : St) : Option (Int32 × En × St) :=
  (mR (gR σ 0 2) (gd (Nat.ble 72 (eZ X)) (mkO X σ 8 13 fun t7 Y8 τ9 => gd (rk (mk Y8) t7 8) ((g_X7_init t7 (gI τ9 1 0) Y8 τ9).bind fun p11 => (gd (rk (mk p11.1) t7 8) (g_X9_image_25 p11.1 (sR p11.2 0 2 (some t7))))))) (fun b1 => gd (rk (mk X) b1 8) (g_X9_image_25 X σ)))
def g_X9_image (X : En) (σ : St) : Option (Int32 × En × St) :=
  (g_X9_image_b X σ).bind fun p => gd (Nat.ble (eZ X) (eZ p.2.1) && Nat.ble (eY X) (eY p.2.1)) (some p)
def g_X9_back_b (X : En) (σ : St) : Option (Int32 × En × St) :=
  (mR (gR σ 0 2) (some ((-1), X, σ)) (fun b1 => gd (rk (mk X) b1 8) (mR (gR σ 0 2) (none) (fun b3 => gd (rk (mk X) b3 8) ((g_X7_becomeAs 1 b3 X σ).bind fun p5 => ((f_X2_forget (sI p5.2 0 13 (gI p5.2 0 3))).bind fun p6 => (some ((gI p6 0 13), p5.1, p6))))))))
def g_X9_back (X : En) (σ : St) : Option (Int32 × En × St) :=
  (g_X9_back_b X σ).bind fun p => gd (Nat.ble (eZ X) (eZ p.2.1) && Nat.ble (eY X) (eY p.2.1)) (some p)
def g_X1_spread_111 (k11 : Int32 → Int64 → Int32 → Int32 → En → St → Option (En × St)) (x1 : Int32) (x2 : Int64) (x4 : Int32) (x5 : Int32) (X : En) (σ : St) : Option (En × St) :=
  (k11 x1 x2 x4 (x5 + 1) X σ)
def g_X1_spread_105 (k11 : Int32 → Int64 → Int32 → Int32 → En → St → Option (En × St)) (k44 : Int32 → Int64 → Int32 → Int32 → Int32 → Int32 → Int32 → En → St → Option (En × St)) (x1 : Int32) (x2 : Int64) (x4 : Int32) (x5 : Int32) (x6 : Int32) (x7 : Int32) (x8 : Int32) (X : En) (σ : St) : Option (En × St) :=
  (k44 x1 x2 x4 x5 x6 x7 (x8 + 1) X σ)
def g_X1_spread_82 (k11 : Int32 → Int64 → Int32 → Int32 → En → St → Option (En × St)) (k44 : Int32 → Int64 → Int32 → Int32 → Int32 → Int32 → Int32 → En → St → Option (En × St)) (x1 : Int32) (x2 : Int64) (x4 : Int32) (x5 : Int32) (x6 : Int32) (x7 : Int32) (x8 : Int32) (y0 : Int32) (X : En) (σ : St) : Option (En × St) :=
  ((gR σ 15 2).bind fun b10 => (gd (rk (mk X) b10 21) (gd (inb y0 (eL (mk X) b10)) ((gR σ 15 1).bind fun b13 => (gd (rk (mk X) b13 21) (gd (inb x8 (eL (mk X) b13)) (gd (inb y0 (eL (mk X) b10)) (g_X1_spread_105 k11 k44 x1 x2 x4 x5 x6 x7 x8 X (sJ σ b10 y0.toNatClampNeg ((gJ σ b10 y0.toNatClampNeg) + ((gJ σ b13 x8.toNatClampNeg) * x6.toInt64)))))))))))
def g_X1_spread_44 (k11 : Int32 → Int64 → Int32 → Int32 → En → St → Option (En × St)) : Nat → Int32 → Int64 → Int32 → Int32 → Int32 → Int32 → Int32 → En → St → Option (En × St)
  | 0, _, _, _, _, _, _, _, _, _ => none
  | n + 1, x1, x2, x4, x5, x6, x7, x8, X, σ =>
    (if x4 ≤ x8 then
 (g_X1_spread_111 k11 x1 x2 x4 x5 X σ)
 else
 (if x6 ≤ 0 then
 (g_X1_spread_111 k11 x1 x2 x4 x5 X σ)
 else
 (if x4 ≤ (x8 + x7) then
 (g_X1_spread_82 k11 (g_X1_spread_44 k11 n) x1 x2 x4 x5 x6 x7 x8 ((x8 + x7) - x4) X σ)
 else
 (g_X1_spread_82 k11 (g_X1_spread_44 k11 n) x1 x2 x4 x5 x6 x7 x8 (x8 + x7) X σ))))
def g_X1_spread_41 (k11 : Int32 → Int64 → Int32 → Int32 → En → St → Option (En × St)) (x1 : Int32) (x2 : Int64) (x4 : Int32) (x5 : Int32) (x6 : Int32) (x7 : Int32) (X : En) (σ : St) : Option (En × St) :=
  (g_X1_spread_44 k11 FU x1 x2 x4 x5 x6 x7 0 X σ)
def g_X1_spread_29 (k11 : Int32 → Int64 → Int32 → Int32 → En → St → Option (En × St)) (x1 : Int32) (x2 : Int64) (x4 : Int32) (x5 : Int32) (x6 : Int32) (X : En) (σ : St) : Option (En × St) :=
  (gd (nzJ x4.toInt64) (g_X1_spread_41 k11 x1 x2 x4 x5 x6 ((rmJ (x5.toInt64 * x2) x4.toInt64).toInt32) X σ))
def g_X1_spread_11 : Nat → Int32 → Int64 → Int32 → Int32 → En → St → Option (En × St)
  | 0, _, _, _, _, _, _ => none
  | n + 1, x1, x2, x4, x5, X, σ =>
    (if (9 : Int32) < x5 then
 ((gR σ 15 1).bind fun b4 => (gd (rk (mk X) b4 21) ((gR σ 15 2).bind fun b6 => (gd (rk (mk X) b6 21) (some (X, (sR (sR σ 15 1 (some b6)) 15 2 (some b4))))))))
 else
 (gd (inb (x1 + x5) 100) (g_X1_spread_29 (g_X1_spread_11 n) x1 x2 x4 x5 (gI σ 16 (x1 + x5).toNatClampNeg) X σ)))
def g_X1_spread_b (x1 : Int32) (x2 : Int64) (x4 : Int32) (X : En) (σ : St) : Option (En × St) :=
  ((gR σ 15 2).bind fun b1 => (gd (rk (mk X) b1 21) ((g_J7_fill_d0a16 b1 0 X σ).bind fun p3 => (g_X1_spread_11 FU x1 x2 x4 0 p3.1 p3.2))))
def g_X1_spread (x1 : Int32) (x2 : Int64) (x4 : Int32) (X : En) (σ : St) : Option (En × St) :=
  (g_X1_spread_b x1 x2 x4 X σ).bind fun p => gd (Nat.ble (eZ X) (eZ p.1) && Nat.ble (eY X) (eY p.1)) (some p)
def g_X1_alike_92 (k24 : Int32 → Int32 → Int32 → Int32 → En → St → Option (Int64 × En × St)) (x1 : Int32) (x2 : Int32) (x3 : Int32) (x4 : Int32) (X : En) (σ : St) : Option (Int64 × En × St) :=
  (k24 x1 x2 x3 (x4 + 1) X σ)
def g_X1_alike_86 (k24 : Int32 → Int32 → Int32 → Int32 → En → St → Option (Int64 × En × St)) (k67 : Int32 → Int32 → Int32 → Int32 → Int32 → En → St → Option (Int64 × En × St)) (x1 : Int32) (x2 : Int32) (x3 : Int32) (x4 : Int32) (x5 : Int32) (X : En) (σ : St) : Option (Int64 × En × St) :=
  (k67 x1 x2 x3 x4 (x5 + 1) X σ)
def g_X1_alike_67 (k24 : Int32 → Int32 → Int32 → Int32 → En → St → Option (Int64 × En × St)) : Nat → Int32 → Int32 → Int32 → Int32 → Int32 → En → St → Option (Int64 × En × St)
  | 0, _, _, _, _, _, _, _ => none
  | n + 1, x1, x2, x3, x4, x5, X, σ =>
    (if x2 ≤ x5 then
 (g_X1_alike_92 k24 x1 x2 x3 x4 X σ)
 else
 ((gR σ 15 1).bind fun b12 => (gd (rk (mk X) b12 21) (gd (inb x5 (eL (mk X) b12)) (gd (inb x5 (eL (mk X) b12)) (g_X1_alike_86 k24 (g_X1_alike_67 k24 n) x1 x2 x3 x4 x5 X (sJ σ b12 x5.toNatClampNeg ((gJ σ b12 x5.toNatClampNeg) * 100))))))))
def g_X1_alike_24 : Nat → Int32 → Int32 → Int32 → Int32 → En → St → Option (Int64 × En × St)
  | 0, _, _, _, _, _, _ => none
  | n + 1, x1, x2, x3, x4, X, σ =>
    (if (9 : Int32) ≤ x4 then
 ((gR σ 15 1).bind fun b8 => (gd (rk (mk X) b8 21) (gd (nzI x2) (gd (inb (rmI x1 x2) (eL (mk X) b8)) (some ((gJ σ b8 (rmI x1 x2).toNatClampNeg), X, σ))))))
 else
 (if x3 < x4 then
 (g_X1_alike_67 (g_X1_alike_24 n) FU x1 x2 x3 x4 0 X σ)
 else
 ((f_X9_digitOf x1.toInt64 x4 σ).bind fun p17 => (gd (inb x4 13) (gd (nzJ x2.toInt64) ((g_X1_spread (10 * p17.1) (rmJ (tens x4.toNatClampNeg) x2.toInt64) x2 X p17.2).bind fun p20 => (g_X1_alike_92 (g_X1_alike_24 n) x1 x2 x3 x4 p20.1 p20.2)))))))
def g_X1_alike_b (x1 : Int32) (x2 : Int32) (X : En) (σ : St) : Option (Int64 × En × St) :=
  ((gR σ 15 1).bind fun b1 => (gd (rk (mk X) b1 21) ((g_J7_fill_d0a16 b1 0 X σ).bind fun p3 => ((gR p3.2 15 1).bind fun b4 => (gd (rk (mk p3.1) b4 21) (gd (inb 0 (eL (mk p3.1) b4)) ((f_X9_topPlace x1.toInt64 (sJ p3.2 b4 (0 : Int32).toNatClampNeg 1)).bind fun p7 => (g_X1_alike_24 FU x1 x2 p7.1 0 p3.1 p7.2))))))))
def g_X1_alike (x1 : Int32) (x2 : Int32) (X : En) (σ : St) : Option (Int64 × En × St) :=
  (g_X1_alike_b x1 x2 X σ).bind fun p => gd (Nat.ble (eZ X) (eZ p.2.1) && Nat.ble (eY X) (eY p.2.1)) (some p)
def g_X1_missed_b (x1 : Int32) (x2 : Int32) (X : En) (σ : St) : Option (Int32 × En × St) :=
  ((g_X1_alike x1 x2 X σ).bind fun p1 => ((f_X1_likely x1 x1.toInt64 p1.2.2).bind fun p2 => (gd (nzJ 1000000000000) (some (((p1.1 - p2.1) / 1000000000000).toInt32, p1.2.1, p2.2)))))
def g_X1_missed (x1 : Int32) (x2 : Int32) (X : En) (σ : St) : Option (Int32 × En × St) :=
  (g_X1_missed_b x1 x2 X σ).bind fun p => gd (Nat.ble (eZ X) (eZ p.2.1) && Nat.ble (eY X) (eY p.2.1)) (some p)
def g_X9_miss_19 (X : En) (σ : St) : Option (Int32 × En × St) :=
  (some ((-1), X, σ))
def g_X9_miss_46 (y0 : Int32) (X : En) (σ : St) : Option (Int32 × En × St) :=
  (some (y0, X, σ))
def g_X9_miss_21 (x1 : Int32) (x2 : Int32) (X : En) (σ : St) : Option (Int32 × En × St) :=
  (if x2 = (-1) then
 ((f_X1_wrong x1 σ).bind fun p3 => (g_X9_miss_46 p3.1 X p3.2))
 else
 ((g_X1_missed x1 x2 X σ).bind fun p2 => (g_X9_miss_46 p2.1 p2.2.1 p2.2.2)))
def g_X9_miss_b (x1 : Int32) (x2 : Int32) (X : En) (σ : St) : Option (Int32 × En × St) :=
  ((f_X9_isNumber x1 σ).bind fun p1 => (if p1.1 = 0 then
 (g_X9_miss_19 X p1.2)
 else
 (if x2 = (-1) then
 (g_X9_miss_21 x1 x2 X p1.2)
 else
 ((f_X9_isBell x2 p1.2).bind fun p5 => (if p5.1 = 0 then
 (g_X9_miss_19 X p5.2)
 else
 (g_X9_miss_21 x1 x2 X p5.2))))))
def g_X9_miss (x1 : Int32) (x2 : Int32) (X : En) (σ : St) : Option (Int32 × En × St) :=
  (g_X9_miss_b x1 x2 X σ).bind fun p => gd (Nat.ble (eZ X) (eZ p.2.1) && Nat.ble (eY X) (eY p.2.1)) (some p)
def g_X9_safest_14 (X : En) (σ : St) : Option (Int32 × En × St) :=
  (some ((-1), X, σ))
def g_X9_safest_75 (x3 : Int32) (X : En) (σ : St) : Option (Int32 × En × St) :=
  (some (x3, X, σ))
def g_X9_safest_69 (k32 : Int32 → Int32 → Int32 → Int32 → Int32 → En → St → Option (Int32 × En × St)) (x1 : Int32) (x2 : Int32) (x3 : Int32) (x4 : Int32) (x5 : Int32) (X : En) (σ : St) : Option (Int32 × En × St) :=
  (k32 x1 x2 x3 x4 (x5 + 1) X σ)
def g_X9_safest_32 : Nat → Int32 → Int32 → Int32 → Int32 → Int32 → En → St → Option (Int32 × En × St)
  | 0, _, _, _, _, _, _, _ => none
  | n + 1, x1, x2, x3, x4, x5, X, σ =>
    (if x2 < x5 then
 (g_X9_safest_75 x3 X σ)
 else
 (if x4 ≤ 0 then
 (g_X9_safest_75 x3 X σ)
 else
 ((g_X1_missed x1 x5 X σ).bind fun p4 => (if x4 ≤ p4.1 then
 (g_X9_safest_69 (g_X9_safest_32 n) x1 x2 x3 x4 x5 p4.2.1 p4.2.2)
 else
 (g_X9_safest_69 (g_X9_safest_32 n) x1 x2 x5 p4.1 x5 p4.2.1 p4.2.2)))))
def g_X9_safest_b (x1 : Int32) (x2 : Int32) (X : En) (σ : St) : Option (Int32 × En × St) :=
  ((f_X9_isNumber x1 σ).bind fun p1 => (if p1.1 = 0 then
 (g_X9_safest_14 X p1.2)
 else
 ((f_X9_isBell x2 p1.2).bind fun p2 => (if p2.1 = 0 then
 (g_X9_safest_14 X p2.2)
 else
 ((g_X1_missed x1 2 X p2.2).bind fun p3 => (g_X9_safest_32 FU x1 x2 2 p3.1 3 p3.2.1 p3.2.2))))))
def g_X9_safest (x1 : Int32) (x2 : Int32) (X : En) (σ : St) : Option (Int32 × En × St) :=
  (g_X9_safest_b x1 x2 X σ).bind fun p => gd (Nat.ble (eZ X) (eZ p.2.1) && Nat.ble (eY X) (eY p.2.1)) (some p)
def g_X3_walksBy_49 (x4 : Int32) (y0 : Int32) (X : En) (σ : St) : Option (Int32 × En × St) :=
  (some ((((gI σ 5 7) - x4) + y0), X, σ))
def g_X3_walksBy_6 (x2 : Int32) (x3 : Int32) (x4 : Int32) (X : En) (σ : St) : Option (Int32 × En × St) :=
  ((f_X3_sumOf x2 σ).bind fun p1 => ((f_X7_standFor 5 p1.1 p1.2).bind fun p2 => (gd (inb x3 8) ((f_X7_bring_n 5 (gI p2 20 x3.toNatClampNeg) 0 0 p2).bind fun p4 => (mR (gR p4 19 2) (g_X3_walksBy_49 x4 0 X p4) (fun b5 => gd (rk (mk X) b5 20) (mR (gR p4 19 2) (none) (fun b7 => gd (rk (mk X) b7 20) (gd (inb (x2 ||| (shlI 1 x3)) (eL (mk X) b7)) (g_X3_walksBy_49 x4 (gI p4 b7 (x2 ||| (shlI 1 x3)).toNatClampNeg) X p4))))))))))
def g_X3_walksBy_b (x2 : Int32) (x3 : Int32) (X : En) (σ : St) : Option (Int32 × En × St) :=
  (g_X3_walksBy_6 x2 x3 (gI σ 5 7) X σ)
def g_X3_walksBy (x2 : Int32) (x3 : Int32) (X : En) (σ : St) : Option (Int32 × En × St) :=
  (g_X3_walksBy_b x2 x3 X σ).bind fun p => gd (Nat.ble (eZ X) (eZ p.2.1) && Nat.ble (eY X) (eY p.2.1)) (some p)
def g_X3_weigh_88 (k47 : Int32 → En → St → Option (En × St)) (k57 : Int32 → Int32 → Int32 → En → St → Option (En × St)) (x2 : Int32) (x3 : Int32) (x4 : Int32) (X : En) (σ : St) : Option (En × St) :=
  (k57 x2 x3 (x4 + 1) X σ)
def g_X3_weigh_57 (k47 : Int32 → En → St → Option (En × St)) : Nat → Int32 → Int32 → Int32 → En → St → Option (En × St)
  | 0, _, _, _, _, _ => none
  | n + 1, x2, x3, x4, X, σ =>
    (if (gI σ 19 1) ≤ x4 then
 (mR (gR σ 19 2) (none) (fun b8 => gd (rk (mk X) b8 20) (gd (inb x2 (eL (mk X) b8)) (k47 (x2 + (-1)) X (sI σ b8 x2.toNatClampNeg x3)))))
 else
 ((f_X9_hasBit x2 x4 σ).bind fun p11 => (if p11.1 = 0 then
 ((g_X3_walksBy x2 x4 X p11.2).bind fun p12 => (g_X3_weigh_88 k47 (g_X3_weigh_57 k47 n) x2 (mnI x3 p12.1) x4 p12.2.1 p12.2.2))
 else
 (g_X3_weigh_88 k47 (g_X3_weigh_57 k47 n) x2 x3 x4 X p11.2))))
def g_X3_weigh_47 : Nat → Int32 → En → St → Option (En × St)
  | 0, _, _, _ => none
  | n + 1, x2, X, σ =>
    (if x2 < 0 then
 (some (X, (sI σ 19 3 (gI σ 19 1))))
 else
 (g_X3_weigh_57 (g_X3_weigh_47 n) FU x2 2147483647 0 X σ))
def g_X3_weigh_28 (X : En) (σ : St) : Option (En × St) :=
  (mR (gR σ 19 2) (none) (fun b3 => gd (rk (mk X) b3 20) ((f_X3_sets σ).bind fun p5 => (gd (inb (p5.1 - 1) (eL (mk X) b3)) ((f_X3_sets (sI p5.2 b3 (p5.1 - 1).toNatClampNeg 0)).bind fun p7 => (g_X3_weigh_47 FU (p7.1 - 2) X p7.2))))))
def g_X3_weigh_b (X : En) (σ : St) : Option (En × St) :=
  (if (gI σ 19 3) = (gI σ 19 1) then
 (some (X, σ))
 else
 (mR (gR σ 19 2) (gd (Nat.ble 72 (eZ X)) (mkA X σ 20 256 fun t17 Y18 τ19 => gd (rk (mk Y18) t17 20) (g_X3_weigh_28 Y18 (sR τ19 19 2 (some t17))))) (fun b1 => gd (rk (mk X) b1 20) (g_X3_weigh_28 X σ))))
def g_X3_weigh (X : En) (σ : St) : Option (En × St) :=
  (g_X3_weigh_b X σ).bind fun p => gd (Nat.ble (eZ X) (eZ p.1) && Nat.ble (eY X) (eY p.1)) (some p)
def g_X3_fewestWalks_17 (y0 : Int32) (X : En) (σ : St) : Option (Int32 × En × St) :=
  (some (y0, X, σ))
def g_X3_fewestWalks_b (X : En) (σ : St) : Option (Int32 × En × St) :=
  (mR (gR σ 19 2) (g_X3_fewestWalks_17 0 X σ) (fun b1 => gd (rk (mk X) b1 20) (mR (gR σ 19 2) (none) (fun b3 => gd (rk (mk X) b3 20) (gd (inb 0 (eL (mk X) b3)) (g_X3_fewestWalks_17 (gI σ b3 (0 : Int32).toNatClampNeg) X σ))))))
def g_X3_fewestWalks (X : En) (σ : St) : Option (Int32 × En × St) :=
  (g_X3_fewestWalks_b X σ).bind fun p => gd (Nat.ble (eZ X) (eZ p.2.1) && Nat.ble (eY X) (eY p.2.1)) (some p)
def g_X3_firstBehind_43 (k2 : Int32 → Int32 → En → St → Option (Int32 × En × St)) (x2 : Int32) (x3 : Int32) (X : En) (σ : St) : Option (Int32 × En × St) :=
  (k2 x2 (x3 + 1) X σ)
def g_X3_firstBehind_2 : Nat → Int32 → Int32 → En → St → Option (Int32 × En × St)
  | 0, _, _, _, _ => none
  | n + 1, x2, x3, X, σ =>
    (if (gI σ 19 1) ≤ x3 then
 (some ((-1), X, σ))
 else
 ((f_X9_hasBit x2 x3 σ).bind fun p1 => (if p1.1 = 0 then
 (mR (gR p1.2 19 2) (g_X3_firstBehind_43 (g_X3_firstBehind_2 n) x2 x3 X p1.2) (fun b2 => gd (rk (mk X) b2 20) ((g_X3_walksBy x2 x3 X p1.2).bind fun p4 => (mR (gR p4.2.2 19 2) (none) (fun b5 => gd (rk (mk p4.2.1) b5 20) (gd (inb x2 (eL (mk p4.2.1) b5)) (if p4.1 = (gI p4.2.2 b5 x2.toNatClampNeg) then
 (some (x3, p4.2.1, p4.2.2))
 else
 (g_X3_firstBehind_43 (g_X3_firstBehind_2 n) x2 x3 p4.2.1 p4.2.2))))))))
 else
 (g_X3_firstBehind_43 (g_X3_firstBehind_2 n) x2 x3 X p1.2))))
def g_X3_firstBehind_b (x2 : Int32) (X : En) (σ : St) : Option (Int32 × En × St) :=
  (g_X3_firstBehind_2 FU x2 0 X σ)
def g_X3_firstBehind (x2 : Int32) (X : En) (σ : St) : Option (Int32 × En × St) :=
  (g_X3_firstBehind_b x2 X σ).bind fun p => gd (Nat.ble (eZ X) (eZ p.2.1) && Nat.ble (eY X) (eY p.2.1)) (some p)
def g_X3_comesAt_52 (x4 : Int32) (X : En) (σ : St) : Option (Int32 × En × St) :=
  (some (x4, X, σ))
def g_X3_comesAt_46 (k8 : Int32 → Int32 → Int32 → Int32 → En → St → Option (Int32 × En × St)) (x2 : Int32) (x3 : Int32) (x4 : Int32) (x5 : Int32) (X : En) (σ : St) : Option (Int32 × En × St) :=
  (k8 x2 x3 x4 (x5 + 1) X σ)
def g_X3_comesAt_8 : Nat → Int32 → Int32 → Int32 → Int32 → En → St → Option (Int32 × En × St)
  | 0, _, _, _, _, _, _ => none
  | n + 1, x2, x3, x4, x5, X, σ =>
    (if x2 < x5 then
 (g_X3_comesAt_52 x4 X σ)
 else
 (if (gI σ 19 1) ≤ x5 then
 (g_X3_comesAt_52 x4 X σ)
 else
 ((g_X3_firstBehind x3 X σ).bind fun p1 => (if p1.1 = (-1) then
 (some ((-1), p1.2.1, p1.2.2))
 else
 (g_X3_comesAt_46 (g_X3_comesAt_8 n) x2 (x3 ||| (shlI 1 p1.1)) p1.1 x5 p1.2.1 p1.2.2)))))
def g_X3_comesAt_b (x2 : Int32) (X : En) (σ : St) : Option (Int32 × En × St) :=
  (g_X3_comesAt_8 FU x2 0 (-1) 0 X σ)
def g_X3_comesAt (x2 : Int32) (X : En) (σ : St) : Option (Int32 × En × St) :=
  (g_X3_comesAt_b x2 X σ).bind fun p => gd (Nat.ble (eZ X) (eZ p.2.1) && Nat.ble (eY X) (eY p.2.1)) (some p)
def g_X9_fewest_26 (X : En) (σ : St) : Option (Int32 × En × St) :=
  (some ((-2), X, σ))
def g_X9_fewest_99 (y0 : Int32) (X : En) (σ : St) : Option (Int32 × En × St) :=
  (some (y0, X, σ))
def g_X9_fewest_b (x1 : Int32) (X : En) (σ : St) : Option (Int32 × En × St) :=
  (if (gI σ 19 1) = 0 then
 (g_X9_fewest_26 X σ)
 else
 (if x1 < (-1) then
 (g_X9_fewest_26 X σ)
 else
 (if x1 ≤ (gI σ 19 1) then
 ((f_X7_clear 5 (gI σ 1 0) σ).bind fun p1 => (if x1 = (-1) then
 ((f_X3_walksAsTold 5 p1).bind fun p6 => (some (p6.1, X, p6.2)))
 else
 ((g_X3_weigh X p1).bind fun p2 => (if x1 = 0 then
 ((g_X3_fewestWalks p2.1 p2.2).bind fun p4 => (g_X9_fewest_99 p4.1 p4.2.1 p4.2.2))
 else
 ((g_X3_comesAt (x1 - 1) p2.1 p2.2).bind fun p3 => (g_X9_fewest_99 p3.1 p3.2.1 p3.2.2))))))
 else
 (g_X9_fewest_26 X σ))))
def g_X9_fewest (x1 : Int32) (X : En) (σ : St) : Option (Int32 × En × St) :=
  (g_X9_fewest_b x1 X σ).bind fun p => gd (Nat.ble (eZ X) (eZ p.2.1) && Nat.ble (eY X) (eY p.2.1)) (some p)
def g_X8_init_b (o : Nat) (X : En) (σ : St) : Option (En × St) :=
  (gd (rk (mk X) o 9) (gd (Nat.ble 72 (eZ X)) (mkA X σ 20 5 fun t1 Y2 τ3 => gd (rk (mk Y2) o 9) (gd (rk (mk Y2) t1 20) (gd (Nat.ble 72 o) (ptS Y2 o 0 t1 fun Y5 => gd (rk (mk Y5) o 9) (gd (Nat.ble 72 (eZ Y5)) (mkA Y5 τ3 20 594 fun t7 Y8 τ9 => gd (rk (mk Y8) o 9) (gd (rk (mk Y8) t7 20) (gd (Nat.ble 72 o) (ptS Y8 o 1 t7 fun Y11 => gd (rk (mk Y11) o 9) (some (Y11, (sI τ9 o 3 1))))))))))))))
def g_X8_init (o : Nat) (X : En) (σ : St) : Option (En × St) :=
  (g_X8_init_b o X σ).bind fun p => gd (Nat.ble (eZ X) (eZ p.1) && Nat.ble (eY X) (eY p.1)) (some p)
def g_X8_restOf_b (o : Nat) (x1 : Int64) (X : En) (σ : St) : Option (Int32 × En × St) :=
  (gd (rk (mk X) o 9) ((f_J9_floorMod_f86c9 x1 ((gI σ o 3).toInt64) σ).bind fun p1 => (some (p1.1.toInt32, X, p1.2))))
def g_X8_restOf (o : Nat) (x1 : Int64) (X : En) (σ : St) : Option (Int32 × En × St) :=
  (g_X8_restOf_b o x1 X σ).bind fun p => gd (Nat.ble (eZ X) (eZ p.2.1) && Nat.ble (eY X) (eY p.2.1)) (some p)
def g_X8_countWays_121 (o : Nat) (k17 : Int32 → En → St → Option (En × St)) (k27 : Int32 → Int32 → En → St → Option (En × St)) (k54 : Int32 → Int32 → Int32 → Int32 → En → St → Option (En × St)) (x1 : Int32) (x2 : Int32) (x3 : Int32) (x4 : Int32) (X : En) (σ : St) : Option (En × St) :=
  (gd (rk (mk X) o 9) (k54 x1 x2 x3 (x4 + 1) X σ))
def g_X8_countWays_90 (o : Nat) (k17 : Int32 → En → St → Option (En × St)) (k27 : Int32 → Int32 → En → St → Option (En × St)) (k54 : Int32 → Int32 → Int32 → Int32 → En → St → Option (En × St)) (x1 : Int32) (x2 : Int32) (x3 : Int32) (x4 : Int32) (y0 : Int32) (X : En) (σ : St) : Option (En × St) :=
  (gd (rk (mk X) o 9) ((eS (mk X) o 1).bind fun b12 => (gd (rk (mk X) b12 20) (gd (inb (((x1 + 1) * 99) + y0) (eL (mk X) b12)) ((eS (mk X) o 1).bind fun b15 => (gd (rk (mk X) b15 20) (gd (inb ((x1 * 99) + x4) (eL (mk X) b15)) (gd (inb (((x1 + 1) * 99) + y0) (eL (mk X) b12)) (g_X8_countWays_121 o k17 k27 k54 x1 x2 x3 x4 X (sI σ b12 (((x1 + 1) * 99) + y0).toNatClampNeg ((gI σ b12 (((x1 + 1) * 99) + y0).toNatClampNeg) + (gI σ b15 ((x1 * 99) + x4).toNatClampNeg))))))))))))
def g_X8_countWays_54 (o : Nat) (k17 : Int32 → En → St → Option (En × St)) (k27 : Int32 → Int32 → En → St → Option (En × St)) : Nat → Int32 → Int32 → Int32 → Int32 → En → St → Option (En × St)
  | 0, _, _, _, _, _, _ => none
  | n + 1, x1, x2, x3, x4, X, σ =>
    (gd (rk (mk X) o 9) (if (gI σ o 3) ≤ x4 then
 (k27 x1 (x2 + 1) X σ)
 else
 (if (gI σ o 3) ≤ (x4 + x3) then
 (g_X8_countWays_90 o k17 k27 (g_X8_countWays_54 o k17 k27 n) x1 x2 x3 x4 ((x4 + x3) - (gI σ o 3)) X σ)
 else
 (g_X8_countWays_90 o k17 k27 (g_X8_countWays_54 o k17 k27 n) x1 x2 x3 x4 (x4 + x3) X σ))))
def g_X8_countWays_27 (o : Nat) (k17 : Int32 → En → St → Option (En × St)) : Nat → Int32 → Int32 → En → St → Option (En × St)
  | 0, _, _, _, _ => none
  | n + 1, x1, x2, X, σ =>
    (gd (rk (mk X) o 9) (if (9 : Int32) < x2 then
 (k17 (x1 + 1) X σ)
 else
 ((eS (mk X) o 0).bind fun b7 => (gd (rk (mk X) b7 20) (gd (inb x1 (eL (mk X) b7)) (gd (inb (gI σ b7 x1.toNatClampNeg) 13) ((g_X8_restOf o (x2.toInt64 * (tens (gI σ b7 x1.toNatClampNeg).toNatClampNeg)) X σ).bind fun p11 => (gd (rk (mk p11.2.1) o 9) (g_X8_countWays_54 o k17 (g_X8_countWays_27 o k17 n) FU x1 x2 p11.1 0 p11.2.1 p11.2.2)))))))))
def g_X8_countWays_17 (o : Nat) : Nat → Int32 → En → St → Option (En × St)
  | 0, _, _, _ => none
  | n + 1, x1, X, σ =>
    (gd (rk (mk X) o 9) (if (gI σ o 2) ≤ x1 then
 (some (X, σ))
 else
 (g_X8_countWays_27 o (g_X8_countWays_17 o n) FU x1 0 X σ)))
def g_X8_countWays_b (o : Nat) (X : En) (σ : St) : Option (En × St) :=
  (gd (rk (mk X) o 9) ((eS (mk X) o 1).bind fun b1 => (gd (rk (mk X) b1 20) ((g_J7_fill_53178 b1 0 X σ).bind fun p3 => (gd (rk (mk p3.1) o 9) ((eS (mk p3.1) o 1).bind fun b4 => (gd (rk (mk p3.1) b4 20) (gd (inb 0 (eL (mk p3.1) b4)) (g_X8_countWays_17 o FU 0 p3.1 (sI p3.2 b4 (0 : Int32).toNatClampNeg 1))))))))))
def g_X8_countWays (o : Nat) (X : En) (σ : St) : Option (En × St) :=
  (g_X8_countWays_b o X σ).bind fun p => gd (Nat.ble (eZ X) (eZ p.1) && Nat.ble (eY X) (eY p.1)) (some p)
def g_X8_look_94 (o : Nat) (k26 : Int32 → En → St → Option (En × St)) (x3 : Int32) (X : En) (σ : St) : Option (En × St) :=
  (gd (rk (mk X) o 9) (k26 (x3 + 1) X σ))
def g_X8_look_26 (o : Nat) : Nat → Int32 → En → St → Option (En × St)
  | 0, _, _, _ => none
  | n + 1, x3, X, σ =>
    (gd (rk (mk X) o 9) (if (gI σ 1 0) ≤ x3 then
 ((g_X8_countWays o X σ).bind fun p1 => (gd (rk (mk p1.1) o 9) (some (p1.1, p1.2))))
 else
 ((f_X7_isFoggy 1 x3 σ).bind fun p2 => (if p2.1 = 0 then
 ((f_X7_seen 1 x3 p2.2).bind fun p7 => (gd (inb x3 13) (g_X8_look_94 o (g_X8_look_26 o n) x3 X (sJ p7.2 o 4 ((gJ p2.2 o 4) + (p7.1.toInt64 * (tens x3.toNatClampNeg)))))))
 else
 (if (5 : Int32) ≤ (gI p2.2 o 2) then
 (g_X8_look_94 o (g_X8_look_26 o n) x3 X p2.2)
 else
 ((eS (mk X) o 0).bind fun b3 => (gd (rk (mk X) b3 20) (gd (inb (gI p2.2 o 2) (eL (mk X) b3)) (g_X8_look_94 o (g_X8_look_26 o n) x3 X (sI (sI p2.2 b3 (gI p2.2 o 2).toNatClampNeg x3) o 2 ((gI (sI p2.2 b3 (gI p2.2 o 2).toNatClampNeg x3) o 2) + 1)))))))))))
def g_X8_look_b (o : Nat) (x2 : Int32) (X : En) (σ : St) : Option (En × St) :=
  (gd (rk (mk X) o 9) (g_X8_look_26 o FU 0 X (sJ (sI (sI σ o 3 (mxI 1 (mnI 99 x2))) o 2 0) o 4 0)))
def g_X8_look (o : Nat) (x2 : Int32) (X : En) (σ : St) : Option (En × St) :=
  (g_X8_look_b o x2 X σ).bind fun p => gd (Nat.ble (eZ X) (eZ p.1) && Nat.ble (eY X) (eY p.1)) (some p)
def g_X8_howMany_b (o : Nat) (x1 : Int32) (X : En) (σ : St) : Option (Int32 × En × St) :=
  (gd (rk (mk X) o 9) ((eS (mk X) o 1).bind fun b1 => (gd (rk (mk X) b1 20) ((g_X8_restOf o (x1.toInt64 - (gJ σ o 4)) X σ).bind fun p3 => (gd (rk (mk p3.2.1) o 9) (gd (rk (mk p3.2.1) b1 20) (gd (inb (((gI σ o 2) * 99) + p3.1) (eL (mk p3.2.1) b1)) (some ((gI p3.2.2 b1 (((gI σ o 2) * 99) + p3.1).toNatClampNeg), p3.2.1, p3.2.2)))))))))
def g_X8_howMany (o : Nat) (x1 : Int32) (X : En) (σ : St) : Option (Int32 × En × St) :=
  (g_X8_howMany_b o x1 X σ).bind fun p => gd (Nat.ble (eZ X) (eZ p.2.1) && Nat.ble (eY X) (eY p.2.1)) (some p)
def g_X8_outermost_118 (o : Nat) (k13 : Int32 → Int32 → Int64 → Int32 → En → St → Option (Int64 × En × St)) (x1 : Int32) (x2 : Int32) (x3 : Int64) (x5 : Int32) (X : En) (σ : St) : Option (Int64 × En × St) :=
  (gd (rk (mk X) o 9) (k13 x1 x2 x3 (x5 + (-1)) X σ))
def g_X8_outermost_105 (o : Nat) (k13 : Int32 → Int32 → Int64 → Int32 → En → St → Option (Int64 × En × St)) (x1 : Int32) (x2 : Int32) (x3 : Int64) (x5 : Int32) (x6 : Int64) (x8 : Int32) (X : En) (σ : St) : Option (Int64 × En × St) :=
  (gd (rk (mk X) o 9) (g_X8_outermost_118 o k13 x1 x2 (x3 + (((mxI x8 0).toInt64) * x6)) x5 X σ))
def g_X8_outermost_99 (o : Nat) (k13 : Int32 → Int32 → Int64 → Int32 → En → St → Option (Int64 × En × St)) (k37 : Int32 → Int32 → Int64 → Int32 → Int64 → Int32 → Int32 → En → St → Option (Int64 × En × St)) (x1 : Int32) (x2 : Int32) (x3 : Int64) (x5 : Int32) (x6 : Int64) (x8 : Int32) (x9 : Int32) (X : En) (σ : St) : Option (Int64 × En × St) :=
  (gd (rk (mk X) o 9) (k37 x1 x2 x3 x5 x6 x8 (x9 + 1) X σ))
def g_X8_outermost_64 (o : Nat) (k13 : Int32 → Int32 → Int64 → Int32 → En → St → Option (Int64 × En × St)) (k37 : Int32 → Int32 → Int64 → Int32 → Int64 → Int32 → Int32 → En → St → Option (Int64 × En × St)) (x1 : Int32) (x2 : Int32) (x3 : Int64) (x5 : Int32) (x6 : Int64) (x8 : Int32) (x9 : Int32) (y0 : Int32) (X : En) (σ : St) : Option (Int64 × En × St) :=
  (gd (rk (mk X) o 9) ((eS (mk X) o 1).bind fun b5 => (gd (rk (mk X) b5 20) ((g_X8_restOf o ((x1.toInt64 - x3) - (y0.toInt64 * x6)) X σ).bind fun p7 => (gd (rk (mk p7.2.1) o 9) (gd (rk (mk p7.2.1) b5 20) (gd (inb ((x5 * 99) + p7.1) (eL (mk p7.2.1) b5)) (if (gI p7.2.2 b5 ((x5 * 99) + p7.1).toNatClampNeg) ≤ 0 then
 (g_X8_outermost_99 o k13 k37 x1 x2 x3 x5 x6 x8 x9 p7.2.1 p7.2.2)
 else
 (g_X8_outermost_99 o k13 k37 x1 x2 x3 x5 x6 y0 x9 p7.2.1 p7.2.2)))))))))
def g_X8_outermost_37 (o : Nat) (k13 : Int32 → Int32 → Int64 → Int32 → En → St → Option (Int64 × En × St)) : Nat → Int32 → Int32 → Int64 → Int32 → Int64 → Int32 → Int32 → En → St → Option (Int64 × En × St)
  | 0, _, _, _, _, _, _, _, _, _ => none
  | n + 1, x1, x2, x3, x5, x6, x8, x9, X, σ =>
    (gd (rk (mk X) o 9) (if (9 : Int32) < x9 then
 (g_X8_outermost_105 o k13 x1 x2 x3 x5 x6 x8 X σ)
 else
 (if x8 = (-1) then
 (if x2 = 0 then
 (g_X8_outermost_64 o k13 (g_X8_outermost_37 o k13 n) x1 x2 x3 x5 x6 x8 x9 x9 X σ)
 else
 (g_X8_outermost_64 o k13 (g_X8_outermost_37 o k13 n) x1 x2 x3 x5 x6 x8 x9 (9 - x9) X σ))
 else
 (g_X8_outermost_105 o k13 x1 x2 x3 x5 x6 x8 X σ))))
def g_X8_outermost_31 (o : Nat) (k13 : Int32 → Int32 → Int64 → Int32 → En → St → Option (Int64 × En × St)) (x1 : Int32) (x2 : Int32) (x3 : Int64) (x5 : Int32) (x6 : Int64) (X : En) (σ : St) : Option (Int64 × En × St) :=
  (gd (rk (mk X) o 9) (g_X8_outermost_37 o k13 FU x1 x2 x3 x5 x6 (-1) 0 X σ))
def g_X8_outermost_13 (o : Nat) : Nat → Int32 → Int32 → Int64 → Int32 → En → St → Option (Int64 × En × St)
  | 0, _, _, _, _, _, _ => none
  | n + 1, x1, x2, x3, x5, X, σ =>
    (gd (rk (mk X) o 9) (if x5 < 0 then
 (some (x3, X, σ))
 else
 ((eS (mk X) o 0).bind fun b1 => (gd (rk (mk X) b1 20) (gd (inb x5 (eL (mk X) b1)) (gd (inb (gI σ b1 x5.toNatClampNeg) 13) (g_X8_outermost_31 o (g_X8_outermost_13 o n) x1 x2 x3 x5 (tens (gI σ b1 x5.toNatClampNeg).toNatClampNeg) X σ)))))))
def g_X8_outermost_5 (o : Nat) (x1 : Int32) (x2 : Int32) (x3 : Int64) (X : En) (σ : St) : Option (Int64 × En × St) :=
  (gd (rk (mk X) o 9) (g_X8_outermost_13 o FU x1 x2 x3 ((gI σ o 2) - 1) X σ))
def g_X8_outermost_b (o : Nat) (x1 : Int32) (x2 : Int32) (X : En) (σ : St) : Option (Int64 × En × St) :=
  (gd (rk (mk X) o 9) (g_X8_outermost_5 o x1 x2 (gJ σ o 4) X σ))
def g_X8_outermost (o : Nat) (x1 : Int32) (x2 : Int32) (X : En) (σ : St) : Option (Int64 × En × St) :=
  (g_X8_outermost_b o x1 x2 X σ).bind fun p => gd (Nat.ble (eZ X) (eZ p.2.1) && Nat.ble (eY X) (eY p.2.1)) (some p)
def g_X9_span_17 (X : En) (σ : St) : Option (Int64 × En × St) :=
  (some ((-1), X, σ))
def g_X9_span_98 (y0 : Int64) (X : En) (σ : St) : Option (Int64 × En × St) :=
  (some (y0, X, σ))
def g_X9_span_95 (w2 : Nat) (y0 : Int32) (y1 : Int32) (X : En) (σ : St) : Option (Int64 × En × St) :=
  (gd (rk (mk X) w2 9) ((g_X8_outermost w2 y1 y0 X σ).bind fun p12 => (g_X9_span_98 p12.1 p12.2.1 p12.2.2)))
def g_X9_span_39 (x1 : Int32) (x2 : Int32) (x3 : Int32) (X : En) (σ : St) : Option (Int64 × En × St) :=
  (mR (gR σ 0 12) (none) (fun b4 => gd (rk (mk X) b4 9) ((g_X8_look b4 x1 X σ).bind fun p6 => (mR (gR p6.2 0 12) (none) (fun b7 => gd (rk (mk p6.1) b7 9) ((g_X8_howMany b7 x2 p6.1 p6.2).bind fun p9 => (if x3 = 0 then
 (some (p9.1.toInt64, p9.2.1, p9.2.2))
 else
 (if p9.1 = 0 then
 (g_X9_span_98 (-1) p9.2.1 p9.2.2)
 else
 (mR (gR p9.2.2 0 12) (none) (fun b10 => gd (rk (mk p9.2.1) b10 9) (if x3 = 2 then
 (g_X9_span_95 b10 1 x2 p9.2.1 p9.2.2)
 else
 (g_X9_span_95 b10 0 x2 p9.2.1 p9.2.2))))))))))))
def g_X9_span_b (x1 : Int32) (x2 : Int32) (x3 : Int32) (X : En) (σ : St) : Option (Int64 × En × St) :=
  ((f_X9_isRest x1 x2 σ).bind fun p1 => (if p1.1 = 0 then
 (g_X9_span_17 X p1.2)
 else
 (if x3 < 0 then
 (g_X9_span_17 X p1.2)
 else
 (if x3 ≤ 2 then
 (mR (gR p1.2 0 12) (gd (Nat.ble 72 (eZ X)) (mkO X p1.2 9 5 fun t18 Y19 τ20 => gd (rk (mk Y19) t18 9) ((g_X8_init t18 Y19 τ20).bind fun p22 => (gd (rk (mk p22.1) t18 9) (g_X9_span_39 x1 x2 x3 p22.1 (sR p22.2 0 12 (some t18))))))) (fun b2 => gd (rk (mk X) b2 9) (g_X9_span_39 x1 x2 x3 X p1.2)))
 else
 (g_X9_span_17 X p1.2)))))
def g_X9_span (x1 : Int32) (x2 : Int32) (x3 : Int32) (X : En) (σ : St) : Option (Int64 × En × St) :=
  (g_X9_span_b x1 x2 x3 X σ).bind fun p => gd (Nat.ble (eZ X) (eZ p.2.1) && Nat.ble (eY X) (eY p.2.1)) (some p)
def g_J7_copyOf_59c91_b (x1 : Int32) (X : En) (σ : St) : Option (Nat × En × St) :=
  (if x1 = 36 then
 (gd (Nat.ble 72 (eZ X)) (clA X σ 13 fun t9 Y10 τ11 => gd (rk (mk Y10) t9 20) (some (t9, Y10, τ11))))
 else
 (gd (decide (¬ x1 < 0) && Nat.ble x1.toNatClampNeg 100000) (gd (Nat.ble 72 (eZ X)) (mkA X σ 20 x1.toNatClampNeg fun t1 Y2 τ3 => gd (rk (mk Y2) t1 20) (gd (!(Nat.beq 13 t1)) (gd (decide (¬ ((mnI 36 x1) : Int32) < 0) && Nat.ble (mnI 36 x1).toNatClampNeg 36 && Nat.ble (mnI 36 x1).toNatClampNeg (eL (mk Y2) t1)) (some (t1, Y2, (cpI τ3 13 0 t1 0 (mnI 36 x1).toNatClampNeg)))))))))
def g_J7_copyOf_59c91 (x1 : Int32) (X : En) (σ : St) : Option (Nat × En × St) :=
  (g_J7_copyOf_59c91_b x1 X σ).bind fun p => gd (Nat.ble (eZ X) (eZ p.2.1) && Nat.ble (eY X) (eY p.2.1)) (some p)
def g_X4_init_b (o : Nat) (x2 : Int32) (X : En) (σ : St) : Option (En × St) :=
  (gd (rk (mk X) o 5) ((g_J7_copyOf_59c91 (x2 * 3) X (sI σ o 0 x2)).bind fun p1 => (gd (rk (mk p1.2.1) o 5) (gd (rk (mk p1.2.1) p1.1 20) (gd (Nat.ble 72 o) (ptS p1.2.1 o 1 p1.1 fun Y2 => gd (rk (mk Y2) o 5) (some (Y2, p1.2.2))))))))
def g_X4_init (o : Nat) (x2 : Int32) (X : En) (σ : St) : Option (En × St) :=
  (g_X4_init_b o x2 X σ).bind fun p => gd (Nat.ble (eZ X) (eZ p.1) && Nat.ble (eY X) (eY p.1)) (some p)
def g_X4_part_b (o : Nat) (x1 : Int32) (x2 : Int32) (X : En) (σ : St) : Option (Int32 × En × St) :=
  (gd (rk (mk X) o 5) ((eS (mk X) o 1).bind fun b1 => (gd (rk (mk X) b1 20) (gd (inb ((x1 * 3) + x2) (eL (mk X) b1)) (some ((gI σ b1 ((x1 * 3) + x2).toNatClampNeg), X, σ))))))
def g_X4_part (o : Nat) (x1 : Int32) (x2 : Int32) (X : En) (σ : St) : Option (Int32 × En × St) :=
  (g_X4_part_b o x1 x2 X σ).bind fun p => gd (Nat.ble (eZ X) (eZ p.2.1) && Nat.ble (eY X) (eY p.2.1)) (some p)
def g_X5_readStep_118 (X : En) (σ : St) : Option (Int32 × En × St) :=
  (some (1, X, σ))
def g_X5_readStep_97 (x1 : Int32) (X : En) (σ : St) : Option (Int32 × En × St) :=
  ((f_X5_isNext 120 σ).bind fun p6 => (if p6.1 = 0 then
 (g_X5_readStep_118 X p6.2)
 else
 ((f_X5_readOften (x1 + 2) p6.2).bind fun p7 => (if p7.1 = 0 then
 (some (0, X, p7.2))
 else
 (g_X5_readStep_118 X p7.2)))))
def g_X5_readStep_71 (x1 : Int32) (x2 : Int32) (X : En) (σ : St) : Option (Int32 × En × St) :=
  (gd (inb (x1 + 2) 36) (if (1 : Int32) < x2 then
 (g_X5_readStep_97 x1 X (sI σ 13 (x1 + 2).toNatClampNeg 1))
 else
 ((f_X5_readNumber (x1 + 1) (sI σ 13 (x1 + 2).toNatClampNeg 1)).bind fun p10 => (if p10.1 = 0 then
 (some (0, X, p10.2))
 else
 (g_X5_readStep_97 x1 X p10.2)))))
def g_X5_readStep_34 (x1 : Int32) (y0 : Int32) (X : En) (σ : St) : Option (Int32 × En × St) :=
  (if (0 : Int32) ≤ y0 then
 ((f_X5_skipBlanks (sI σ 11 4 ((gI σ 11 4) + 1))).bind fun p2 => (gd (inb x1 36) (gd (inb (x1 + 1) 36) (g_X5_readStep_71 x1 y0 X (sI (sI p2 13 x1.toNatClampNeg y0) 13 (x1 + 1).toNatClampNeg 0)))))
 else
 (some (0, X, σ)))
def g_X5_readStep_b (x1 : Int32) (X : En) (σ : St) : Option (Int32 × En × St) :=
  ((f_X5_skipBlanks σ).bind fun p1 => (if (gI p1 11 1) ≤ (gI p1 11 4) then
 (g_X5_readStep_34 x1 (-1) X p1)
 else
 (gd (inb (gI p1 11 4) 160) (g_X5_readStep_34 x1 (ixo (toC (gI p1 12 (gI p1 11 4).toNatClampNeg))) X p1))))
def g_X5_readStep (x1 : Int32) (X : En) (σ : St) : Option (Int32 × En × St) :=
  (g_X5_readStep_b x1 X σ).bind fun p => gd (Nat.ble (eZ X) (eZ p.2.1) && Nat.ble (eY X) (eY p.2.1)) (some p)
def g_X5_look_50 (k10 : En → St → Option (Int32 × En × St)) (X : En) (σ : St) : Option (Int32 × En × St) :=
  ((g_X5_readStep ((gI σ 11 3) * 3) X σ).bind fun p1 => (if p1.1 = 0 then
 (some ((gI p1.2.2 11 4), p1.2.1, p1.2.2))
 else
 (if (gI p1.2.2 11 4) < (gI p1.2.2 11 1) then
 (k10 p1.2.1 (sI p1.2.2 11 3 ((gI p1.2.2 11 3) + 1)))
 else
 (some ((-1), p1.2.1, (sI p1.2.2 11 3 ((gI p1.2.2 11 3) + 1)))))))
def g_X5_look_10 : Nat → En → St → Option (Int32 × En × St)
  | 0, _, _ => none
  | n + 1, X, σ =>
    (if (12 : Int32) ≤ (gI σ 11 3) then
 (some ((gI σ 11 4), X, σ))
 else
 (if (gI σ 11 3) ≤ 0 then
 (g_X5_look_50 (g_X5_look_10 n) X σ)
 else
 ((f_X5_isNext 59 σ).bind fun p4 => (if p4.1 = 0 then
 (some ((gI p4.2 11 4), X, p4.2))
 else
 (g_X5_look_50 (g_X5_look_10 n) X (sI p4.2 11 4 ((gI p4.2 11 4) + 1)))))))
def g_X5_look_b (X : En) (σ : St) : Option (Int32 × En × St) :=
  (g_X5_look_10 FU X (sI (sI σ 11 4 0) 11 3 0))
def g_X5_look (X : En) (σ : St) : Option (Int32 × En × St) :=
  (g_X5_look_b X σ).bind fun p => gd (Nat.ble (eZ X) (eZ p.2.1) && Nat.ble (eY X) (eY p.2.1)) (some p)
def g_X9_fault_b (X : En) (σ : St) : Option (Int32 × En × St) :=
  ((g_X5_look X σ).bind fun p1 => (some (p1.1, p1.2.1, p1.2.2)))
def g_X9_fault (X : En) (σ : St) : Option (Int32 × En × St) :=
  (g_X9_fault_b X σ).bind fun p => gd (Nat.ble (eZ X) (eZ p.2.1) && Nat.ble (eY X) (eY p.2.1)) (some p)
def g_X9_text_20 (X : En) (σ : St) : Option (Int32 × En × St) :=
  (some ((-1), X, σ))
def g_X9_text_62 (X : En) (σ : St) : Option (Int32 × En × St) :=
  (some (((gI (sI σ 11 1 0) 0 7) - 1), X, (sI σ 11 1 0)))
def g_X9_text_b (X : En) (σ : St) : Option (Int32 × En × St) :=
  (if (6 : Int32) ≤ (gI σ 0 7) then
 (g_X9_text_20 X σ)
 else
 ((g_X5_look X σ).bind fun p1 => (if p1.1 = (-1) then
 (gd (Nat.ble 72 (eZ p1.2.1)) (mkO p1.2.1 p1.2.2 5 2 fun t2 Y3 τ4 => gd (rk (mk Y3) t2 5) ((g_X4_init t2 (gI τ4 11 3) Y3 τ4).bind fun p6 => (gd (rk (mk p6.1) t2 5) (gd (inb (gI p1.2.2 0 7) 6) (g_X9_text_62 p6.1 (sI (sR p6.2 14 (gI p1.2.2 0 7).toNatClampNeg (some t2)) 0 7 ((gI (sR p6.2 14 (gI p1.2.2 0 7).toNatClampNeg (some t2)) 0 7) + 1))))))))
 else
 (g_X9_text_20 p1.2.1 p1.2.2))))
def g_X9_text (X : En) (σ : St) : Option (Int32 × En × St) :=
  (g_X9_text_b X σ).bind fun p => gd (Nat.ble (eZ X) (eZ p.2.1) && Nat.ble (eY X) (eY p.2.1)) (some p)
def g_X9_sumAt_22 (z0 : Option Nat) (X : En) (σ : St) : Option (Option Nat × En × St) :=
  (some (z0, X, σ))
def g_X9_sumAt_21 (X : En) (σ : St) : Option (Option Nat × En × St) :=
  (g_X9_sumAt_22 none X σ)
def g_X9_sumAt_b (x1 : Int32) (X : En) (σ : St) : Option (Option Nat × En × St) :=
  (if x1 < 0 then
 (g_X9_sumAt_21 X σ)
 else
 (if (gI σ 0 7) ≤ x1 then
 (g_X9_sumAt_21 X σ)
 else
 (gd (inb x1 6) (g_X9_sumAt_22 (gR σ 14 x1.toNatClampNeg) X σ))))
def g_X9_sumAt (x1 : Int32) (X : En) (σ : St) : Option (Option Nat × En × St) :=
  (g_X9_sumAt_b x1 X σ).bind fun p => gd (Nat.ble (eZ X) (eZ p.2.1) && Nat.ble (eY X) (eY p.2.1)) (some p)
def g_X9_run_25 (k14 : Nat → Int32 → En → St → Option (Int32 × En × St)) : Nat → Nat → Int32 → Int32 → En → St → Option (Int32 × En × St)
  | 0, _, _, _, _, _ => none
  | n + 1, v2, x3, x4, X, σ =>
    (gd (rk (mk X) v2 5) ((g_X4_part v2 x3 2 X σ).bind fun p4 => (gd (rk (mk p4.2.1) v2 5) (if p4.1 ≤ x4 then
 (k14 v2 (x3 + 1) p4.2.1 p4.2.2)
 else
 ((g_X4_part v2 x3 0 p4.2.1 p4.2.2).bind fun p5 => (gd (rk (mk p5.2.1) v2 5) ((g_X4_part v2 x3 1 p5.2.1 p5.2.2).bind fun p6 => (gd (rk (mk p6.2.1) v2 5) ((f_X9_actOnce p5.1 p6.1 p6.2.2).bind fun p7 => (g_X9_run_25 k14 n v2 x3 (x4 + 1) p6.2.1 p7.2))))))))))
def g_X9_run_14 : Nat → Nat → Int32 → En → St → Option (Int32 × En × St)
  | 0, _, _, _, _ => none
  | n + 1, v2, x3, X, σ =>
    (gd (rk (mk X) v2 5) (if (gI σ v2 0) ≤ x3 then
 (some ((gI σ 0 13), X, σ))
 else
 (g_X9_run_25 (g_X9_run_14 n) FU v2 x3 0 X σ)))
def g_X9_run_b (x1 : Int32) (X : En) (σ : St) : Option (Int32 × En × St) :=
  ((g_X9_sumAt x1 X σ).bind fun p1 => mR p1.1 (some ((-1), p1.2.1, p1.2.2)) (fun b2 => gd (rk (mk p1.2.1) b2 5) (g_X9_run_14 FU b2 0 p1.2.1 p1.2.2)))
def g_X9_run (x1 : Int32) (X : En) (σ : St) : Option (Int32 × En × St) :=
  (g_X9_run_b x1 X σ).bind fun p => gd (Nat.ble (eZ X) (eZ p.2.1) && Nat.ble (eY X) (eY p.2.1)) (some p)
def g_X9_goThrough_12 (t : Nat) (k2 : Int32 → En → St → Option (En × St)) : Nat → Int32 → Int32 → En → St → Option (En × St)
  | 0, _, _, _, _ => none
  | n + 1, x2, x3, X, σ =>
    (gd (rk (mk X) t 5) ((g_X4_part t x2 2 X σ).bind fun p1 => (gd (rk (mk p1.2.1) t 5) (if p1.1 ≤ x3 then
 (k2 (x2 + 1) p1.2.1 p1.2.2)
 else
 ((g_X4_part t x2 0 p1.2.1 p1.2.2).bind fun p2 => (gd (rk (mk p2.2.1) t 5) ((g_X4_part t x2 1 p2.2.1 p2.2.2).bind fun p3 => (gd (rk (mk p3.2.1) t 5) ((f_X9_perform_n 5 p2.1 p3.1 p3.2.2).bind fun p4 => (g_X9_goThrough_12 t k2 n x2 (x3 + 1) p3.2.1 p4))))))))))
def g_X9_goThrough_2 (t : Nat) : Nat → Int32 → En → St → Option (En × St)
  | 0, _, _, _ => none
  | n + 1, x2, X, σ =>
    (gd (rk (mk X) t 5) (if (gI σ t 0) ≤ x2 then
 (some (X, σ))
 else
 (g_X9_goThrough_12 t (g_X9_goThrough_2 t n) FU x2 0 X σ)))
def g_X9_goThrough_b (t : Nat) (X : En) (σ : St) : Option (En × St) :=
  (gd (rk (mk X) t 5) (g_X9_goThrough_2 t FU 0 X σ))
def g_X9_goThrough (t : Nat) (X : En) (σ : St) : Option (En × St) :=
  (g_X9_goThrough_b t X σ).bind fun p => gd (Nat.ble (eZ X) (eZ p.1) && Nat.ble (eY X) (eY p.1)) (some p)
def g_X9_leastHerd_38 (self : Int32 → Int32 → Int32 → Int32 → Int32 → En → St → Option (Int32 × En × St)) (y0 : Int32) (X : En) (σ : St) : Option (Int32 × En × St) :=
  (some (y0, X, σ))
def g_X9_leastHerd_37 (self : Int32 → Int32 → Int32 → Int32 → Int32 → En → St → Option (Int32 × En × St)) (X : En) (σ : St) : Option (Int32 × En × St) :=
  (g_X9_leastHerd_38 self (-1) X σ)
def g_X9_leastHerd_20 (self : Int32 → Int32 → Int32 → Int32 → Int32 → En → St → Option (Int32 × En × St)) (x2 : Int32) (x3 : Int32) (x5 : Int32) (X : En) (σ : St) : Option (Int32 × En × St) :=
  (if x2 = 0 then
 (if (x3 &&& x5) = x5 then
 (g_X9_leastHerd_38 self 0 X σ)
 else
 (g_X9_leastHerd_37 self X σ))
 else
 (g_X9_leastHerd_37 self X σ))
def g_X9_leastHerd_10 (self : Int32 → Int32 → Int32 → Int32 → Int32 → En → St → Option (Int32 × En × St)) (x2 : Int32) (x3 : Int32) (x4 : Int32) (X : En) (σ : St) : Option (Int32 × En × St) :=
  (g_X9_leastHerd_20 self x2 x3 ((shlI 1 (x4 + 1)) - 1) X σ)
def g_X9_leastHerd_114 (self : Int32 → Int32 → Int32 → Int32 → Int32 → En → St → Option (Int32 × En × St)) (k62 : Int32 → Int32 → Int32 → Int32 → Int32 → Int32 → Int32 → En → St → Option (Int32 × En × St)) (x0 : Int32) (x1 : Int32) (x2 : Int32) (x4 : Int32) (x5 : Int32) (x6 : Int32) (x7 : Int32) (X : En) (σ : St) : Option (Int32 × En × St) :=
  (k62 x0 x1 x2 x4 x5 x6 (x7 + 1) X σ)
def g_X9_leastHerd_62 (self : Int32 → Int32 → Int32 → Int32 → Int32 → En → St → Option (Int32 × En × St)) : Nat → Int32 → Int32 → Int32 → Int32 → Int32 → Int32 → Int32 → En → St → Option (Int32 × En × St)
  | 0, _, _, _, _, _, _, _, _, _ => none
  | n + 1, x0, x1, x2, x4, x5, x6, x7, X, σ =>
    (if x5 < x7 then
 (some ((-1), X, σ))
 else
 ((self x0 (x1 + 1) (x2 - x7) x6 x4 X σ).bind fun p4 => (if p4.1 = (-1) then
 (g_X9_leastHerd_114 self (g_X9_leastHerd_62 self n) x0 x1 x2 x4 x5 ((x6 ||| (shlI x6 x1)) &&& 1023) x7 p4.2.1 p4.2.2)
 else
 (some ((x7 + (10 * p4.1)), p4.2.1, p4.2.2)))))
def g_X9_leastHerd_54 (self : Int32 → Int32 → Int32 → Int32 → Int32 → En → St → Option (Int32 × En × St)) (x0 : Int32) (x1 : Int32) (x2 : Int32) (x3 : Int32) (x4 : Int32) (y0 : Int32) (X : En) (σ : St) : Option (Int32 × En × St) :=
  (g_X9_leastHerd_62 self FU x0 x1 x2 x4 y0 x3 0 X σ)
def g_X9_leastHerd_b (self : Int32 → Int32 → Int32 → Int32 → Int32 → En → St → Option (Int32 × En × St)) (x0 : Int32) (x1 : Int32) (x2 : Int32) (x3 : Int32) (x4 : Int32) (X : En) (σ : St) : Option (Int32 × En × St) :=
  (if (9 : Int32) < x1 then
 (g_X9_leastHerd_10 self x2 x3 x4 X σ)
 else
 (if x2 = 0 then
 (g_X9_leastHerd_10 self x2 x3 x4 X σ)
 else
 ((f_X9_hasBit x0 (x1 - 1) σ).bind fun p3 => (if p3.1 = 0 then
 (g_X9_leastHerd_54 self x0 x1 x2 x3 x4 0 X p3.2)
 else
 (g_X9_leastHerd_54 self x0 x1 x2 x3 x4 x2 X p3.2)))))
def g_X9_leastHerd : Nat → Int32 → Int32 → Int32 → Int32 → Int32 → En → St → Option (Int32 × En × St)
  | 0, _, _, _, _, _, _, _ => none
  | n + 1, x0, x1, x2, x3, x4, X, σ => (g_X9_leastHerd_b (g_X9_leastHerd n) x0 x1 x2 x3 x4 X σ).bind fun p => gd (Nat.ble (eZ X) (eZ p.2.1) && Nat.ble (eY X) (eY p.2.1)) (some p)
def g_X9_all_32 (X : En) (σ : St) : Option (Int32 × En × St) :=
  (some ((-1), X, σ))
def g_X9_all_71 (y0 : Int32) (X : En) (σ : St) : Option (Int32 × En × St) :=
  (some (y0, X, σ))
def g_X9_all_37 : Nat → Int32 → Int32 → Int32 → Int32 → En → St → Option (Int32 × En × St)
  | 0, _, _, _, _, _, _ => none
  | n + 1, x1, x2, x3, x4, X, σ =>
    (if x2 < x4 then
 (some ((-1), X, σ))
 else
 ((g_X9_leastHerd 11 x1 1 x4 1 x2 X σ).bind fun p1 => (if p1.1 = (-1) then
 (g_X9_all_37 n x1 x2 x3 (x4 + 1) p1.2.1 p1.2.2)
 else
 (if x3 = 0 then
 (g_X9_all_71 x4 p1.2.1 p1.2.2)
 else
 (g_X9_all_71 p1.1 p1.2.1 p1.2.2)))))
def g_X9_all_b (x1 : Int32) (x2 : Int32) (x3 : Int32) (X : En) (σ : St) : Option (Int32 × En × St) :=
  (if x1 < 1 then
 (g_X9_all_32 X σ)
 else
 (if (511 : Int32) < x1 then
 (g_X9_all_32 X σ)
 else
 (if x2 < 1 then
 (g_X9_all_32 X σ)
 else
 (if (9 : Int32) < x2 then
 (g_X9_all_32 X σ)
 else
 (if x3 < 0 then
 (g_X9_all_32 X σ)
 else
 (if x3 ≤ 1 then
 (g_X9_all_37 FU x1 x2 x3 1 X σ)
 else
 (g_X9_all_32 X σ)))))))
def g_X9_all (x1 : Int32) (x2 : Int32) (x3 : Int32) (X : En) (σ : St) : Option (Int32 × En × St) :=
  (g_X9_all_b x1 x2 x3 X σ).bind fun p => gd (Nat.ble (eZ X) (eZ p.2.1) && Nat.ble (eY X) (eY p.2.1)) (some p)
def g_X9_tried_19 (X : En) (σ : St) : Option (Int64 × En × St) :=
  (some ((-1), X, σ))
def g_X9_tried_b (x1 : Int32) (x2 : Int32) (X : En) (σ : St) : Option (Int64 × En × St) :=
  ((g_X9_sumAt x1 X σ).bind fun p1 => mR p1.1 (g_X9_tried_19 p1.2.1 p1.2.2) (fun b2 => gd (rk (mk p1.2.1) b2 5) (if x2 < 0 then
 (g_X9_tried_19 p1.2.1 p1.2.2)
 else
 (if x2 ≤ 5 then
 ((f_X7_beginAs 5 1 p1.2.2).bind fun p4 => ((g_X9_goThrough b2 p1.2.1 p4).bind fun p5 => (gd (rk (mk p5.1) b2 5) (if x2 = 0 then
 ((f_X7_value 5 p5.2).bind fun p7 => (some (p7.1, p5.1, p7.2)))
 else if x2 = 1 then
 (some ((gI p5.2 5 7).toInt64, p5.1, p5.2))
 else if x2 = 2 then
 (some ((gI p5.2 5 8).toInt64, p5.1, p5.2))
 else if x2 = 3 then
 (some ((gI p5.2 5 9).toInt64, p5.1, p5.2))
 else if x2 = 4 then
 (some ((gI p5.2 5 11).toInt64, p5.1, p5.2))
 else (some ((gI p5.2 5 10).toInt64, p5.1, p5.2))))))
 else
 (g_X9_tried_19 p1.2.1 p1.2.2)))))
def g_X9_tried (x1 : Int32) (x2 : Int32) (X : En) (σ : St) : Option (Int64 × En × St) :=
  (g_X9_tried_b x1 x2 X σ).bind fun p => gd (Nat.ble (eZ X) (eZ p.2.1) && Nat.ble (eY X) (eY p.2.1)) (some p)
def g_X9_needs_18 (X : En) (σ : St) : Option (Int32 × En × St) :=
  (some ((-1), X, σ))
def g_X9_needs_b (x1 : Int32) (x2 : Int32) (X : En) (σ : St) : Option (Int32 × En × St) :=
  ((g_X9_sumAt x1 X σ).bind fun p1 => mR p1.1 (g_X9_needs_18 p1.2.1 p1.2.2) (fun b2 => gd (rk (mk p1.2.1) b2 5) ((f_X9_isRope x2 p1.2.2).bind fun p4 => (if p4.1 = 0 then
 (g_X9_needs_18 p1.2.1 p4.2)
 else
 ((f_X7_beginAs 5 1 p4.2).bind fun p5 => ((g_X9_goThrough b2 p1.2.1 p5).bind fun p6 => (gd (rk (mk p6.1) b2 5) (gd (inb x2 12) (some ((gI p6.2 8 x2.toNatClampNeg), p6.1, p6.2))))))))))
def g_X9_needs (x1 : Int32) (x2 : Int32) (X : En) (σ : St) : Option (Int32 × En × St) :=
  (g_X9_needs_b x1 x2 X σ).bind fun p => gd (Nat.ble (eZ X) (eZ p.2.1) && Nat.ble (eY X) (eY p.2.1)) (some p)
def g_X9_herd_61 (k36 : Int32 → Int32 → En → St → Option (Int32 × En × St)) (x3 : Int32) (x4 : Int32) (X : En) (σ : St) : Option (Int32 × En × St) :=
  (k36 x3 (x4 + 1) X σ)
def g_X9_herd_36 : Nat → Int32 → Int32 → En → St → Option (Int32 × En × St)
  | 0, _, _, _, _ => none
  | n + 1, x3, x4, X, σ =>
    (if (gI σ 5 0) ≤ x4 then
 (some (x3, X, σ))
 else
 (gd (inb x4 12) (g_X9_herd_61 (g_X9_herd_36 n) (x3 + (gI σ 8 x4.toNatClampNeg)) x4 X σ)))
def g_X9_herd_b (x1 : Int32) (X : En) (σ : St) : Option (Int32 × En × St) :=
  ((g_X9_sumAt x1 X σ).bind fun p1 => mR p1.1 (some ((-1), p1.2.1, p1.2.2)) (fun b2 => gd (rk (mk p1.2.1) b2 5) ((f_X7_clear 5 (gI p1.2.2 1 0) p1.2.2).bind fun p4 => ((g_X9_goThrough b2 p1.2.1 p4).bind fun p5 => (gd (rk (mk p5.1) b2 5) (g_X9_herd_36 FU 0 0 p5.1 p5.2))))))
def g_X9_herd (x1 : Int32) (X : En) (σ : St) : Option (Int32 × En × St) :=
  (g_X9_herd_b x1 X σ).bind fun p => gd (Nat.ble (eZ X) (eZ p.2.1) && Nat.ble (eY X) (eY p.2.1)) (some p)
