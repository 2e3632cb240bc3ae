/-! THE METHODS AS PURE FUNCTIONS, by program (wip/gen_F.py) -/
def f_X9_topPlace_30 (x2 : Int32) (σ : St) : Option (Int32 × St) :=
  (some (x2, σ))
def f_X9_topPlace_4 : Nat → Int64 → Int32 → Int32 → St → Option (Int32 × St)
  | 0, _, _, _, _ => none
  | n + 1, x0, x2, x3, σ =>
    (if (13 : Int32) ≤ x3 then
    (f_X9_topPlace_30 x2 σ)
    else
    (gd (inb x3 13)
      (if (lg_cmp x0 (tens x3.toNatClampNeg)) < 0 then
        (f_X9_topPlace_30 x2 σ)
        else
        (f_X9_topPlace_4 n x0 x3 (x3 + 1) σ))))
def f_X9_topPlace (x0 : Int64) (σ : St) : Option (Int32 × St) :=
  (f_X9_topPlace_4 FU x0 (-1) 0 σ)
def f_X7_topRope (o : Nat) (x1 : Int32) (σ : St) : Option (Int32 × St) :=
  (gd (inb (gI σ o 0) 13)
    (gd (nzJ (tens (gI σ o 0).toNatClampNeg))
      ((f_X9_topPlace (rmJ x1.toInt64 (tens (gI σ o 0).toNatClampNeg)) σ).bind fun p1 =>
        (some (p1.1, p1.2)))))
def f_X9_digitOf_28 (y0 : Int32) (σ : St) : Option (Int32 × St) :=
  (some (y0, σ))
def f_X9_digitOf_12 (σ : St) : Option (Int32 × St) :=
  (f_X9_digitOf_28 0 σ)
def f_X9_digitOf (x0 : Int64) (x2 : Int32) (σ : St) : Option (Int32 × St) :=
  (if x2 < 0 then
    (f_X9_digitOf_12 σ)
    else
    (if x2 < 13 then
      (gd (inb x2 13)
        (gd (nzJ (tens x2.toNatClampNeg))
          (f_X9_digitOf_28 ((rmJ (x0 / (tens x2.toNatClampNeg)) 10).toInt32) σ)))
      else
      (f_X9_digitOf_12 σ)))
def f_X0_setOut_151 (q : Nat) (k49 : Int32 → Int32 → Int32 → St → Option (St)) (x2 : Int32) (x4 : Int32) (x5 : Int32) (σ : St) : Option (St) :=
  (k49 x2 x4 (x5 + 1) σ)
def f_X0_setOut_127 (q : Nat) (k49 : Int32 → Int32 → Int32 → St → Option (St)) (x2 : Int32) (x4 : Int32) (x5 : Int32) (σ : St) : Option (St) :=
  (gd (inb x5 12)
    (gd (inb x5 12)
      (gd (inb x5 12)
        (f_X0_setOut_151 q k49 x2 x4 x5 (sI (sI (sI σ 35 x5.toNatClampNeg 0) 36 x5.toNatClampNeg 0) 37 x5.toNatClampNeg (-1))))))
def f_X0_setOut_110 (q : Nat) (k49 : Int32 → Int32 → Int32 → St → Option (St)) (x2 : Int32) (x4 : Int32) (x5 : Int32) (y0 : Int32) (y1 : Int32) (σ : St) : Option (St) :=
  (gd (inb y1 12)
    (gd (inb x5 12)
      (gd (inb x5 12)
        (f_X0_setOut_127 q k49 x2 x4 x5 (sI (sI (sI σ 30 y1.toNatClampNeg y0) 31 x5.toNatClampNeg 0) 32 x5.toNatClampNeg 0)))))
def f_X0_setOut_86 (q : Nat) (k49 : Int32 → Int32 → Int32 → St → Option (St)) (x2 : Int32) (x4 : Int32) (x5 : Int32) (σ : St) : Option (St) :=
  (if x4 < x5 then
    (f_X0_setOut_110 q k49 x2 x4 x5 (-1) x5 σ)
    else
    ((f_X9_digitOf x2.toInt64 x5 σ).bind fun p2 =>
      (f_X0_setOut_110 q k49 x2 x4 x5 p2.1 x5 p2.2)))
def f_X0_setOut_49 (q : Nat) : Nat → Int32 → Int32 → Int32 → St → Option (St)
  | 0, _, _, _, _ => none
  | n + 1, x2, x4, x5, σ =>
    (if (gI σ 27 10) ≤ x5 then
    (some σ)
    else
    (gd (inb x5 12)
      (gd (inb x5 12)
        (gd (inb x5 12)
          (gd (inb x5 12)
            (f_X0_setOut_86 q (f_X0_setOut_49 q n) x2 x4 x5 (sI (sI σ 28 x5.toNatClampNeg (gI σ (q + 1) x5.toNatClampNeg)) 29 x5.toNatClampNeg (gI (sI σ 28 x5.toNatClampNeg (gI σ (q + 1) x5.toNatClampNeg)) (q + 2) x5.toNatClampNeg))))))))
def f_X0_setOut_43 (q : Nat) (x2 : Int32) (x4 : Int32) (y0 : Int32) (σ : St) : Option (St) :=
  (f_X0_setOut_49 q FU x2 x4 0 (sI σ 27 12 y0))
def f_X0_setOut (q : Nat) (x2 : Int32) (x3 : Int32) (σ : St) : Option (St) :=
  ((f_X7_topRope q x2 (sI (sI σ 27 10 (mnI (gI σ q 0) 12)) 27 11 x3)).bind fun p1 =>
    (if p1.1 = (-1) then
      (f_X0_setOut_43 q x2 p1.1 0 p1.2)
      else
      (f_X0_setOut_43 q x2 p1.1 ((gI p1.2 27 11) * p1.1) p1.2)))
def f_X0_comeBack_59 (k2 : Int32 → Int32 → St → Option (St)) (x1 : Int32) (x2 : Int32) (σ : St) : Option (St) :=
  (k2 x1 (x2 + 1) σ)
def f_X0_comeBack_37 (k2 : Int32 → Int32 → St → Option (St)) (x1 : Int32) (x2 : Int32) (σ : St) : Option (St) :=
  (if (gI σ 27 10) ≤ (x2 + 1) then
    (f_X0_comeBack_59 k2 x1 x2 σ)
    else
    (gd (inb (x2 + 1) 12)
      (gd (inb (x2 + 1) 12)
        (f_X0_comeBack_59 k2 x1 x2 (sI σ 31 (x2 + 1).toNatClampNeg ((gI σ 31 (x2 + 1).toNatClampNeg) + 1))))))
def f_X0_comeBack_2 : Nat → Int32 → Int32 → St → Option (St)
  | 0, _, _, _ => none
  | n + 1, x1, x2, σ =>
    (if (gI σ 27 10) ≤ x2 then
    (some σ)
    else
    (gd (inb x2 12)
      (if (gI σ 37 x2.toNatClampNeg) = x1 then
        (gd (inb x2 12)
          (f_X0_comeBack_37 (f_X0_comeBack_2 n) x1 x2 (sI (sI σ 37 x2.toNatClampNeg (-1)) 27 14 ((gI (sI σ 37 x2.toNatClampNeg (-1)) 27 14) + 1))))
        else
        (f_X0_comeBack_59 (f_X0_comeBack_2 n) x1 x2 σ))))
def f_X0_comeBack (x1 : Int32) (σ : St) : Option (St) :=
  (f_X0_comeBack_2 FU x1 0 σ)
def f_X0_endDrive_35 (σ : St) : Option (St) :=
  (some σ)
def f_X0_endDrive_19 (x1 : Int32) (σ : St) : Option (St) :=
  (gd (inb x1 12)
    (if (gI σ 35 x1.toNatClampNeg) = 0 then
      (f_X0_endDrive_35 σ)
      else
      (gd (inb x1 12)
        (f_X0_endDrive_35 (sI σ 36 x1.toNatClampNeg 1)))))
def f_X0_endDrive (x1 : Int32) (σ : St) : Option (St) :=
  (gd (inb x1 12)
    (gd (inb x1 12)
      (gd (inb x1 12)
        (f_X0_endDrive_19 x1 (sI (sI σ 32 x1.toNatClampNeg 0) 28 x1.toNatClampNeg (gI (sI σ 32 x1.toNatClampNeg 0) 34 x1.toNatClampNeg))))))
def f_X0_nextDrive_60 (x3 : Int32) (σ : St) : Option (Int32 × St) :=
  (some (x3, σ))
def f_X0_nextDrive_39 (x1 : Int32) (x3 : Int32) (σ : St) : Option (Int32 × St) :=
  (gd (inb x1 12)
    (if (gI σ 31 x1.toNatClampNeg) ≤ 0 then
      (f_X0_nextDrive_60 x3 σ)
      else
      (gd (inb x1 12)
        (gd (inb x1 12)
          (f_X0_nextDrive_60 1 (sI σ 31 x1.toNatClampNeg ((gI σ 31 x1.toNatClampNeg) - 1)))))))
def f_X0_nextDrive_29 (x1 : Int32) (x3 : Int32) (σ : St) : Option (Int32 × St) :=
  (gd (inb x1 12)
    (f_X0_nextDrive_60 x3 (sI σ 30 x1.toNatClampNeg (-1))))
def f_X0_nextDrive (x1 : Int32) (x2 : Int32) (σ : St) : Option (Int32 × St) :=
  (gd (inb x1 12)
    (if (gI σ 30 x1.toNatClampNeg) = (-1) then
      (f_X0_nextDrive_39 x1 (-1) σ)
      else
      (if x2 < ((gI σ 27 11) * x1) then
        (f_X0_nextDrive_39 x1 (-1) σ)
        else
        (gd (inb x1 12)
          (f_X0_nextDrive_29 x1 (gI σ 30 x1.toNatClampNeg) σ)))))
def f_X9_isDigit_15 (y0 : Int32) (σ : St) : Option (Int32 × St) :=
  (gd (isbb (y0)) (some (y0, σ)))
def f_X9_isDigit_14 (σ : St) : Option (Int32 × St) :=
  (f_X9_isDigit_15 0 σ)
def f_X9_isDigit (x0 : Int32) (σ : St) : Option (Int32 × St) :=
  (if x0 < 0 then
    (f_X9_isDigit_14 σ)
    else
    (if (9 : Int32) < x0 then
      (f_X9_isDigit_14 σ)
      else
      (f_X9_isDigit_15 1 σ)))
def f_X0_beginDrive_113 (σ : St) : Option (St) :=
  (some σ)
def f_X0_beginDrive_103 (x1 : Int32) (x5 : Int32) (σ : St) : Option (St) :=
  (if x5 = 0 then
    ((f_X0_endDrive x1 σ).bind fun p2 =>
      (f_X0_beginDrive_113 p2))
    else
    (f_X0_beginDrive_113 σ))
def f_X0_beginDrive_81 (x1 : Int32) (x3 : Int32) (x5 : Int32) (σ : St) : Option (St) :=
  (gd (inb x1 12)
    (gd (inb x1 12)
      (f_X0_beginDrive_103 x1 x5 (sI (sI σ 32 x1.toNatClampNeg 1) 33 x1.toNatClampNeg (x3 + (x5 * (gI (sI σ 32 x1.toNatClampNeg 1) 27 13)))))))
def f_X0_beginDrive_63 (x1 : Int32) (x3 : Int32) (σ : St) : Option (St) :=
  (gd (inb x1 12)
    (gd (inb x1 12)
      (f_X0_beginDrive_81 x1 x3 (abI ((gI σ 34 x1.toNatClampNeg) - (gI σ 28 x1.toNatClampNeg))) σ)))
def f_X0_beginDrive_53 (x1 : Int32) (x3 : Int32) (y0 : Int32) (y1 : Int32) (σ : St) : Option (St) :=
  (gd (inb x1 12)
    (gd (inb y1 12)
      (f_X0_beginDrive_63 x1 x3 (sI σ 34 y1.toNatClampNeg (mnI y0 (gI σ 29 x1.toNatClampNeg))))))
def f_X0_beginDrive_28 (x1 : Int32) (x3 : Int32) (x4 : Int32) (y0 : Int32) (y1 : Int32) (σ : St) : Option (St) :=
  (gd ((inb y1 12 && isbb y0))
    (gd (inb x1 12)
      (if (gI (sI σ 35 y1.toNatClampNeg y0) 35 x1.toNatClampNeg) = 0 then
        (f_X0_beginDrive_53 x1 x3 x4 x1 (sI σ 35 y1.toNatClampNeg y0))
        else
        (f_X0_beginDrive_53 x1 x3 (x4 - 10) x1 (sI σ 35 y1.toNatClampNeg y0)))))
def f_X0_beginDrive_10 (x1 : Int32) (x3 : Int32) (x4 : Int32) (σ : St) : Option (St) :=
  ((f_X9_isDigit x4 σ).bind fun p1 =>
    (if p1.1 = 0 then
      (f_X0_beginDrive_28 x1 x3 x4 1 x1 p1.2)
      else
      (f_X0_beginDrive_28 x1 x3 x4 0 x1 p1.2)))
def f_X0_beginDrive (x1 : Int32) (x2 : Int32) (x3 : Int32) (σ : St) : Option (St) :=
  (gd (inb x1 12)
    (f_X0_beginDrive_10 x1 x3 ((gI σ 28 x1.toNatClampNeg) + x2) σ))
def f_X0_work_70 (σ : St) : Option (St) :=
  (some σ)
def f_X0_work_27 : Nat → Int32 → Int32 → Int32 → St → Option (St)
  | 0, _, _, _, _ => none
  | n + 1, x1, x2, x3, σ =>
    (if (3 : Int32) ≤ x3 then
    (f_X0_work_70 σ)
    else
    (gd (inb x1 12)
      (if (gI σ 32 x1.toNatClampNeg) = 0 then
        ((f_X0_nextDrive x1 x2 σ).bind fun p1 =>
          (if p1.1 = (-1) then
            (some p1.2)
            else
            ((f_X0_beginDrive x1 p1.1 x2 p1.2).bind fun p2 =>
              (f_X0_work_27 n x1 x2 (x3 + 1) p2))))
        else
        (f_X0_work_70 σ))))
def f_X0_work_25 (x1 : Int32) (x2 : Int32) (σ : St) : Option (St) :=
  (f_X0_work_27 FU x1 x2 0 σ)
def f_X0_work (x1 : Int32) (x2 : Int32) (σ : St) : Option (St) :=
  (gd (inb x1 12)
    (if (gI σ 32 x1.toNatClampNeg) = 0 then
      (f_X0_work_25 x1 x2 σ)
      else
      (gd (inb x1 12)
        (if (gI σ 33 x1.toNatClampNeg) = x2 then
          ((f_X0_endDrive x1 σ).bind fun p3 =>
            (f_X0_work_25 x1 x2 p3))
          else
          (some σ)))))
def f_X0_sendOut_77 (σ : St) : Option (St) :=
  (some σ)
def f_X0_sendOut_71 (k2 : Int32 → Int32 → Int32 → St → Option (St)) (x1 : Int32) (x2 : Int32) (x3 : Int32) (σ : St) : Option (St) :=
  (k2 x1 x2 (x3 + 1) σ)
def f_X0_sendOut_33 (k2 : Int32 → Int32 → Int32 → St → Option (St)) (x1 : Int32) (x2 : Int32) (x3 : Int32) (y0 : Int32) (σ : St) : Option (St) :=
  (gd (inb y0 12)
    (if (gI σ 36 y0.toNatClampNeg) = 0 then
      (f_X0_sendOut_71 k2 x1 x2 x3 σ)
      else
      (gd (inb y0 12)
        (gd (inb y0 12)
          (f_X0_sendOut_71 k2 x1 x2 x3 (sI (sI (sI σ 36 y0.toNatClampNeg 0) 37 y0.toNatClampNeg x1) 27 14 ((gI (sI (sI σ 36 y0.toNatClampNeg 0) 37 y0.toNatClampNeg x1) 27 14) - 1)))))))
def f_X0_sendOut_2 : Nat → Int32 → Int32 → Int32 → St → Option (St)
  | 0, _, _, _, _ => none
  | n + 1, x1, x2, x3, σ =>
    (if (gI σ 27 10) ≤ x3 then
    (f_X0_sendOut_77 σ)
    else
    (if (gI σ 27 14) ≤ 0 then
      (f_X0_sendOut_77 σ)
      else
      (if x2 = 0 then
        (f_X0_sendOut_33 (f_X0_sendOut_2 n) x1 x2 x3 x3 σ)
        else
        (f_X0_sendOut_33 (f_X0_sendOut_2 n) x1 x2 x3 (((gI σ 27 10) - 1) - x3) σ))))
def f_X0_sendOut (x1 : Int32) (x2 : Int32) (σ : St) : Option (St) :=
  (f_X0_sendOut_2 FU x1 x2 0 σ)
def f_X0_isAtRest_47 (σ : St) : Option (Int32 × St) :=
  (some (0, σ))
def f_X0_isAtRest_2 : Nat → Int32 → St → Option (Int32 × St)
  | 0, _, _ => none
  | n + 1, x1, σ =>
    (if (gI σ 27 10) ≤ x1 then
    (some (1, σ))
    else
    (gd (inb x1 12)
      (if (gI σ 32 x1.toNatClampNeg) = 0 then
        (gd (inb x1 12)
          (if (gI σ 36 x1.toNatClampNeg) = 0 then
            (gd (inb x1 12)
              (if (gI σ 37 x1.toNatClampNeg) = (-1) then
                (gd (inb x1 12)
                  (if (gI σ 31 x1.toNatClampNeg) ≤ 0 then
                    (f_X0_isAtRest_2 n (x1 + 1) σ)
                    else
                    (f_X0_isAtRest_47 σ)))
                else
                (f_X0_isAtRest_47 σ)))
            else
            (f_X0_isAtRest_47 σ)))
        else
        (f_X0_isAtRest_47 σ))))
def f_X0_isAtRest (σ : St) : Option (Int32 × St) :=
  (f_X0_isAtRest_2 FU 0 σ)
def f_X0_minuteOfRest_89 (k21 : Int32 → Int32 → Int32 → St → Option (Int32 × St)) (x2 : Int32) (x5 : Int32) (x6 : Int32) (σ : St) : Option (Int32 × St) :=
  (k21 x2 x5 (x6 + 1) σ)
def f_X0_minuteOfRest_37 (k21 : Int32 → Int32 → Int32 → St → Option (Int32 × St)) : Nat → Int32 → Int32 → Int32 → Int32 → St → Option (Int32 × St)
  | 0, _, _, _, _, _ => none
  | n + 1, x2, x5, x6, x7, σ =>
    (if (gI σ 27 10) ≤ x7 then
    ((f_X0_sendOut (x6 + x5) x2 σ).bind fun p2 =>
      (if x6 < (gI p2 27 12) then
        (f_X0_minuteOfRest_89 k21 x2 x5 x6 p2)
        else
        ((f_X0_isAtRest p2).bind fun p3 =>
          (if p3.1 = 0 then
            (f_X0_minuteOfRest_89 k21 x2 x5 x6 p3.2)
            else
            (some (x6, p3.2))))))
    else
    ((f_X0_work x7 x6 σ).bind fun p4 =>
      (f_X0_minuteOfRest_37 k21 n x2 x5 x6 (x7 + 1) p4)))
def f_X0_minuteOfRest_21 : Nat → Int32 → Int32 → Int32 → St → Option (Int32 × St)
  | 0, _, _, _, _ => none
  | n + 1, x2, x5, x6, σ =>
    (if (100000 : Int32) ≤ x6 then
    (some (100000, σ))
    else
    ((f_X0_comeBack x6 σ).bind fun p1 =>
      (f_X0_minuteOfRest_37 (f_X0_minuteOfRest_21 n) FU x2 x5 x6 0 p1)))
def f_X0_minuteOfRest_18 (x2 : Int32) (x5 : Int32) (σ : St) : Option (Int32 × St) :=
  (f_X0_minuteOfRest_21 FU x2 x5 0 σ)
def f_X0_minuteOfRest (x1 : Int32) (x2 : Int32) (x3 : Int32) (x4 : Int32) (σ : St) : Option (Int32 × St) :=
  (f_X0_minuteOfRest_18 x2 (mxI 1 x4) (sI (sI σ 27 14 x1) 27 13 x3))
def f_X1_learn_55 (σ : St) : Option (Int32 × St) :=
  (some (1, σ))
def f_X1_learn_25 (x1 : Int32) (x2 : Int32) (x3 : Int32) (x4 : Int32) (σ : St) : Option (Int32 × St) :=
  (if (0 : Int32) ≤ x4 then
    (gd (inb (11 * x1) 100)
      (gd (inb ((10 * x1) + x2) 100)
        (f_X1_learn_55 (sI (sI σ 16 (11 * x1).toNatClampNeg x4) 16 ((10 * x1) + x2).toNatClampNeg x3))))
    else
    (some (0, σ)))
def f_X1_learn (x1 : Int32) (x2 : Int32) (x3 : Int32) (σ : St) : Option (Int32 × St) :=
  (gd (inb (11 * x1) 100)
    (gd (inb ((10 * x1) + x2) 100)
      (f_X1_learn_25 x1 x2 x3 (((gI σ 16 (11 * x1).toNatClampNeg) + (gI σ 16 ((10 * x1) + x2).toNatClampNeg)) - x3) σ)))
def f_X1_hears_41 (k5 : Int32 → Int32 → Int32 → Int32 → St → Option (Int32 × St)) (x1 : Int32) (x2 : Int32) (x3 : Int32) (x4 : Int32) (σ : St) : Option (Int32 × St) :=
  (k5 x1 x2 x3 (x4 + 1) σ)
def f_X1_hears_33 (k5 : Int32 → Int32 → Int32 → Int32 → St → Option (Int32 × St)) (x1 : Int32) (x2 : Int32) (x3 : Int32) (x4 : Int32) (σ : St) : Option (Int32 × St) :=
  (if x3 ≤ x2 then
    (f_X1_hears_41 k5 x1 x2 x3 x4 σ)
    else
    (some (x4, σ)))
def f_X1_hears_5 : Nat → Int32 → Int32 → Int32 → Int32 → St → Option (Int32 × St)
  | 0, _, _, _, _, _ => none
  | n + 1, x1, x2, x3, x4, σ =>
    (if (9 : Int32) < x4 then
    (some (x1, σ))
    else
    (if x4 = x1 then
      (f_X1_hears_41 (f_X1_hears_5 n) x1 x2 x3 x4 σ)
      else
      (gd (inb ((10 * x1) + x4) 100)
        (f_X1_hears_33 (f_X1_hears_5 n) x1 x2 (x3 + (gI σ 16 ((10 * x1) + x4).toNatClampNeg)) x4 σ))))
def f_X1_hears (x1 : Int32) (x2 : Int32) (σ : St) : Option (Int32 × St) :=
  (f_X1_hears_5 FU x1 x2 0 0 σ)
def f_X1_likely_72 (k24 : Int32 → Int64 → Int32 → Int64 → Int32 → St → Option (Int64 × St)) (x1 : Int32) (x2 : Int64) (x4 : Int32) (x5 : Int64) (x7 : Int32) (σ : St) : Option (Int64 × St) :=
  (k24 x1 x2 x4 x5 (x7 + 1) σ)
def f_X1_likely_69 (k24 : Int32 → Int64 → Int32 → Int64 → Int32 → St → Option (Int64 × St)) (x1 : Int32) (x2 : Int64) (x4 : Int32) (x7 : Int32) (y0 : Int64) (y1 : Int64) (σ : St) : Option (Int64 × St) :=
  (f_X1_likely_72 k24 x1 x2 x4 (y1 * y0) x7 σ)
def f_X1_likely_24 : Nat → Int32 → Int64 → Int32 → Int64 → Int32 → St → Option (Int64 × St)
  | 0, _, _, _, _, _, _ => none
  | n + 1, x1, x2, x4, x5, x7, σ =>
    (if (9 : Int32) ≤ x7 then
    (some (x5, σ))
    else
    (if x7 ≤ x4 then
      ((f_X9_digitOf x1.toInt64 x7 σ).bind fun p3 =>
        ((f_X9_digitOf x2 x7 p3.2).bind fun p4 =>
          (gd (inb ((10 * p3.1) + p4.1) 100)
            (f_X1_likely_69 (f_X1_likely_24 n) x1 x2 x4 x7 ((gI p4.2 16 ((10 * p3.1) + p4.1).toNatClampNeg).toInt64) x5 p4.2))))
      else
      (f_X1_likely_69 (f_X1_likely_24 n) x1 x2 x4 x7 100 x5 σ)))
def f_X1_likely (x1 : Int32) (x2 : Int64) (σ : St) : Option (Int64 × St) :=
  ((f_X9_topPlace x1.toInt64 σ).bind fun p1 =>
    ((f_X9_topPlace x2 p1.2).bind fun p2 =>
      (if p2.1 ≤ p1.1 then
        (f_X1_likely_24 FU x1 x2 p1.1 1 0 p2.2)
        else
        (some (0, p2.2)))))
def f_X1_wrong (x1 : Int32) (σ : St) : Option (Int32 × St) :=
  ((f_X1_likely x1 x1.toInt64 σ).bind fun p1 =>
    (some (((1000000000000000000 - p1.1) / 1000000000000).toInt32, p1.2)))
def f_J7_fill_d0a16_6 (ar : Nat) (ln_ : Nat) : Nat → Int64 → Int32 → Int32 → St → Option (St)
  | 0, _, _, _, _ => none
  | n + 1, x1, x3, x4, σ =>
    (if x4 ≤ x3 then
    (some σ)
    else
    (gd (inb x3 ln_)
      (f_J7_fill_d0a16_6 ar ln_ n x1 (x3 + 1) x4 (sJ σ ar x3.toNatClampNeg x1))))
def f_J7_fill_d0a16 (ar : Nat) (ln_ : Nat) (x1 : Int64) (σ : St) : Option (St) :=
  (f_J7_fill_d0a16_6 ar ln_ FU x1 0 (Int32.ofNat ln_) σ)
def f_X7_value_28 (o : Nat) (k4 : Int64 → Int32 → St → Option (Int64 × St)) (x1 : Int64) (x3 : Int32) (σ : St) : Option (Int64 × St) :=
  (k4 x1 (x3 + 1) σ)
def f_X7_value_4 (o : Nat) : Nat → Int64 → Int32 → St → Option (Int64 × St)
  | 0, _, _, _ => none
  | n + 1, x1, x3, σ =>
    (if (gI σ o 0) ≤ x3 then
    (some (x1, σ))
    else
    (gd (inb x3 12)
      (gd (inb x3 13)
        (f_X7_value_28 o (f_X7_value_4 o n) (x1 + (((gI σ (o + 1) x3.toNatClampNeg).toInt64) * (tens x3.toNatClampNeg))) x3 σ))))
def f_X7_value (o : Nat) (σ : St) : Option (Int64 × St) :=
  (f_X7_value_4 o FU 0 0 σ)
def f_X2_keep_110 (q : Nat) (σ : St) : Option (St) :=
  (some (sI (sI σ 9 1 (rmI ((gI σ 9 1) + 1) 40)) 9 2 (mnI ((gI (sI σ 9 1 (rmI ((gI σ 9 1) + 1) 40)) 9 2) + 1) 40)))
def f_X2_keep_82 (q : Nat) (x2 : Int32) (σ : St) : Option (St) :=
  (gd (inb (x2 + 6) 320)
    (gd (inb (x2 + 7) 320)
      (f_X2_keep_110 q (sJ (sJ σ 10 (x2 + 6).toNatClampNeg ((gI σ q 11).toInt64)) 10 (x2 + 7).toNatClampNeg ((gI (sJ σ 10 (x2 + 6).toNatClampNeg ((gI σ q 11).toInt64)) q 12).toInt64)))))
def f_X2_keep_56 (q : Nat) (x2 : Int32) (σ : St) : Option (St) :=
  (gd (inb (x2 + 4) 320)
    (gd (inb (x2 + 5) 320)
      (f_X2_keep_82 q x2 (sJ (sJ σ 10 (x2 + 4).toNatClampNeg ((gI σ q 9).toInt64)) 10 (x2 + 5).toNatClampNeg ((gI (sJ σ 10 (x2 + 4).toNatClampNeg ((gI σ q 9).toInt64)) q 10).toInt64)))))
def f_X2_keep_30 (q : Nat) (x2 : Int32) (σ : St) : Option (St) :=
  (gd (inb (x2 + 2) 320)
    (gd (inb (x2 + 3) 320)
      (f_X2_keep_56 q x2 (sJ (sJ σ 10 (x2 + 2).toNatClampNeg ((gI σ q 7).toInt64)) 10 (x2 + 3).toNatClampNeg ((gI (sJ σ 10 (x2 + 2).toNatClampNeg ((gI σ q 7).toInt64)) q 8).toInt64)))))
def f_X2_keep_8 (q : Nat) (x2 : Int32) (σ : St) : Option (St) :=
  ((f_X7_value q σ).bind fun p1 =>
    (gd (inb x2 320)
      (gd (inb (x2 + 1) 320)
        (f_X2_keep_30 q x2 (sJ (sJ p1.2 10 x2.toNatClampNeg p1.1) 10 (x2 + 1).toNatClampNeg (gJ (sJ p1.2 10 x2.toNatClampNeg p1.1) q 6))))))
def f_X2_keep (q : Nat) (σ : St) : Option (St) :=
  (f_X2_keep_8 q ((gI σ 9 1) * 8) σ)
def f_X7_standFor_2 (o : Nat) : Nat → Int64 → Int32 → St → Option (St)
  | 0, _, _, _ => none
  | n + 1, x1, x3, σ =>
    (if (gI σ o 0) ≤ x3 then
    (some σ)
    else
    ((f_X9_digitOf x1 x3 σ).bind fun p1 =>
      (gd (inb x3 12)
        (f_X7_standFor_2 o n x1 (x3 + 1) (sI p1.2 (o + 1) x3.toNatClampNeg p1.1)))))
def f_X7_standFor (o : Nat) (x1 : Int64) (σ : St) : Option (St) :=
  (f_X7_standFor_2 o FU x1 0 σ)
def f_X2_takeBack_131 (q : Nat) (x2 : Int32) (σ : St) : Option (Int32 × St) :=
  (gd (inb (x2 + 7) 320)
    (some (1, (sI σ q 12 ((gJ σ 10 (x2 + 7).toNatClampNeg).toInt32)))))
def f_X2_takeBack_104 (q : Nat) (x2 : Int32) (σ : St) : Option (Int32 × St) :=
  (gd (inb (x2 + 5) 320)
    (gd (inb (x2 + 6) 320)
      (f_X2_takeBack_131 q x2 (sI (sI σ q 10 ((gJ σ 10 (x2 + 5).toNatClampNeg).toInt32)) q 11 ((gJ (sI σ q 10 ((gJ σ 10 (x2 + 5).toNatClampNeg).toInt32)) 10 (x2 + 6).toNatClampNeg).toInt32)))))
def f_X2_takeBack_78 (q : Nat) (x2 : Int32) (σ : St) : Option (Int32 × St) :=
  (gd (inb (x2 + 3) 320)
    (gd (inb (x2 + 4) 320)
      (f_X2_takeBack_104 q x2 (sI (sI σ q 8 ((gJ σ 10 (x2 + 3).toNatClampNeg).toInt32)) q 9 ((gJ (sI σ q 8 ((gJ σ 10 (x2 + 3).toNatClampNeg).toInt32)) 10 (x2 + 4).toNatClampNeg).toInt32)))))
def f_X2_takeBack_43 (q : Nat) (x2 : Int32) (σ : St) : Option (Int32 × St) :=
  (gd (inb x2 320)
    ((f_X7_standFor q (gJ σ 10 x2.toNatClampNeg) σ).bind fun p1 =>
      (gd (inb (x2 + 1) 320)
        (gd (inb (x2 + 2) 320)
          (f_X2_takeBack_78 q x2 (sI (sJ p1 q 6 (gJ p1 10 (x2 + 1).toNatClampNeg)) q 7 ((gJ (sJ p1 q 6 (gJ p1 10 (x2 + 1).toNatClampNeg)) 10 (x2 + 2).toNatClampNeg).toInt32)))))))
def f_X2_takeBack_35 (q : Nat) (σ : St) : Option (Int32 × St) :=
  (f_X2_takeBack_43 q ((gI σ 9 1) * 8) σ)
def f_X2_takeBack (q : Nat) (σ : St) : Option (Int32 × St) :=
  (if (gI σ 9 2) = 0 then
    (some (0, σ))
    else
    (f_X2_takeBack_35 q (sI (sI σ 9 2 ((gI σ 9 2) - 1)) 9 1 (rmI (((gI (sI σ 9 2 ((gI σ 9 2) - 1)) 9 1) + 40) - 1) 40))))
def f_X2_forget (σ : St) : Option (St) :=
  (some (sI σ 9 2 0))
def f_X3_bringIn_29 (σ : St) : Option (St) :=
  (some σ)
def f_X3_bringIn (x1 : Int32) (σ : St) : Option (St) :=
  (if (8 : Int32) ≤ (gI σ 19 1) then
    (f_X3_bringIn_29 σ)
    else
    (gd (inb (gI σ 19 1) 8)
      (f_X3_bringIn_29 (sI (sI σ 20 (gI σ 19 1).toNatClampNeg x1) 19 1 ((gI (sI σ 20 (gI σ 19 1).toNatClampNeg x1) 19 1) + 1)))))
def f_X3_sets (σ : St) : Option (Int32 × St) :=
  (some ((shlI 1 (gI σ 19 1)), σ))
def f_X9_hasBit_13 (y0 : Int32) (σ : St) : Option (Int32 × St) :=
  (gd (isbb (y0)) (some (y0, σ)))
def f_X9_hasBit (x0 : Int32) (x1 : Int32) (σ : St) : Option (Int32 × St) :=
  (if ((ushI x0 x1) &&& 1) = 0 then
    (f_X9_hasBit_13 0 σ)
    else
    (f_X9_hasBit_13 1 σ))
def f_X3_sumOf_38 (k5 : Int32 → Int64 → Int32 → St → Option (Int64 × St)) (x1 : Int32) (x2 : Int64) (x4 : Int32) (σ : St) : Option (Int64 × St) :=
  (k5 x1 x2 (x4 + 1) σ)
def f_X3_sumOf_36 (k5 : Int32 → Int64 → Int32 → St → Option (Int64 × St)) (x1 : Int32) (x4 : Int32) (y0 : Int64) (y1 : Int64) (σ : St) : Option (Int64 × St) :=
  (f_X3_sumOf_38 k5 x1 (y1 + y0) x4 σ)
def f_X3_sumOf_5 : Nat → Int32 → Int64 → Int32 → St → Option (Int64 × St)
  | 0, _, _, _, _ => none
  | n + 1, x1, x2, x4, σ =>
    (if (gI σ 19 1) ≤ x4 then
    (some (x2, σ))
    else
    ((f_X9_hasBit x1 x4 σ).bind fun p1 =>
      (if p1.1 = 0 then
        (f_X3_sumOf_36 (f_X3_sumOf_5 n) x1 x4 0 x2 p1.2)
        else
        (gd (inb x4 8)
          (f_X3_sumOf_36 (f_X3_sumOf_5 n) x1 x4 ((gI p1.2 20 x4.toNatClampNeg).toInt64) x2 p1.2)))))
def f_X3_sumOf (x1 : Int32) (σ : St) : Option (Int64 × St) :=
  (f_X3_sumOf_5 FU x1 0 0 σ)
def f_X7_draw_16 (o : Nat) (σ : St) : Option (Int32 × St) :=
  (some ((rmJ (ushJ (gJ σ o 6) 33) 100).toInt32, σ))
def f_X7_draw (o : Nat) (σ : St) : Option (Int32 × St) :=
  (f_X7_draw_16 o (sJ σ o 6 (((gJ σ o 6) * 6364136223846793005) + 1442695040888963407)))
def f_X7_stand_59 (o : Nat) (x1 : Int32) (x3 : Int32) (σ : St) : Option (St) :=
  (gd (inb x1 12)
    (some (sI σ (o + 1) x1.toNatClampNeg x3)))
def f_X7_stand_27 (o : Nat) (x1 : Int32) (x2 : Int32) (x3 : Int32) (σ : St) : Option (St) :=
  (gd (inb x1 12)
    (f_X7_stand_59 o x1 x3 (sI (sI σ o 11 ((gI σ o 11) + (x2 - x3))) o 7 ((gI (sI σ o 11 ((gI σ o 11) + (x2 - x3))) o 7) + (abI (x3 - (gI (sI σ o 11 ((gI σ o 11) + (x2 - x3))) (o + 1) x1.toNatClampNeg)))))))
def f_X7_stand_16 (o : Nat) (x1 : Int32) (x2 : Int32) (σ : St) : Option (St) :=
  (gd (inb x1 12)
    (f_X7_stand_27 o x1 x2 (mnI x2 (gI σ (o + 2) x1.toNatClampNeg)) σ))
def f_X7_stand (o : Nat) (x1 : Int32) (x2 : Int32) (σ : St) : Option (St) :=
  (gd (inb x1 12)
    (gd (inb x1 12)
      (f_X7_stand_16 o x1 x2 (sI σ (o + 3) x1.toNatClampNeg (mxI (gI σ (o + 3) x1.toNatClampNeg) x2)))))
def f_X7_drive_98 (o : Nat) (k5 : Int32 → Int32 → St → Option (St)) (x4 : Int32) (y0 : Int32) (σ : St) : Option (St) :=
  (k5 y0 (x4 + 1) σ)
def f_X7_drive_70 (o : Nat) (k5 : Int32 → Int32 → St → Option (St)) (x3 : Int32) (x4 : Int32) (x6 : Int32) (y0 : Int32) (y1 : Int32) (σ : St) : Option (St) :=
  ((f_X7_stand o y1 y0 σ).bind fun p2 =>
    (if x6 = 0 then
      (some p2)
      else
      (if (0 : Int32) ≤ x3 then
        (f_X7_drive_98 o k5 x4 1 (sI p2 o 8 ((gI p2 o 8) + 1)))
        else
        (f_X7_drive_98 o k5 x4 (-1) (sI p2 o 8 ((gI p2 o 8) + 1))))))
def f_X7_drive_38 (o : Nat) (k5 : Int32 → Int32 → St → Option (St)) (x3 : Int32) (x4 : Int32) (x5 : Int32) (y0 : Int32) (σ : St) : Option (St) :=
  (if y0 = 0 then
    (f_X7_drive_70 o k5 x3 x4 y0 x5 x4 σ)
    else
    (if (0 : Int32) ≤ x3 then
      (f_X7_drive_70 o k5 x3 x4 y0 (x5 - 10) x4 σ)
      else
      (f_X7_drive_70 o k5 x3 x4 y0 (x5 + 10) x4 σ)))
def f_X7_drive_25 (o : Nat) (k5 : Int32 → Int32 → St → Option (St)) (x3 : Int32) (x4 : Int32) (x5 : Int32) (σ : St) : Option (St) :=
  ((f_X9_isDigit x5 σ).bind fun p1 =>
    (if p1.1 = 0 then
      (f_X7_drive_38 o k5 x3 x4 x5 1 p1.2)
      else
      (f_X7_drive_38 o k5 x3 x4 x5 0 p1.2)))
def f_X7_drive_5 (o : Nat) : Nat → Int32 → Int32 → St → Option (St)
  | 0, _, _, _ => none
  | n + 1, x3, x4, σ =>
    (if (gI σ o 0) ≤ x4 then
    (some (sI σ o 10 ((gI σ o 10) + 1)))
    else
    (gd (inb x4 12)
      (f_X7_drive_25 o (f_X7_drive_5 o n) x3 x4 ((gI σ (o + 1) x4.toNatClampNeg) + x3) σ)))
def f_X7_drive (o : Nat) (x1 : Int32) (x2 : Int32) (σ : St) : Option (St) :=
  (f_X7_drive_5 o FU x2 x1 σ)
def f_X7_bring_n_104 (o : Nat) (k34 : Int32 → Int32 → Int32 → Int32 → Int32 → St → Option (St)) (x1 : Int32) (x2 : Int32) (x3 : Int32) (x5 : Int32) (x6 : Int32) (y0 : Int32) (y1 : Int32) (σ : St) : Option (St) :=
  ((f_X7_drive o y1 y0 σ).bind fun p3 =>
    (k34 x1 x2 x3 x5 (x6 + 1) p3))
def f_X7_bring_n_87 (o : Nat) (k34 : Int32 → Int32 → Int32 → Int32 → Int32 → St → Option (St)) (x1 : Int32) (x2 : Int32) (x3 : Int32) (x5 : Int32) (x6 : Int32) (x7 : Int32) (y0 : Int32) (σ : St) : Option (St) :=
  (if x2 = 0 then
    (f_X7_bring_n_104 o k34 x1 x2 x3 x5 x6 y0 x7 σ)
    else
    (f_X7_bring_n_104 o k34 x1 x2 x3 x5 x6 (-y0) x7 σ))
def f_X7_bring_n_55 (o : Nat) (k34 : Int32 → Int32 → Int32 → Int32 → Int32 → St → Option (St)) (x1 : Int32) (x2 : Int32) (x3 : Int32) (x5 : Int32) (x6 : Int32) (y0 : Int32) (σ : St) : Option (St) :=
  ((f_X9_digitOf x1.toInt64 y0 σ).bind fun p2 =>
    (f_X7_bring_n_87 o k34 x1 x2 x3 x5 x6 y0 p2.1 p2.2))
def f_X7_bring_n_34 (o : Nat) : Nat → Int32 → Int32 → Int32 → Int32 → Int32 → St → Option (St)
  | 0, _, _, _, _, _, _ => none
  | n + 1, x1, x2, x3, x5, x6, σ =>
    (if x5 < x6 then
    (some σ)
    else
    (if x3 = 0 then
      (f_X7_bring_n_55 o (f_X7_bring_n_34 o n) x1 x2 x3 x5 x6 x6 σ)
      else
      (f_X7_bring_n_55 o (f_X7_bring_n_34 o n) x1 x2 x3 x5 x6 (x5 - x6) σ)))
def f_X7_bring_n_24 (o : Nat) (x1 : Int32) (x2 : Int32) (x3 : Int32) (σ : St) : Option (St) :=
  ((f_X7_topRope o x1 σ).bind fun p1 =>
    (f_X7_bring_n_34 o FU x1 x2 x3 p1.1 0 p1.2))
def f_X7_bring_n (o : Nat) (x1 : Int32) (x2 : Int32) (x3 : Int32) (σ : St) : Option (St) :=
  (gd (inb (gI σ o 0) 13)
    (if (lg_cmp x1.toInt64 (tens (gI σ o 0).toNatClampNeg)) < 0 then
      (f_X7_bring_n_24 o x1 x2 x3 σ)
      else
      (f_X7_bring_n_24 o x1 x2 x3 (sI σ o 10 ((gI σ o 10) + 1)))))
def f_X7_bring_e_104 (o : Nat) (k34 : Int32 → Int32 → Int32 → Int32 → Int32 → St → Option (St)) (x1 : Int32) (x2 : Int32) (x3 : Int32) (x5 : Int32) (x6 : Int32) (y0 : Int32) (y1 : Int32) (σ : St) : Option (St) :=
  ((f_X7_drive o y1 y0 σ).bind fun p5 =>
    (k34 x1 x2 x3 x5 (x6 + 1) p5))
def f_X7_bring_e_87 (o : Nat) (k34 : Int32 → Int32 → Int32 → Int32 → Int32 → St → Option (St)) (x1 : Int32) (x2 : Int32) (x3 : Int32) (x5 : Int32) (x6 : Int32) (x7 : Int32) (y0 : Int32) (σ : St) : Option (St) :=
  (if x2 = 0 then
    (f_X7_bring_e_104 o k34 x1 x2 x3 x5 x6 y0 x7 σ)
    else
    (f_X7_bring_e_104 o k34 x1 x2 x3 x5 x6 (-y0) x7 σ))
def f_X7_bring_e_55 (o : Nat) (k34 : Int32 → Int32 → Int32 → Int32 → Int32 → St → Option (St)) (x1 : Int32) (x2 : Int32) (x3 : Int32) (x5 : Int32) (x6 : Int32) (y0 : Int32) (σ : St) : Option (St) :=
  ((f_X9_digitOf x1.toInt64 y0 σ).bind fun p2 =>
    ((f_X7_draw o p2.2).bind fun p3 =>
      ((f_X1_hears p2.1 p3.1 p3.2).bind fun p4 =>
        (f_X7_bring_e_87 o k34 x1 x2 x3 x5 x6 y0 p4.1 p4.2))))
def f_X7_bring_e_34 (o : Nat) : Nat → Int32 → Int32 → Int32 → Int32 → Int32 → St → Option (St)
  | 0, _, _, _, _, _, _ => none
  | n + 1, x1, x2, x3, x5, x6, σ =>
    (if x5 < x6 then
    (some σ)
    else
    (if x3 = 0 then
      (f_X7_bring_e_55 o (f_X7_bring_e_34 o n) x1 x2 x3 x5 x6 x6 σ)
      else
      (f_X7_bring_e_55 o (f_X7_bring_e_34 o n) x1 x2 x3 x5 x6 (x5 - x6) σ)))
def f_X7_bring_e_24 (o : Nat) (x1 : Int32) (x2 : Int32) (x3 : Int32) (σ : St) : Option (St) :=
  ((f_X7_topRope o x1 σ).bind fun p1 =>
    (f_X7_bring_e_34 o FU x1 x2 x3 p1.1 0 p1.2))
def f_X7_bring_e (o : Nat) (x1 : Int32) (x2 : Int32) (x3 : Int32) (σ : St) : Option (St) :=
  (gd (inb (gI σ o 0) 13)
    (if (lg_cmp x1.toInt64 (tens (gI σ o 0).toNatClampNeg)) < 0 then
      (f_X7_bring_e_24 o x1 x2 x3 σ)
      else
      (f_X7_bring_e_24 o x1 x2 x3 (sI σ o 10 ((gI σ o 10) + 1)))))
def f_X3_walksAsTold_2 (q : Nat) : Nat → Int32 → St → Option (Int32 × St)
  | 0, _, _ => none
  | n + 1, x2, σ =>
    (if (gI σ 19 1) ≤ x2 then
    (some ((gI σ q 7), σ))
    else
    (gd (inb x2 8)
      ((f_X7_bring_n q (gI σ 20 x2.toNatClampNeg) 0 0 σ).bind fun p1 =>
        (f_X3_walksAsTold_2 q n (x2 + 1) p1))))
def f_X3_walksAsTold (q : Nat) (σ : St) : Option (Int32 × St) :=
  (f_X3_walksAsTold_2 q FU 0 σ)
def f_X5_write_49 (k3 : Int32 → Int32 → St → Option (St)) (x1 : Int32) (x2 : Int32) (σ : St) : Option (St) :=
  (k3 x1 (x2 + (-8)) σ)
def f_X5_write_15 (k3 : Int32 → Int32 → St → Option (St)) (x1 : Int32) (x2 : Int32) (x3 : Int32) (σ : St) : Option (St) :=
  (if x3 = 0 then
    (f_X5_write_49 k3 x1 x2 σ)
    else
    (if (160 : Int32) ≤ (gI σ 11 1) then
      (f_X5_write_49 k3 x1 x2 σ)
      else
      (gd (inb (gI σ 11 1) 160)
        (f_X5_write_49 k3 x1 x2 (sI (sI σ 12 (gI σ 11 1).toNatClampNeg x3) 11 1 ((gI (sI σ 12 (gI σ 11 1).toNatClampNeg x3) 11 1) + 1))))))
def f_X5_write_3 : Nat → Int32 → Int32 → St → Option (St)
  | 0, _, _, _ => none
  | n + 1, x1, x2, σ =>
    (if x2 < 0 then
    (some σ)
    else
    (f_X5_write_15 (f_X5_write_3 n) x1 x2 ((ushI x1 x2) &&& 255) σ))
def f_X5_write (x1 : Int32) (σ : St) : Option (St) :=
  (f_X5_write_3 FU x1 24 σ)
def f_X5_isNext_29 (y0 : Int32) (σ : St) : Option (Int32 × St) :=
  (gd (isbb (y0)) (some (y0, σ)))
def f_X5_isNext_28 (σ : St) : Option (Int32 × St) :=
  (f_X5_isNext_29 0 σ)
def f_X5_isNext (x1 : Int32) (σ : St) : Option (Int32 × St) :=
  (if (gI σ 11 1) ≤ (gI σ 11 4) then
    (f_X5_isNext_28 σ)
    else
    (gd (inb (gI σ 11 4) 160)
      (if (gI σ 12 (gI σ 11 4).toNatClampNeg) = x1 then
        (f_X5_isNext_29 1 σ)
        else
        (f_X5_isNext_28 σ))))
def f_X5_skipBlanks_38 (σ : St) : Option (St) :=
  (some σ)
def f_X5_skipBlanks_0 : Nat → St → Option (St)
  | 0, _ => none
  | n + 1, σ =>
    (if (gI σ 11 1) ≤ (gI σ 11 4) then
    (f_X5_skipBlanks_38 σ)
    else
    (gd (inb (gI σ 11 4) 160)
      (if (gI σ 12 (gI σ 11 4).toNatClampNeg) = 32 then
        (f_X5_skipBlanks_0 n (sI σ 11 4 ((gI σ 11 4) + 1)))
        else
        (f_X5_skipBlanks_38 σ))))
def f_X5_skipBlanks (σ : St) : Option (St) :=
  (f_X5_skipBlanks_0 FU σ)
def f_X5_readNumber_98 (y0 : Int32) (σ : St) : Option (Int32 × St) :=
  ((f_X5_skipBlanks σ).bind fun p1 =>
    (gd (isbb (y0)) (some (y0, p1))))
def f_X5_readNumber_78 (x1 : Int32) (x2 : Int32) (x3 : Int32) (σ : St) : Option (Int32 × St) :=
  (gd (inb x1 36)
    (if (gI (sI σ 13 x1.toNatClampNeg x3) 11 4) ≤ x2 then
      (f_X5_readNumber_98 0 (sI σ 13 x1.toNatClampNeg x3))
      else
      (f_X5_readNumber_98 1 (sI σ 13 x1.toNatClampNeg x3))))
def f_X5_readNumber_65 (k7 : Int32 → Int32 → Int32 → St → Option (Int32 × St)) (x1 : Int32) (x2 : Int32) (x3 : Int32) (σ : St) : Option (Int32 × St) :=
  (k7 x1 x2 x3 (sI σ 11 4 ((gI σ 11 4) + 1)))
def f_X5_readNumber_7 : Nat → Int32 → Int32 → Int32 → St → Option (Int32 × St)
  | 0, _, _, _, _ => none
  | n + 1, x1, x2, x3, σ =>
    (if (gI σ 11 1) ≤ (gI σ 11 4) then
    (f_X5_readNumber_78 x1 x2 x3 σ)
    else
    (if (x2 + 9) ≤ (gI σ 11 4) then
      (f_X5_readNumber_78 x1 x2 x3 σ)
      else
      (gd (inb (gI σ 11 4) 160)
        ((f_X9_isDigit ((gI σ 12 (gI σ 11 4).toNatClampNeg) - 48) σ).bind fun p2 =>
          (if p2.1 = 0 then
            (f_X5_readNumber_78 x1 x2 x3 p2.2)
            else
            (gd (inb (gI p2.2 11 4) 160)
              (f_X5_readNumber_65 (f_X5_readNumber_7 n) x1 x2 (((10 * x3) + (gI p2.2 12 (gI p2.2 11 4).toNatClampNeg)) - 48) p2.2)))))))
def f_X5_readNumber_5 (x1 : Int32) (x2 : Int32) (σ : St) : Option (Int32 × St) :=
  (f_X5_readNumber_7 FU x1 x2 0 σ)
def f_X5_readNumber (x1 : Int32) (σ : St) : Option (Int32 × St) :=
  (f_X5_readNumber_5 x1 (gI σ 11 4) σ)
def f_X5_readOften_53 (σ : St) : Option (Int32 × St) :=
  (some (0, σ))
def f_X5_readOften_72 (σ : St) : Option (Int32 × St) :=
  ((f_X5_skipBlanks σ).bind fun p2 =>
    (some (1, p2)))
def f_X5_readOften_41 (x1 : Int32) (y0 : Int32) (σ : St) : Option (Int32 × St) :=
  (if y0 < 1 then
    (f_X5_readOften_53 σ)
    else
    (if y0 ≤ 9 then
      (gd (inb x1 36)
        (f_X5_readOften_72 (sI (sI σ 13 x1.toNatClampNeg y0) 11 4 ((gI (sI σ 13 x1.toNatClampNeg y0) 11 4) + 1))))
      else
      (f_X5_readOften_53 σ)))
def f_X5_readOften (x1 : Int32) (σ : St) : Option (Int32 × St) :=
  ((f_X5_skipBlanks (sI σ 11 4 ((gI σ 11 4) + 1))).bind fun p1 =>
    (if (gI p1 11 1) ≤ (gI p1 11 4) then
      (f_X5_readOften_41 x1 0 p1)
      else
      (gd (inb (gI p1 11 4) 160)
        (f_X5_readOften_41 x1 ((gI p1 12 (gI p1 11 4).toNatClampNeg) - 48) p1))))
def f_X6_driveFrom_174 (σ : St) : Option (St) :=
  (some σ)
def f_X6_driveFrom_156 (x6 : Int32) (σ : St) : Option (St) :=
  (if x6 = 0 then
    (f_X6_driveFrom_174 σ)
    else
    (f_X6_driveFrom_174 (sI σ 21 10 ((gI σ 21 9) + (gI σ 21 6)))))
def f_X6_driveFrom_126 (x1 : Int32) (x5 : Int32) (x6 : Int32) (x7 : Int32) (x8 : Int32) (σ : St) : Option (St) :=
  (gd (inb x1 12)
    (f_X6_driveFrom_156 x6 (sI (sI (sI σ 21 9 (x5 + (x8 * (gI σ 21 5)))) 21 8 x7) 26 x1.toNatClampNeg (gI (sI (sI σ 21 9 (x5 + (x8 * (gI σ 21 5)))) 21 8 x7) 21 9))))
def f_X6_driveFrom_107 (x1 : Int32) (x5 : Int32) (x6 : Int32) (x7 : Int32) (x8 : Int32) (x9 : Int32) (σ : St) : Option (St) :=
  (gd (inb x9 24)
    (gd (inb x1 12)
      (gd (inb x1 12)
        (f_X6_driveFrom_126 x1 x5 x6 x7 x8 (sI (sI σ 24 x9.toNatClampNeg x7) 25 x1.toNatClampNeg ((gI (sI σ 24 x9.toNatClampNeg x7) 25 x1.toNatClampNeg) + 1))))))
def f_X6_driveFrom_87 (x1 : Int32) (x5 : Int32) (x6 : Int32) (x7 : Int32) (x8 : Int32) (x9 : Int32) (σ : St) : Option (St) :=
  (gd (inb x9 24)
    (gd (inb x9 24)
      (f_X6_driveFrom_107 x1 x5 x6 x7 x8 x9 (sI (sI σ 22 x9.toNatClampNeg x5) 23 x9.toNatClampNeg (gI (sI σ 22 x9.toNatClampNeg x5) 21 8)))))
def f_X6_driveFrom_71 (x1 : Int32) (x5 : Int32) (x6 : Int32) (x7 : Int32) (x8 : Int32) (σ : St) : Option (St) :=
  (gd (inb x1 12)
    (f_X6_driveFrom_87 x1 x5 x6 x7 x8 ((2 * x1) + (mnI (gI σ 25 x1.toNatClampNeg) 1)) σ))
def f_X6_driveFrom_59 (x1 : Int32) (x5 : Int32) (x6 : Int32) (x7 : Int32) (σ : St) : Option (St) :=
  (f_X6_driveFrom_71 x1 x5 x6 x7 (abI (x7 - (gI σ 21 8))) σ)
def f_X6_driveFrom_52 (x1 : Int32) (x4 : Int32) (x5 : Int32) (x6 : Int32) (y0 : Int32) (σ : St) : Option (St) :=
  (f_X6_driveFrom_59 x1 x5 x6 (mnI y0 x4) σ)
def f_X6_driveFrom_27 (x1 : Int32) (x3 : Int32) (x4 : Int32) (x5 : Int32) (y0 : Int32) (σ : St) : Option (St) :=
  (if y0 = 0 then
    (f_X6_driveFrom_52 x1 x4 x5 y0 ((gI σ 21 8) + x3) σ)
    else
    (f_X6_driveFrom_52 x1 x4 x5 y0 (((gI σ 21 8) + x3) - 10) σ))
def f_X6_driveFrom_10 (x1 : Int32) (x3 : Int32) (x4 : Int32) (x5 : Int32) (σ : St) : Option (St) :=
  ((f_X9_isDigit ((gI σ 21 8) + x3) σ).bind fun p1 =>
    (if p1.1 = 0 then
      (f_X6_driveFrom_27 x1 x3 x4 x5 1 p1.2)
      else
      (f_X6_driveFrom_27 x1 x3 x4 x5 0 p1.2)))
def f_X6_driveFrom (x1 : Int32) (x2 : Int32) (x3 : Int32) (x4 : Int32) (σ : St) : Option (St) :=
  (f_X6_driveFrom_10 x1 x3 x4 (mxI x2 (gI σ 21 9)) σ)
def f_X6_planRope_98 (σ : St) : Option (Int32 × St) :=
  (some ((gI σ 21 10), σ))
def f_X6_planRope_79 (x1 : Int32) (x3 : Int32) (x4 : Int32) (x6 : Int32) (σ : St) : Option (Int32 × St) :=
  (if x3 = (-1) then
    (f_X6_planRope_98 σ)
    else
    (if x6 = 0 then
      ((f_X6_driveFrom x1 x3 1 x4 σ).bind fun p1 =>
        (f_X6_planRope_98 p1))
      else
      (f_X6_planRope_98 σ)))
def f_X6_planRope_64 (x1 : Int32) (x2 : Int32) (x3 : Int32) (x4 : Int32) (x5 : Int32) (x6 : Int32) (σ : St) : Option (Int32 × St) :=
  (if x2 = (-1) then
    (f_X6_planRope_79 x1 x3 x4 x6 σ)
    else
    ((f_X6_driveFrom x1 x5 x2 x4 σ).bind fun p2 =>
      (f_X6_planRope_79 x1 x3 x4 x6 p2)))
def f_X6_planRope_48 (x1 : Int32) (x2 : Int32) (x3 : Int32) (x4 : Int32) (x5 : Int32) (y0 : Int32) (σ : St) : Option (Int32 × St) :=
  (if y0 = 0 then
    (f_X6_planRope_64 x1 x2 x3 x4 x5 y0 σ)
    else
    ((f_X6_driveFrom x1 x3 1 x4 σ).bind fun p3 =>
      (f_X6_planRope_64 x1 x2 x3 x4 x5 y0 p3)))
def f_X6_planRope_47 (x1 : Int32) (x2 : Int32) (x3 : Int32) (x4 : Int32) (x5 : Int32) (σ : St) : Option (Int32 × St) :=
  (f_X6_planRope_48 x1 x2 x3 x4 x5 0 σ)
def f_X6_planRope_32 (x1 : Int32) (x2 : Int32) (x3 : Int32) (x4 : Int32) (x5 : Int32) (σ : St) : Option (Int32 × St) :=
  (if x3 = (-1) then
    (f_X6_planRope_47 x1 x2 x3 x4 x5 σ)
    else
    (if x5 ≤ x3 then
      (f_X6_planRope_47 x1 x2 x3 x4 x5 σ)
      else
      (f_X6_planRope_48 x1 x2 x3 x4 x5 1 σ)))
def f_X6_planRope_19 (x1 : Int32) (x2 : Int32) (x3 : Int32) (x4 : Int32) (σ : St) : Option (Int32 × St) :=
  (f_X6_planRope_32 x1 x2 x3 x4 ((gI (sI σ 21 10 (-1)) 21 7) * x1) (sI σ 21 10 (-1)))
def f_X6_planRope (x1 : Int32) (x2 : Int32) (x3 : Int32) (x4 : Int32) (σ : St) : Option (Int32 × St) :=
  (gd (inb x1 12)
    (gd (inb x1 12)
      (f_X6_planRope_19 x1 x2 x3 x4 (sI (sI (sI σ 25 x1.toNatClampNeg 0) 26 x1.toNatClampNeg 0) 21 9 0))))
def f_X6_plan_75 (q : Nat) (k34 : Int32 → Int32 → Int32 → Int32 → St → Option (St)) (x2 : Int32) (x6 : Int32) (x7 : Int32) (x8 : Int32) (y0 : Int32) (y1 : Int32) (σ : St) : Option (St) :=
  (gd (inb x8 12)
    ((f_X6_planRope y1 y0 x7 (gI σ (q + 2) x8.toNatClampNeg) σ).bind fun p2 =>
      (k34 x2 x6 p2.1 (x8 + 1) p2.2)))
def f_X6_plan_34 (q : Nat) : Nat → Int32 → Int32 → Int32 → Int32 → St → Option (St)
  | 0, _, _, _, _, _ => none
  | n + 1, x2, x6, x7, x8, σ =>
    (if (gI σ q 0) ≤ x8 then
    (some σ)
    else
    (gd (inb x8 12)
      (if x6 < x8 then
        (f_X6_plan_75 q (f_X6_plan_34 q n) x2 x6 x7 x8 (-1) x8 (sI σ 21 8 (gI σ (q + 1) x8.toNatClampNeg)))
        else
        ((f_X9_digitOf x2.toInt64 x8 (sI σ 21 8 (gI σ (q + 1) x8.toNatClampNeg))).bind fun p3 =>
          (f_X6_plan_75 q (f_X6_plan_34 q n) x2 x6 x7 x8 p3.1 x8 p3.2)))))
def f_X6_plan (q : Nat) (x2 : Int32) (x3 : Int32) (x4 : Int32) (x5 : Int32) (σ : St) : Option (St) :=
  ((f_X7_topRope q x2 (sI (sI (sI σ 21 5 (mxI 1 x3)) 21 6 x4) 21 7 x5)).bind fun p1 =>
    (f_X6_plan_34 q FU x2 p1.1 (-1) 0 p1.2))
def f_X6_lastRest_32 (x2 : Int32) (σ : St) : Option (Int32 × St) :=
  (some (x2, σ))
def f_X6_lastRest_26 (k4 : Int32 → Int32 → Int32 → St → Option (Int32 × St)) (x1 : Int32) (x2 : Int32) (x3 : Int32) (σ : St) : Option (Int32 × St) :=
  (k4 x1 x2 (x3 + 1) σ)
def f_X6_lastRest_4 : Nat → Int32 → Int32 → Int32 → St → Option (Int32 × St)
  | 0, _, _, _, _ => none
  | n + 1, x1, x2, x3, σ =>
    (if x1 ≤ x3 then
    (f_X6_lastRest_32 x2 σ)
    else
    (if (12 : Int32) ≤ x3 then
      (f_X6_lastRest_32 x2 σ)
      else
      (gd (inb x3 12)
        (f_X6_lastRest_26 (f_X6_lastRest_4 n) x1 (mxI x2 (gI σ 26 x3.toNatClampNeg)) x3 σ))))
def f_X6_lastRest (x1 : Int32) (σ : St) : Option (Int32 × St) :=
  (f_X6_lastRest_4 FU x1 0 0 σ)
def f_X6_digitAt_122 (x4 : Int32) (σ : St) : Option (Int32 × St) :=
  (some (x4, σ))
def f_X6_digitAt_116 (k6 : Int32 → Int32 → Int32 → Int32 → St → Option (Int32 × St)) (x1 : Int32) (x3 : Int32) (x4 : Int32) (x5 : Int32) (σ : St) : Option (Int32 × St) :=
  (k6 x1 x3 x4 (x5 + 1) σ)
def f_X6_digitAt_113 (k6 : Int32 → Int32 → Int32 → Int32 → St → Option (Int32 × St)) (x1 : Int32) (x3 : Int32) (x5 : Int32) (y0 : Int32) (y1 : Int32) (σ : St) : Option (Int32 × St) :=
  (f_X6_digitAt_116 k6 x1 x3 (y1 + y0) x5 σ)
def f_X6_digitAt_81 (k6 : Int32 → Int32 → Int32 → Int32 → St → Option (Int32 × St)) (x1 : Int32) (x3 : Int32) (x5 : Int32) (x6 : Int32) (x7 : Int32) (σ : St) : Option (Int32 × St) :=
  (gd (inb x6 24)
    (gd (inb x6 24)
      (gd (inb x6 24)
        (if (gI σ 23 x6.toNatClampNeg) ≤ (gI σ 24 x6.toNatClampNeg) then
          (f_X6_digitAt_113 k6 x1 x3 x5 x7 (gI σ 23 x6.toNatClampNeg) σ)
          else
          (f_X6_digitAt_113 k6 x1 x3 x5 (-x7) (gI σ 23 x6.toNatClampNeg) σ)))))
def f_X6_digitAt_31 (k6 : Int32 → Int32 → Int32 → Int32 → St → Option (Int32 × St)) (x1 : Int32) (x3 : Int32) (x4 : Int32) (x5 : Int32) (x6 : Int32) (σ : St) : Option (Int32 × St) :=
  (gd (inb x6 24)
    (if x3 < (gI σ 22 x6.toNatClampNeg) then
      (f_X6_digitAt_116 k6 x1 x3 x4 x5 σ)
      else
      (gd (inb x6 24)
        (gd (nzI (gI σ 21 5))
          (gd (inb x6 24)
            (gd (inb x6 24)
              (f_X6_digitAt_81 k6 x1 x3 x5 x6 (mnI (((x3 - (gI σ 22 x6.toNatClampNeg)) + 1) / (gI σ 21 5)) (abI ((gI σ 24 x6.toNatClampNeg) - (gI σ 23 x6.toNatClampNeg)))) σ)))))))
def f_X6_digitAt_6 : Nat → Int32 → Int32 → Int32 → Int32 → St → Option (Int32 × St)
  | 0, _, _, _, _, _ => none
  | n + 1, x1, x3, x4, x5, σ =>
    (gd (inb x1 12)
    (if (gI σ 25 x1.toNatClampNeg) ≤ x5 then
      (f_X6_digitAt_122 x4 σ)
      else
      (if (2 : Int32) ≤ x5 then
        (f_X6_digitAt_122 x4 σ)
        else
        (f_X6_digitAt_31 (f_X6_digitAt_6 n) x1 x3 x4 x5 ((2 * x1) + x5) σ))))
def f_X6_digitAt (x1 : Int32) (x2 : Int32) (x3 : Int32) (σ : St) : Option (Int32 × St) :=
  (f_X6_digitAt_6 FU x1 x3 x2 0 σ)
def f_J7_fill_53178_5 (ar : Nat) (ln_ : Nat) : Nat → Int32 → Int32 → Int32 → St → Option (St)
  | 0, _, _, _, _ => none
  | n + 1, x1, x2, x3, σ =>
    (if x3 ≤ x2 then
    (some σ)
    else
    (gd (inb x2 ln_)
      (f_J7_fill_53178_5 ar ln_ n x1 (x2 + 1) x3 (sI σ ar x2.toNatClampNeg x1))))
def f_J7_fill_53178 (ar : Nat) (ln_ : Nat) (x1 : Int32) (σ : St) : Option (St) :=
  (f_J7_fill_53178_5 ar ln_ FU x1 0 (Int32.ofNat ln_) σ)
def f_X7_startCounts (o : Nat) (σ : St) : Option (St) :=
  (some (sI (sI (sI (sI (sI (sI σ o 7 0) o 8 0) o 9 0) o 10 0) o 11 0) o 12 0))
def f_X7_clear (o : Nat) (x1 : Int32) (σ : St) : Option (St) :=
  ((f_J7_fill_53178 (o + 1) 12 0 (sI σ o 0 x1)).bind fun p1 =>
    ((f_J7_fill_53178 (o + 2) 12 9 p1).bind fun p2 =>
      ((f_J7_fill_53178 (o + 3) 12 0 p2).bind fun p3 =>
        ((f_X7_startCounts o p3).bind fun p4 =>
          (some p4)))))
def f_X7_beginAs_53 (o : Nat) (q : Nat) (σ : St) : Option (St) :=
  ((f_X7_startCounts o σ).bind fun p1 =>
    (some p1))
def f_X7_beginAs_38 (o : Nat) (q : Nat) (σ : St) : Option (St) :=
  (f_X7_beginAs_53 o q (cpI σ (q + 1) (0 : Int32).toNatClampNeg (o + 3) (0 : Int32).toNatClampNeg (12 : Int32).toNatClampNeg))
def f_X7_beginAs_23 (o : Nat) (q : Nat) (σ : St) : Option (St) :=
  (f_X7_beginAs_38 o q (cpI σ (q + 2) (0 : Int32).toNatClampNeg (o + 2) (0 : Int32).toNatClampNeg (12 : Int32).toNatClampNeg))
def f_X7_beginAs (o : Nat) (q : Nat) (σ : St) : Option (St) :=
  (f_X7_beginAs_23 o q (cpI (sI σ o 0 (gI σ q 0)) (q + 1) (0 : Int32).toNatClampNeg (o + 1) (0 : Int32).toNatClampNeg (12 : Int32).toNatClampNeg))
def f_X7_becomeAs_69 (o : Nat) (q : Nat) (σ : St) : Option (St) :=
  (some (sI σ o 12 (gI σ q 12)))
def f_X7_becomeAs_53 (o : Nat) (q : Nat) (σ : St) : Option (St) :=
  (f_X7_becomeAs_69 o q (sI (sI σ o 10 (gI σ q 10)) o 11 (gI (sI σ o 10 (gI σ q 10)) q 11)))
def f_X7_becomeAs_37 (o : Nat) (q : Nat) (σ : St) : Option (St) :=
  (f_X7_becomeAs_53 o q (sI (sI σ o 8 (gI σ q 8)) o 9 (gI (sI σ o 8 (gI σ q 8)) q 9)))
def f_X7_becomeAs_21 (o : Nat) (q : Nat) (σ : St) : Option (St) :=
  (f_X7_becomeAs_37 o q (sI (sJ σ o 6 (gJ σ q 6)) o 7 (gI (sJ σ o 6 (gJ σ q 6)) q 7)))
def f_X7_becomeAs (o : Nat) (q : Nat) (σ : St) : Option (St) :=
  ((f_X7_beginAs o q σ).bind fun p1 =>
    (f_X7_becomeAs_21 o q (sI (sI p1 o 4 (gI p1 q 4)) o 5 (gI (sI p1 o 4 (gI p1 q 4)) q 5))))
def f_X7_seen_31 (o : Nat) (y0 : Int32) (y1 : Int32) (σ : St) : Option (Int32 × St) :=
  (some ((y1 + y0), σ))
def f_X7_seen_30 (o : Nat) (y0 : Int32) (σ : St) : Option (Int32 × St) :=
  (f_X7_seen_31 o 0 y0 σ)
def f_X7_seen (o : Nat) (x1 : Int32) (σ : St) : Option (Int32 × St) :=
  (gd (inb x1 12)
    ((f_X9_hasBit (gI σ o 4) x1 σ).bind fun p1 =>
      (if p1.1 = 0 then
        (f_X7_seen_30 o (gI σ (o + 1) x1.toNatClampNeg) p1.2)
        else
        (gd (inb x1 12)
          (if (gI p1.2 (o + 1) x1.toNatClampNeg) ≤ 0 then
            (f_X7_seen_30 o (gI σ (o + 1) x1.toNatClampNeg) p1.2)
            else
            (f_X7_seen_31 o 1 (gI σ (o + 1) x1.toNatClampNeg) p1.2))))))
def f_X7_valueSeen_27 (o : Nat) (k4 : Int64 → Int32 → St → Option (Int64 × St)) (x1 : Int64) (x3 : Int32) (σ : St) : Option (Int64 × St) :=
  (k4 x1 (x3 + 1) σ)
def f_X7_valueSeen_4 (o : Nat) : Nat → Int64 → Int32 → St → Option (Int64 × St)
  | 0, _, _, _ => none
  | n + 1, x1, x3, σ =>
    (if (gI σ o 0) ≤ x3 then
    (some (x1, σ))
    else
    ((f_X7_seen o x3 σ).bind fun p1 =>
      (gd (inb x3 13)
        (f_X7_valueSeen_27 o (f_X7_valueSeen_4 o n) (x1 + (p1.1.toInt64 * (tens x3.toNatClampNeg))) x3 p1.2))))
def f_X7_valueSeen (o : Nat) (σ : St) : Option (Int64 × St) :=
  (f_X7_valueSeen_4 o FU 0 0 σ)
def f_X7_isFoggy (o : Nat) (x1 : Int32) (σ : St) : Option (Int32 × St) :=
  ((f_X9_hasBit (gI σ o 5) x1 σ).bind fun p1 =>
    (gd (isbb (p1.1)) (some (p1.1, p1.2))))
def f_X7_twice_7 (o : Nat) : Nat → Int32 → St → Option (St)
  | 0, _, _ => none
  | n + 1, x1, σ =>
    (if x1 < 0 then
    (some σ)
    else
    (gd (inb x1 12)
      ((f_X7_drive o x1 (gI σ (o + 1) x1.toNatClampNeg) σ).bind fun p1 =>
        (f_X7_twice_7 o n (x1 + (-1)) p1))))
def f_X7_twice (o : Nat) (σ : St) : Option (St) :=
  (f_X7_twice_7 o FU ((gI σ o 0) - 1) σ)
def f_X7_halve_37 (o : Nat) (k9 : Int32 → Int32 → St → Option (St)) (x1 : Int32) (x2 : Int32) (σ : St) : Option (St) :=
  (k9 x1 (x2 + (-1)) σ)
def f_X7_halve_25 (o : Nat) (k9 : Int32 → Int32 → St → Option (St)) (x2 : Int32) (x3 : Int32) (σ : St) : Option (St) :=
  ((f_X7_stand o x2 (x3 / 2) σ).bind fun p1 =>
    (f_X7_halve_37 o k9 (rmI x3 2) x2 p1))
def f_X7_halve_9 (o : Nat) : Nat → Int32 → Int32 → St → Option (St)
  | 0, _, _, _ => none
  | n + 1, x1, x2, σ =>
    (if x2 < 0 then
    (some (sI σ o 12 x1))
    else
    (gd (inb x2 12)
      (f_X7_halve_25 o (f_X7_halve_9 o n) x2 ((10 * x1) + (gI σ (o + 1) x2.toNatClampNeg)) σ)))
def f_X7_halve (o : Nat) (σ : St) : Option (St) :=
  (f_X7_halve_9 o FU 0 ((gI σ o 0) - 1) σ)
def f_X7_empty_2 (o : Nat) : Nat → Int32 → St → Option (St)
  | 0, _, _ => none
  | n + 1, x1, σ =>
    (if (gI σ o 0) ≤ x1 then
    (some σ)
    else
    ((f_X7_stand o x1 0 σ).bind fun p1 =>
      (f_X7_empty_2 o n (x1 + 1) p1)))
def f_X7_empty (o : Nat) (σ : St) : Option (St) :=
  (f_X7_empty_2 o FU 0 σ)
def f_J9_floorMod_f86c9_25 (x4 : Int64) (σ : St) : Option (Int64 × St) :=
  (some (x4, σ))
def f_J9_floorMod_f86c9_5 (x0 : Int64) (x2 : Int64) (x4 : Int64) (σ : St) : Option (Int64 × St) :=
  (if (0 : Int32) ≤ (lg_cmp (x0 ^^^ x2) 0) then
    (f_J9_floorMod_f86c9_25 x4 σ)
    else
    (if (lg_cmp x4 0) = 0 then
      (f_J9_floorMod_f86c9_25 x4 σ)
      else
      (some ((x4 + x2), σ))))
def f_J9_floorMod_f86c9 (x0 : Int64) (x2 : Int64) (σ : St) : Option (Int64 × St) :=
  (gd (nzJ x2)
    (f_J9_floorMod_f86c9_5 x0 x2 (rmJ x0 x2) σ))
def f_X8_restOf (v : Nat) (x1 : Int64) (σ : St) : Option (Int32 × St) :=
  ((f_J9_floorMod_f86c9 x1 ((gI σ v 3).toInt64) σ).bind fun p1 =>
    (some (p1.1.toInt32, p1.2)))
def f_X8_countWays_121 (v : Nat) (k17 : Int32 → St → Option (St)) (k27 : Int32 → Int32 → St → Option (St)) (k54 : Int32 → Int32 → Int32 → Int32 → St → Option (St)) (x1 : Int32) (x2 : Int32) (x3 : Int32) (x4 : Int32) (σ : St) : Option (St) :=
  (k54 x1 x2 x3 (x4 + 1) σ)
def f_X8_countWays_90 (v : Nat) (k17 : Int32 → St → Option (St)) (k27 : Int32 → Int32 → St → Option (St)) (k54 : Int32 → Int32 → Int32 → Int32 → St → Option (St)) (x1 : Int32) (x2 : Int32) (x3 : Int32) (x4 : Int32) (y0 : Int32) (σ : St) : Option (St) :=
  (gd (inb (((x1 + 1) * 99) + y0) 594)
    (gd (inb ((x1 * 99) + x4) 594)
      (gd (inb (((x1 + 1) * 99) + y0) 594)
        (f_X8_countWays_121 v k17 k27 k54 x1 x2 x3 x4 (sI σ (v + 2) (((x1 + 1) * 99) + y0).toNatClampNeg ((gI σ (v + 2) (((x1 + 1) * 99) + y0).toNatClampNeg) + (gI σ (v + 2) ((x1 * 99) + x4).toNatClampNeg)))))))
def f_X8_countWays_54 (v : Nat) (k17 : Int32 → St → Option (St)) (k27 : Int32 → Int32 → St → Option (St)) : Nat → Int32 → Int32 → Int32 → Int32 → St → Option (St)
  | 0, _, _, _, _, _ => none
  | n + 1, x1, x2, x3, x4, σ =>
    (if (gI σ v 3) ≤ x4 then
    (k27 x1 (x2 + 1) σ)
    else
    (if (gI σ v 3) ≤ (x4 + x3) then
      (f_X8_countWays_90 v k17 k27 (f_X8_countWays_54 v k17 k27 n) x1 x2 x3 x4 ((x4 + x3) - (gI σ v 3)) σ)
      else
      (f_X8_countWays_90 v k17 k27 (f_X8_countWays_54 v k17 k27 n) x1 x2 x3 x4 (x4 + x3) σ)))
def f_X8_countWays_27 (v : Nat) (k17 : Int32 → St → Option (St)) : Nat → Int32 → Int32 → St → Option (St)
  | 0, _, _, _ => none
  | n + 1, x1, x2, σ =>
    (if (9 : Int32) < x2 then
    (k17 (x1 + 1) σ)
    else
    (gd (inb x1 5)
      (gd (inb (gI σ (v + 1) x1.toNatClampNeg) 13)
        ((f_X8_restOf v (x2.toInt64 * (tens (gI σ (v + 1) x1.toNatClampNeg).toNatClampNeg)) σ).bind fun p2 =>
          (f_X8_countWays_54 v k17 (f_X8_countWays_27 v k17 n) FU x1 x2 p2.1 0 p2.2)))))
def f_X8_countWays_17 (v : Nat) : Nat → Int32 → St → Option (St)
  | 0, _, _ => none
  | n + 1, x1, σ =>
    (if (gI σ v 2) ≤ x1 then
    (some σ)
    else
    (f_X8_countWays_27 v (f_X8_countWays_17 v n) FU x1 0 σ))
def f_X8_countWays (v : Nat) (σ : St) : Option (St) :=
  ((f_J7_fill_53178 (v + 2) 594 0 σ).bind fun p1 =>
    (f_X8_countWays_17 v FU 0 (sI p1 (v + 2) (0 : Int32).toNatClampNeg 1)))
def f_X8_look_94 (v : Nat) (q : Nat) (k26 : Int32 → St → Option (St)) (x3 : Int32) (σ : St) : Option (St) :=
  (k26 (x3 + 1) σ)
def f_X8_look_26 (v : Nat) (q : Nat) : Nat → Int32 → St → Option (St)
  | 0, _, _ => none
  | n + 1, x3, σ =>
    (if (gI σ q 0) ≤ x3 then
    ((f_X8_countWays v σ).bind fun p1 =>
      (some p1))
    else
    ((f_X7_isFoggy q x3 σ).bind fun p2 =>
      (if p2.1 = 0 then
        ((f_X7_seen q x3 p2.2).bind fun p3 =>
          (gd (inb x3 13)
            (f_X8_look_94 v q (f_X8_look_26 v q n) x3 (sJ p3.2 v 4 ((gJ p2.2 v 4) + (p3.1.toInt64 * (tens x3.toNatClampNeg)))))))
        else
        (if (5 : Int32) ≤ (gI p2.2 v 2) then
          (f_X8_look_94 v q (f_X8_look_26 v q n) x3 p2.2)
          else
          (gd (inb (gI p2.2 v 2) 5)
            (f_X8_look_94 v q (f_X8_look_26 v q n) x3 (sI (sI p2.2 (v + 1) (gI p2.2 v 2).toNatClampNeg x3) v 2 ((gI (sI p2.2 (v + 1) (gI p2.2 v 2).toNatClampNeg x3) v 2) + 1))))))))
def f_X8_look (v : Nat) (q : Nat) (x2 : Int32) (σ : St) : Option (St) :=
  (f_X8_look_26 v q FU 0 (sJ (sI (sI σ v 3 (mxI 1 (mnI 99 x2))) v 2 0) v 4 0))
def f_X8_howMany (v : Nat) (x1 : Int32) (σ : St) : Option (Int32 × St) :=
  ((f_X8_restOf v (x1.toInt64 - (gJ σ v 4)) σ).bind fun p1 =>
    (gd (inb (((gI σ v 2) * 99) + p1.1) 594)
      (some ((gI p1.2 (v + 2) (((gI σ v 2) * 99) + p1.1).toNatClampNeg), p1.2))))
def f_X8_outermost_118 (v : Nat) (k13 : Int32 → Int32 → Int64 → Int32 → St → Option (Int64 × St)) (x1 : Int32) (x2 : Int32) (x3 : Int64) (x5 : Int32) (σ : St) : Option (Int64 × St) :=
  (k13 x1 x2 x3 (x5 + (-1)) σ)
def f_X8_outermost_105 (v : Nat) (k13 : Int32 → Int32 → Int64 → Int32 → St → Option (Int64 × St)) (x1 : Int32) (x2 : Int32) (x3 : Int64) (x5 : Int32) (x6 : Int64) (x8 : Int32) (σ : St) : Option (Int64 × St) :=
  (f_X8_outermost_118 v k13 x1 x2 (x3 + (((mxI x8 0).toInt64) * x6)) x5 σ)
def f_X8_outermost_99 (v : Nat) (k13 : Int32 → Int32 → Int64 → Int32 → St → Option (Int64 × St)) (k37 : Int32 → Int32 → Int64 → Int32 → Int64 → Int32 → Int32 → St → Option (Int64 × St)) (x1 : Int32) (x2 : Int32) (x3 : Int64) (x5 : Int32) (x6 : Int64) (x8 : Int32) (x9 : Int32) (σ : St) : Option (Int64 × St) :=
  (k37 x1 x2 x3 x5 x6 x8 (x9 + 1) σ)
def f_X8_outermost_64 (v : Nat) (k13 : Int32 → Int32 → Int64 → Int32 → St → Option (Int64 × St)) (k37 : Int32 → Int32 → Int64 → Int32 → Int64 → Int32 → Int32 → St → Option (Int64 × St)) (x1 : Int32) (x2 : Int32) (x3 : Int64) (x5 : Int32) (x6 : Int64) (x8 : Int32) (x9 : Int32) (y0 : Int32) (σ : St) : Option (Int64 × St) :=
  ((f_X8_restOf v ((x1.toInt64 - x3) - (y0.toInt64 * x6)) σ).bind fun p1 =>
    (gd (inb ((x5 * 99) + p1.1) 594)
      (if (gI p1.2 (v + 2) ((x5 * 99) + p1.1).toNatClampNeg) ≤ 0 then
        (f_X8_outermost_99 v k13 k37 x1 x2 x3 x5 x6 x8 x9 p1.2)
        else
        (f_X8_outermost_99 v k13 k37 x1 x2 x3 x5 x6 y0 x9 p1.2))))
def f_X8_outermost_37 (v : Nat) (k13 : Int32 → Int32 → Int64 → Int32 → St → Option (Int64 × St)) : Nat → Int32 → Int32 → Int64 → Int32 → Int64 → Int32 → Int32 → St → Option (Int64 × St)
  | 0, _, _, _, _, _, _, _, _ => none
  | n + 1, x1, x2, x3, x5, x6, x8, x9, σ =>
    (if (9 : Int32) < x9 then
    (f_X8_outermost_105 v k13 x1 x2 x3 x5 x6 x8 σ)
    else
    (if x8 = (-1) then
      (if x2 = 0 then
        (f_X8_outermost_64 v k13 (f_X8_outermost_37 v k13 n) x1 x2 x3 x5 x6 x8 x9 x9 σ)
        else
        (f_X8_outermost_64 v k13 (f_X8_outermost_37 v k13 n) x1 x2 x3 x5 x6 x8 x9 (9 - x9) σ))
      else
      (f_X8_outermost_105 v k13 x1 x2 x3 x5 x6 x8 σ)))
def f_X8_outermost_31 (v : Nat) (k13 : Int32 → Int32 → Int64 → Int32 → St → Option (Int64 × St)) (x1 : Int32) (x2 : Int32) (x3 : Int64) (x5 : Int32) (x6 : Int64) (σ : St) : Option (Int64 × St) :=
  (f_X8_outermost_37 v k13 FU x1 x2 x3 x5 x6 (-1) 0 σ)
def f_X8_outermost_13 (v : Nat) : Nat → Int32 → Int32 → Int64 → Int32 → St → Option (Int64 × St)
  | 0, _, _, _, _, _ => none
  | n + 1, x1, x2, x3, x5, σ =>
    (if x5 < 0 then
    (some (x3, σ))
    else
    (gd (inb x5 5)
      (gd (inb (gI σ (v + 1) x5.toNatClampNeg) 13)
        (f_X8_outermost_31 v (f_X8_outermost_13 v n) x1 x2 x3 x5 (tens (gI σ (v + 1) x5.toNatClampNeg).toNatClampNeg) σ))))
def f_X8_outermost_5 (v : Nat) (x1 : Int32) (x2 : Int32) (x3 : Int64) (σ : St) : Option (Int64 × St) :=
  (f_X8_outermost_13 v FU x1 x2 x3 ((gI σ v 2) - 1) σ)
def f_X8_outermost (v : Nat) (x1 : Int32) (x2 : Int32) (σ : St) : Option (Int64 × St) :=
  (f_X8_outermost_5 v x1 x2 (gJ σ v 4) σ)
def f_X9_bytesIn_27 (k5 : Int32 → Int32 → Int32 → St → Option (Int32 × St)) (x0 : Int32) (x1 : Int32) (x2 : Int32) (σ : St) : Option (Int32 × St) :=
  (k5 x0 x1 (x2 + (-8)) σ)
def f_X9_bytesIn_25 (k5 : Int32 → Int32 → Int32 → St → Option (Int32 × St)) (x0 : Int32) (x2 : Int32) (y0 : Int32) (y1 : Int32) (σ : St) : Option (Int32 × St) :=
  (f_X9_bytesIn_27 k5 x0 (y1 + y0) x2 σ)
def f_X9_bytesIn_5 : Nat → Int32 → Int32 → Int32 → St → Option (Int32 × St)
  | 0, _, _, _, _ => none
  | n + 1, x0, x1, x2, σ =>
    (if x2 < 0 then
    (some (x1, σ))
    else
    (if ((ushI x0 x2) &&& 255) = 0 then
      (f_X9_bytesIn_25 (f_X9_bytesIn_5 n) x0 x2 0 x1 σ)
      else
      (f_X9_bytesIn_25 (f_X9_bytesIn_5 n) x0 x2 1 x1 σ)))
def f_X9_bytesIn (x0 : Int32) (σ : St) : Option (Int32 × St) :=
  (f_X9_bytesIn_5 FU x0 0 24 σ)
def f_X9_feed_28 (x1 : Int32) (x2 : Int32) (x3 : Int32) (x4 : Int32) (x5 : Int32) (x6 : Int32) (σ : St) : Option (Int32 × St) :=
  (if ((gI σ 11 1) + x6) ≤ 160 then
    ((f_X5_write x1 σ).bind fun p6 =>
      ((f_X5_write x2 p6).bind fun p7 =>
        ((f_X5_write x3 p7).bind fun p8 =>
          ((f_X5_write x4 p8).bind fun p9 =>
            ((f_X5_write x5 p9).bind fun p10 =>
              (some ((gI p10 11 1), p10)))))))
    else
    (some ((-1), σ)))
def f_X9_feed (x1 : Int32) (x2 : Int32) (x3 : Int32) (x4 : Int32) (x5 : Int32) (σ : St) : Option (Int32 × St) :=
  ((f_X9_bytesIn x1 σ).bind fun p1 =>
    ((f_X9_bytesIn x2 p1.2).bind fun p2 =>
      ((f_X9_bytesIn x3 p2.2).bind fun p3 =>
        ((f_X9_bytesIn x4 p3.2).bind fun p4 =>
          ((f_X9_bytesIn x5 p4.2).bind fun p5 =>
            (f_X9_feed_28 x1 x2 x3 x4 x5 ((((p1.1 + p2.1) + p3.1) + p4.1) + p5.1) p5.2))))))
def f_X9_end_15 (σ : St) : Option (Int32 × St) :=
  (some (0, σ))
def f_X9_end (x1 : Int32) (σ : St) : Option (Int32 × St) :=
  (if x1 < 0 then
    (f_X9_end_15 σ)
    else
    (if x1 ≤ (gI σ 11 1) then
      (some (1, (sI σ 11 1 x1)))
      else
      (f_X9_end_15 σ)))
def f_X9_set_43 (σ : St) : Option (Int32 × St) :=
  (some (0, σ))
def f_X9_set_101 (σ : St) : Option (Int32 × St) :=
  (some (1, σ))
def f_X9_set_21 (x1 : Int32) (x2 : Int32) (x3 : Int32) (y0 : Int32) (σ : St) : Option (Int32 × St) :=
  (if x1 < 0 then
    (f_X9_set_43 σ)
    else
    (if (3 : Int32) < x1 then
      (f_X9_set_43 σ)
      else
      (if x2 < x3 then
        (f_X9_set_43 σ)
        else
        (if x2 ≤ y0 then
          (if x1 = 0 then
            (f_X9_set_101 (sI σ 0 14 x2))
            else if x1 = 1 then
            (f_X9_set_101 (sI σ 0 15 x2))
            else if x1 = 2 then
            (f_X9_set_101 (sI σ 0 16 x2))
            else 
            (f_X9_set_101 (sI σ 0 17 x2)))
          else
          (f_X9_set_43 σ)))))
def f_X9_set_10 (x1 : Int32) (x2 : Int32) (y0 : Int32) (σ : St) : Option (Int32 × St) :=
  (if x1 = 0 then
    (f_X9_set_21 x1 x2 y0 1 σ)
    else
    (f_X9_set_21 x1 x2 y0 9 σ))
def f_X9_set (x1 : Int32) (x2 : Int32) (σ : St) : Option (Int32 × St) :=
  (if x1 = 1 then
    (f_X9_set_10 x1 x2 1 σ)
    else
    (f_X9_set_10 x1 x2 0 σ))
def f_X9_isRope_20 (y0 : Int32) (σ : St) : Option (Int32 × St) :=
  (gd (isbb (y0)) (some (y0, σ)))
def f_X9_isRope_19 (σ : St) : Option (Int32 × St) :=
  (f_X9_isRope_20 0 σ)
def f_X9_isRope (x1 : Int32) (σ : St) : Option (Int32 × St) :=
  (if x1 < 0 then
    (f_X9_isRope_19 σ)
    else
    (if (gI σ 1 0) ≤ x1 then
      (f_X9_isRope_19 σ)
      else
      (f_X9_isRope_20 1 σ)))
def f_X9_goats_31 (σ : St) : Option (Int32 × St) :=
  (some (0, σ))
def f_X9_goats (x1 : Int32) (x2 : Int32) (σ : St) : Option (Int32 × St) :=
  ((f_X9_isRope x1 σ).bind fun p1 =>
    (if p1.1 = 0 then
      (f_X9_goats_31 p1.2)
      else
      (if x2 < 0 then
        (f_X9_goats_31 p1.2)
        else
        (if (12 : Int32) < x2 then
          (f_X9_goats_31 p1.2)
          else
          (gd (inb x1 12)
            (if (gI p1.2 2 x1.toNatClampNeg) ≤ x2 then
              (gd (inb x1 12)
                (some (1, (sI p1.2 3 x1.toNatClampNeg x2))))
              else
              (f_X9_goats_31 p1.2)))))))
def f_X9_echo_29 (σ : St) : Option (Int32 × St) :=
  (some (0, σ))
def f_X9_echo (x1 : Int32) (x2 : Int32) (x3 : Int32) (σ : St) : Option (Int32 × St) :=
  ((f_X9_isDigit x1 σ).bind fun p1 =>
    (if p1.1 = 0 then
      (f_X9_echo_29 p1.2)
      else
      ((f_X9_isDigit x2 p1.2).bind fun p2 =>
        (if p2.1 = 0 then
          (f_X9_echo_29 p2.2)
          else
          (if x1 = x2 then
            (f_X9_echo_29 p2.2)
            else
            (if x3 < 0 then
              (f_X9_echo_29 p2.2)
              else
              (if x3 ≤ 100 then
                ((f_X1_learn x1 x2 x3 p2.2).bind fun p3 =>
                  (gd (isbb (p3.1)) (some (p3.1, p3.2))))
                else
                (f_X9_echo_29 p2.2))))))))
def f_X9_wind (x1 : Int64) (σ : St) : Option (St) :=
  (some (sJ σ 1 6 x1))
def f_X9_isNumber_16 (y0 : Int32) (σ : St) : Option (Int32 × St) :=
  (gd (isbb (y0)) (some (y0, σ)))
def f_X9_isNumber_15 (σ : St) : Option (Int32 × St) :=
  (f_X9_isNumber_16 0 σ)
def f_X9_isNumber (x0 : Int32) (σ : St) : Option (Int32 × St) :=
  (if x0 < 0 then
    (f_X9_isNumber_15 σ)
    else
    (if (999999999 : Int32) < x0 then
      (f_X9_isNumber_15 σ)
      else
      (f_X9_isNumber_16 1 σ)))
def f_X9_perform_n_92 (q : Nat) (x5 : Int32) (x6 : Int32) (σ : St) : Option (St) :=
  (some (sI σ q 9 ((gI σ q 9) + ((((gI σ q 7) - x5) * (gI σ 0 15)) + (((gI σ q 8) - x6) * (gI σ 0 16))))))
def f_X9_perform_n_12 (q : Nat) (x2 : Int32) (x3 : Int32) (x5 : Int32) (x6 : Int32) (σ : St) : Option (St) :=
  (if x2 = 0 then
    ((f_X7_bring_n q x3 0 (gI σ 0 14) σ).bind fun p1 =>
      (f_X9_perform_n_92 q x5 x6 p1))
    else if x2 = 1 then
    ((f_X7_bring_n q x3 1 (gI σ 0 14) σ).bind fun p2 =>
      (f_X9_perform_n_92 q x5 x6 p2))
    else if x2 = 2 then
    ((f_X7_twice q σ).bind fun p3 =>
      (f_X9_perform_n_92 q x5 x6 p3))
    else if x2 = 3 then
    ((f_X7_halve q σ).bind fun p4 =>
      (f_X9_perform_n_92 q x5 x6 p4))
    else 
    ((f_X7_empty q σ).bind fun p5 =>
      (f_X9_perform_n_92 q x5 x6 p5)))
def f_X9_perform_n_6 (q : Nat) (x2 : Int32) (x3 : Int32) (x5 : Int32) (σ : St) : Option (St) :=
  (f_X9_perform_n_12 q x2 x3 x5 (gI σ q 8) σ)
def f_X9_perform_n (q : Nat) (x2 : Int32) (x3 : Int32) (σ : St) : Option (St) :=
  (f_X9_perform_n_6 q x2 x3 (gI σ q 7) σ)
def f_X9_perform_e_92 (q : Nat) (x5 : Int32) (x6 : Int32) (σ : St) : Option (St) :=
  (some (sI σ q 9 ((gI σ q 9) + ((((gI σ q 7) - x5) * (gI σ 0 15)) + (((gI σ q 8) - x6) * (gI σ 0 16))))))
def f_X9_perform_e_12 (q : Nat) (x2 : Int32) (x3 : Int32) (x5 : Int32) (x6 : Int32) (σ : St) : Option (St) :=
  (if x2 = 0 then
    ((f_X7_bring_e q x3 0 (gI σ 0 14) σ).bind fun p1 =>
      (f_X9_perform_e_92 q x5 x6 p1))
    else if x2 = 1 then
    ((f_X7_bring_e q x3 1 (gI σ 0 14) σ).bind fun p2 =>
      (f_X9_perform_e_92 q x5 x6 p2))
    else if x2 = 2 then
    ((f_X7_twice q σ).bind fun p3 =>
      (f_X9_perform_e_92 q x5 x6 p3))
    else if x2 = 3 then
    ((f_X7_halve q σ).bind fun p4 =>
      (f_X9_perform_e_92 q x5 x6 p4))
    else 
    ((f_X7_empty q σ).bind fun p5 =>
      (f_X9_perform_e_92 q x5 x6 p5)))
def f_X9_perform_e_6 (q : Nat) (x2 : Int32) (x3 : Int32) (x5 : Int32) (σ : St) : Option (St) :=
  (f_X9_perform_e_12 q x2 x3 x5 (gI σ q 8) σ)
def f_X9_perform_e (q : Nat) (x2 : Int32) (x3 : Int32) (σ : St) : Option (St) :=
  (f_X9_perform_e_6 q x2 x3 (gI σ q 7) σ)
def f_X9_actOnce (x1 : Int32) (x2 : Int32) (σ : St) : Option (Int32 × St) :=
  ((f_X2_keep 1 σ).bind fun p1 =>
    ((f_X9_perform_e 1 x1 x2 p1).bind fun p2 =>
      (some ((gI (sI p2 0 13 ((gI p2 0 13) + 1)) 0 13), (sI p2 0 13 ((gI p2 0 13) + 1))))))
def f_X9_add_19 (x1 : Int32) (y0 : Int32) (σ : St) : Option (Int32 × St) :=
  ((f_X9_actOnce y0 x1 σ).bind fun p2 =>
    (some (p2.1, p2.2)))
def f_X9_add (x1 : Int32) (x2 : Int32) (σ : St) : Option (Int32 × St) :=
  ((f_X9_isNumber x1 σ).bind fun p1 =>
    (if p1.1 = 0 then
      (some ((-1), p1.2))
      else
      (if x2 = 0 then
        (f_X9_add_19 x1 0 p1.2)
        else
        (f_X9_add_19 x1 1 p1.2))))
def f_X9_act_10 (σ : St) : Option (Int32 × St) :=
  (some ((-1), σ))
def f_X9_act (x1 : Int32) (σ : St) : Option (Int32 × St) :=
  (if x1 < 2 then
    (f_X9_act_10 σ)
    else
    (if x1 ≤ 4 then
      ((f_X9_actOnce x1 0 σ).bind fun p1 =>
        (some (p1.1, p1.2)))
      else
      (f_X9_act_10 σ)))
def f_X9_undo (σ : St) : Option (Int32 × St) :=
  ((f_X2_takeBack 1 σ).bind fun p1 =>
    (if p1.1 = 0 then
      (some ((-1), p1.2))
      else
      (some ((gI (sI p1.2 0 13 ((gI p1.2 0 13) - 1)) 0 13), (sI p1.2 0 13 ((gI p1.2 0 13) - 1))))))
def f_X9_rope_80 (y0 : Int32) (σ : St) : Option (Int32 × St) :=
  (some (y0, σ))
def f_X9_rope (x1 : Int32) (x2 : Int32) (σ : St) : Option (Int32 × St) :=
  ((f_X9_isRope x1 σ).bind fun p1 =>
    (if p1.1 = 0 then
      (some ((-1), p1.2))
      else
      (if x2 = 0 then
        (gd (inb x1 12)
          (some ((gI p1.2 2 x1.toNatClampNeg), p1.2)))
        else if x2 = 1 then
        (gd (inb x1 12)
          (some ((gI p1.2 3 x1.toNatClampNeg), p1.2)))
        else if x2 = 2 then
        ((f_X7_isFoggy 1 x1 p1.2).bind fun p2 =>
          (if p2.1 = 0 then
            ((f_X7_seen 1 x1 p2.2).bind fun p3 =>
              (f_X9_rope_80 p3.1 p3.2))
            else
            (f_X9_rope_80 (-2) p2.2)))
        else 
        (some ((-1), p1.2)))))
def f_X9_number (σ : St) : Option (Int64 × St) :=
  ((f_X7_value 1 σ).bind fun p1 =>
    (some (p1.1, p1.2)))
def f_X9_told (x1 : Int32) (σ : St) : Option (Int32 × St) :=
  (if x1 = 0 then
    (some ((gI σ 1 7), σ))
    else if x1 = 1 then
    (some ((gI σ 1 8), σ))
    else if x1 = 2 then
    (some ((gI σ 1 9), σ))
    else if x1 = 3 then
    (some ((gI σ 1 10), σ))
    else if x1 = 4 then
    (some ((gI σ 1 11), σ))
    else if x1 = 5 then
    (some ((gI σ 1 12), σ))
    else if x1 = 6 then
    (some ((gI σ 0 13), σ))
    else 
    (some ((-1), σ)))
def f_X9_done_20 (σ : St) : Option (Int32 × St) :=
  (some ((-1), σ))
def f_X9_done_77 (y0 : Int32) (σ : St) : Option (Int32 × St) :=
  (some (y0, σ))
def f_X9_done_22 (x1 : Int32) (x2 : Int32) (σ : St) : Option (Int32 × St) :=
  ((f_X6_plan 1 x1 (gI σ 0 15) (gI σ 0 16) (gI σ 0 17) σ).bind fun p2 =>
    (if x2 = (-1) then
      ((f_X6_lastRest (gI p2 1 0) p2).bind fun p3 =>
        (f_X9_done_77 p3.1 p3.2))
      else
      (gd (inb x2 12)
        (f_X9_done_77 (gI p2 26 x2.toNatClampNeg) p2))))
def f_X9_done (x1 : Int32) (x2 : Int32) (σ : St) : Option (Int32 × St) :=
  ((f_X9_isNumber x1 σ).bind fun p1 =>
    (if p1.1 = 0 then
      (f_X9_done_20 p1.2)
      else
      (if x2 = (-1) then
        (f_X9_done_22 x1 x2 p1.2)
        else
        ((f_X9_isRope x2 p1.2).bind fun p4 =>
          (if p4.1 = 0 then
            (f_X9_done_20 p4.2)
            else
            (f_X9_done_22 x1 x2 p4.2))))))
def f_X9_standing_26 (σ : St) : Option (Int32 × St) :=
  (some ((-1), σ))
def f_X9_standing (x1 : Int32) (x2 : Int32) (x3 : Int32) (σ : St) : Option (Int32 × St) :=
  ((f_X9_isNumber x1 σ).bind fun p1 =>
    (if p1.1 = 0 then
      (f_X9_standing_26 p1.2)
      else
      ((f_X9_isRope x2 p1.2).bind fun p2 =>
        (if p2.1 = 0 then
          (f_X9_standing_26 p2.2)
          else
          (if x3 < 0 then
            (f_X9_standing_26 p2.2)
            else
            (if x3 ≤ 9999 then
              ((f_X6_plan 1 x1 (gI p2.2 0 15) (gI p2.2 0 16) (gI p2.2 0 17) p2.2).bind fun p3 =>
                (gd (inb x2 12)
                  ((f_X6_digitAt x2 (gI p3 2 x2.toNatClampNeg) x3 p3).bind fun p4 =>
                    (some (p4.1, p4.2)))))
              else
              (f_X9_standing_26 p2.2)))))))
def f_X9_withBit_19 (y0 : Int32) (σ : St) : Option (Int32 × St) :=
  (some (y0, σ))
def f_X9_withBit (x0 : Int32) (x1 : Int32) (x2 : Int32) (σ : St) : Option (Int32 × St) :=
  (if x2 = 0 then
    (f_X9_withBit_19 (x0 &&& ((shlI 1 x1) ^^^ (-1))) σ)
    else
    (f_X9_withBit_19 (x0 ||| (shlI 1 x1)) σ))
def f_X9_two (x1 : Int32) (x2 : Int32) (σ : St) : Option (Int32 × St) :=
  ((f_X9_isRope x1 σ).bind fun p1 =>
    (if p1.1 = 0 then
      (some (0, p1.2))
      else
      ((f_X9_withBit (gI p1.2 1 4) x1 x2 p1.2).bind fun p2 =>
        (some (1, (sI p2.2 1 4 p2.1))))))
def f_J6_bitCount_0f7a4_48 (x0 : Int32) (σ : St) : Option (Int32 × St) :=
  (some ((x0 &&& 63), σ))
def f_J6_bitCount_0f7a4_41 (x0 : Int32) (σ : St) : Option (Int32 × St) :=
  (f_J6_bitCount_0f7a4_48 (x0 + (ushI x0 16)) σ)
def f_J6_bitCount_0f7a4_34 (x0 : Int32) (σ : St) : Option (Int32 × St) :=
  (f_J6_bitCount_0f7a4_41 (x0 + (ushI x0 8)) σ)
def f_J6_bitCount_0f7a4_24 (x0 : Int32) (σ : St) : Option (Int32 × St) :=
  (f_J6_bitCount_0f7a4_34 ((x0 + (ushI x0 4)) &&& 252645135) σ)
def f_J6_bitCount_0f7a4_10 (x0 : Int32) (σ : St) : Option (Int32 × St) :=
  (f_J6_bitCount_0f7a4_24 ((x0 &&& 858993459) + ((ushI x0 2) &&& 858993459)) σ)
def f_J6_bitCount_0f7a4 (x0 : Int32) (σ : St) : Option (Int32 × St) :=
  (f_J6_bitCount_0f7a4_10 (x0 - ((ushI x0 1) &&& 1431655765)) σ)
def f_X9_fog_35 (x1 : Int32) (x2 : Int32) (σ : St) : Option (Int32 × St) :=
  ((f_X9_withBit (gI σ 1 5) x1 x2 σ).bind fun p2 =>
    (some (1, (sI p2.2 1 5 p2.1))))
def f_X9_fog (x1 : Int32) (x2 : Int32) (σ : St) : Option (Int32 × St) :=
  ((f_X9_isRope x1 σ).bind fun p1 =>
    (if p1.1 = 0 then
      (some (0, p1.2))
      else
      (if x2 = 0 then
        (f_X9_fog_35 x1 x2 p1.2)
        else
        ((f_X9_withBit (gI p1.2 1 5) x1 0 p1.2).bind fun p3 =>
          ((f_J6_bitCount_0f7a4 p3.1 p3.2).bind fun p4 =>
            (if p4.1 < 5 then
              (f_X9_fog_35 x1 x2 p4.2)
              else
              (some (0, p4.2))))))))
def f_X9_isBell_16 (y0 : Int32) (σ : St) : Option (Int32 × St) :=
  (gd (isbb (y0)) (some (y0, σ)))
def f_X9_isBell_15 (σ : St) : Option (Int32 × St) :=
  (f_X9_isBell_16 0 σ)
def f_X9_isBell (x0 : Int32) (σ : St) : Option (Int32 × St) :=
  (if x0 < 2 then
    (f_X9_isBell_15 σ)
    else
    (if (99 : Int32) < x0 then
      (f_X9_isBell_15 σ)
      else
      (f_X9_isBell_16 1 σ)))
def f_X9_bell (x1 : Int32) (σ : St) : Option (Int32 × St) :=
  ((f_X9_isBell x1 σ).bind fun p1 =>
    (if p1.1 = 0 then
      (some ((-1), p1.2))
      else
      (if (gI p1.2 1 5) = 0 then
        ((f_X7_valueSeen 1 p1.2).bind fun p2 =>
          (gd (nzJ x1.toInt64)
            (some ((rmJ p2.1 x1.toInt64).toInt32, p2.2))))
        else
        (some ((-2), p1.2)))))
def f_X9_isRest_25 (y0 : Int32) (σ : St) : Option (Int32 × St) :=
  (gd (isbb (y0)) (some (y0, σ)))
def f_X9_isRest_24 (σ : St) : Option (Int32 × St) :=
  (f_X9_isRest_25 0 σ)
def f_X9_isRest (x0 : Int32) (x1 : Int32) (σ : St) : Option (Int32 × St) :=
  (if x0 < 1 then
    (f_X9_isRest_24 σ)
    else
    (if (99 : Int32) < x0 then
      (f_X9_isRest_24 σ)
      else
      (if x1 < 0 then
        (f_X9_isRest_24 σ)
        else
        (if x0 ≤ x1 then
          (f_X9_isRest_24 σ)
          else
          (f_X9_isRest_25 1 σ)))))
def f_X9_astray_13 (σ : St) : Option (Int32 × St) :=
  (some ((-1), σ))
def f_X9_astray_164 (y0 : Int32) (σ : St) : Option (Int32 × St) :=
  (some (y0, σ))
def f_X9_astray_141 (k43 : Int32 → Int32 → Int32 → Int64 → Int32 → Int32 → St → Option (Int32 × St)) (k80 : Int32 → Int32 → Int32 → Int64 → Int32 → Int32 → Int64 → Int32 → St → Option (Int32 × St)) (x1 : Int32) (x2 : Int32) (x3 : Int32) (x4 : Int64) (x6 : Int32) (x7 : Int32) (x8 : Int64) (x10 : Int32) (σ : St) : Option (Int32 × St) :=
  (k80 x1 x2 x3 x4 x6 x7 x8 (x10 + 1) σ)
def f_X9_astray_80 (k43 : Int32 → Int32 → Int32 → Int64 → Int32 → Int32 → St → Option (Int32 × St)) : Nat → Int32 → Int32 → Int32 → Int64 → Int32 → Int32 → Int64 → Int32 → St → Option (Int32 × St)
  | 0, _, _, _, _, _, _, _, _, _ => none
  | n + 1, x1, x2, x3, x4, x6, x7, x8, x10, σ =>
    (if (9 : Int32) < x10 then
    (k43 x1 x2 x3 x4 x6 (x7 + 1) σ)
    else
    ((f_X7_seen 1 x7 σ).bind fun p4 =>
      (if x10 = p4.1 then
        (f_X9_astray_141 k43 (f_X9_astray_80 k43 n) x1 x2 x3 x4 x6 x7 x8 x10 p4.2)
        else
        (gd (inb x7 13)
          (gd (nzJ x1.toInt64)
            (if (lg_cmp (rmJ (x8 + (x10.toInt64 * (tens x7.toNatClampNeg))) x1.toInt64) x2.toInt64) = 0 then
              (if x6 = x3 then
                (some (((10 * x7) + x10), p4.2))
                else
                (f_X9_astray_141 k43 (f_X9_astray_80 k43 n) x1 x2 x3 x4 (x6 + 1) x7 x8 x10 p4.2))
              else
              (f_X9_astray_141 k43 (f_X9_astray_80 k43 n) x1 x2 x3 x4 x6 x7 x8 x10 p4.2)))))))
def f_X9_astray_77 (k43 : Int32 → Int32 → Int32 → Int64 → Int32 → Int32 → St → Option (Int32 × St)) (x1 : Int32) (x2 : Int32) (x3 : Int32) (x4 : Int64) (x6 : Int32) (x7 : Int32) (x8 : Int64) (σ : St) : Option (Int32 × St) :=
  (f_X9_astray_80 k43 FU x1 x2 x3 x4 x6 x7 x8 0 σ)
def f_X9_astray_43 : Nat → Int32 → Int32 → Int32 → Int64 → Int32 → Int32 → St → Option (Int32 × St)
  | 0, _, _, _, _, _, _, _ => none
  | n + 1, x1, x2, x3, x4, x6, x7, σ =>
    (if (gI σ 1 0) ≤ x7 then
    (if x3 = (-1) then
      (f_X9_astray_164 x6 σ)
      else
      (f_X9_astray_164 (-1) σ))
    else
    ((f_X7_seen 1 x7 σ).bind fun p3 =>
      (gd (inb x7 13)
        (f_X9_astray_77 (f_X9_astray_43 n) x1 x2 x3 x4 x6 x7 (x4 - (p3.1.toInt64 * (tens x7.toNatClampNeg))) p3.2))))
def f_X9_astray (x1 : Int32) (x2 : Int32) (x3 : Int32) (σ : St) : Option (Int32 × St) :=
  ((f_X9_isRest x1 x2 σ).bind fun p1 =>
    (if p1.1 = 0 then
      (f_X9_astray_13 p1.2)
      else
      (if ((-1) : Int32) ≤ x3 then
        (if (gI p1.2 1 5) = 0 then
          ((f_X7_valueSeen 1 p1.2).bind fun p2 =>
            (f_X9_astray_43 FU x1 x2 x3 p2.1 0 0 p2.2))
          else
          (some ((-2), p1.2)))
        else
        (f_X9_astray_13 p1.2))))
def f_X9_harvest_19 (σ : St) : Option (Int32 × St) :=
  (some ((-1), σ))
def f_X9_harvest (x1 : Int32) (σ : St) : Option (Int32 × St) :=
  ((f_X9_isNumber x1 σ).bind fun p1 =>
    (if p1.1 = 0 then
      (f_X9_harvest_19 p1.2)
      else
      (if (gI p1.2 19 1) < 8 then
        ((f_X3_bringIn x1 p1.2).bind fun p2 =>
          (some ((gI p2 19 1), p2)))
        else
        (f_X9_harvest_19 p1.2))))
def f_X9_added_89 (y0 : Int32) (σ : St) : Option (Int32 × St) :=
  (some (y0, σ))
def f_X9_added_72 (k34 : Int32 → Int64 → Int32 → Int32 → St → Option (Int32 × St)) (x1 : Int32) (x2 : Int64) (x4 : Int32) (x5 : Int32) (σ : St) : Option (Int32 × St) :=
  (k34 x1 x2 x4 (x5 + 1) σ)
def f_X9_added_34 : Nat → Int32 → Int64 → Int32 → Int32 → St → Option (Int32 × St)
  | 0, _, _, _, _, _ => none
  | n + 1, x1, x2, x4, x5, σ =>
    ((f_X3_sets σ).bind fun p2 =>
    (if p2.1 ≤ x5 then
      (if x1 = (-1) then
        (f_X9_added_89 x4 p2.2)
        else
        (f_X9_added_89 (-1) p2.2))
      else
      ((f_X3_sumOf x5 p2.2).bind fun p3 =>
        (if (lg_cmp p3.1 x2) = 0 then
          (if x4 = x1 then
            (some (x5, p3.2))
            else
            (f_X9_added_72 (f_X9_added_34 n) x1 x2 (x4 + 1) x5 p3.2))
          else
          (f_X9_added_72 (f_X9_added_34 n) x1 x2 x4 x5 p3.2)))))
def f_X9_added (x1 : Int32) (σ : St) : Option (Int32 × St) :=
  (if ((-1) : Int32) ≤ x1 then
    (if (gI σ 1 5) = 0 then
      ((f_X7_valueSeen 1 σ).bind fun p1 =>
        (f_X9_added_34 FU x1 p1.1 0 0 p1.2))
      else
      (some ((-2), σ)))
    else
    (some ((-1), σ)))
def f_X9_near_134 (k26 : Int64 → Int32 → Int32 → St → Option (Int32 × St)) (k54 : Int64 → Int32 → Int32 → Int64 → Int32 → St → Option (Int32 × St)) (x1 : Int64) (x3 : Int32) (x4 : Int32) (x5 : Int64) (x7 : Int32) (σ : St) : Option (Int32 × St) :=
  (k54 x1 x3 x4 x5 (x7 + 1) σ)
def f_X9_near_101 (k26 : Int64 → Int32 → Int32 → St → Option (Int32 × St)) (k54 : Int64 → Int32 → Int32 → Int64 → Int32 → St → Option (Int32 × St)) (x1 : Int64) (x3 : Int32) (x4 : Int32) (x5 : Int64) (x7 : Int32) (σ : St) : Option (Int32 × St) :=
  (gd (inb x7 13)
    (if (lg_cmp x5 (-(tens x7.toNatClampNeg))) = 0 then
      ((f_X7_seen 1 x7 σ).bind fun p4 =>
        ((f_X9_isDigit (p4.1 - 1) p4.2).bind fun p5 =>
          (if p5.1 = 0 then
            (f_X9_near_134 k26 k54 x1 x3 x4 x5 x7 p5.2)
            else
            (f_X9_near_134 k26 k54 x1 (x3 + 1) x4 x5 x7 p5.2))))
      else
      (f_X9_near_134 k26 k54 x1 x3 x4 x5 x7 σ)))
def f_X9_near_54 (k26 : Int64 → Int32 → Int32 → St → Option (Int32 × St)) : Nat → Int64 → Int32 → Int32 → Int64 → Int32 → St → Option (Int32 × St)
  | 0, _, _, _, _, _, _ => none
  | n + 1, x1, x3, x4, x5, x7, σ =>
    (if (gI σ 1 0) ≤ x7 then
    (k26 x1 x3 (x4 + 1) σ)
    else
    (gd (inb x7 13)
      (if (lg_cmp x5 (tens x7.toNatClampNeg)) = 0 then
        ((f_X7_seen 1 x7 σ).bind fun p6 =>
          ((f_X9_isDigit (p6.1 + 1) p6.2).bind fun p7 =>
            (if p7.1 = 0 then
              (f_X9_near_101 k26 (f_X9_near_54 k26 n) x1 x3 x4 x5 x7 p7.2)
              else
              (f_X9_near_134 k26 (f_X9_near_54 k26 n) x1 (x3 + 1) x4 x5 x7 p7.2))))
        else
        (f_X9_near_101 k26 (f_X9_near_54 k26 n) x1 x3 x4 x5 x7 σ))))
def f_X9_near_51 (k26 : Int64 → Int32 → Int32 → St → Option (Int32 × St)) (x1 : Int64) (x3 : Int32) (x4 : Int32) (x5 : Int64) (σ : St) : Option (Int32 × St) :=
  (f_X9_near_54 k26 FU x1 x3 x4 x5 0 σ)
def f_X9_near_26 : Nat → Int64 → Int32 → Int32 → St → Option (Int32 × St)
  | 0, _, _, _, _ => none
  | n + 1, x1, x3, x4, σ =>
    ((f_X3_sets σ).bind fun p2 =>
    (if p2.1 ≤ x4 then
      (some (x3, p2.2))
      else
      ((f_X3_sumOf x4 p2.2).bind fun p3 =>
        (f_X9_near_51 (f_X9_near_26 n) x1 x3 x4 (p3.1 - x1) p3.2))))
def f_X9_near (σ : St) : Option (Int32 × St) :=
  (if (gI σ 1 5) = 0 then
    ((f_X7_valueSeen 1 σ).bind fun p1 =>
      (f_X9_near_26 FU p1.1 0 0 p1.2))
    else
    (some ((-2), σ)))
def f_X9_as_14 (σ : St) : Option (Int32 × St) :=
  (some ((-1), σ))
def f_X9_as (x1 : Int32) (x2 : Int32) (σ : St) : Option (Int32 × St) :=
  ((f_X9_isNumber x1 σ).bind fun p1 =>
    (if p1.1 = 0 then
      (f_X9_as_14 p1.2)
      else
      ((f_X9_isNumber x2 p1.2).bind fun p2 =>
        (if p2.1 = 0 then
          (f_X9_as_14 p2.2)
          else
          ((f_X1_likely x1 x2.toInt64 p2.2).bind fun p3 =>
            (some ((p3.1 / 1000000000000).toInt32, p3.2)))))))
def f_X9_guess_62 (k16 : Int32 → Int32 → Int64 → Int32 → St → Option (Int32 × St)) (x1 : Int32) (x2 : Int32) (x3 : Int64) (x5 : Int32) (σ : St) : Option (Int32 × St) :=
  (k16 x1 x2 x3 (x5 + 1) σ)
def f_X9_guess_16 : Nat → Int32 → Int32 → Int64 → Int32 → St → Option (Int32 × St)
  | 0, _, _, _, _, _ => none
  | n + 1, x1, x2, x3, x5, σ =>
    (if (gI σ 19 1) ≤ x5 then
    (some (x2, σ))
    else
    (gd (inb x5 8)
      ((f_X1_likely (gI σ 20 x5.toNatClampNeg) x1.toInt64 σ).bind fun p2 =>
        (if (lg_cmp p2.1 x3) ≤ 0 then
          (f_X9_guess_62 (f_X9_guess_16 n) x1 x2 x3 x5 p2.2)
          else
          (f_X9_guess_62 (f_X9_guess_16 n) x1 x5 p2.1 x5 p2.2)))))
def f_X9_guess (x1 : Int32) (σ : St) : Option (Int32 × St) :=
  ((f_X9_isNumber x1 σ).bind fun p1 =>
    (if p1.1 = 0 then
      (some ((-1), p1.2))
      else
      (f_X9_guess_16 FU x1 (-1) 0 0 p1.2)))
def f_X9_confused_95 (k4 : Int32 → Int32 → St → Option (Int32 × St)) (k19 : Int32 → Int32 → Int32 → St → Option (Int32 × St)) (x1 : Int32) (x2 : Int32) (x3 : Int32) (σ : St) : Option (Int32 × St) :=
  (k19 x1 x2 (x3 + 1) σ)
def f_X9_confused_92 (k4 : Int32 → Int32 → St → Option (Int32 × St)) (k19 : Int32 → Int32 → Int32 → St → Option (Int32 × St)) (x1 : Int32) (x2 : Int32) (x3 : Int32) (σ : St) : Option (Int32 × St) :=
  (f_X9_confused_95 k4 k19 (x1 + 1) x2 x3 σ)
def f_X9_confused_19 (k4 : Int32 → Int32 → St → Option (Int32 × St)) : Nat → Int32 → Int32 → Int32 → St → Option (Int32 × St)
  | 0, _, _, _, _ => none
  | n + 1, x1, x2, x3, σ =>
    (if (gI σ 19 1) ≤ x3 then
    (k4 x1 (x2 + 1) σ)
    else
    (gd (inb x2 8)
      (gd (inb x3 8)
        ((f_X1_likely (gI σ 20 x2.toNatClampNeg) ((gI σ 20 x3.toNatClampNeg).toInt64) σ).bind fun p1 =>
          (if (0 : Int32) < (lg_cmp p1.1 0) then
            (f_X9_confused_92 k4 (f_X9_confused_19 k4 n) x1 x2 x3 p1.2)
            else
            (gd (inb x3 8)
              (gd (inb x2 8)
                ((f_X1_likely (gI p1.2 20 x3.toNatClampNeg) ((gI p1.2 20 x2.toNatClampNeg).toInt64) p1.2).bind fun p2 =>
                  (if (lg_cmp p2.1 0) ≤ 0 then
                    (f_X9_confused_95 k4 (f_X9_confused_19 k4 n) x1 x2 x3 p2.2)
                    else
                    (f_X9_confused_92 k4 (f_X9_confused_19 k4 n) x1 x2 x3 p2.2))))))))))
def f_X9_confused_4 : Nat → Int32 → Int32 → St → Option (Int32 × St)
  | 0, _, _, _ => none
  | n + 1, x1, x2, σ =>
    (if (gI σ 19 1) ≤ x2 then
    (some (x1, σ))
    else
    (f_X9_confused_19 (f_X9_confused_4 n) FU x1 x2 (x2 + 1) σ))
def f_X9_confused (σ : St) : Option (Int32 × St) :=
  (f_X9_confused_4 FU 0 0 σ)
def f_X9_millionths_93 (k22 : Int64 → Int32 → Int64 → Int32 → St → Option (Int32 × St)) (x2 : Int64) (x4 : Int32) (x7 : Int32) (x9 : Int64) (σ : St) : Option (Int32 × St) :=
  (k22 x2 x4 x9 (x7 + 1) σ)
def f_X9_millionths_77 (k22 : Int64 → Int32 → Int64 → Int32 → St → Option (Int32 × St)) (k38 : Int64 → Int32 → Int64 → Int32 → Int32 → Int64 → Int32 → St → Option (Int32 × St)) (x2 : Int64) (x4 : Int32) (x5 : Int64) (x7 : Int32) (x8 : Int32) (x9 : Int64) (x11 : Int32) (σ : St) : Option (Int32 × St) :=
  (k38 x2 x4 x5 x7 x8 x9 (x11 + 1) σ)
def f_X9_millionths_64 (k22 : Int64 → Int32 → Int64 → Int32 → St → Option (Int32 × St)) (k38 : Int64 → Int32 → Int64 → Int32 → Int32 → Int64 → Int32 → St → Option (Int32 × St)) (x2 : Int64) (x4 : Int32) (x5 : Int64) (x7 : Int32) (x8 : Int32) (x9 : Int64) (x11 : Int32) (σ : St) : Option (Int32 × St) :=
  (f_X9_millionths_77 k22 k38 x2 x4 x5 x7 (x8 + 1) x9 x11 σ)
def f_X9_millionths_38 (k22 : Int64 → Int32 → Int64 → Int32 → St → Option (Int32 × St)) : Nat → Int64 → Int32 → Int64 → Int32 → Int32 → Int64 → Int32 → St → Option (Int32 × St)
  | 0, _, _, _, _, _, _, _, _ => none
  | n + 1, x2, x4, x5, x7, x8, x9, x11, σ =>
    (if (10 : Int32) ≤ x11 then
    (f_X9_millionths_93 k22 x2 ((10 * x4) + x8) x7 x9 σ)
    else
    (if (lg_cmp x9 (x2 - x5)) < 0 then
      (f_X9_millionths_77 k22 (f_X9_millionths_38 k22 n) x2 x4 x5 x7 x8 (x9 + x5) x11 σ)
      else
      (f_X9_millionths_64 k22 (f_X9_millionths_38 k22 n) x2 x4 x5 x7 x8 (x9 - (x2 - x5)) x11 σ)))
def f_X9_millionths_22 : Nat → Int64 → Int32 → Int64 → Int32 → St → Option (Int32 × St)
  | 0, _, _, _, _, _ => none
  | n + 1, x2, x4, x5, x7, σ =>
    (if (6 : Int32) ≤ x7 then
    (some (x4, σ))
    else
    (f_X9_millionths_38 (f_X9_millionths_22 n) FU x2 x4 x5 x7 0 0 0 σ))
def f_X9_millionths_19 (x2 : Int64) (x4 : Int32) (x5 : Int64) (σ : St) : Option (Int32 × St) :=
  (f_X9_millionths_22 FU x2 x4 x5 0 σ)
def f_X9_millionths_14 (x0 : Int64) (x2 : Int64) (x4 : Int32) (σ : St) : Option (Int32 × St) :=
  (gd (nzJ x2)
    (f_X9_millionths_19 x2 x4 (rmJ x0 x2) σ))
def f_X9_millionths (x0 : Int64) (x2 : Int64) (σ : St) : Option (Int32 × St) :=
  (if (0 : Int32) < (lg_cmp x2 0) then
    (gd (nzJ x2)
      (f_X9_millionths_14 x0 x2 ((x0 / x2).toInt32) σ))
    else
    (some (0, σ)))
def f_X9_odds_15 (σ : St) : Option (Int32 × St) :=
  (some ((-1), σ))
def f_X9_odds_79 (k44 : Int32 → Int64 → Int64 → Int32 → St → Option (Int32 × St)) (x1 : Int32) (x2 : Int64) (x4 : Int64) (x6 : Int32) (σ : St) : Option (Int32 × St) :=
  (k44 x1 x2 x4 (x6 + 1) σ)
def f_X9_odds_44 : Nat → Int32 → Int64 → Int64 → Int32 → St → Option (Int32 × St)
  | 0, _, _, _, _, _ => none
  | n + 1, x1, x2, x4, x6, σ =>
    (if (gI σ 19 1) ≤ x6 then
    (gd (inb x1 8)
      ((f_X1_likely (gI σ 20 x1.toNatClampNeg) x2 σ).bind fun p2 =>
        ((f_X9_millionths p2.1 x4 p2.2).bind fun p3 =>
          (some (p3.1, p3.2)))))
    else
    (gd (inb x6 8)
      ((f_X1_likely (gI σ 20 x6.toNatClampNeg) x2 σ).bind fun p4 =>
        (f_X9_odds_79 (f_X9_odds_44 n) x1 x2 (x4 + p4.1) x6 p4.2))))
def f_X9_odds (x1 : Int32) (σ : St) : Option (Int32 × St) :=
  (if x1 < 0 then
    (f_X9_odds_15 σ)
    else
    (if x1 < (gI σ 19 1) then
      (if (gI σ 1 5) = 0 then
        ((f_X7_valueSeen 1 σ).bind fun p1 =>
          (f_X9_odds_44 FU x1 p1.1 0 0 p1.2))
        else
        (some ((-2), σ)))
      else
      (f_X9_odds_15 σ)))
def f_X9_isFactor_16 (y0 : Int32) (σ : St) : Option (Int32 × St) :=
  (gd (isbb (y0)) (some (y0, σ)))
def f_X9_isFactor_15 (σ : St) : Option (Int32 × St) :=
  (f_X9_isFactor_16 0 σ)
def f_X9_isFactor (x0 : Int32) (σ : St) : Option (Int32 × St) :=
  (if x0 < 0 then
    (f_X9_isFactor_15 σ)
    else
    (if (9999 : Int32) < x0 then
      (f_X9_isFactor_15 σ)
      else
      (f_X9_isFactor_16 1 σ)))
def f_J6_numberOfLeadingZeros_0f7a4_73 (x0 : Int32) (x1 : Int32) (σ : St) : Option (Int32 × St) :=
  (some ((x1 - (ushI x0 1)), σ))
def f_J6_numberOfLeadingZeros_0f7a4_61 (x0 : Int32) (x1 : Int32) (σ : St) : Option (Int32 × St) :=
  (if x0 < 4 then
    (f_J6_numberOfLeadingZeros_0f7a4_73 x0 x1 σ)
    else
    (f_J6_numberOfLeadingZeros_0f7a4_73 (ushI x0 2) (x1 + (-2)) σ))
def f_J6_numberOfLeadingZeros_0f7a4_48 (x0 : Int32) (x1 : Int32) (σ : St) : Option (Int32 × St) :=
  (if x0 < 16 then
    (f_J6_numberOfLeadingZeros_0f7a4_61 x0 x1 σ)
    else
    (f_J6_numberOfLeadingZeros_0f7a4_61 (ushI x0 4) (x1 + (-4)) σ))
def f_J6_numberOfLeadingZeros_0f7a4_33 (x0 : Int32) (x1 : Int32) (σ : St) : Option (Int32 × St) :=
  (if x0 < 256 then
    (f_J6_numberOfLeadingZeros_0f7a4_48 x0 x1 σ)
    else
    (f_J6_numberOfLeadingZeros_0f7a4_48 (ushI x0 8) (x1 + (-8)) σ))
def f_J6_numberOfLeadingZeros_0f7a4_14 (y0 : Int32) (σ : St) : Option (Int32 × St) :=
  (some (y0, σ))
def f_J6_numberOfLeadingZeros_0f7a4 (x0 : Int32) (σ : St) : Option (Int32 × St) :=
  (if (0 : Int32) < x0 then
    (if x0 < 65536 then
      (f_J6_numberOfLeadingZeros_0f7a4_33 x0 31 σ)
      else
      (f_J6_numberOfLeadingZeros_0f7a4_33 (ushI x0 16) (31 + (-16)) σ))
    else
    (if x0 = 0 then
      (f_J6_numberOfLeadingZeros_0f7a4_14 32 σ)
      else
      (f_J6_numberOfLeadingZeros_0f7a4_14 0 σ)))
def f_X9_multiplyByBits_49 (k11 : Int32 → Int32 → Int32 → Int32 → St → Option (Int32 × St)) (x1 : Int32) (x2 : Int32) (x3 : Int32) (x4 : Int32) (σ : St) : Option (Int32 × St) :=
  (k11 x1 x2 x3 (x4 + (-1)) σ)
def f_X9_multiplyByBits_11 : Nat → Int32 → Int32 → Int32 → Int32 → St → Option (Int32 × St)
  | 0, _, _, _, _, _ => none
  | n + 1, x1, x2, x3, x4, σ =>
    (if x4 < 0 then
    (some (x3, σ))
    else
    ((f_X7_twice 5 σ).bind fun p2 =>
      ((f_X9_hasBit x2 x4 p2).bind fun p3 =>
        (if p3.1 = 0 then
          (f_X9_multiplyByBits_49 (f_X9_multiplyByBits_11 n) x1 x2 (x3 + 1) x4 p3.2)
          else
          ((f_X7_bring_n 5 x1 0 0 p3.2).bind fun p4 =>
            (f_X9_multiplyByBits_49 (f_X9_multiplyByBits_11 n) x1 x2 ((x3 + 1) + 1) x4 p4))))))
def f_X9_multiplyByBits (x1 : Int32) (x2 : Int32) (σ : St) : Option (Int32 × St) :=
  ((f_J6_numberOfLeadingZeros_0f7a4 x2 σ).bind fun p1 =>
    (f_X9_multiplyByBits_11 FU x1 x2 0 (31 - p1.1) p1.2))
def f_X9_multiply_100 (k27 : Int32 → Int32 → Int32 → Int32 → Int32 → St → Option (Int32 × St)) (x1 : Int32) (x2 : Int32) (x3 : Int32) (x4 : Int32) (x5 : Int32) (σ : St) : Option (Int32 × St) :=
  (k27 x1 x2 x3 x4 (x5 + 1) σ)
def f_X9_multiply_60 (k27 : Int32 → Int32 → Int32 → Int32 → Int32 → St → Option (Int32 × St)) : Nat → Int32 → Int32 → Int32 → Int32 → Int32 → Int32 → Int32 → Int32 → St → Option (Int32 × St)
  | 0, _, _, _, _, _, _, _, _, _ => none
  | n + 1, x1, x2, x3, x4, x5, x6, x7, x8, σ =>
    (if x7 ≤ x8 then
    (f_X9_multiply_100 k27 x1 x2 x3 (x4 + x7) x5 σ)
    else
    (gd (inb x6 13)
      ((f_X7_bring_n 5 ((x1.toInt64 * (tens x6.toNatClampNeg)).toInt32) 0 0 σ).bind fun p3 =>
        (f_X9_multiply_60 k27 n x1 x2 x3 x4 x5 x6 x7 (x8 + 1) p3))))
def f_X9_multiply_46 (k27 : Int32 → Int32 → Int32 → Int32 → Int32 → St → Option (Int32 × St)) (x1 : Int32) (x2 : Int32) (x3 : Int32) (x4 : Int32) (x5 : Int32) (y0 : Int32) (σ : St) : Option (Int32 × St) :=
  ((f_X9_digitOf x2.toInt64 y0 σ).bind fun p2 =>
    (f_X9_multiply_60 k27 FU x1 x2 x3 x4 x5 y0 p2.1 0 p2.2))
def f_X9_multiply_27 : Nat → Int32 → Int32 → Int32 → Int32 → Int32 → St → Option (Int32 × St)
  | 0, _, _, _, _, _, _ => none
  | n + 1, x1, x2, x3, x4, x5, σ =>
    (if (4 : Int32) ≤ x5 then
    (some (x4, σ))
    else
    (if x3 = 0 then
      (f_X9_multiply_46 (f_X9_multiply_27 n) x1 x2 x3 x4 x5 x5 σ)
      else
      (f_X9_multiply_46 (f_X9_multiply_27 n) x1 x2 x3 x4 x5 (3 - x5) σ)))
def f_X9_multiply (x1 : Int32) (x2 : Int32) (x3 : Int32) (σ : St) : Option (Int32 × St) :=
  ((f_X7_clear 5 9 σ).bind fun p1 =>
    (if x3 = 2 then
      ((f_X9_multiplyByBits x1 x2 p1).bind fun p4 =>
        (some (p4.1, p4.2)))
      else
      (f_X9_multiply_27 FU x1 x2 x3 0 0 p1)))
def f_X9_product_34 (σ : St) : Option (Int64 × St) :=
  (some ((-1), σ))
def f_X9_product_82 (y0 : Int64) (σ : St) : Option (Int64 × St) :=
  (some (y0, σ))
def f_X9_product (x1 : Int32) (x2 : Int32) (x3 : Int32) (x4 : Int32) (σ : St) : Option (Int64 × St) :=
  ((f_X9_isFactor x1 σ).bind fun p1 =>
    (if p1.1 = 0 then
      (f_X9_product_34 p1.2)
      else
      ((f_X9_isFactor x2 p1.2).bind fun p2 =>
        (if p2.1 = 0 then
          (f_X9_product_34 p2.2)
          else
          (if x3 < 0 then
            (f_X9_product_34 p2.2)
            else
            (if (2 : Int32) < x3 then
              (f_X9_product_34 p2.2)
              else
              (if x4 < 0 then
                (f_X9_product_34 p2.2)
                else
                (if x4 ≤ 2 then
                  ((f_X9_multiply x1 x2 x3 p2.2).bind fun p3 =>
                    (if x4 = 0 then
                      (f_X9_product_82 ((gI p3.2 5 7).toInt64) p3.2)
                      else
                      (if x4 = 1 then
                        (f_X9_product_82 p3.1.toInt64 p3.2)
                        else
                        ((f_X7_value 5 p3.2).bind fun p4 =>
                          (f_X9_product_82 p4.1 p4.2)))))
                  else
                  (f_X9_product_34 p2.2)))))))))
def f_X9_rival_14 (σ : St) : Option (Int32 × St) :=
  (some ((-1), σ))
def f_X9_rival_65 (k26 : Int32 → Int32 → Int32 → Int32 → Int32 → St → Option (Int32 × St)) (x1 : Int32) (x2 : Int32) (x3 : Int32) (x4 : Int32) (x5 : Int32) (σ : St) : Option (Int32 × St) :=
  (k26 x1 x2 x3 x4 (x5 + 1) σ)
def f_X9_rival_62 (k26 : Int32 → Int32 → Int32 → Int32 → Int32 → St → Option (Int32 × St)) (x1 : Int32) (x2 : Int32) (x4 : Int32) (x5 : Int32) (σ : St) : Option (Int32 × St) :=
  (f_X9_rival_65 k26 x1 x2 x5 x4 x5 σ)
def f_X9_rival_26 : Nat → Int32 → Int32 → Int32 → Int32 → Int32 → St → Option (Int32 × St)
  | 0, _, _, _, _, _, _ => none
  | n + 1, x1, x2, x3, x4, x5, σ =>
    (if (2 : Int32) < x5 then
    (some (x3, σ))
    else
    ((f_X9_multiply x1 x2 x5 σ).bind fun p3 =>
      (if x4 ≤ (gI p3.2 5 7) then
        (f_X9_rival_65 (f_X9_rival_26 n) x1 x2 x3 x4 x5 p3.2)
        else
        (f_X9_rival_62 (f_X9_rival_26 n) x1 x2 (gI p3.2 5 7) x5 p3.2))))
def f_X9_rival (x1 : Int32) (x2 : Int32) (σ : St) : Option (Int32 × St) :=
  ((f_X9_isFactor x1 σ).bind fun p1 =>
    (if p1.1 = 0 then
      (f_X9_rival_14 p1.2)
      else
      ((f_X9_isFactor x2 p1.2).bind fun p2 =>
        (if p2.1 = 0 then
          (f_X9_rival_14 p2.2)
          else
          (f_X9_rival_26 FU x1 x2 0 2147483647 0 p2.2)))))
def f_X9_make_20 (σ : St) : Option (Int32 × St) :=
  (some ((-1), σ))
def f_X9_make_60 (k27 : Int32 → Int32 → Int32 → Int32 → St → Option (Int32 × St)) (x1 : Int32) (x2 : Int32) (x3 : Int32) (x4 : Int32) (σ : St) : Option (Int32 × St) :=
  (k27 x1 x2 x3 (x4 + 1) σ)
def f_X9_make_58 (k27 : Int32 → Int32 → Int32 → Int32 → St → Option (Int32 × St)) (x1 : Int32) (x2 : Int32) (x4 : Int32) (y0 : Int32) (y1 : Int32) (σ : St) : Option (Int32 × St) :=
  (f_X9_make_60 k27 x1 x2 (y1 + y0) x4 σ)
def f_X9_make_27 : Nat → Int32 → Int32 → Int32 → Int32 → St → Option (Int32 × St)
  | 0, _, _, _, _, _ => none
  | n + 1, x1, x2, x3, x4, σ =>
    (if (3 : Int32) ≤ x4 then
    (some (x3, σ))
    else
    ((f_X9_digitOf x1.toInt64 x4 σ).bind fun p1 =>
      (if x2 = 0 then
        (f_X9_make_58 (f_X9_make_27 n) x1 x2 x4 p1.1 x3 p1.2)
        else
        (f_X9_make_58 (f_X9_make_27 n) x1 x2 x4 (mnI p1.1 1) x3 p1.2))))
def f_X9_make (x1 : Int32) (x2 : Int32) (σ : St) : Option (Int32 × St) :=
  (if x1 < 0 then
    (f_X9_make_20 σ)
    else
    (if (999 : Int32) < x1 then
      (f_X9_make_20 σ)
      else
      (if x2 < 0 then
        (f_X9_make_20 σ)
        else
        (if x2 ≤ 1 then
          (f_X9_make_27 FU x1 x2 0 0 σ)
          else
          (f_X9_make_20 σ)))))
def f_X9_walksByOrder (x1 : Int32) (x2 : Int32) (σ : St) : Option (Int32 × St) :=
  ((f_X7_beginAs 5 1 σ).bind fun p1 =>
    ((f_X7_bring_n 5 x1 0 x2 p1).bind fun p2 =>
      (some ((gI p2 5 7), p2))))
def f_X9_cheaper_29 (y0 : Int32) (σ : St) : Option (Int32 × St) :=
  (some (y0, σ))
def f_X9_cheaper (x1 : Int32) (σ : St) : Option (Int32 × St) :=
  ((f_X9_isNumber x1 σ).bind fun p1 =>
    (if p1.1 = 0 then
      (some ((-1), p1.2))
      else
      ((f_X9_walksByOrder x1 1 p1.2).bind fun p2 =>
        ((f_X9_walksByOrder x1 0 p2.2).bind fun p3 =>
          (if p3.1 ≤ p2.1 then
            (f_X9_cheaper_29 0 p3.2)
            else
            (f_X9_cheaper_29 1 p3.2))))))
def f_X9_kids_17 (σ : St) : Option (Int32 × St) :=
  (some ((-1), σ))
def f_X9_kids_114 (k66 : Int32 → Int32 → Int32 → St → Option (Int32 × St)) (x1 : Int32) (x2 : Int32) (x3 : Int32) (σ : St) : Option (Int32 × St) :=
  (k66 x1 x2 (x3 + 1) σ)
def f_X9_kids_100 (k66 : Int32 → Int32 → Int32 → St → Option (Int32 × St)) (x1 : Int32) (x2 : Int32) (x3 : Int32) (y0 : Int32) (y1 : Int32) (y2 : Int32) (σ : St) : Option (Int32 × St) :=
  (gd (inb y2 12)
    (gd (inb x3 12)
      (f_X9_kids_114 k66 x1 (x2 + (gI (sI σ 3 y2.toNatClampNeg (y1 + y0)) 3 x3.toNatClampNeg)) x3 (sI σ 3 y2.toNatClampNeg (y1 + y0)))))
def f_X9_kids_66 : Nat → Int32 → Int32 → Int32 → St → Option (Int32 × St)
  | 0, _, _, _, _ => none
  | n + 1, x1, x2, x3, σ =>
    (if (gI σ 1 0) ≤ x3 then
    (some (x2, σ))
    else
    (gd (inb x3 12)
      ((f_X9_hasBit x1 x3 σ).bind fun p1 =>
        (if p1.1 = 0 then
          (f_X9_kids_100 (f_X9_kids_66 n) x1 x2 x3 0 (gI σ 3 x3.toNatClampNeg) x3 p1.2)
          else
          (f_X9_kids_100 (f_X9_kids_66 n) x1 x2 x3 1 (gI σ 3 x3.toNatClampNeg) x3 p1.2)))))
def f_X9_kids_56 (k21 : Int32 → Int32 → St → Option (Int32 × St)) (x1 : Int32) (x2 : Int32) (σ : St) : Option (Int32 × St) :=
  (k21 x1 (x2 + 1) σ)
def f_X9_kids_21 : Nat → Int32 → Int32 → St → Option (Int32 × St)
  | 0, _, _, _ => none
  | n + 1, x1, x2, σ =>
    (if (gI σ 1 0) ≤ x2 then
    (f_X9_kids_66 FU x1 0 0 σ)
    else
    ((f_X9_hasBit x1 x2 σ).bind fun p2 =>
      (if p2.1 = 0 then
        (f_X9_kids_56 (f_X9_kids_21 n) x1 x2 p2.2)
        else
        (gd (inb x2 12)
          (if (gI p2.2 3 x2.toNatClampNeg) < 12 then
            (f_X9_kids_56 (f_X9_kids_21 n) x1 x2 p2.2)
            else
            (some ((-1), p2.2)))))))
def f_X9_kids (x1 : Int32) (σ : St) : Option (Int32 × St) :=
  (if x1 ≤ 0 then
    (f_X9_kids_17 σ)
    else
    (if x1 < (shlI 1 (gI σ 1 0)) then
      (f_X9_kids_21 FU x1 0 σ)
      else
      (f_X9_kids_17 σ)))
def f_X9_isPack_16 (y0 : Int32) (σ : St) : Option (Int32 × St) :=
  (gd (isbb (y0)) (some (y0, σ)))
def f_X9_isPack_15 (σ : St) : Option (Int32 × St) :=
  (f_X9_isPack_16 0 σ)
def f_X9_isPack (x0 : Int32) (σ : St) : Option (Int32 × St) :=
  (if x0 < 1 then
    (f_X9_isPack_15 σ)
    else
    (if (9 : Int32) < x0 then
      (f_X9_isPack_15 σ)
      else
      (f_X9_isPack_16 1 σ)))
def f_X9_restByRank (x1 : Int32) (x2 : Int32) (x3 : Int32) (σ : St) : Option (Int32 × St) :=
  ((f_X0_setOut 1 x1 (gI σ 0 17) σ).bind fun p1 =>
    ((f_X0_minuteOfRest x2 x3 (gI p1 0 15) (gI p1 0 16) p1).bind fun p2 =>
      (some (p2.1, p2.2))))
def f_X9_relay_23 (σ : St) : Option (Int32 × St) :=
  (some ((-1), σ))
def f_X9_relay (x1 : Int32) (x2 : Int32) (x3 : Int32) (σ : St) : Option (Int32 × St) :=
  ((f_X9_isNumber x1 σ).bind fun p1 =>
    (if p1.1 = 0 then
      (f_X9_relay_23 p1.2)
      else
      ((f_X9_isPack x2 p1.2).bind fun p2 =>
        (if p2.1 = 0 then
          (f_X9_relay_23 p2.2)
          else
          (if x3 < 0 then
            (f_X9_relay_23 p2.2)
            else
            (if x3 ≤ 1 then
              ((f_X9_restByRank x1 x2 x3 p2.2).bind fun p3 =>
                (some (p3.1, p3.2)))
              else
              (f_X9_relay_23 p2.2)))))))
def f_X9_ranked_14 (σ : St) : Option (Int32 × St) :=
  (some ((-1), σ))
def f_X9_ranked_38 (y0 : Int32) (σ : St) : Option (Int32 × St) :=
  (some (y0, σ))
def f_X9_ranked (x1 : Int32) (x2 : Int32) (σ : St) : Option (Int32 × St) :=
  ((f_X9_isNumber x1 σ).bind fun p1 =>
    (if p1.1 = 0 then
      (f_X9_ranked_14 p1.2)
      else
      ((f_X9_isPack x2 p1.2).bind fun p2 =>
        (if p2.1 = 0 then
          (f_X9_ranked_14 p2.2)
          else
          ((f_X9_restByRank x1 x2 1 p2.2).bind fun p3 =>
            ((f_X9_restByRank x1 x2 0 p3.2).bind fun p4 =>
              (if p4.1 ≤ p3.1 then
                (f_X9_ranked_38 0 p4.2)
                else
                (f_X9_ranked_38 1 p4.2))))))))
def f_X9_count (x1 : Int32) (σ : St) : Option (Int32 × St) :=
  (if x1 = 0 then
    (some ((gI σ 1 0), σ))
    else if x1 = 1 then
    (some ((gI σ 0 7), σ))
    else if x1 = 2 then
    (some ((gI σ 11 1), σ))
    else if x1 = 3 then
    (some ((gI σ 19 1), σ))
    else if x1 = 4 then
    (some ((gI σ 9 2), σ))
    else 
    (some ((-1), σ)))
def f_X10_in_18 (y0 : Int32) (σ : St) : Option (Int32 × St) :=
  (gd (isbb (y0)) (some (y0, σ)))
def f_X10_in_17 (σ : St) : Option (Int32 × St) :=
  (f_X10_in_18 0 σ)
def f_X10_in (x0 : Int64) (x2 : Int64) (x4 : Int64) (σ : St) : Option (Int32 × St) :=
  (if (lg_cmp x0 x2) < 0 then
    (f_X10_in_17 σ)
    else
    (if (0 : Int32) < (lg_cmp x0 x4) then
      (f_X10_in_17 σ)
      else
      (f_X10_in_18 1 σ)))
def f_X10_has_14 (y0 : Int32) (σ : St) : Option (Int32 × St) :=
  (gd (isbb (y0)) (some (y0, σ)))
def f_X10_has (x0 : Int32) (x1 : Int32) (σ : St) : Option (Int32 × St) :=
  (if ((shrI x0 x1) &&& 1) = 1 then
    (f_X10_has_14 1 σ)
    else
    (f_X10_has_14 0 σ))
def f_X10_thrown (σ : St) : Option (Int32 × St) :=
  (some ((gI σ 38 0), σ))
def f_X10_byteOf_45 (x5 : Int32) (y0 : Int32) (σ : St) : Option (Int32 × St) :=
  (some (((shrI y0 (24 - (8 * (rmI x5 4)))) &&& 255), σ))
def f_X10_byteOf (x0 : Int32) (x1 : Int32) (x2 : Int32) (x3 : Int32) (x4 : Int32) (x5 : Int32) (σ : St) : Option (Int32 × St) :=
  (if (4 : Int32) ≤ x5 then
    (if (8 : Int32) ≤ x5 then
      (if (12 : Int32) ≤ x5 then
        (if (16 : Int32) ≤ x5 then
          (f_X10_byteOf_45 x5 x4 σ)
          else
          (f_X10_byteOf_45 x5 x3 σ))
        else
        (f_X10_byteOf_45 x5 x2 σ))
      else
      (f_X10_byteOf_45 x5 x1 σ))
    else
    (f_X10_byteOf_45 x5 x0 σ))
def f_X10_feed_109 (k62 : Int32 → Int32 → Int32 → Int32 → Int32 → Int32 → St → Option (Int32 × St)) (x1 : Int32) (x2 : Int32) (x3 : Int32) (x4 : Int32) (x5 : Int32) (x7 : Int32) (σ : St) : Option (Int32 × St) :=
  (k62 x1 x2 x3 x4 x5 (x7 + 1) σ)
def f_X10_feed_62 : Nat → Int32 → Int32 → Int32 → Int32 → Int32 → Int32 → St → Option (Int32 × St)
  | 0, _, _, _, _, _, _, _ => none
  | n + 1, x1, x2, x3, x4, x5, x7, σ =>
    (if (20 : Int32) ≤ x7 then
    (some ((gI σ 38 3), σ))
    else
    ((f_X10_byteOf x1 x2 x3 x4 x5 x7 σ).bind fun p1 =>
      (if p1.1 = 0 then
        (f_X10_feed_109 (f_X10_feed_62 n) x1 x2 x3 x4 x5 x7 p1.2)
        else
        (gd (inb (gI p1.2 38 3) 160)
          (f_X10_feed_109 (f_X10_feed_62 n) x1 x2 x3 x4 x5 x7 (sI (sI p1.2 39 (gI p1.2 38 3).toNatClampNeg p1.1) 38 3 ((gI (sI p1.2 39 (gI p1.2 38 3).toNatClampNeg p1.1) 38 3) + 1)))))))
def f_X10_feed_38 (k6 : Int32 → Int32 → Int32 → Int32 → Int32 → Int32 → Int32 → St → Option (Int32 × St)) (x1 : Int32) (x2 : Int32) (x3 : Int32) (x4 : Int32) (x5 : Int32) (x6 : Int32) (x7 : Int32) (σ : St) : Option (Int32 × St) :=
  (k6 x1 x2 x3 x4 x5 x6 (x7 + 1) σ)
def f_X10_feed_35 (k6 : Int32 → Int32 → Int32 → Int32 → Int32 → Int32 → Int32 → St → Option (Int32 × St)) (x1 : Int32) (x2 : Int32) (x3 : Int32) (x4 : Int32) (x5 : Int32) (x7 : Int32) (y0 : Int32) (y1 : Int32) (σ : St) : Option (Int32 × St) :=
  (f_X10_feed_38 k6 x1 x2 x3 x4 x5 (y1 + y0) x7 σ)
def f_X10_feed_6 : Nat → Int32 → Int32 → Int32 → Int32 → Int32 → Int32 → Int32 → St → Option (Int32 × St)
  | 0, _, _, _, _, _, _, _, _ => none
  | n + 1, x1, x2, x3, x4, x5, x6, x7, σ =>
    (if (20 : Int32) ≤ x7 then
    (if ((gI σ 38 3) + x6) ≤ 160 then
      (f_X10_feed_62 FU x1 x2 x3 x4 x5 0 σ)
      else
      (some ((-1), σ)))
    else
    ((f_X10_byteOf x1 x2 x3 x4 x5 x7 σ).bind fun p2 =>
      (if p2.1 = 0 then
        (f_X10_feed_35 (f_X10_feed_6 n) x1 x2 x3 x4 x5 x7 0 x6 p2.2)
        else
        (f_X10_feed_35 (f_X10_feed_6 n) x1 x2 x3 x4 x5 x7 1 x6 p2.2))))
def f_X10_feed (x1 : Int32) (x2 : Int32) (x3 : Int32) (x4 : Int32) (x5 : Int32) (σ : St) : Option (Int32 × St) :=
  (f_X10_feed_6 FU x1 x2 x3 x4 x5 0 0 σ)
def f_X10_end_12 (σ : St) : Option (Int32 × St) :=
  (some (0, σ))
def f_X10_end (x1 : Int32) (σ : St) : Option (Int32 × St) :=
  (if x1 < 0 then
    (f_X10_end_12 σ)
    else
    (if x1 ≤ (gI σ 38 3) then
      (some (1, (sI σ 38 3 x1)))
      else
      (f_X10_end_12 σ)))
def f_X10_here_24 (y0 : Int32) (σ : St) : Option (Int32 × St) :=
  (some (y0, σ))
def f_X10_here (σ : St) : Option (Int32 × St) :=
  (if (gI σ 38 3) ≤ (gI σ 38 4) then
    (f_X10_here_24 (-1) σ)
    else
    (gd (inb (gI σ 38 4) 160)
      (f_X10_here_24 (gI σ 39 (gI σ 38 4).toNatClampNeg) σ)))
def f_X10_look_0 : Nat → St → Option (Int32 × St)
  | 0, _ => none
  | n + 1, σ =>
    ((f_X10_here σ).bind fun p1 =>
    (if p1.1 = 32 then
      (f_X10_look_0 n (sI p1.2 38 4 ((gI p1.2 38 4) + 1)))
      else
      ((f_X10_here p1.2).bind fun p2 =>
        (some (p2.1, p2.2)))))
def f_X10_look (σ : St) : Option (Int32 × St) :=
  (f_X10_look_0 FU σ)
def f_X10_bad_20 (y0 : Int32) (σ : St) : Option (St) :=
  (some (sI σ 38 5 y0))
def f_X10_bad (σ : St) : Option (St) :=
  (if (gI σ 38 5) = (-1) then
    (f_X10_bad_20 (gI σ 38 4) σ)
    else
    (f_X10_bad_20 (gI σ 38 5) σ))
def f_X10_isDigit_17 (y0 : Int32) (σ : St) : Option (Int32 × St) :=
  (gd (isbb (y0)) (some (y0, σ)))
def f_X10_isDigit_16 (σ : St) : Option (Int32 × St) :=
  (f_X10_isDigit_17 0 σ)
def f_X10_isDigit (x0 : Int32) (σ : St) : Option (Int32 × St) :=
  (if x0 < 48 then
    (f_X10_isDigit_16 σ)
    else
    (if (57 : Int32) < x0 then
      (f_X10_isDigit_16 σ)
      else
      (f_X10_isDigit_17 1 σ)))
def f_X10_numeral_79 (x1 : Int32) (σ : St) : Option (Int32 × St) :=
  (some (x1, σ))
def f_X10_numeral_65 (x1 : Int32) (σ : St) : Option (Int32 × St) :=
  ((f_X10_here σ).bind fun p3 =>
    ((f_X10_isDigit p3.1 p3.2).bind fun p4 =>
      (if p4.1 = 0 then
        (f_X10_numeral_79 x1 p4.2)
        else
        ((f_X10_bad p4.2).bind fun p5 =>
          (f_X10_numeral_79 x1 p5)))))
def f_X10_numeral_49 (k20 : Int32 → Int32 → St → Option (Int32 × St)) (x1 : Int32) (x2 : Int32) (σ : St) : Option (Int32 × St) :=
  (k20 x1 (x2 + 1) (sI σ 38 4 ((gI σ 38 4) + 1)))
def f_X10_numeral_20 : Nat → Int32 → Int32 → St → Option (Int32 × St)
  | 0, _, _, _ => none
  | n + 1, x1, x2, σ =>
    (if (9 : Int32) ≤ x2 then
    (f_X10_numeral_65 x1 σ)
    else
    ((f_X10_here σ).bind fun p6 =>
      ((f_X10_isDigit p6.1 p6.2).bind fun p7 =>
        (if p7.1 = 0 then
          (f_X10_numeral_65 x1 p7.2)
          else
          ((f_X10_here p7.2).bind fun p8 =>
            (f_X10_numeral_49 (f_X10_numeral_20 n) (((10 * x1) + p8.1) - 48) x2 p8.2))))))
def f_X10_numeral (σ : St) : Option (Int32 × St) :=
  ((f_X10_look σ).bind fun p1 =>
    ((f_X10_isDigit p1.1 p1.2).bind fun p2 =>
      (if p2.1 = 0 then
        ((f_X10_bad p2.2).bind fun p9 =>
          (some (0, p9)))
        else
        (f_X10_numeral_20 FU 0 0 p2.2))))
def f_X10_stepOf_201 (x1 : Int32) (σ : St) : Option (St) :=
  (gd (inb x1 7)
    (gd (inb x1 7)
      (some (sI σ 43 x1.toNatClampNeg ((gI σ 43 x1.toNatClampNeg) + 1)))))
def f_X10_stepOf_174 (σ : St) : Option (St) :=
  ((f_X10_bad σ).bind fun p5 =>
    (some p5))
def f_X10_stepOf_117 (x1 : Int32) (x4 : Int32) (y0 : Int32) (y1 : Int32) (σ : St) : Option (St) :=
  (gd (inb y1 84)
    (gd (inb x4 84)
      (if (gI (sI (sI σ 41 y1.toNatClampNeg y0) 42 x4.toNatClampNeg 1) 38 5) = (-1) then
        ((f_X10_look (sI (sI σ 41 y1.toNatClampNeg y0) 42 x4.toNatClampNeg 1)).bind fun p2 =>
          (if p2.1 = 120 then
            ((f_X10_look (sI p2.2 38 4 ((gI p2.2 38 4) + 1))).bind fun p3 =>
              ((f_X10_isDigit p3.1 p3.2).bind fun p4 =>
                (if p4.1 = 0 then
                  (f_X10_stepOf_174 p4.2)
                  else
                  (if p3.1 = 48 then
                    (f_X10_stepOf_174 p4.2)
                    else
                    (gd (inb x4 84)
                      (f_X10_stepOf_201 x1 (sI (sI p4.2 42 x4.toNatClampNeg (p3.1 - 48)) 38 4 ((gI (sI p4.2 42 x4.toNatClampNeg (p3.1 - 48)) 38 4) + 1))))))))
            else
            (f_X10_stepOf_201 x1 p2.2)))
        else
        (f_X10_stepOf_201 x1 (sI (sI σ 41 y1.toNatClampNeg y0) 42 x4.toNatClampNeg 1)))))
def f_X10_stepOf_90 (x1 : Int32) (x3 : Int32) (x4 : Int32) (σ : St) : Option (St) :=
  (gd (inb x4 84)
    (if (2 : Int32) ≤ x3 then
      (f_X10_stepOf_117 x1 x4 0 x4 (sI σ 40 x4.toNatClampNeg x3))
      else
      ((f_X10_numeral (sI σ 40 x4.toNatClampNeg x3)).bind fun p6 =>
        (f_X10_stepOf_117 x1 x4 p6.1 x4 p6.2))))
def f_X10_stepOf_56 (x1 : Int32) (y0 : Int32) (σ : St) : Option (St) :=
  (if y0 = (-1) then
    ((f_X10_bad σ).bind fun p7 =>
      (some p7))
    else
    (gd (inb x1 7)
      (f_X10_stepOf_90 x1 y0 ((12 * x1) + (gI (sI σ 38 4 ((gI σ 38 4) + 1)) 43 x1.toNatClampNeg)) (sI σ 38 4 ((gI σ 38 4) + 1)))))
def f_X10_stepOf (x1 : Int32) (σ : St) : Option (St) :=
  ((f_X10_look σ).bind fun p1 =>
    (if p1.1 = 97 then
      (f_X10_stepOf_56 x1 0 p1.2)
      else
      (if p1.1 = 116 then
        (f_X10_stepOf_56 x1 1 p1.2)
        else
        (if p1.1 = 100 then
          (f_X10_stepOf_56 x1 2 p1.2)
          else
          (if p1.1 = 104 then
            (f_X10_stepOf_56 x1 3 p1.2)
            else
            (if p1.1 = 122 then
              (f_X10_stepOf_56 x1 4 p1.2)
              else
              (f_X10_stepOf_56 x1 (-1) p1.2)))))))
def f_X10_read_88 (σ : St) : Option (Int32 × St) :=
  (some ((gI σ 38 5), σ))
def f_X10_read_68 (σ : St) : Option (Int32 × St) :=
  (if (gI σ 38 5) = (-1) then
    ((f_X10_look σ).bind fun p2 =>
      (if p2.1 = (-1) then
        (f_X10_read_88 p2.2)
        else
        ((f_X10_bad p2.2).bind fun p3 =>
          (f_X10_read_88 p3))))
    else
    (f_X10_read_88 σ))
def f_X10_read_22 : Nat → Int32 → St → Option (Int32 × St)
  | 0, _, _ => none
  | n + 1, x1, σ =>
    (if (gI σ 38 5) = (-1) then
    ((f_X10_look σ).bind fun p4 =>
      (if p4.1 = 59 then
        (gd (inb x1 7)
          (if (12 : Int32) ≤ (gI p4.2 43 x1.toNatClampNeg) then
            (f_X10_read_68 p4.2)
            else
            ((f_X10_stepOf x1 (sI p4.2 38 4 ((gI p4.2 38 4) + 1))).bind fun p5 =>
              (f_X10_read_22 n x1 p5))))
        else
        (f_X10_read_68 p4.2)))
    else
    (f_X10_read_68 σ))
def f_X10_read (x1 : Int32) (σ : St) : Option (Int32 × St) :=
  (gd (inb x1 7)
    ((f_X10_stepOf x1 (sI (sI (sI σ 38 4 0) 38 5 (-1)) 43 x1.toNatClampNeg 0)).bind fun p1 =>
      (f_X10_read_22 FU x1 p1)))
def f_X10_fault (σ : St) : Option (Int32 × St) :=
  ((f_X10_read 6 σ).bind fun p1 =>
    (some (p1.1, p1.2)))
def f_X10_text_21 (σ : St) : Option (Int32 × St) :=
  (some ((-1), σ))
def f_X10_text_38 (σ : St) : Option (Int32 × St) :=
  (some (((gI σ 38 10) - 1), σ))
def f_X10_text (σ : St) : Option (Int32 × St) :=
  (if (gI σ 38 10) = 6 then
    (f_X10_text_21 σ)
    else
    ((f_X10_read (gI σ 38 10) σ).bind fun p1 =>
      (if p1.1 = (-1) then
        (f_X10_text_38 (sI (sI p1.2 38 3 0) 38 10 ((gI (sI p1.2 38 3 0) 38 10) + 1)))
        else
        (f_X10_text_21 p1.2))))
def f_X10_isSum (x1 : Int32) (σ : St) : Option (Int32 × St) :=
  ((f_X10_in x1.toInt64 0 (((gI σ 38 10) - 1).toInt64) σ).bind fun p1 =>
    (gd (isbb (p1.1)) (some (p1.1, p1.2))))
def f_X10_step_136 (y0 : Int32) (σ : St) : Option (Int32 × St) :=
  (some (y0, σ))
def f_X10_step_86 (x1 : Int32) (x2 : Int32) (x3 : Int32) (x5 : Int32) (σ : St) : Option (Int32 × St) :=
  (if x2 = (-1) then
    (gd (inb x1 7)
      (f_X10_step_136 (gI σ 43 x1.toNatClampNeg) σ))
    else
    (if x3 = 0 then
      (gd (inb x5 84)
        (f_X10_step_136 (gI σ 40 x5.toNatClampNeg) σ))
      else
      (if x3 = 1 then
        (gd (inb x5 84)
          (f_X10_step_136 (gI σ 41 x5.toNatClampNeg) σ))
        else
        (gd (inb x5 84)
          (f_X10_step_136 (gI σ 42 x5.toNatClampNeg) σ)))))
def f_X10_step_68 (x1 : Int32) (x2 : Int32) (x3 : Int32) (x4 : Int32) (y0 : Int32) (σ : St) : Option (Int32 × St) :=
  (if x4 = 0 then
    (some (0, (sI σ 38 0 y0)))
    else
    (f_X10_step_86 x1 x2 x3 ((12 * x1) + x2) (sI σ 38 0 y0)))
def f_X10_step_55 (x1 : Int32) (x2 : Int32) (x3 : Int32) (y0 : Int32) (σ : St) : Option (Int32 × St) :=
  (if y0 = 0 then
    (f_X10_step_68 x1 x2 x3 y0 1 σ)
    else
    (f_X10_step_68 x1 x2 x3 y0 0 σ))
def f_X10_step_54 (x1 : Int32) (x2 : Int32) (x3 : Int32) (σ : St) : Option (Int32 × St) :=
  (f_X10_step_55 x1 x2 x3 0 σ)
def f_X10_step_50 (x1 : Int32) (x2 : Int32) (x3 : Int32) (σ : St) : Option (Int32 × St) :=
  (f_X10_step_55 x1 x2 x3 1 σ)
def f_X10_step (x1 : Int32) (x2 : Int32) (x3 : Int32) (σ : St) : Option (Int32 × St) :=
  ((f_X10_isSum x1 σ).bind fun p1 =>
    (if p1.1 = 0 then
      (f_X10_step_54 x1 x2 x3 p1.2)
      else
      (if x2 = (-1) then
        (if x3 = 0 then
          (f_X10_step_50 x1 x2 x3 p1.2)
          else
          (f_X10_step_54 x1 x2 x3 p1.2))
        else
        (gd (inb x1 7)
          ((f_X10_in x2.toInt64 0 (((gI p1.2 43 x1.toNatClampNeg) - 1).toInt64) p1.2).bind fun p2 =>
            (if p2.1 = 0 then
              (f_X10_step_54 x1 x2 x3 p2.2)
              else
              ((f_X10_in x3.toInt64 0 2 p2.2).bind fun p3 =>
                (if p3.1 = 0 then
                  (f_X10_step_54 x1 x2 x3 p3.2)
                  else
                  (f_X10_step_50 x1 x2 x3 p3.2)))))))))
def f_X10_set_41 (σ : St) : Option (Int32 × St) :=
  (some (0, σ))
def f_X10_set_107 (y0 : Int32) (σ : St) : Option (Int32 × St) :=
  (some (1, (sI σ 38 14 y0)))
def f_X10_set_90 (x1 : Int32) (x2 : Int32) (y0 : Int32) (σ : St) : Option (Int32 × St) :=
  (if x1 = 3 then
    (f_X10_set_107 x2 (sI σ 38 13 y0))
    else
    (f_X10_set_107 (gI (sI σ 38 13 y0) 38 14) (sI σ 38 13 y0)))
def f_X10_set_73 (x1 : Int32) (x2 : Int32) (y0 : Int32) (σ : St) : Option (Int32 × St) :=
  (if x1 = 2 then
    (f_X10_set_90 x1 x2 x2 (sI σ 38 12 y0))
    else
    (f_X10_set_90 x1 x2 (gI (sI σ 38 12 y0) 38 13) (sI σ 38 12 y0)))
def f_X10_set_56 (x1 : Int32) (x2 : Int32) (y0 : Int32) (σ : St) : Option (Int32 × St) :=
  (if x1 = 1 then
    (f_X10_set_73 x1 x2 x2 (sI σ 38 11 y0))
    else
    (f_X10_set_73 x1 x2 (gI (sI σ 38 11 y0) 38 12) (sI σ 38 11 y0)))
def f_X10_set_35 (x1 : Int32) (x2 : Int32) (y0 : Int64) (y1 : Int64) (y2 : Int64) (σ : St) : Option (Int32 × St) :=
  ((f_X10_in y2 y1 y0 σ).bind fun p2 =>
    (if p2.1 = 0 then
      (f_X10_set_41 p2.2)
      else
      (if x1 = 0 then
        (f_X10_set_56 x1 x2 x2 p2.2)
        else
        (f_X10_set_56 x1 x2 (gI p2.2 38 11) p2.2))))
def f_X10_set_24 (x1 : Int32) (x2 : Int32) (y0 : Int64) (y1 : Int64) (σ : St) : Option (Int32 × St) :=
  (if x1 = 0 then
    (f_X10_set_35 x1 x2 1 y0 y1 σ)
    else
    (f_X10_set_35 x1 x2 9 y0 y1 σ))
def f_X10_set (x1 : Int32) (x2 : Int32) (σ : St) : Option (Int32 × St) :=
  ((f_X10_in x1.toInt64 0 3 σ).bind fun p1 =>
    (if p1.1 = 0 then
      (f_X10_set_41 p1.2)
      else
      (if x1 = 1 then
        (f_X10_set_24 x1 x2 1 x2.toInt64 p1.2)
        else
        (f_X10_set_24 x1 x2 0 x2.toInt64 p1.2))))
def f_X10_isRope (x1 : Int32) (σ : St) : Option (Int32 × St) :=
  ((f_X10_in x1.toInt64 0 (((gI σ 38 1) - 1).toInt64) σ).bind fun p1 =>
    (gd (isbb (p1.1)) (some (p1.1, p1.2))))
def f_X10_goats_32 (σ : St) : Option (Int32 × St) :=
  (some (0, σ))
def f_X10_goats (x1 : Int32) (x2 : Int32) (σ : St) : Option (Int32 × St) :=
  ((f_X10_isRope x1 σ).bind fun p1 =>
    (if p1.1 = 0 then
      (f_X10_goats_32 p1.2)
      else
      ((f_X10_in x2.toInt64 0 12 p1.2).bind fun p2 =>
        (if p2.1 = 0 then
          (f_X10_goats_32 p2.2)
          else
          (gd (inb (0 + x1) 19)
            (if (gI p2.2 46 (0 + x1).toNatClampNeg) ≤ x2 then
              (gd (inb x1 12)
                (some (1, (sI p2.2 44 x1.toNatClampNeg x2))))
              else
              (f_X10_goats_32 p2.2)))))))
def f_X10_echo_41 (σ : St) : Option (Int32 × St) :=
  (some (0, σ))
def f_X10_echo_85 (k61 : Int32 → Int32 → Int32 → Int32 → Int32 → St → Option (Int32 × St)) (x1 : Int32) (x2 : Int32) (x3 : Int32) (x4 : Int32) (x5 : Int32) (σ : St) : Option (Int32 × St) :=
  (k61 x1 x2 x3 x4 (x5 + 1) σ)
def f_X10_echo_61 : Nat → Int32 → Int32 → Int32 → Int32 → Int32 → St → Option (Int32 × St)
  | 0, _, _, _, _, _, _ => none
  | n + 1, x1, x2, x3, x4, x5, σ =>
    (if (10 : Int32) ≤ x5 then
    (if x4 ≤ 100 then
      (gd (inb ((10 * x1) + x2) 100)
        (some (1, (sI σ 45 ((10 * x1) + x2).toNatClampNeg x3))))
      else
      (some (0, σ)))
    else
    (gd (inb ((10 * x1) + x5) 100)
      (f_X10_echo_85 (f_X10_echo_61 n) x1 x2 x3 (x4 + (gI σ 45 ((10 * x1) + x5).toNatClampNeg)) x5 σ)))
def f_X10_echo_58 (x1 : Int32) (x2 : Int32) (x3 : Int32) (x4 : Int32) (σ : St) : Option (Int32 × St) :=
  (f_X10_echo_61 FU x1 x2 x3 x4 0 σ)
def f_X10_echo (x1 : Int32) (x2 : Int32) (x3 : Int32) (σ : St) : Option (Int32 × St) :=
  ((f_X10_in x1.toInt64 0 9 σ).bind fun p1 =>
    (if p1.1 = 0 then
      (f_X10_echo_41 p1.2)
      else
      ((f_X10_in x2.toInt64 0 9 p1.2).bind fun p2 =>
        (if p2.1 = 0 then
          (f_X10_echo_41 p2.2)
          else
          (if x1 = x2 then
            (f_X10_echo_41 p2.2)
            else
            ((f_X10_in x3.toInt64 0 100 p2.2).bind fun p3 =>
              (if p3.1 = 0 then
                (f_X10_echo_41 p3.2)
                else
                (gd (inb ((10 * x1) + x2) 100)
                  (f_X10_echo_58 x1 x2 x3 (x3 - (gI p3.2 45 ((10 * x1) + x2).toNatClampNeg)) p3.2)))))))))
def f_X10_wind (x1 : Int64) (σ : St) : Option (St) :=
  (some (sJ σ 38 18 x1))
def f_X10_draw_16 (σ : St) : Option (Int32 × St) :=
  (some ((rmJ (ushJ (gJ σ 38 18) 33) 100).toInt32, σ))
def f_X10_draw (σ : St) : Option (Int32 × St) :=
  (f_X10_draw_16 (sJ σ 38 18 (((gJ σ 38 18) * 6364136223846793005) + 1442695040888963407)))
def f_X10_heard_41 (k19 : Int32 → Int32 → Int32 → Int32 → St → Option (Int32 × St)) (x1 : Int32) (x2 : Int32) (x3 : Int32) (x4 : Int32) (σ : St) : Option (Int32 × St) :=
  (if x3 ≤ x2 then
    (k19 x1 x2 x3 (x4 + 1) σ)
    else
    (some (x4, σ)))
def f_X10_heard_19 : Nat → Int32 → Int32 → Int32 → Int32 → St → Option (Int32 × St)
  | 0, _, _, _, _, _ => none
  | n + 1, x1, x2, x3, x4, σ =>
    (if (10 : Int32) ≤ x4 then
    (some (x1, σ))
    else
    (gd (inb ((10 * x1) + x4) 100)
      (f_X10_heard_41 (f_X10_heard_19 n) x1 x2 (x3 + (gI σ 45 ((10 * x1) + x4).toNatClampNeg)) x4 σ)))
def f_X10_heard (x1 : Int32) (σ : St) : Option (Int32 × St) :=
  (if (gI σ 38 21) = 0 then
    ((f_X10_draw σ).bind fun p1 =>
      (f_X10_heard_19 FU x1 p1.1 0 0 p1.2))
    else
    (some (x1, σ)))
def f_X10_become_95 (x1 : Int32) (x3 : Int32) (σ : St) : Option (St) :=
  (gd (inb (0 + x1) 19)
    (some (sI σ 46 (0 + x1).toNatClampNeg x3)))
def f_X10_become_78 (x1 : Int32) (x3 : Int32) (x4 : Int32) (σ : St) : Option (St) :=
  (f_X10_become_95 x1 x3 (sI σ 46 (14 : Int32).toNatClampNeg ((gI σ 46 (14 : Int32).toNatClampNeg) + (x4 * (gI σ 38 12)))))
def f_X10_become_66 (x1 : Int32) (x3 : Int32) (x4 : Int32) (σ : St) : Option (St) :=
  (f_X10_become_78 x1 x3 x4 (sI σ 46 (12 : Int32).toNatClampNeg ((gI σ 46 (12 : Int32).toNatClampNeg) + x4)))
def f_X10_become_51 (x1 : Int32) (x3 : Int32) (σ : St) : Option (St) :=
  (gd (inb (0 + x1) 19)
    (f_X10_become_66 x1 x3 (abI (x3 - (gI σ 46 (0 + x1).toNatClampNeg))) σ))
def f_X10_become_38 (x1 : Int32) (x2 : Int32) (x3 : Int32) (σ : St) : Option (St) :=
  (f_X10_become_51 x1 x3 (sI σ 46 (16 : Int32).toNatClampNeg ((gI σ 46 (16 : Int32).toNatClampNeg) + (x2 - x3))))
def f_X10_become_34 (x1 : Int32) (x2 : Int32) (y0 : Int32) (y1 : Int32) (σ : St) : Option (St) :=
  (f_X10_become_38 x1 x2 (mnI y1 y0) σ)
def f_X10_become_16 (x1 : Int32) (x2 : Int32) (σ : St) : Option (St) :=
  (if (gI σ 38 22) = 0 then
    (gd (inb x1 12)
      (f_X10_become_34 x1 x2 (gI σ 44 x1.toNatClampNeg) x2 σ))
    else
    (f_X10_become_34 x1 x2 x2 x2 σ))
def f_X10_become (x1 : Int32) (x2 : Int32) (σ : St) : Option (St) :=
  (gd (inb x1 12)
    (gd (inb x1 12)
      (f_X10_become_16 x1 x2 (sI σ 47 x1.toNatClampNeg (mxI (gI σ 47 x1.toNatClampNeg) x2)))))
def f_X10_drive_147 (k9 : Int32 → Int32 → Int32 → Int32 → St → Option (St)) (x3 : Int32) (x6 : Int32) (x8 : Int32) (y0 : Int32) (y1 : Int32) (y2 : Int32) (σ : St) : Option (St) :=
  (gd (inb y2 19)
    (k9 x3 1 x8 (x6 + 1) (sI σ 46 y2.toNatClampNeg (y1 + y0))))
def f_X10_drive_124 (k9 : Int32 → Int32 → Int32 → Int32 → St → Option (St)) (x3 : Int32) (x6 : Int32) (x8 : Int32) (y0 : Int32) (y1 : Int32) (y2 : Int32) (σ : St) : Option (St) :=
  (gd (inb y2 19)
    (if x8 = 0 then
      (f_X10_drive_147 k9 x3 x6 x8 0 (gI (sI σ 46 y2.toNatClampNeg (y1 + y0)) 46 (14 : Int32).toNatClampNeg) 14 (sI σ 46 y2.toNatClampNeg (y1 + y0)))
      else
      (f_X10_drive_147 k9 x3 x6 x8 (gI (sI σ 46 y2.toNatClampNeg (y1 + y0)) 38 13) (gI (sI σ 46 y2.toNatClampNeg (y1 + y0)) 46 (14 : Int32).toNatClampNeg) 14 (sI σ 46 y2.toNatClampNeg (y1 + y0)))))
def f_X10_drive_103 (k9 : Int32 → Int32 → Int32 → Int32 → St → Option (St)) (x3 : Int32) (x6 : Int32) (x8 : Int32) (y0 : Int32) (y1 : Int32) (σ : St) : Option (St) :=
  ((f_X10_become y1 y0 σ).bind fun p1 =>
    (if x8 = 0 then
      (f_X10_drive_124 k9 x3 x6 x8 0 (gI p1 46 (13 : Int32).toNatClampNeg) 13 p1)
      else
      (f_X10_drive_124 k9 x3 x6 x8 1 (gI p1 46 (13 : Int32).toNatClampNeg) 13 p1)))
def f_X10_drive_68 (k9 : Int32 → Int32 → Int32 → Int32 → St → Option (St)) (x3 : Int32) (x6 : Int32) (x7 : Int32) (y0 : Int32) (σ : St) : Option (St) :=
  (if x7 ≤ 9 then
    (if (0 : Int32) ≤ x7 then
      (f_X10_drive_103 k9 x3 x6 y0 x7 x6 σ)
      else
      (f_X10_drive_103 k9 x3 x6 y0 (x7 + 10) x6 σ))
    else
    (f_X10_drive_103 k9 x3 x6 y0 (x7 - 10) x6 σ))
def f_X10_drive_63 (k9 : Int32 → Int32 → Int32 → Int32 → St → Option (St)) (x3 : Int32) (x6 : Int32) (x7 : Int32) (σ : St) : Option (St) :=
  (f_X10_drive_68 k9 x3 x6 x7 1 σ)
def f_X10_drive_51 (k9 : Int32 → Int32 → Int32 → Int32 → St → Option (St)) (x3 : Int32) (x6 : Int32) (x7 : Int32) (σ : St) : Option (St) :=
  (if (9 : Int32) < x7 then
    (f_X10_drive_63 k9 x3 x6 x7 σ)
    else
    (if (0 : Int32) ≤ x7 then
      (f_X10_drive_68 k9 x3 x6 x7 0 σ)
      else
      (f_X10_drive_63 k9 x3 x6 x7 σ)))
def f_X10_drive_9 : Nat → Int32 → Int32 → Int32 → Int32 → St → Option (St)
  | 0, _, _, _, _, _ => none
  | n + 1, x3, x4, x5, x6, σ =>
    (if x5 = 0 then
    (some σ)
    else
    (if x6 = (gI σ 38 1) then
      (some (sI σ 46 (15 : Int32).toNatClampNeg ((gI σ 46 (15 : Int32).toNatClampNeg) + 1)))
      else
      (gd (inb (0 + x6) 19)
        (f_X10_drive_51 (f_X10_drive_9 n) x3 x6 ((gI σ 46 (0 + x6).toNatClampNeg) + (x3 * x4)) σ))))
def f_X10_drive (x1 : Int32) (x2 : Int32) (x3 : Int32) (σ : St) : Option (St) :=
  (f_X10_drive_9 FU x3 x2 1 x1 σ)
def f_X10_digitOf_17 (k5 : Int32 → Int64 → Int32 → St → Option (Int32 × St)) (x2 : Int32) (x3 : Int64) (x5 : Int32) (σ : St) : Option (Int32 × St) :=
  (k5 x2 x3 (x5 + 1) σ)
def f_X10_digitOf_5 : Nat → Int32 → Int64 → Int32 → St → Option (Int32 × St)
  | 0, _, _, _, _ => none
  | n + 1, x2, x3, x5, σ =>
    (if x2 ≤ x5 then
    (some ((rmJ x3 10).toInt32, σ))
    else
    (f_X10_digitOf_17 (f_X10_digitOf_5 n) x2 (x3 / 10) x5 σ))
def f_X10_digitOf (x0 : Int64) (x2 : Int32) (σ : St) : Option (Int32 × St) :=
  (f_X10_digitOf_5 FU x2 x0 0 σ)
def f_X10_highest_29 (k5 : Int64 → Int32 → Int32 → St → Option (Int32 × St)) (x1 : Int64) (x4 : Int32) (y0 : Int32) (σ : St) : Option (Int32 × St) :=
  (k5 x1 y0 (x4 + 1) σ)
def f_X10_highest_5 : Nat → Int64 → Int32 → Int32 → St → Option (Int32 × St)
  | 0, _, _, _, _ => none
  | n + 1, x1, x3, x4, σ =>
    (if (gI σ 38 1) ≤ x4 then
    (some (x3, σ))
    else
    ((f_X10_digitOf x1 x4 σ).bind fun p1 =>
      (if p1.1 ≤ 0 then
        (f_X10_highest_29 (f_X10_highest_5 n) x1 x4 x3 p1.2)
        else
        (f_X10_highest_29 (f_X10_highest_5 n) x1 x4 x4 p1.2))))
def f_X10_highest (x1 : Int64) (σ : St) : Option (Int32 × St) :=
  (f_X10_highest_5 FU x1 (-1) 0 σ)
def f_X10_keep_60 (σ : St) : Option (St) :=
  (some (sI σ 38 27 (mnI 40 ((gI σ 38 27) + 1))))
def f_X10_keep_28 (k2 : Int32 → St → Option (St)) (x1 : Int32) (σ : St) : Option (St) :=
  (k2 (x1 + 1) σ)
def f_X10_keep_2 : Nat → Int32 → St → Option (St)
  | 0, _, _ => none
  | n + 1, x1, σ =>
    (if (19 : Int32) ≤ x1 then
    (gd (inb (gI σ 38 28) 40)
      (f_X10_keep_60 (sI (sJ σ 50 (gI σ 38 28).toNatClampNeg (gJ σ 38 18)) 38 28 (rmI ((gI (sJ σ 50 (gI σ 38 28).toNatClampNeg (gJ σ 38 18)) 38 28) + 1) 40))))
    else
    (gd (inb x1 19)
      (gd (inb ((19 * (gI σ 38 28)) + x1) 760)
        (f_X10_keep_28 (f_X10_keep_2 n) x1 (sI σ 49 ((19 * (gI σ 38 28)) + x1).toNatClampNeg (gI σ 46 x1.toNatClampNeg))))))
def f_X10_keep (σ : St) : Option (St) :=
  (f_X10_keep_2 FU 0 σ)
def f_X10_addOf_107 (k85 : Int32 → Int32 → Int32 → Int32 → St → Option (St)) (x1 : Int32) (x2 : Int32) (x3 : Int32) (x5 : Int32) (y0 : Int32) (σ : St) : Option (St) :=
  ((f_X10_digitOf x1.toInt64 y0 σ).bind fun p2 =>
    ((f_X10_heard p2.1 p2.2).bind fun p3 =>
      ((f_X10_drive y0 p3.1 x2 p3.2).bind fun p4 =>
        (k85 x1 x2 x3 (x5 + 1) p4))))
def f_X10_addOf_85 : Nat → Int32 → Int32 → Int32 → Int32 → St → Option (St)
  | 0, _, _, _, _, _ => none
  | n + 1, x1, x2, x3, x5, σ =>
    (if x3 < x5 then
    (some (sI σ 46 (18 : Int32).toNatClampNeg ((gI σ 46 (18 : Int32).toNatClampNeg) + 1)))
    else
    (if (gI σ 38 11) = 0 then
      (f_X10_addOf_107 (f_X10_addOf_85 n) x1 x2 x3 x5 x5 σ)
      else
      (f_X10_addOf_107 (f_X10_addOf_85 n) x1 x2 x3 x5 (x3 - x5) σ)))
def f_X10_addOf_80 (x1 : Int32) (x2 : Int32) (x3 : Int32) (y0 : Int32) (y1 : Int32) (y2 : Int32) (σ : St) : Option (St) :=
  (gd (inb y2 19)
    (f_X10_addOf_85 FU x1 x2 x3 0 (sI σ 46 y2.toNatClampNeg (y1 + y0))))
def f_X10_addOf_54 (k27 : Int32 → Int32 → Int32 → Int32 → Int32 → St → Option (St)) (x1 : Int32) (x2 : Int32) (x3 : Int32) (x5 : Int32) (y0 : Int32) (σ : St) : Option (St) :=
  (k27 x1 x2 x3 y0 (x5 + 1) σ)
def f_X10_addOf_49 (k27 : Int32 → Int32 → Int32 → Int32 → Int32 → St → Option (St)) (x1 : Int32) (x2 : Int32) (x3 : Int32) (x5 : Int32) (σ : St) : Option (St) :=
  (f_X10_addOf_54 k27 x1 x2 x3 x5 1 σ)
def f_X10_addOf_27 : Nat → Int32 → Int32 → Int32 → Int32 → Int32 → St → Option (St)
  | 0, _, _, _, _, _, _ => none
  | n + 1, x1, x2, x3, x4, x5, σ =>
    (if (10 : Int32) ≤ x5 then
    (if x4 = 0 then
      (f_X10_addOf_80 x1 x2 x3 0 (gI σ 46 (15 : Int32).toNatClampNeg) 15 σ)
      else
      (f_X10_addOf_80 x1 x2 x3 1 (gI σ 46 (15 : Int32).toNatClampNeg) 15 σ))
    else
    (if x4 = 0 then
      ((f_X10_digitOf x1.toInt64 x5 σ).bind fun p5 =>
        (if p5.1 ≤ 0 then
          (f_X10_addOf_54 (f_X10_addOf_27 n) x1 x2 x3 x5 0 p5.2)
          else
          (f_X10_addOf_49 (f_X10_addOf_27 n) x1 x2 x3 x5 p5.2)))
      else
      (f_X10_addOf_49 (f_X10_addOf_27 n) x1 x2 x3 x5 σ)))
def f_X10_addOf_11 (x1 : Int32) (x2 : Int32) (σ : St) : Option (St) :=
  ((f_X10_highest x1.toInt64 σ).bind fun p1 =>
    (f_X10_addOf_27 FU x1 x2 p1.1 0 (gI p1.2 38 1) p1.2))
def f_X10_addOf (x1 : Int32) (x2 : Int32) (σ : St) : Option (St) :=
  (if (gI σ 38 21) = 0 then
    ((f_X10_keep σ).bind fun p6 =>
      (f_X10_addOf_11 x1 x2 p6))
    else
    (f_X10_addOf_11 x1 x2 σ))
def f_X10_actOf_138 (y0 : Int32) (y1 : Int32) (σ : St) : Option (St) :=
  (gd (inb y1 19)
    (some (sI (sI σ 46 y1.toNatClampNeg y0) 46 (18 : Int32).toNatClampNeg ((gI (sI σ 46 y1.toNatClampNeg y0) 46 (18 : Int32).toNatClampNeg) + 1))))
def f_X10_actOf_110 (k50 : Int32 → Int32 → Int32 → St → Option (St)) (x1 : Int32) (x2 : Int32) (x3 : Int32) (σ : St) : Option (St) :=
  (k50 x1 x2 (x3 + (-1)) σ)
def f_X10_actOf_101 (k50 : Int32 → Int32 → Int32 → St → Option (St)) (x1 : Int32) (x2 : Int32) (x3 : Int32) (x4 : Int32) (σ : St) : Option (St) :=
  ((f_X10_become x3 (x4 / 2) σ).bind fun p1 =>
    (f_X10_actOf_110 k50 x1 x2 x3 p1))
def f_X10_actOf_94 (k50 : Int32 → Int32 → Int32 → St → Option (St)) (x1 : Int32) (x3 : Int32) (y0 : Int32) (σ : St) : Option (St) :=
  (f_X10_actOf_101 k50 x1 (rmI y0 2) x3 y0 σ)
def f_X10_actOf_50 : Nat → Int32 → Int32 → Int32 → St → Option (St)
  | 0, _, _, _, _ => none
  | n + 1, x1, x2, x3, σ =>
    (if x3 < 0 then
    (if x1 = 3 then
      (f_X10_actOf_138 x2 17 σ)
      else
      (f_X10_actOf_138 (gI σ 46 (17 : Int32).toNatClampNeg) 17 σ))
    else
    (if x1 = 2 then
      (gd (inb x3 12)
        ((f_X10_drive x3 (gI σ 48 x3.toNatClampNeg) 1 σ).bind fun p2 =>
          (f_X10_actOf_110 (f_X10_actOf_50 n) x1 x2 x3 p2)))
      else
      (if x1 = 3 then
        (gd (inb x3 12)
          (f_X10_actOf_94 (f_X10_actOf_50 n) x1 x3 ((10 * x2) + (gI σ 48 x3.toNatClampNeg)) σ))
        else
        (f_X10_actOf_94 (f_X10_actOf_50 n) x1 x3 0 σ))))
def f_X10_actOf_13 : Nat → Int32 → Int32 → St → Option (St)
  | 0, _, _, _ => none
  | n + 1, x1, x2, σ =>
    (if (gI σ 38 1) ≤ x2 then
    (f_X10_actOf_50 FU x1 0 ((gI σ 38 1) - 1) σ)
    else
    (gd (inb (0 + x2) 19)
      (gd (inb x2 12)
        (f_X10_actOf_13 n x1 (x2 + 1) (sI σ 48 x2.toNatClampNeg (gI σ 46 (0 + x2).toNatClampNeg))))))
def f_X10_actOf_11 (x1 : Int32) (σ : St) : Option (St) :=
  (f_X10_actOf_13 FU x1 0 σ)
def f_X10_actOf (x1 : Int32) (σ : St) : Option (St) :=
  (if (gI σ 38 21) = 0 then
    ((f_X10_keep σ).bind fun p3 =>
      (f_X10_actOf_11 x1 p3))
    else
    (f_X10_actOf_11 x1 σ))
def f_X10_add_25 (y0 : Int32) (y1 : Int32) (σ : St) : Option (Int32 × St) :=
  ((f_X10_addOf y1 y0 σ).bind fun p2 =>
    (some ((gI p2 46 (18 : Int32).toNatClampNeg), p2)))
def f_X10_add (x1 : Int32) (x2 : Int32) (σ : St) : Option (Int32 × St) :=
  ((f_X10_in x1.toInt64 0 999999999 σ).bind fun p1 =>
    (if p1.1 = 0 then
      (some ((-1), p1.2))
      else
      (if x2 = 0 then
        (f_X10_add_25 1 x1 p1.2)
        else
        (f_X10_add_25 (-1) x1 p1.2))))
def f_X10_act (x1 : Int32) (σ : St) : Option (Int32 × St) :=
  ((f_X10_in x1.toInt64 2 4 σ).bind fun p1 =>
    (if p1.1 = 0 then
      (some ((-1), p1.2))
      else
      ((f_X10_actOf x1 p1.2).bind fun p2 =>
        (some ((gI p2 46 (18 : Int32).toNatClampNeg), p2)))))
def f_X10_runOf_79 (k5 : Int32 → Int32 → St → Option (St)) (k22 : Int32 → Int32 → Int32 → St → Option (St)) (x1 : Int32) (x2 : Int32) (x3 : Int32) (σ : St) : Option (St) :=
  (k22 x1 x2 (x3 + 1) σ)
def f_X10_runOf_63 (k5 : Int32 → Int32 → St → Option (St)) (k22 : Int32 → Int32 → Int32 → St → Option (St)) (x1 : Int32) (x2 : Int32) (x3 : Int32) (y0 : Int32) (y1 : Int32) (σ : St) : Option (St) :=
  ((f_X10_addOf y1 y0 σ).bind fun p2 =>
    (f_X10_runOf_79 k5 k22 x1 x2 x3 p2))
def f_X10_runOf_22 (k5 : Int32 → Int32 → St → Option (St)) : Nat → Int32 → Int32 → Int32 → St → Option (St)
  | 0, _, _, _, _ => none
  | n + 1, x1, x2, x3, σ =>
    (gd (inb x2 84)
    (if (gI σ 42 x2.toNatClampNeg) ≤ x3 then
      (k5 x1 (x2 + 1) σ)
      else
      (gd (inb x2 84)
        (if (2 : Int32) ≤ (gI σ 40 x2.toNatClampNeg) then
          (gd (inb x2 84)
            ((f_X10_actOf (gI σ 40 x2.toNatClampNeg) σ).bind fun p1 =>
              (f_X10_runOf_79 k5 (f_X10_runOf_22 k5 n) x1 x2 x3 p1)))
          else
          (gd (inb x2 84)
            (gd (inb x2 84)
              (if (gI σ 40 x2.toNatClampNeg) = 0 then
                (f_X10_runOf_63 k5 (f_X10_runOf_22 k5 n) x1 x2 x3 1 (gI σ 41 x2.toNatClampNeg) σ)
                else
                (f_X10_runOf_63 k5 (f_X10_runOf_22 k5 n) x1 x2 x3 (-1) (gI σ 41 x2.toNatClampNeg) σ))))))))
def f_X10_runOf_5 : Nat → Int32 → Int32 → St → Option (St)
  | 0, _, _, _ => none
  | n + 1, x1, x2, σ =>
    (gd (inb x1 7)
    (if ((12 * x1) + (gI σ 43 x1.toNatClampNeg)) ≤ x2 then
      (some σ)
      else
      (f_X10_runOf_22 (f_X10_runOf_5 n) FU x1 x2 0 σ)))
def f_X10_runOf (x1 : Int32) (σ : St) : Option (St) :=
  (f_X10_runOf_5 FU x1 (12 * x1) σ)
def f_X10_run (x1 : Int32) (σ : St) : Option (Int32 × St) :=
  ((f_X10_isSum x1 σ).bind fun p1 =>
    (if p1.1 = 0 then
      (some ((-1), p1.2))
      else
      ((f_X10_runOf x1 p1.2).bind fun p2 =>
        (some ((gI p2 46 (18 : Int32).toNatClampNeg), p2)))))
def f_X10_undo_63 (k37 : Int32 → St → Option (Int32 × St)) (x1 : Int32) (σ : St) : Option (Int32 × St) :=
  (k37 (x1 + 1) σ)
def f_X10_undo_37 : Nat → Int32 → St → Option (Int32 × St)
  | 0, _, _ => none
  | n + 1, x1, σ =>
    (if (19 : Int32) ≤ x1 then
    (gd (inb (gI σ 38 28) 40)
      (some ((gI (sJ σ 38 18 (gJ σ 50 (gI σ 38 28).toNatClampNeg)) 46 (18 : Int32).toNatClampNeg), (sJ σ 38 18 (gJ σ 50 (gI σ 38 28).toNatClampNeg)))))
    else
    (gd (inb ((19 * (gI σ 38 28)) + x1) 760)
      (gd (inb x1 19)
        (f_X10_undo_63 (f_X10_undo_37 n) x1 (sI σ 46 x1.toNatClampNeg (gI σ 49 ((19 * (gI σ 38 28)) + x1).toNatClampNeg))))))
def f_X10_undo_35 (σ : St) : Option (Int32 × St) :=
  (f_X10_undo_37 FU 0 σ)
def f_X10_undo (σ : St) : Option (Int32 × St) :=
  (if (gI σ 38 27) = 0 then
    (some ((-1), σ))
    else
    (f_X10_undo_35 (sI (sI σ 38 27 ((gI σ 38 27) - 1)) 38 28 (rmI (((gI (sI σ 38 27 ((gI σ 38 27) - 1)) 38 28) + 40) - 1) 40))))
def f_X10_seen_35 (y0 : Int32) (y1 : Int32) (σ : St) : Option (Int32 × St) :=
  (some ((y1 + y0), σ))
def f_X10_seen_34 (y0 : Int32) (σ : St) : Option (Int32 × St) :=
  (f_X10_seen_35 0 y0 σ)
def f_X10_seen (x1 : Int32) (σ : St) : Option (Int32 × St) :=
  (gd (inb (0 + x1) 19)
    ((f_X10_has (gI σ 38 19) x1 σ).bind fun p1 =>
      (if p1.1 = 0 then
        (f_X10_seen_34 (gI σ 46 (0 + x1).toNatClampNeg) p1.2)
        else
        (gd (inb (0 + x1) 19)
          (if (gI p1.2 46 (0 + x1).toNatClampNeg) ≤ 0 then
            (f_X10_seen_34 (gI σ 46 (0 + x1).toNatClampNeg) p1.2)
            else
            (f_X10_seen_35 1 (gI σ 46 (0 + x1).toNatClampNeg) p1.2))))))
def f_X10_rope_20 (σ : St) : Option (Int32 × St) :=
  (some ((-1), σ))
def f_X10_rope_72 (y0 : Int32) (σ : St) : Option (Int32 × St) :=
  (some (y0, σ))
def f_X10_rope (x1 : Int32) (x2 : Int32) (σ : St) : Option (Int32 × St) :=
  ((f_X10_isRope x1 σ).bind fun p1 =>
    (if p1.1 = 0 then
      (f_X10_rope_20 p1.2)
      else
      ((f_X10_in x2.toInt64 0 2 p1.2).bind fun p2 =>
        (if p2.1 = 0 then
          (f_X10_rope_20 p2.2)
          else
          (if x2 = 0 then
            (gd (inb (0 + x1) 19)
              (f_X10_rope_72 (gI p2.2 46 (0 + x1).toNatClampNeg) p2.2))
            else
            (if x2 = 1 then
              (gd (inb x1 12)
                (f_X10_rope_72 (gI p2.2 44 x1.toNatClampNeg) p2.2))
              else
              ((f_X10_has (gI p2.2 38 20) x1 p2.2).bind fun p3 =>
                (if p3.1 = 0 then
                  ((f_X10_seen x1 p3.2).bind fun p4 =>
                    (f_X10_rope_72 p4.1 p4.2))
                  else
                  (f_X10_rope_72 (-2) p3.2)))))))))
def f_X10_number_29 (k9 : Int64 → Int32 → St → Option (Int64 × St)) (x1 : Int64) (x3 : Int32) (σ : St) : Option (Int64 × St) :=
  (k9 x1 (x3 + (-1)) σ)
def f_X10_number_9 : Nat → Int64 → Int32 → St → Option (Int64 × St)
  | 0, _, _, _ => none
  | n + 1, x1, x3, σ =>
    (if x3 < 0 then
    (some (x1, σ))
    else
    (gd (inb (0 + x3) 19)
      (f_X10_number_29 (f_X10_number_9 n) ((10 * x1) + ((gI σ 46 (0 + x3).toNatClampNeg).toInt64)) x3 σ)))
def f_X10_number (σ : St) : Option (Int64 × St) :=
  (f_X10_number_9 FU 0 ((gI σ 38 1) - 1) σ)
def f_X10_told_25 (y0 : Int32) (σ : St) : Option (Int32 × St) :=
  (some (y0, σ))
def f_X10_told (x1 : Int32) (σ : St) : Option (Int32 × St) :=
  ((f_X10_in x1.toInt64 0 6 σ).bind fun p1 =>
    (if p1.1 = 0 then
      (f_X10_told_25 (-1) p1.2)
      else
      (gd (inb (12 + x1) 19)
        (f_X10_told_25 (gI p1.2 46 (12 + x1).toNatClampNeg) p1.2))))
def f_X10_workAll_229 (k12 : Int32 → Int32 → Int32 → Int32 → St → Option (St)) (k84 : Int32 → Int32 → Int32 → Int32 → Int32 → Int32 → Int32 → Int32 → Int32 → Int32 → St → Option (St)) (x1 : Int32) (x2 : Int32) (x3 : Int32) (x4 : Int32) (x5 : Int32) (x6 : Int32) (x7 : Int32) (x8 : Int32) (x9 : Int32) (x10 : Int32) (σ : St) : Option (St) :=
  (k84 x1 x2 x3 x4 x5 x6 x7 x8 x9 (x10 + 1) σ)
def f_X10_workAll_223 (k12 : Int32 → Int32 → Int32 → Int32 → St → Option (St)) (k84 : Int32 → Int32 → Int32 → Int32 → Int32 → Int32 → Int32 → Int32 → Int32 → Int32 → St → Option (St)) (x1 : Int32) (x2 : Int32) (x3 : Int32) (x4 : Int32) (x5 : Int32) (x7 : Int32) (x9 : Int32) (x10 : Int32) (x14 : Int32) (y0 : Int32) (σ : St) : Option (St) :=
  (f_X10_workAll_229 k12 k84 x1 x2 x3 x4 x5 x14 x7 y0 x9 x10 σ)
def f_X10_workAll_204 (k12 : Int32 → Int32 → Int32 → Int32 → St → Option (St)) (k84 : Int32 → Int32 → Int32 → Int32 → Int32 → Int32 → Int32 → Int32 → Int32 → Int32 → St → Option (St)) (x1 : Int32) (x2 : Int32) (x3 : Int32) (x4 : Int32) (x5 : Int32) (x7 : Int32) (x8 : Int32) (x9 : Int32) (x10 : Int32) (x13 : Int32) (x14 : Int32) (σ : St) : Option (St) :=
  (if x13 ≤ 9 then
    (f_X10_workAll_223 k12 k84 x1 x2 x3 x4 x5 x7 x9 x10 x14 x8 σ)
    else
    (f_X10_workAll_223 k12 k84 x1 x2 x3 x4 x5 x7 x9 x10 x14 (x7 + (gI σ 38 13)) σ))
def f_X10_workAll_181 (k12 : Int32 → Int32 → Int32 → Int32 → St → Option (St)) (k84 : Int32 → Int32 → Int32 → Int32 → Int32 → Int32 → Int32 → Int32 → Int32 → Int32 → St → Option (St)) (x1 : Int32) (x2 : Int32) (x3 : Int32) (x4 : Int32) (x5 : Int32) (x6 : Int32) (x7 : Int32) (x8 : Int32) (x9 : Int32) (x10 : Int32) (x12 : Int32) (x13 : Int32) (x14 : Int32) (σ : St) : Option (St) :=
  (f_X10_workAll_204 k12 k84 x1 x2 x3 x4 x5 ((mxI x7 x12) + ((gI σ 38 12) * (abI (x14 - x6)))) x8 x9 x10 x13 x14 σ)
def f_X10_workAll_169 (k12 : Int32 → Int32 → Int32 → Int32 → St → Option (St)) (k84 : Int32 → Int32 → Int32 → Int32 → Int32 → Int32 → Int32 → Int32 → Int32 → Int32 → St → Option (St)) (x1 : Int32) (x2 : Int32) (x3 : Int32) (x4 : Int32) (x5 : Int32) (x6 : Int32) (x7 : Int32) (x8 : Int32) (x9 : Int32) (x10 : Int32) (x12 : Int32) (x13 : Int32) (y0 : Int32) (σ : St) : Option (St) :=
  (gd (inb x4 12)
    (f_X10_workAll_181 k12 k84 x1 x2 x3 x4 x5 x6 x7 x8 x9 x10 x12 x13 (mnI y0 (gI σ 44 x4.toNatClampNeg)) σ))
def f_X10_workAll_152 (k12 : Int32 → Int32 → Int32 → Int32 → St → Option (St)) (k84 : Int32 → Int32 → Int32 → Int32 → Int32 → Int32 → Int32 → Int32 → Int32 → Int32 → St → Option (St)) (x1 : Int32) (x2 : Int32) (x3 : Int32) (x4 : Int32) (x5 : Int32) (x6 : Int32) (x7 : Int32) (x8 : Int32) (x9 : Int32) (x10 : Int32) (x12 : Int32) (x13 : Int32) (σ : St) : Option (St) :=
  (if x13 ≤ 9 then
    (f_X10_workAll_169 k12 k84 x1 x2 x3 x4 x5 x6 x7 x8 x9 x10 x12 x13 x13 σ)
    else
    (f_X10_workAll_169 k12 k84 x1 x2 x3 x4 x5 x6 x7 x8 x9 x10 x12 x13 (x13 - 10) σ))
def f_X10_workAll_149 (k12 : Int32 → Int32 → Int32 → Int32 → St → Option (St)) (k84 : Int32 → Int32 → Int32 → Int32 → Int32 → Int32 → Int32 → Int32 → Int32 → Int32 → St → Option (St)) (x1 : Int32) (x2 : Int32) (x3 : Int32) (x4 : Int32) (x5 : Int32) (x6 : Int32) (x7 : Int32) (x8 : Int32) (x9 : Int32) (x10 : Int32) (x12 : Int32) (y0 : Int32) (y1 : Int32) (σ : St) : Option (St) :=
  (f_X10_workAll_152 k12 k84 x1 x2 x3 x4 x5 x6 x7 x8 x9 x10 x12 (y1 + y0) σ)
def f_X10_workAll_123 (k12 : Int32 → Int32 → Int32 → Int32 → St → Option (St)) (k84 : Int32 → Int32 → Int32 → Int32 → Int32 → Int32 → Int32 → Int32 → Int32 → Int32 → St → Option (St)) (x1 : Int32) (x2 : Int32) (x3 : Int32) (x4 : Int32) (x5 : Int32) (x6 : Int32) (x7 : Int32) (x8 : Int32) (x9 : Int32) (x10 : Int32) (x11 : Int32) (y0 : Int32) (σ : St) : Option (St) :=
  (if y0 = (-1) then
    (f_X10_workAll_229 k12 k84 x1 x2 x3 x4 x5 x6 x7 x8 x9 x10 σ)
    else
    (if x11 = 0 then
      (f_X10_workAll_149 k12 k84 x1 x2 x3 x4 x5 x6 x7 x8 x9 x10 y0 1 x6 σ)
      else
      ((f_X10_digitOf x1.toInt64 x4 σ).bind fun p2 =>
        (f_X10_workAll_149 k12 k84 x1 x2 x3 x4 x5 x6 x7 x8 x9 x10 y0 p2.1 x6 p2.2))))
def f_X10_workAll_110 (k12 : Int32 → Int32 → Int32 → Int32 → St → Option (St)) (k84 : Int32 → Int32 → Int32 → Int32 → Int32 → Int32 → Int32 → Int32 → Int32 → Int32 → St → Option (St)) (x1 : Int32) (x2 : Int32) (x3 : Int32) (x4 : Int32) (x5 : Int32) (x6 : Int32) (x7 : Int32) (x8 : Int32) (x9 : Int32) (x10 : Int32) (y0 : Int32) (σ : St) : Option (St) :=
  (if y0 = 0 then
    (f_X10_workAll_123 k12 k84 x1 x2 x3 x4 x5 x6 x7 x8 x9 x10 y0 x3 σ)
    else
    (f_X10_workAll_123 k12 k84 x1 x2 x3 x4 x5 x6 x7 x8 x9 x10 y0 x5 σ))
def f_X10_workAll_100 (k12 : Int32 → Int32 → Int32 → Int32 → St → Option (St)) (k84 : Int32 → Int32 → Int32 → Int32 → Int32 → Int32 → Int32 → Int32 → Int32 → Int32 → St → Option (St)) (x1 : Int32) (x2 : Int32) (x3 : Int32) (x4 : Int32) (x5 : Int32) (x6 : Int32) (x7 : Int32) (x8 : Int32) (x9 : Int32) (x10 : Int32) (y0 : Int32) (σ : St) : Option (St) :=
  (if y0 = x9 then
    (f_X10_workAll_110 k12 k84 x1 x2 x3 x4 x5 x6 x7 x8 x9 x10 1 σ)
    else
    (f_X10_workAll_110 k12 k84 x1 x2 x3 x4 x5 x6 x7 x8 x9 x10 0 σ))
def f_X10_workAll_84 (k12 : Int32 → Int32 → Int32 → Int32 → St → Option (St)) : Nat → Int32 → Int32 → Int32 → Int32 → Int32 → Int32 → Int32 → Int32 → Int32 → Int32 → St → Option (St)
  | 0, _, _, _, _, _, _, _, _, _, _, _ => none
  | n + 1, x1, x2, x3, x4, x5, x6, x7, x8, x9, x10, σ =>
    (if (2 : Int32) ≤ x10 then
    (gd (inb x4 12)
      (k12 x1 x2 x8 (x4 + 1) (sI σ 51 x4.toNatClampNeg x7)))
    else
    (if x10 = 0 then
      (f_X10_workAll_100 k12 (f_X10_workAll_84 k12 n) x1 x2 x3 x4 x5 x6 x7 x8 x9 x10 1 σ)
      else
      (f_X10_workAll_100 k12 (f_X10_workAll_84 k12 n) x1 x2 x3 x4 x5 x6 x7 x8 x9 x10 0 σ)))
def f_X10_workAll_79 (k12 : Int32 → Int32 → Int32 → Int32 → St → Option (St)) (x1 : Int32) (x2 : Int32) (x3 : Int32) (x4 : Int32) (x5 : Int32) (x6 : Int32) (x7 : Int32) (x8 : Int32) (y0 : Int32) (σ : St) : Option (St) :=
  (f_X10_workAll_84 k12 FU x1 x2 x3 x4 x5 x6 x7 x8 y0 0 σ)
def f_X10_workAll_78 (k12 : Int32 → Int32 → Int32 → Int32 → St → Option (St)) (x1 : Int32) (x2 : Int32) (x3 : Int32) (x4 : Int32) (x5 : Int32) (x6 : Int32) (x7 : Int32) (x8 : Int32) (σ : St) : Option (St) :=
  (f_X10_workAll_79 k12 x1 x2 x3 x4 x5 x6 x7 x8 0 σ)
def f_X10_workAll_74 (k12 : Int32 → Int32 → Int32 → Int32 → St → Option (St)) (x1 : Int32) (x2 : Int32) (x3 : Int32) (x4 : Int32) (x5 : Int32) (x6 : Int32) (x7 : Int32) (x8 : Int32) (σ : St) : Option (St) :=
  (f_X10_workAll_79 k12 x1 x2 x3 x4 x5 x6 x7 x8 1 σ)
def f_X10_workAll_51 (k12 : Int32 → Int32 → Int32 → Int32 → St → Option (St)) (x1 : Int32) (x2 : Int32) (x3 : Int32) (x4 : Int32) (x5 : Int32) (x6 : Int32) (σ : St) : Option (St) :=
  (if x5 = (-1) then
    (f_X10_workAll_78 k12 x1 x2 x3 x4 x5 x6 0 (-1) σ)
    else
    (if x3 = (-1) then
      (f_X10_workAll_74 k12 x1 x2 x3 x4 x5 x6 0 (-1) σ)
      else
      (if x3 < x5 then
        (f_X10_workAll_78 k12 x1 x2 x3 x4 x5 x6 0 (-1) σ)
        else
        (f_X10_workAll_74 k12 x1 x2 x3 x4 x5 x6 0 (-1) σ))))
def f_X10_workAll_38 (k12 : Int32 → Int32 → Int32 → Int32 → St → Option (St)) (x1 : Int32) (x2 : Int32) (x3 : Int32) (x4 : Int32) (y0 : Int32) (σ : St) : Option (St) :=
  (gd (inb (0 + x4) 19)
    (f_X10_workAll_51 k12 x1 x2 x3 x4 y0 (gI σ 46 (0 + x4).toNatClampNeg) σ))
def f_X10_workAll_12 : Nat → Int32 → Int32 → Int32 → Int32 → St → Option (St)
  | 0, _, _, _, _, _ => none
  | n + 1, x1, x2, x3, x4, σ =>
    (if (gI σ 38 1) ≤ x4 then
    (some σ)
    else
    (if x2 < x4 then
      (f_X10_workAll_38 (f_X10_workAll_12 n) x1 x2 x3 x4 (-1) σ)
      else
      (f_X10_workAll_38 (f_X10_workAll_12 n) x1 x2 x3 x4 ((gI σ 38 14) * x4) σ)))
def f_X10_workAll (x1 : Int32) (σ : St) : Option (St) :=
  ((f_X10_highest x1.toInt64 σ).bind fun p1 =>
    (f_X10_workAll_12 FU x1 p1.1 (-1) 0 p1.2))
def f_X10_done_25 (σ : St) : Option (Int32 × St) :=
  (some ((-1), σ))
def f_X10_done_79 (y0 : Int32) (σ : St) : Option (Int32 × St) :=
  (some (y0, σ))
def f_X10_done_58 (k37 : Int32 → Int32 → Int32 → St → Option (Int32 × St)) (x2 : Int32) (x3 : Int32) (x4 : Int32) (σ : St) : Option (Int32 × St) :=
  (k37 x2 x3 (x4 + 1) σ)
def f_X10_done_37 : Nat → Int32 → Int32 → Int32 → St → Option (Int32 × St)
  | 0, _, _, _, _ => none
  | n + 1, x2, x3, x4, σ =>
    (if (gI σ 38 1) ≤ x4 then
    (if x2 = (-1) then
      (f_X10_done_79 x3 σ)
      else
      (gd (inb x2 12)
        (f_X10_done_79 (gI σ 51 x2.toNatClampNeg) σ)))
    else
    (gd (inb x4 12)
      (f_X10_done_58 (f_X10_done_37 n) x2 (mxI x3 (gI σ 51 x4.toNatClampNeg)) x4 σ)))
def f_X10_done_27 (x1 : Int32) (x2 : Int32) (σ : St) : Option (Int32 × St) :=
  ((f_X10_workAll x1 σ).bind fun p2 =>
    (f_X10_done_37 FU x2 0 0 p2))
def f_X10_done (x1 : Int32) (x2 : Int32) (σ : St) : Option (Int32 × St) :=
  ((f_X10_in x1.toInt64 0 999999999 σ).bind fun p1 =>
    (if p1.1 = 0 then
      (f_X10_done_25 p1.2)
      else
      (if x2 = (-1) then
        (f_X10_done_27 x1 x2 p1.2)
        else
        ((f_X10_isRope x2 p1.2).bind fun p3 =>
          (if p3.1 = 0 then
            (f_X10_done_25 p3.2)
            else
            (f_X10_done_27 x1 x2 p3.2))))))
def f_X10_two_36 (y0 : Int32) (σ : St) : Option (Int32 × St) :=
  (some (1, (sI σ 38 19 y0)))
def f_X10_two (x1 : Int32) (x2 : Int32) (σ : St) : Option (Int32 × St) :=
  ((f_X10_isRope x1 σ).bind fun p1 =>
    (if p1.1 = 0 then
      (some (0, p1.2))
      else
      (if x2 = 0 then
        (f_X10_two_36 ((gI p1.2 38 19) &&& ((shlI 1 x1) ^^^ (-1))) p1.2)
        else
        (f_X10_two_36 ((gI p1.2 38 19) ||| (shlI 1 x1)) p1.2))))
def f_X10_fog_29 (σ : St) : Option (Int32 × St) :=
  (some (0, σ))
def f_X10_fog_57 (y0 : Int32) (σ : St) : Option (Int32 × St) :=
  (some (1, (sI σ 38 20 y0)))
def f_X10_fog_31 (x1 : Int32) (x2 : Int32) (σ : St) : Option (Int32 × St) :=
  (if x2 = 0 then
    (f_X10_fog_57 ((gI σ 38 20) &&& ((shlI 1 x1) ^^^ (-1))) σ)
    else
    (f_X10_fog_57 ((gI σ 38 20) ||| (shlI 1 x1)) σ))
def f_X10_fog (x1 : Int32) (x2 : Int32) (σ : St) : Option (Int32 × St) :=
  ((f_X10_isRope x1 σ).bind fun p1 =>
    (if p1.1 = 0 then
      (f_X10_fog_29 p1.2)
      else
      (if x2 = 0 then
        (f_X10_fog_31 x1 x2 p1.2)
        else
        ((f_J6_bitCount_0f7a4 ((gI p1.2 38 20) &&& ((shlI 1 x1) ^^^ (-1))) p1.2).bind fun p2 =>
          (if p2.1 = 5 then
            (f_X10_fog_29 p2.2)
            else
            (f_X10_fog_31 x1 x2 p2.2))))))
def f_X10_ten_15 (k4 : Int32 → Int64 → Int32 → St → Option (Int64 × St)) (x0 : Int32) (x1 : Int64) (x3 : Int32) (σ : St) : Option (Int64 × St) :=
  (k4 x0 x1 (x3 + 1) σ)
def f_X10_ten_4 : Nat → Int32 → Int64 → Int32 → St → Option (Int64 × St)
  | 0, _, _, _, _ => none
  | n + 1, x0, x1, x3, σ =>
    (if x0 ≤ x3 then
    (some (x1, σ))
    else
    (f_X10_ten_15 (f_X10_ten_4 n) x0 (x1 * 10) x3 σ))
def f_X10_ten (x0 : Int32) (σ : St) : Option (Int64 × St) :=
  (f_X10_ten_4 FU x0 1 0 σ)
def f_X10_seenNumber_41 (k4 : Int64 → Int32 → St → Option (Int64 × St)) (x1 : Int64) (x3 : Int32) (σ : St) : Option (Int64 × St) :=
  (k4 x1 (x3 + 1) σ)
def f_X10_seenNumber_39 (k4 : Int64 → Int32 → St → Option (Int64 × St)) (x3 : Int32) (y0 : Int64) (y1 : Int64) (σ : St) : Option (Int64 × St) :=
  (f_X10_seenNumber_41 k4 (y1 + y0) x3 σ)
def f_X10_seenNumber_4 : Nat → Int64 → Int32 → St → Option (Int64 × St)
  | 0, _, _, _ => none
  | n + 1, x1, x3, σ =>
    (if (gI σ 38 1) ≤ x3 then
    (some (x1, σ))
    else
    ((f_X10_has (gI σ 38 20) x3 σ).bind fun p1 =>
      (if p1.1 = 0 then
        ((f_X10_seen x3 p1.2).bind fun p2 =>
          ((f_X10_ten x3 p2.2).bind fun p3 =>
            (f_X10_seenNumber_39 (f_X10_seenNumber_4 n) x3 (p2.1.toInt64 * p3.1) x1 p3.2)))
        else
        (f_X10_seenNumber_39 (f_X10_seenNumber_4 n) x3 0 x1 p1.2))))
def f_X10_seenNumber (σ : St) : Option (Int64 × St) :=
  (f_X10_seenNumber_4 FU 0 0 σ)
def f_X10_bell_38 (y0 : Int32) (σ : St) : Option (Int32 × St) :=
  (some (y0, σ))
def f_X10_bell (x1 : Int32) (σ : St) : Option (Int32 × St) :=
  ((f_X10_in x1.toInt64 2 99 σ).bind fun p1 =>
    (if p1.1 = 0 then
      (f_X10_bell_38 (-1) p1.2)
      else
      (if (gI p1.2 38 20) = 0 then
        ((f_X10_seenNumber p1.2).bind fun p2 =>
          (gd (nzJ x1.toInt64)
            (f_X10_bell_38 ((rmJ p2.1 x1.toInt64).toInt32) p2.2)))
        else
        (f_X10_bell_38 (-2) p1.2))))
def f_X10_itself_25 (k5 : Int32 → Int32 → Int32 → St → Option (Int32 × St)) (x1 : Int32) (x2 : Int32) (x3 : Int32) (σ : St) : Option (Int32 × St) :=
  (k5 x1 x2 (x3 + 1) σ)
def f_X10_itself_5 : Nat → Int32 → Int32 → Int32 → St → Option (Int32 × St)
  | 0, _, _, _, _ => none
  | n + 1, x1, x2, x3, σ =>
    (if (10 : Int32) ≤ x3 then
    (some (x2, σ))
    else
    (gd (inb ((10 * x1) + x3) 100)
      (f_X10_itself_25 (f_X10_itself_5 n) x1 (x2 - (gI σ 45 ((10 * x1) + x3).toNatClampNeg)) x3 σ)))
def f_X10_itself (x1 : Int32) (σ : St) : Option (Int32 × St) :=
  (f_X10_itself_5 FU x1 100 0 σ)
def f_X10_many_23 (k5 : Int32 → Int64 → St → Option (Int32 × St)) (x3 : Int32) (x4 : Int64) (σ : St) : Option (Int32 × St) :=
  (k5 x3 x4 σ)
def f_X10_many_5 : Nat → Int32 → Int64 → St → Option (Int32 × St)
  | 0, _, _, _ => none
  | n + 1, x3, x4, σ =>
    (if (lg_cmp x4 0) ≤ 0 then
    (some (x3, σ))
    else
    (f_X10_many_23 (f_X10_many_5 n) (x3 + 1) (x4 / 10) σ))
def f_X10_many (x1 : Int64) (σ : St) : Option (Int32 × St) :=
  (f_X10_many_5 FU 0 x1 σ)
def f_X10_rightly_31 (k5 : Int32 → Int64 → Int32 → St → Option (Int64 × St)) (x1 : Int32) (x2 : Int64) (x4 : Int32) (σ : St) : Option (Int64 × St) :=
  (k5 x1 x2 (x4 + 1) σ)
def f_X10_rightly_5 : Nat → Int32 → Int64 → Int32 → St → Option (Int64 × St)
  | 0, _, _, _, _ => none
  | n + 1, x1, x2, x4, σ =>
    ((f_X10_many x1.toInt64 σ).bind fun p1 =>
    (if p1.1 ≤ x4 then
      (some (x2, p1.2))
      else
      ((f_X10_digitOf x1.toInt64 x4 p1.2).bind fun p2 =>
        ((f_X10_itself p2.1 p2.2).bind fun p3 =>
          (f_X10_rightly_31 (f_X10_rightly_5 n) x1 (x2 * p3.1.toInt64) x4 p3.2)))))
def f_X10_rightly (x1 : Int32) (σ : St) : Option (Int64 × St) :=
  (f_X10_rightly_5 FU x1 1 0 σ)
def f_X10_alike_171 (k30 : Int32 → Int32 → Int32 → St → Option (Int64 × St)) : Nat → Int32 → Int32 → Int32 → Int32 → St → Option (Int64 × St)
  | 0, _, _, _, _, _ => none
  | n + 1, x1, x2, x3, x6, σ =>
    (if x2 ≤ x6 then
    (k30 x1 x2 (x3 + 1) σ)
    else
    (gd (inb x6 99)
      (gd (inb x6 99)
        (f_X10_alike_171 k30 n x1 x2 x3 (x6 + 1) (sJ σ 52 x6.toNatClampNeg (gJ σ 53 x6.toNatClampNeg))))))
def f_X10_alike_152 (k30 : Int32 → Int32 → Int32 → St → Option (Int64 × St)) (k84 : Int32 → Int32 → Int32 → Int32 → Int32 → Int32 → St → Option (Int64 × St)) (k93 : Int32 → Int32 → Int32 → Int32 → Int32 → Int32 → Int32 → St → Option (Int64 × St)) (x1 : Int32) (x2 : Int32) (x3 : Int32) (x4 : Int32) (x5 : Int32) (x6 : Int32) (x7 : Int32) (y0 : Int32) (y1 : Int64) (y2 : Int64) (y3 : Int32) (σ : St) : Option (Int64 × St) :=
  (gd (inb y3 99)
    (k93 x1 x2 x3 x4 x5 x6 (x7 + 1) (sJ σ 53 y3.toNatClampNeg (y2 + (y1 * y0.toInt64)))))
def f_X10_alike_93 (k30 : Int32 → Int32 → Int32 → St → Option (Int64 × St)) (k84 : Int32 → Int32 → Int32 → Int32 → Int32 → Int32 → St → Option (Int64 × St)) : Nat → Int32 → Int32 → Int32 → Int32 → Int32 → Int32 → Int32 → St → Option (Int64 × St)
  | 0, _, _, _, _, _, _, _, _ => none
  | n + 1, x1, x2, x3, x4, x5, x6, x7, σ =>
    (if (10 : Int32) ≤ x7 then
    (k84 x1 x2 x3 x4 x5 (x6 + 1) σ)
    else
    (gd (nzI x2)
      (gd (inb (rmI (x6 + (x7 * x5)) x2) 99)
        (gd (inb x6 99)
          (if x7 = x4 then
            ((f_X10_itself x7 σ).bind fun p4 =>
              (f_X10_alike_152 k30 k84 (f_X10_alike_93 k30 k84 n) x1 x2 x3 x4 x5 x6 x7 p4.1 (gJ σ 52 x6.toNatClampNeg) (gJ σ 53 (rmI (x6 + (x7 * x5)) x2).toNatClampNeg) (rmI (x6 + (x7 * x5)) x2) p4.2))
            else
            (gd (inb ((10 * x4) + x7) 100)
              (f_X10_alike_152 k30 k84 (f_X10_alike_93 k30 k84 n) x1 x2 x3 x4 x5 x6 x7 (gI σ 45 ((10 * x4) + x7).toNatClampNeg) (gJ σ 52 x6.toNatClampNeg) (gJ σ 53 (rmI (x6 + (x7 * x5)) x2).toNatClampNeg) (rmI (x6 + (x7 * x5)) x2) σ)))))))
def f_X10_alike_84 (k30 : Int32 → Int32 → Int32 → St → Option (Int64 × St)) : Nat → Int32 → Int32 → Int32 → Int32 → Int32 → Int32 → St → Option (Int64 × St)
  | 0, _, _, _, _, _, _, _ => none
  | n + 1, x1, x2, x3, x4, x5, x6, σ =>
    (if x2 ≤ x6 then
    (f_X10_alike_171 k30 FU x1 x2 x3 0 σ)
    else
    (f_X10_alike_93 k30 (f_X10_alike_84 k30 n) FU x1 x2 x3 x4 x5 x6 0 σ))
def f_X10_alike_61 (k30 : Int32 → Int32 → Int32 → St → Option (Int64 × St)) : Nat → Int32 → Int32 → Int32 → Int32 → Int32 → Int32 → St → Option (Int64 × St)
  | 0, _, _, _, _, _, _, _ => none
  | n + 1, x1, x2, x3, x4, x5, x6, σ =>
    (if x2 ≤ x6 then
    (f_X10_alike_84 k30 FU x1 x2 x3 x4 x5 0 σ)
    else
    (gd (inb x6 99)
      (f_X10_alike_61 k30 n x1 x2 x3 x4 x5 (x6 + 1) (sJ σ 53 x6.toNatClampNeg 0))))
def f_X10_alike_58 (k30 : Int32 → Int32 → Int32 → St → Option (Int64 × St)) (x1 : Int32) (x2 : Int32) (x3 : Int32) (x4 : Int32) (x5 : Int32) (σ : St) : Option (Int64 × St) :=
  (f_X10_alike_61 k30 FU x1 x2 x3 x4 x5 0 σ)
def f_X10_alike_30 : Nat → Int32 → Int32 → Int32 → St → Option (Int64 × St)
  | 0, _, _, _, _ => none
  | n + 1, x1, x2, x3, σ =>
    ((f_X10_many x1.toInt64 σ).bind fun p1 =>
    (if p1.1 ≤ x3 then
      (gd (nzI x2)
        (gd (inb (rmI x1 x2) 99)
          (some ((gJ p1.2 52 (rmI x1 x2).toNatClampNeg), p1.2))))
      else
      ((f_X10_digitOf x1.toInt64 x3 p1.2).bind fun p2 =>
        ((f_X10_ten x3 p2.2).bind fun p3 =>
          (gd (nzJ x2.toInt64)
            (f_X10_alike_58 (f_X10_alike_30 n) x1 x2 x3 p2.1 ((rmJ p3.1 x2.toInt64).toInt32) p3.2))))))
def f_X10_alike_21 (k2 : Int32 → Int32 → Int32 → St → Option (Int64 × St)) (x1 : Int32) (x2 : Int32) (x3 : Int32) (y0 : Int64) (y1 : Int32) (σ : St) : Option (Int64 × St) :=
  (gd (inb y1 99)
    (k2 x1 x2 (x3 + 1) (sJ σ 52 y1.toNatClampNeg y0)))
def f_X10_alike_2 : Nat → Int32 → Int32 → Int32 → St → Option (Int64 × St)
  | 0, _, _, _, _ => none
  | n + 1, x1, x2, x3, σ =>
    (if x2 ≤ x3 then
    (f_X10_alike_30 FU x1 x2 0 σ)
    else
    (if x3 = 0 then
      (f_X10_alike_21 (f_X10_alike_2 n) x1 x2 x3 1 x3 σ)
      else
      (f_X10_alike_21 (f_X10_alike_2 n) x1 x2 x3 0 x3 σ)))
def f_X10_alike (x1 : Int32) (x2 : Int32) (σ : St) : Option (Int64 × St) :=
  (f_X10_alike_2 FU x1 x2 0 σ)
def f_X10_miss_31 (σ : St) : Option (Int32 × St) :=
  (some ((-1), σ))
def f_X10_miss_95 (y0 : Int64) (σ : St) : Option (Int32 × St) :=
  (some (y0.toInt32, σ))
def f_X10_miss_68 (x3 : Int64) (x5 : Int64) (σ : St) : Option (Int32 × St) :=
  (if (lg_cmp x3 1000000) < 0 then
    (gd (nzJ x3)
      (f_X10_miss_95 (x5 * (1000000 / x3)) σ))
    else
    (gd (nzJ (x3 / 1000000))
      (f_X10_miss_95 (x5 / (x3 / 1000000)) σ)))
def f_X10_miss_60 (x1 : Int32) (x3 : Int64) (y0 : Int64) (σ : St) : Option (Int32 × St) :=
  ((f_X10_rightly x1 σ).bind fun p5 =>
    (f_X10_miss_68 x3 (y0 - p5.1) p5.2))
def f_X10_miss_33 (x1 : Int32) (x2 : Int32) (σ : St) : Option (Int32 × St) :=
  ((f_X10_many x1.toInt64 σ).bind fun p2 =>
    ((f_X10_ten (2 * p2.1) p2.2).bind fun p3 =>
      (if x2 = (-1) then
        (f_X10_miss_60 x1 p3.1 p3.1 p3.2)
        else
        ((f_X10_alike x1 x2 p3.2).bind fun p4 =>
          (f_X10_miss_60 x1 p3.1 p4.1 p4.2)))))
def f_X10_miss (x1 : Int32) (x2 : Int32) (σ : St) : Option (Int32 × St) :=
  ((f_X10_in x1.toInt64 0 999999999 σ).bind fun p1 =>
    (if p1.1 = 0 then
      (f_X10_miss_31 p1.2)
      else
      (if x2 = (-1) then
        (f_X10_miss_33 x1 x2 p1.2)
        else
        ((f_X10_in x2.toInt64 2 99 p1.2).bind fun p6 =>
          (if p6.1 = 0 then
            (f_X10_miss_31 p6.2)
            else
            (f_X10_miss_33 x1 x2 p6.2))))))
def f_X10_isRest_30 (y0 : Int32) (σ : St) : Option (Int32 × St) :=
  (gd (isbb (y0)) (some (y0, σ)))
def f_X10_isRest_29 (σ : St) : Option (Int32 × St) :=
  (f_X10_isRest_30 0 σ)
def f_X10_isRest (x0 : Int32) (x1 : Int32) (σ : St) : Option (Int32 × St) :=
  ((f_X10_in x0.toInt64 1 99 σ).bind fun p1 =>
    (if p1.1 = 0 then
      (f_X10_isRest_29 p1.2)
      else
      ((f_X10_in x1.toInt64 0 ((x0 - 1).toInt64) p1.2).bind fun p2 =>
        (if p2.1 = 0 then
          (f_X10_isRest_29 p2.2)
          else
          (f_X10_isRest_30 1 p2.2)))))
def f_X10_span_20 (σ : St) : Option (Int64 × St) :=
  (some ((-1), σ))
def f_X10_span_204 (y0 : Int64) (σ : St) : Option (Int64 × St) :=
  (some (y0, σ))
def f_X10_span_177 (k59 : Int32 → Int32 → Int32 → Int64 → Int32 → Int64 → Int64 → Int64 → Int32 → St → Option (Int64 × St)) (x1 : Int32) (x2 : Int32) (x3 : Int32) (x4 : Int64) (x6 : Int32) (x7 : Int64) (x9 : Int64) (x11 : Int64) (x13 : Int32) (σ : St) : Option (Int64 × St) :=
  (k59 x1 x2 x3 x4 x6 x7 x9 x11 (x13 + 1) σ)
def f_X10_span_166 (k59 : Int32 → Int32 → Int32 → Int64 → Int32 → Int64 → Int64 → Int64 → Int32 → St → Option (Int64 × St)) (x1 : Int32) (x2 : Int32) (x3 : Int32) (x4 : Int64) (x6 : Int32) (x7 : Int64) (x11 : Int64) (x13 : Int32) (x14 : Int64) (y0 : Int64) (σ : St) : Option (Int64 × St) :=
  (f_X10_span_177 k59 x1 x2 x3 x4 x6 x7 y0 (mxJ x11 x14) x13 σ)
def f_X10_span_122 (k59 : Int32 → Int32 → Int32 → Int64 → Int32 → Int64 → Int64 → Int64 → Int32 → St → Option (Int64 × St)) (k77 : Int32 → Int32 → Int32 → Int64 → Int32 → Int64 → Int64 → Int64 → Int32 → Int64 → Int32 → Int32 → St → Option (Int64 × St)) (x1 : Int32) (x2 : Int32) (x3 : Int32) (x4 : Int64) (x6 : Int32) (x7 : Int64) (x9 : Int64) (x11 : Int64) (x13 : Int32) (x14 : Int64) (x16 : Int32) (x17 : Int32) (σ : St) : Option (Int64 × St) :=
  (k77 x1 x2 x3 x4 x6 x7 x9 x11 x13 x14 x16 (x17 + 1) σ)
def f_X10_span_115 (k59 : Int32 → Int32 → Int32 → Int64 → Int32 → Int64 → Int64 → Int64 → Int32 → St → Option (Int64 × St)) (k77 : Int32 → Int32 → Int32 → Int64 → Int32 → Int64 → Int64 → Int64 → Int32 → Int64 → Int32 → Int32 → St → Option (Int64 × St)) (x1 : Int32) (x2 : Int32) (x3 : Int32) (x4 : Int64) (x6 : Int32) (x7 : Int64) (x9 : Int64) (x11 : Int64) (x13 : Int32) (x14 : Int64) (x16 : Int32) (x17 : Int32) (σ : St) : Option (Int64 × St) :=
  (f_X10_span_122 k59 k77 x1 x2 x3 x4 x6 x7 x9 x11 x13 x14 (x16 / 10) x17 σ)
def f_X10_span_77 (k59 : Int32 → Int32 → Int32 → Int64 → Int32 → Int64 → Int64 → Int64 → Int32 → St → Option (Int64 × St)) : Nat → Int32 → Int32 → Int32 → Int64 → Int32 → Int64 → Int64 → Int64 → Int32 → Int64 → Int32 → Int32 → St → Option (Int64 × St)
  | 0, _, _, _, _, _, _, _, _, _, _, _, _, _ => none
  | n + 1, x1, x2, x3, x4, x6, x7, x9, x11, x13, x14, x16, x17, σ =>
    (if (gI σ 38 1) ≤ x17 then
    (gd (nzJ x1.toInt64)
      (if (lg_cmp (rmJ x14 x1.toInt64) x2.toInt64) = 0 then
        (if (lg_cmp x9 (-1)) = 0 then
          (f_X10_span_166 k59 x1 x2 x3 x4 x6 (x7 + 1) x11 x13 x14 x14 σ)
          else
          (f_X10_span_166 k59 x1 x2 x3 x4 x6 (x7 + 1) x11 x13 x14 (mnJ x9 x14) σ))
        else
        (f_X10_span_177 k59 x1 x2 x3 x4 x6 x7 x9 x11 x13 σ)))
    else
    ((f_X10_has (gI σ 38 20) x17 σ).bind fun p6 =>
      (if p6.1 = 0 then
        (f_X10_span_122 k59 (f_X10_span_77 k59 n) x1 x2 x3 x4 x6 x7 x9 x11 x13 x14 x16 x17 p6.2)
        else
        ((f_X10_ten x17 p6.2).bind fun p7 =>
          (f_X10_span_115 k59 (f_X10_span_77 k59 n) x1 x2 x3 x4 x6 x7 x9 x11 x13 (x14 + (((rmI x16 10).toInt64) * p7.1)) x16 x17 p7.2)))))
def f_X10_span_59 : Nat → Int32 → Int32 → Int32 → Int64 → Int32 → Int64 → Int64 → Int64 → Int32 → St → Option (Int64 × St)
  | 0, _, _, _, _, _, _, _, _, _, _ => none
  | n + 1, x1, x2, x3, x4, x6, x7, x9, x11, x13, σ =>
    (if x6 ≤ x13 then
    (if x3 = 0 then
      (f_X10_span_204 x7 σ)
      else
      (if x3 = 1 then
        (f_X10_span_204 x9 σ)
        else
        (f_X10_span_204 x11 σ)))
    else
    (f_X10_span_77 (f_X10_span_59 n) FU x1 x2 x3 x4 x6 x7 x9 x11 x13 x4 x13 0 σ))
def f_X10_span_43 (x1 : Int32) (x2 : Int32) (x3 : Int32) (x4 : Int64) (x6 : Int32) (σ : St) : Option (Int64 × St) :=
  (f_X10_span_59 FU x1 x2 x3 x4 x6 0 (-1) (-1) 0 σ)
def f_X10_span (x1 : Int32) (x2 : Int32) (x3 : Int32) (σ : St) : Option (Int64 × St) :=
  ((f_X10_isRest x1 x2 σ).bind fun p1 =>
    (if p1.1 = 0 then
      (f_X10_span_20 p1.2)
      else
      ((f_X10_in x3.toInt64 0 2 p1.2).bind fun p2 =>
        (if p2.1 = 0 then
          (f_X10_span_20 p2.2)
          else
          ((f_X10_seenNumber p2.2).bind fun p3 =>
            ((f_J6_bitCount_0f7a4 (gI p3.2 38 20) p3.2).bind fun p4 =>
              ((f_X10_ten p4.1 p4.2).bind fun p5 =>
                (f_X10_span_43 x1 x2 x3 p3.1 p5.1.toInt32 p5.2))))))))
def f_X10_astray_13 (σ : St) : Option (Int32 × St) :=
  (some ((-1), σ))
def f_X10_astray_146 (y0 : Int32) (σ : St) : Option (Int32 × St) :=
  (some (y0, σ))
def f_X10_astray_122 (k40 : Int32 → Int32 → Int32 → Int64 → Int32 → Int32 → Int32 → St → Option (Int32 × St)) (k52 : Int32 → Int32 → Int32 → Int64 → Int32 → Int32 → Int32 → Int32 → St → Option (Int32 × St)) (x1 : Int32) (x2 : Int32) (x3 : Int32) (x4 : Int64) (x6 : Int32) (x7 : Int32) (x8 : Int32) (x9 : Int32) (σ : St) : Option (Int32 × St) :=
  (k52 x1 x2 x3 x4 x6 x7 x8 (x9 + 1) σ)
def f_X10_astray_117 (k40 : Int32 → Int32 → Int32 → Int64 → Int32 → Int32 → Int32 → St → Option (Int32 × St)) (k52 : Int32 → Int32 → Int32 → Int64 → Int32 → Int32 → Int32 → Int32 → St → Option (Int32 × St)) (x1 : Int32) (x2 : Int32) (x3 : Int32) (x4 : Int64) (x6 : Int32) (x8 : Int32) (x9 : Int32) (y0 : Int32) (σ : St) : Option (Int32 × St) :=
  (f_X10_astray_122 k40 k52 x1 x2 x3 x4 (x6 + 1) y0 x8 x9 σ)
def f_X10_astray_52 (k40 : Int32 → Int32 → Int32 → Int64 → Int32 → Int32 → Int32 → St → Option (Int32 × St)) : Nat → Int32 → Int32 → Int32 → Int64 → Int32 → Int32 → Int32 → Int32 → St → Option (Int32 × St)
  | 0, _, _, _, _, _, _, _, _, _ => none
  | n + 1, x1, x2, x3, x4, x6, x7, x8, x9, σ =>
    (if (10 : Int32) ≤ x9 then
    (k40 x1 x2 x3 x4 x6 x7 (x8 + 1) σ)
    else
    ((f_X10_seen x8 σ).bind fun p3 =>
      (if x9 = p3.1 then
        (f_X10_astray_122 k40 (f_X10_astray_52 k40 n) x1 x2 x3 x4 x6 x7 x8 x9 p3.2)
        else
        ((f_X10_seen x8 p3.2).bind fun p4 =>
          ((f_X10_ten x8 p4.2).bind fun p5 =>
            (gd (nzJ x1.toInt64)
              (if (lg_cmp (rmJ (x4 + (((x9 - p4.1).toInt64) * p5.1)) x1.toInt64) x2.toInt64) = 0 then
                (if x6 = x3 then
                  (f_X10_astray_117 k40 (f_X10_astray_52 k40 n) x1 x2 x3 x4 x6 x8 x9 ((10 * x8) + x9) p5.2)
                  else
                  (f_X10_astray_117 k40 (f_X10_astray_52 k40 n) x1 x2 x3 x4 x6 x8 x9 x7 p5.2))
                else
                (f_X10_astray_122 k40 (f_X10_astray_52 k40 n) x1 x2 x3 x4 x6 x7 x8 x9 p5.2))))))))
def f_X10_astray_40 : Nat → Int32 → Int32 → Int32 → Int64 → Int32 → Int32 → Int32 → St → Option (Int32 × St)
  | 0, _, _, _, _, _, _, _, _ => none
  | n + 1, x1, x2, x3, x4, x6, x7, x8, σ =>
    (if (gI σ 38 1) ≤ x8 then
    (if x3 = (-1) then
      (f_X10_astray_146 x6 σ)
      else
      (f_X10_astray_146 x7 σ))
    else
    (f_X10_astray_52 (f_X10_astray_40 n) FU x1 x2 x3 x4 x6 x7 x8 0 σ))
def f_X10_astray (x1 : Int32) (x2 : Int32) (x3 : Int32) (σ : St) : Option (Int32 × St) :=
  ((f_X10_isRest x1 x2 σ).bind fun p1 =>
    (if p1.1 = 0 then
      (f_X10_astray_13 p1.2)
      else
      (if ((-1) : Int32) ≤ x3 then
        (if (gI p1.2 38 20) = 0 then
          ((f_X10_seenNumber p1.2).bind fun p2 =>
            (f_X10_astray_40 FU x1 x2 x3 p2.1 0 (-1) 0 p2.2))
          else
          (some ((-2), p1.2)))
        else
        (f_X10_astray_13 p1.2))))
def f_X10_harvest_21 (σ : St) : Option (Int32 × St) :=
  (some ((-1), σ))
def f_X10_harvest_43 (σ : St) : Option (Int32 × St) :=
  (some ((gI σ 38 33), σ))
def f_X10_harvest (x1 : Int32) (σ : St) : Option (Int32 × St) :=
  ((f_X10_in x1.toInt64 0 999999999 σ).bind fun p1 =>
    (if p1.1 = 0 then
      (f_X10_harvest_21 p1.2)
      else
      (if (gI p1.2 38 33) = 8 then
        (f_X10_harvest_21 p1.2)
        else
        (gd (inb (gI p1.2 38 33) 8)
          (f_X10_harvest_43 (sI (sI p1.2 54 (gI p1.2 38 33).toNatClampNeg x1) 38 33 ((gI (sI p1.2 54 (gI p1.2 38 33).toNatClampNeg x1) 38 33) + 1)))))))
def f_X10_walksOf_136 (k15 : Int64 → Int32 → Int32 → Int64 → Int32 → St → Option (Int32 × St)) (x2 : Int64) (x4 : Int32) (x5 : Int32) (x6 : Int64) (x8 : Int32) (σ : St) : Option (Int32 × St) :=
  (k15 x2 x4 x5 x6 (x8 + 1) σ)
def f_X10_walksOf_128 (k15 : Int64 → Int32 → Int32 → Int64 → Int32 → St → Option (Int32 × St)) (k34 : Int64 → Int32 → Int32 → Int64 → Int32 → Int32 → Int32 → St → Option (Int32 × St)) (x2 : Int64) (x4 : Int32) (x5 : Int32) (x6 : Int64) (x8 : Int32) (x10 : Int32) (y0 : Int32) (σ : St) : Option (Int32 × St) :=
  (k34 x2 x4 x5 x6 x8 y0 (x10 + 1) σ)
def f_X10_walksOf_113 (k15 : Int64 → Int32 → Int32 → Int64 → Int32 → St → Option (Int32 × St)) (k34 : Int64 → Int32 → Int32 → Int64 → Int32 → Int32 → Int32 → St → Option (Int32 × St)) (x2 : Int64) (x4 : Int32) (x5 : Int32) (x6 : Int64) (x8 : Int32) (x9 : Int32) (x10 : Int32) (x11 : Int32) (σ : St) : Option (Int32 × St) :=
  (if (x11 + x9) ≤ 9 then
    (f_X10_walksOf_128 k15 k34 x2 x4 x5 x6 x8 x10 0 σ)
    else
    (f_X10_walksOf_128 k15 k34 x2 x4 x5 x6 x8 x10 1 σ))
def f_X10_walksOf_96 (k15 : Int64 → Int32 → Int32 → Int64 → Int32 → St → Option (Int32 × St)) (k34 : Int64 → Int32 → Int32 → Int64 → Int32 → Int32 → Int32 → St → Option (Int32 × St)) (x2 : Int64) (x4 : Int32) (x5 : Int32) (x6 : Int64) (x8 : Int32) (x9 : Int32) (x10 : Int32) (x11 : Int32) (x12 : Int32) (σ : St) : Option (Int32 × St) :=
  ((f_X10_ten x10 σ).bind fun p4 =>
    (f_X10_walksOf_113 k15 k34 x2 x4 x5 (x6 + (((x12 - x11).toInt64) * p4.1)) x8 x9 x10 x11 p4.2))
def f_X10_walksOf_81 (k15 : Int64 → Int32 → Int32 → Int64 → Int32 → St → Option (Int32 × St)) (k34 : Int64 → Int32 → Int32 → Int64 → Int32 → Int32 → Int32 → St → Option (Int32 × St)) (x2 : Int64) (x4 : Int32) (x5 : Int32) (x6 : Int64) (x8 : Int32) (x9 : Int32) (x10 : Int32) (x11 : Int32) (y0 : Int32) (σ : St) : Option (Int32 × St) :=
  (f_X10_walksOf_96 k15 k34 x2 x4 (x5 + (abI (y0 - x11))) x6 x8 x9 x10 x11 y0 σ)
def f_X10_walksOf_34 (k15 : Int64 → Int32 → Int32 → Int64 → Int32 → St → Option (Int32 × St)) : Nat → Int64 → Int32 → Int32 → Int64 → Int32 → Int32 → Int32 → St → Option (Int32 × St)
  | 0, _, _, _, _, _, _, _, _ => none
  | n + 1, x2, x4, x5, x6, x8, x9, x10, σ =>
    (if x9 ≤ 0 then
    (f_X10_walksOf_136 k15 x2 x4 x5 x6 x8 σ)
    else
    (if x4 ≤ x10 then
      (f_X10_walksOf_136 k15 x2 x4 x5 x6 x8 σ)
      else
      ((f_X10_digitOf x6 x10 σ).bind fun p3 =>
        (if (p3.1 + x9) ≤ 9 then
          (f_X10_walksOf_81 k15 (f_X10_walksOf_34 k15 n) x2 x4 x5 x6 x8 x9 x10 p3.1 (p3.1 + x9) p3.2)
          else
          (f_X10_walksOf_81 k15 (f_X10_walksOf_34 k15 n) x2 x4 x5 x6 x8 x9 x10 p3.1 ((p3.1 + x9) - 10) p3.2)))))
def f_X10_walksOf_15 : Nat → Int64 → Int32 → Int32 → Int64 → Int32 → St → Option (Int32 × St)
  | 0, _, _, _, _, _, _ => none
  | n + 1, x2, x4, x5, x6, x8, σ =>
    (if x4 ≤ x8 then
    (some (x5, σ))
    else
    ((f_X10_digitOf x2 x8 σ).bind fun p2 =>
      (f_X10_walksOf_34 (f_X10_walksOf_15 n) FU x2 x4 x5 x6 x8 p2.1 x8 p2.2)))
def f_X10_walksOf_12 (x2 : Int64) (x4 : Int32) (x5 : Int32) (x6 : Int64) (σ : St) : Option (Int32 × St) :=
  (f_X10_walksOf_15 FU x2 x4 x5 x6 0 σ)
def f_X10_walksOf (x0 : Int64) (x2 : Int64) (x4 : Int32) (σ : St) : Option (Int32 × St) :=
  ((f_X10_ten x4 σ).bind fun p1 =>
    (gd (nzJ p1.1)
      (f_X10_walksOf_12 x2 x4 0 (rmJ x0 p1.1) p1.2)))
def f_X10_sumOf_38 (k5 : Int32 → Int64 → Int32 → St → Option (Int64 × St)) (x1 : Int32) (x2 : Int64) (x4 : Int32) (σ : St) : Option (Int64 × St) :=
  (k5 x1 x2 (x4 + 1) σ)
def f_X10_sumOf_36 (k5 : Int32 → Int64 → Int32 → St → Option (Int64 × St)) (x1 : Int32) (x4 : Int32) (y0 : Int64) (y1 : Int64) (σ : St) : Option (Int64 × St) :=
  (f_X10_sumOf_38 k5 x1 (y1 + y0) x4 σ)
def f_X10_sumOf_5 : Nat → Int32 → Int64 → Int32 → St → Option (Int64 × St)
  | 0, _, _, _, _ => none
  | n + 1, x1, x2, x4, σ =>
    (if (gI σ 38 33) ≤ x4 then
    (some (x2, σ))
    else
    ((f_X10_has x1 x4 σ).bind fun p1 =>
      (if p1.1 = 0 then
        (f_X10_sumOf_36 (f_X10_sumOf_5 n) x1 x4 0 x2 p1.2)
        else
        (gd (inb x4 8)
          (f_X10_sumOf_36 (f_X10_sumOf_5 n) x1 x4 ((gI p1.2 54 x4.toNatClampNeg).toInt64) x2 p1.2)))))
def f_X10_sumOf (x1 : Int32) (σ : St) : Option (Int64 × St) :=
  (f_X10_sumOf_5 FU x1 0 0 σ)
def f_X10_lookOnward_113 (k11 : Int32 → Int32 → St → Option (St)) (k33 : Int32 → Int32 → Int32 → St → Option (St)) (x1 : Int32) (x2 : Int32) (x3 : Int32) (σ : St) : Option (St) :=
  (k33 x1 x2 (x3 + 1) σ)
def f_X10_lookOnward_112 (k11 : Int32 → Int32 → St → Option (St)) (k33 : Int32 → Int32 → Int32 → St → Option (St)) (x1 : Int32) (x2 : Int32) (x3 : Int32) (y0 : Int32) (y1 : Int32) (σ : St) : Option (St) :=
  (gd (inb y1 256)
    (f_X10_lookOnward_113 k11 k33 x1 x2 x3 (sI σ 55 y1.toNatClampNeg y0)))
def f_X10_lookOnward_81 (k11 : Int32 → Int32 → St → Option (St)) (k33 : Int32 → Int32 → Int32 → St → Option (St)) (x1 : Int32) (x2 : Int32) (x3 : Int32) (x4 : Int32) (σ : St) : Option (St) :=
  (gd (inb x2 256)
    (if (gI σ 55 x2.toNatClampNeg) = (-1) then
      (f_X10_lookOnward_112 k11 k33 x1 x2 x3 x4 x2 σ)
      else
      (gd (inb x2 256)
        (f_X10_lookOnward_112 k11 k33 x1 x2 x3 (mnI (gI σ 55 x2.toNatClampNeg) x4) x2 σ))))
def f_X10_lookOnward_33 (k11 : Int32 → Int32 → St → Option (St)) : Nat → Int32 → Int32 → Int32 → St → Option (St)
  | 0, _, _, _, _ => none
  | n + 1, x1, x2, x3, σ =>
    (if (gI σ 38 33) ≤ x3 then
    (k11 x1 (x2 + (-1)) σ)
    else
    ((f_X10_has x2 x3 σ).bind fun p1 =>
      (if p1.1 = 0 then
        ((f_X10_sumOf x2 p1.2).bind fun p2 =>
          (gd (inb x3 8)
            ((f_X10_walksOf p2.1 ((gI p2.2 54 x3.toNatClampNeg).toInt64) (gI p2.2 38 1) p2.2).bind fun p3 =>
              (gd (inb (x2 ||| (shlI 1 x3)) 256)
                (f_X10_lookOnward_81 k11 (f_X10_lookOnward_33 k11 n) x1 x2 x3 (p3.1 + (gI p3.2 55 (x2 ||| (shlI 1 x3)).toNatClampNeg)) p3.2)))))
        else
        (f_X10_lookOnward_113 k11 (f_X10_lookOnward_33 k11 n) x1 x2 x3 p1.2))))
def f_X10_lookOnward_30 (k11 : Int32 → Int32 → St → Option (St)) (x1 : Int32) (x2 : Int32) (y0 : Int32) (y1 : Int32) (σ : St) : Option (St) :=
  (gd (inb y1 256)
    (f_X10_lookOnward_33 k11 FU x1 x2 0 (sI σ 55 y1.toNatClampNeg y0)))
def f_X10_lookOnward_11 : Nat → Int32 → Int32 → St → Option (St)
  | 0, _, _, _ => none
  | n + 1, x1, x2, σ =>
    (if x2 < 0 then
    (some σ)
    else
    (if x2 = x1 then
      (f_X10_lookOnward_30 (f_X10_lookOnward_11 n) x1 x2 0 x2 σ)
      else
      (f_X10_lookOnward_30 (f_X10_lookOnward_11 n) x1 x2 (-1) x2 σ)))
def f_X10_lookOnward_9 (x1 : Int32) (σ : St) : Option (St) :=
  (f_X10_lookOnward_11 FU x1 x1 σ)
def f_X10_lookOnward (σ : St) : Option (St) :=
  (f_X10_lookOnward_9 ((shlI 1 (gI σ 38 33)) - 1) σ)
def f_X10_comes_62 (k7 : Int32 → Int32 → Int32 → Int32 → St → Option (Int32 × St)) (k15 : Int32 → Int32 → Int32 → Int32 → St → Option (Int32 × St)) (x1 : Int32) (x2 : Int32) (x3 : Int32) (x4 : Int32) (σ : St) : Option (Int32 × St) :=
  (k15 x1 x2 (x3 + 1) x4 σ)
def f_X10_comes_74 (k7 : Int32 → Int32 → Int32 → Int32 → St → Option (Int32 × St)) (x1 : Int32) (x2 : Int32) (x3 : Int32) (x4 : Int32) (σ : St) : Option (Int32 × St) :=
  (k7 x1 x2 x3 (x4 + 1) σ)
def f_X10_comes_15 (k7 : Int32 → Int32 → Int32 → Int32 → St → Option (Int32 × St)) : Nat → Int32 → Int32 → Int32 → Int32 → St → Option (Int32 × St)
  | 0, _, _, _, _, _ => none
  | n + 1, x1, x2, x3, x4, σ =>
    ((f_X10_has x2 x3 σ).bind fun p1 =>
    (if p1.1 = 0 then
      ((f_X10_sumOf x2 p1.2).bind fun p2 =>
        (gd (inb x3 8)
          ((f_X10_walksOf p2.1 ((gI p2.2 54 x3.toNatClampNeg).toInt64) (gI p2.2 38 1) p2.2).bind fun p3 =>
            (gd (inb (x2 ||| (shlI 1 x3)) 256)
              (gd (inb x2 256)
                (if (p3.1 + (gI p3.2 55 (x2 ||| (shlI 1 x3)).toNatClampNeg)) = (gI p3.2 55 x2.toNatClampNeg) then
                  (f_X10_comes_74 k7 x1 (x2 ||| (shlI 1 x3)) x3 x4 p3.2)
                  else
                  (f_X10_comes_62 k7 (f_X10_comes_15 k7 n) x1 x2 x3 x4 p3.2)))))))
      else
      (f_X10_comes_62 k7 (f_X10_comes_15 k7 n) x1 x2 x3 x4 p1.2)))
def f_X10_comes_7 : Nat → Int32 → Int32 → Int32 → Int32 → St → Option (Int32 × St)
  | 0, _, _, _, _, _ => none
  | n + 1, x1, x2, x3, x4, σ =>
    (if x1 < x4 then
    (some (x3, σ))
    else
    (f_X10_comes_15 (f_X10_comes_7 n) FU x1 x2 0 x4 σ))
def f_X10_comes (x1 : Int32) (σ : St) : Option (Int32 × St) :=
  (f_X10_comes_7 FU x1 0 0 0 σ)
def f_X10_fewest_23 (σ : St) : Option (Int32 × St) :=
  (some ((-2), σ))
def f_X10_fewest_101 (y0 : Int32) (σ : St) : Option (Int32 × St) :=
  (some (y0, σ))
def f_X10_fewest_69 (k35 : Int32 → Int32 → St → Option (Int32 × St)) (x2 : Int32) (x3 : Int32) (σ : St) : Option (Int32 × St) :=
  (k35 x2 (x3 + 1) σ)
def f_X10_fewest_35 : Nat → Int32 → Int32 → St → Option (Int32 × St)
  | 0, _, _, _ => none
  | n + 1, x2, x3, σ =>
    (if (gI σ 38 33) ≤ x3 then
    (some (x2, σ))
    else
    ((f_X10_sumOf ((shlI 1 x3) - 1) σ).bind fun p4 =>
      (gd (inb x3 8)
        ((f_X10_walksOf p4.1 ((gI p4.2 54 x3.toNatClampNeg).toInt64) (gI p4.2 38 1) p4.2).bind fun p5 =>
          (f_X10_fewest_69 (f_X10_fewest_35 n) (x2 + p5.1) x3 p5.2)))))
def f_X10_fewest (x1 : Int32) (σ : St) : Option (Int32 × St) :=
  (if (gI σ 38 33) = 0 then
    (f_X10_fewest_23 σ)
    else
    ((f_X10_in x1.toInt64 (-1) ((gI σ 38 33).toInt64) σ).bind fun p1 =>
      (if p1.1 = 0 then
        (f_X10_fewest_23 p1.2)
        else
        (if x1 = (-1) then
          (f_X10_fewest_35 FU 0 0 p1.2)
          else
          ((f_X10_lookOnward p1.2).bind fun p2 =>
            (if x1 = 0 then
              (f_X10_fewest_101 (gI p2 55 (0 : Int32).toNatClampNeg) p2)
              else
              ((f_X10_comes (x1 - 1) p2).bind fun p3 =>
                (f_X10_fewest_101 p3.1 p3.2))))))))
def f_X10_added_89 (y0 : Int32) (σ : St) : Option (Int32 × St) :=
  (some (y0, σ))
def f_X10_added_71 (k31 : Int32 → Int64 → Int32 → Int32 → Int32 → St → Option (Int32 × St)) (x1 : Int32) (x2 : Int64) (x4 : Int32) (x5 : Int32) (x6 : Int32) (σ : St) : Option (Int32 × St) :=
  (k31 x1 x2 x4 x5 (x6 + 1) σ)
def f_X10_added_66 (k31 : Int32 → Int64 → Int32 → Int32 → Int32 → St → Option (Int32 × St)) (x1 : Int32) (x2 : Int64) (x4 : Int32) (x6 : Int32) (y0 : Int32) (σ : St) : Option (Int32 × St) :=
  (f_X10_added_71 k31 x1 x2 (x4 + 1) y0 x6 σ)
def f_X10_added_31 : Nat → Int32 → Int64 → Int32 → Int32 → Int32 → St → Option (Int32 × St)
  | 0, _, _, _, _, _, _ => none
  | n + 1, x1, x2, x4, x5, x6, σ =>
    (if (shlI 1 (gI σ 38 33)) ≤ x6 then
    (if x1 = (-1) then
      (f_X10_added_89 x4 σ)
      else
      (f_X10_added_89 x5 σ))
    else
    ((f_X10_sumOf x6 σ).bind fun p2 =>
      (if (lg_cmp p2.1 x2) = 0 then
        (if x4 = x1 then
          (f_X10_added_66 (f_X10_added_31 n) x1 x2 x4 x6 x6 p2.2)
          else
          (f_X10_added_66 (f_X10_added_31 n) x1 x2 x4 x6 x5 p2.2))
        else
        (f_X10_added_71 (f_X10_added_31 n) x1 x2 x4 x5 x6 p2.2))))
def f_X10_added (x1 : Int32) (σ : St) : Option (Int32 × St) :=
  (if ((-1) : Int32) ≤ x1 then
    (if (gI σ 38 20) = 0 then
      ((f_X10_seenNumber σ).bind fun p1 =>
        (f_X10_added_31 FU x1 p1.1 0 (-1) 0 p1.2))
      else
      (some ((-2), σ)))
    else
    (some ((-1), σ)))
def f_X10_near_131 (k20 : Int64 → Int32 → Int32 → St → Option (Int32 × St)) (k34 : Int64 → Int32 → Int32 → Int32 → St → Option (Int32 × St)) (x1 : Int64) (x3 : Int32) (x4 : Int32) (x5 : Int32) (σ : St) : Option (Int32 × St) :=
  (k34 x1 x3 x4 (x5 + 1) σ)
def f_X10_near_129 (k20 : Int64 → Int32 → Int32 → St → Option (Int32 × St)) (k34 : Int64 → Int32 → Int32 → Int32 → St → Option (Int32 × St)) (x1 : Int64) (x4 : Int32) (x5 : Int32) (y0 : Int32) (y1 : Int32) (σ : St) : Option (Int32 × St) :=
  (f_X10_near_131 k20 k34 x1 (y1 + y0) x4 x5 σ)
def f_X10_near_128 (k20 : Int64 → Int32 → Int32 → St → Option (Int32 × St)) (k34 : Int64 → Int32 → Int32 → Int32 → St → Option (Int32 × St)) (x1 : Int64) (x4 : Int32) (x5 : Int32) (y0 : Int32) (σ : St) : Option (Int32 × St) :=
  (f_X10_near_129 k20 k34 x1 x4 x5 0 y0 σ)
def f_X10_near_87 (k20 : Int64 → Int32 → Int32 → St → Option (Int32 × St)) (k34 : Int64 → Int32 → Int32 → Int32 → St → Option (Int32 × St)) (x1 : Int64) (x3 : Int32) (x4 : Int32) (x5 : Int32) (σ : St) : Option (Int32 × St) :=
  ((f_X10_seen x5 σ).bind fun p4 =>
    ((f_X10_in ((p4.1 - 1).toInt64) 0 9 p4.2).bind fun p5 =>
      (if p5.1 = 0 then
        (f_X10_near_128 k20 k34 x1 x4 x5 x3 p5.2)
        else
        ((f_X10_sumOf x4 p5.2).bind fun p6 =>
          ((f_X10_ten x5 p6.2).bind fun p7 =>
            (if (lg_cmp p6.1 (x1 - p7.1)) = 0 then
              (f_X10_near_129 k20 k34 x1 x4 x5 1 x3 p7.2)
              else
              (f_X10_near_128 k20 k34 x1 x4 x5 x3 p7.2)))))))
def f_X10_near_85 (k20 : Int64 → Int32 → Int32 → St → Option (Int32 × St)) (k34 : Int64 → Int32 → Int32 → Int32 → St → Option (Int32 × St)) (x1 : Int64) (x4 : Int32) (x5 : Int32) (y0 : Int32) (y1 : Int32) (σ : St) : Option (Int32 × St) :=
  (f_X10_near_87 k20 k34 x1 (y1 + y0) x4 x5 σ)
def f_X10_near_84 (k20 : Int64 → Int32 → Int32 → St → Option (Int32 × St)) (k34 : Int64 → Int32 → Int32 → Int32 → St → Option (Int32 × St)) (x1 : Int64) (x4 : Int32) (x5 : Int32) (y0 : Int32) (σ : St) : Option (Int32 × St) :=
  (f_X10_near_85 k20 k34 x1 x4 x5 0 y0 σ)
def f_X10_near_34 (k20 : Int64 → Int32 → Int32 → St → Option (Int32 × St)) : Nat → Int64 → Int32 → Int32 → Int32 → St → Option (Int32 × St)
  | 0, _, _, _, _, _ => none
  | n + 1, x1, x3, x4, x5, σ =>
    (if (gI σ 38 1) ≤ x5 then
    (k20 x1 x3 (x4 + 1) σ)
    else
    ((f_X10_seen x5 σ).bind fun p2 =>
      ((f_X10_in ((p2.1 + 1).toInt64) 0 9 p2.2).bind fun p3 =>
        (if p3.1 = 0 then
          (f_X10_near_84 k20 (f_X10_near_34 k20 n) x1 x4 x5 x3 p3.2)
          else
          ((f_X10_sumOf x4 p3.2).bind fun p8 =>
            ((f_X10_ten x5 p8.2).bind fun p9 =>
              (if (lg_cmp p8.1 (x1 + p9.1)) = 0 then
                (f_X10_near_85 k20 (f_X10_near_34 k20 n) x1 x4 x5 1 x3 p9.2)
                else
                (f_X10_near_84 k20 (f_X10_near_34 k20 n) x1 x4 x5 x3 p9.2))))))))
def f_X10_near_20 : Nat → Int64 → Int32 → Int32 → St → Option (Int32 × St)
  | 0, _, _, _, _ => none
  | n + 1, x1, x3, x4, σ =>
    (if (shlI 1 (gI σ 38 33)) ≤ x4 then
    (some (x3, σ))
    else
    (f_X10_near_34 (f_X10_near_20 n) FU x1 x3 x4 0 σ))
def f_X10_near (σ : St) : Option (Int32 × St) :=
  (if (gI σ 38 20) = 0 then
    ((f_X10_seenNumber σ).bind fun p1 =>
      (f_X10_near_20 FU p1.1 0 0 p1.2))
    else
    (some ((-2), σ)))
def f_X10_addTo_29 (σ : St) : Option (St) :=
  (some (sI σ 38 37 ((gI σ 38 37) + 1)))
def f_X10_addTo (x1 : Int64) (σ : St) : Option (St) :=
  ((f_X10_walksOf (gJ σ 38 35) x1 9 σ).bind fun p1 =>
    (f_X10_addTo_29 (sJ (sI p1.2 38 36 ((gI σ 38 36) + p1.1)) 38 35 ((gJ (sI p1.2 38 36 ((gI σ 38 36) + p1.1)) 38 35) + x1))))
def f_X10_twice_61 (k8 : Int64 → Int32 → St → Option (St)) (x1 : Int64) (x3 : Int32) (σ : St) : Option (St) :=
  (k8 x1 (x3 + (-1)) σ)
def f_X10_twice_8 : Nat → Int64 → Int32 → St → Option (St)
  | 0, _, _, _ => none
  | n + 1, x1, x3, σ =>
    (if x3 < 0 then
    (some (sI σ 38 37 ((gI σ 38 37) + 1)))
    else
    ((f_X10_digitOf x1 x3 σ).bind fun p1 =>
      ((f_X10_ten x3 p1.2).bind fun p2 =>
        ((f_X10_walksOf (gJ σ 38 35) (p1.1.toInt64 * p2.1) 9 p2.2).bind fun p3 =>
          ((f_X10_digitOf x1 x3 (sI p3.2 38 36 ((gI σ 38 36) + p3.1))).bind fun p4 =>
            ((f_X10_ten x3 p4.2).bind fun p5 =>
              (f_X10_twice_61 (f_X10_twice_8 n) x1 x3 (sJ p5.2 38 35 ((gJ (sI p3.2 38 36 ((gI σ 38 36) + p3.1)) 38 35) + (p4.1.toInt64 * p5.1))))))))))
def f_X10_twice_5 (x1 : Int64) (σ : St) : Option (St) :=
  (f_X10_twice_8 FU x1 8 σ)
def f_X10_twice (σ : St) : Option (St) :=
  (f_X10_twice_5 (gJ σ 38 35) σ)
def f_X10_multiply_96 (k66 : Int32 → Int32 → Int32 → Int32 → St → Option (St)) : Nat → Int32 → Int32 → Int32 → Int32 → Int32 → Int32 → St → Option (St)
  | 0, _, _, _, _, _, _, _ => none
  | n + 1, x1, x2, x3, x4, x5, x6, σ =>
    (if x6 ≤ 0 then
    (k66 x1 x2 x3 (x4 + 1) σ)
    else
    ((f_X10_ten x5 σ).bind fun p2 =>
      ((f_X10_addTo (x1.toInt64 * p2.1) p2.2).bind fun p3 =>
        (f_X10_multiply_96 k66 n x1 x2 x3 x4 x5 (x6 + (-1)) p3))))
def f_X10_multiply_85 (k66 : Int32 → Int32 → Int32 → Int32 → St → Option (St)) (x1 : Int32) (x2 : Int32) (x3 : Int32) (x4 : Int32) (y0 : Int32) (σ : St) : Option (St) :=
  ((f_X10_digitOf x2.toInt64 y0 σ).bind fun p1 =>
    (f_X10_multiply_96 k66 FU x1 x2 x3 x4 y0 p1.1 p1.2))
def f_X10_multiply_66 : Nat → Int32 → Int32 → Int32 → Int32 → St → Option (St)
  | 0, _, _, _, _, _ => none
  | n + 1, x1, x2, x3, x4, σ =>
    (if (4 : Int32) ≤ x4 then
    (some σ)
    else
    (if x3 = 0 then
      (f_X10_multiply_85 (f_X10_multiply_66 n) x1 x2 x3 x4 x4 σ)
      else
      (f_X10_multiply_85 (f_X10_multiply_66 n) x1 x2 x3 x4 (3 - x4) σ)))
def f_X10_multiply_56 (k24 : Int32 → Int32 → Int32 → St → Option (St)) (x1 : Int32) (x2 : Int32) (x4 : Int32) (σ : St) : Option (St) :=
  (k24 x1 x2 (x4 + (-1)) σ)
def f_X10_multiply_24 : Nat → Int32 → Int32 → Int32 → St → Option (St)
  | 0, _, _, _, _ => none
  | n + 1, x1, x2, x4, σ =>
    (if x4 < 0 then
    (some σ)
    else
    (if (shrI x2 x4) ≤ 0 then
      (f_X10_multiply_56 (f_X10_multiply_24 n) x1 x2 x4 σ)
      else
      ((f_X10_twice σ).bind fun p4 =>
        (if ((shrI x2 x4) &&& 1) = 1 then
          ((f_X10_addTo x1.toInt64 p4).bind fun p5 =>
            (f_X10_multiply_56 (f_X10_multiply_24 n) x1 x2 x4 p5))
          else
          (f_X10_multiply_56 (f_X10_multiply_24 n) x1 x2 x4 p4)))))
def f_X10_multiply (x1 : Int32) (x2 : Int32) (x3 : Int32) (σ : St) : Option (St) :=
  (if x3 = 2 then
    (f_X10_multiply_24 FU x1 x2 13 (sI (sI (sJ σ 38 35 0) 38 36 0) 38 37 0))
    else
    (f_X10_multiply_66 FU x1 x2 x3 0 (sI (sI (sJ σ 38 35 0) 38 36 0) 38 37 0)))
def f_X10_product_49 (σ : St) : Option (Int64 × St) :=
  (some ((-1), σ))
def f_X10_product_91 (y0 : Int64) (σ : St) : Option (Int64 × St) :=
  (some (y0, σ))
def f_X10_product (x1 : Int32) (x2 : Int32) (x3 : Int32) (x4 : Int32) (σ : St) : Option (Int64 × St) :=
  ((f_X10_in x1.toInt64 0 9999 σ).bind fun p1 =>
    (if p1.1 = 0 then
      (f_X10_product_49 p1.2)
      else
      ((f_X10_in x2.toInt64 0 9999 p1.2).bind fun p2 =>
        (if p2.1 = 0 then
          (f_X10_product_49 p2.2)
          else
          ((f_X10_in x3.toInt64 0 2 p2.2).bind fun p3 =>
            (if p3.1 = 0 then
              (f_X10_product_49 p3.2)
              else
              ((f_X10_in x4.toInt64 0 2 p3.2).bind fun p4 =>
                (if p4.1 = 0 then
                  (f_X10_product_49 p4.2)
                  else
                  ((f_X10_multiply x1 x2 x3 p4.2).bind fun p5 =>
                    (if x4 = 0 then
                      (f_X10_product_91 ((gI p5 38 36).toInt64) p5)
                      else
                      (if x4 = 1 then
                        (f_X10_product_91 ((gI p5 38 37).toInt64) p5)
                        else
                        (f_X10_product_91 (gJ p5 38 35) p5))))))))))))
def f_X10_rival_24 (σ : St) : Option (Int32 × St) :=
  (some ((-1), σ))
def f_X10_rival_71 (k34 : Int32 → Int32 → Int32 → Int32 → Int32 → St → Option (Int32 × St)) (x1 : Int32) (x2 : Int32) (x3 : Int32) (x4 : Int32) (x5 : Int32) (σ : St) : Option (Int32 × St) :=
  (k34 x1 x2 x3 x4 (x5 + 1) σ)
def f_X10_rival_62 (k34 : Int32 → Int32 → Int32 → Int32 → Int32 → St → Option (Int32 × St)) (x1 : Int32) (x2 : Int32) (x5 : Int32) (σ : St) : Option (Int32 × St) :=
  (f_X10_rival_71 k34 x1 x2 x5 (gI σ 38 36) x5 σ)
def f_X10_rival_34 : Nat → Int32 → Int32 → Int32 → Int32 → Int32 → St → Option (Int32 × St)
  | 0, _, _, _, _, _, _ => none
  | n + 1, x1, x2, x3, x4, x5, σ =>
    (if (3 : Int32) ≤ x5 then
    (some (x3, σ))
    else
    ((f_X10_multiply x1 x2 x5 σ).bind fun p3 =>
      (if x3 = (-1) then
        (f_X10_rival_62 (f_X10_rival_34 n) x1 x2 x5 p3)
        else
        (if x4 ≤ (gI p3 38 36) then
          (f_X10_rival_71 (f_X10_rival_34 n) x1 x2 x3 x4 x5 p3)
          else
          (f_X10_rival_62 (f_X10_rival_34 n) x1 x2 x5 p3)))))
def f_X10_rival (x1 : Int32) (x2 : Int32) (σ : St) : Option (Int32 × St) :=
  ((f_X10_in x1.toInt64 0 9999 σ).bind fun p1 =>
    (if p1.1 = 0 then
      (f_X10_rival_24 p1.2)
      else
      ((f_X10_in x2.toInt64 0 9999 p1.2).bind fun p2 =>
        (if p2.1 = 0 then
          (f_X10_rival_24 p2.2)
          else
          (f_X10_rival_34 FU x1 x2 (-1) 0 0 p2.2)))))
def f_X10_makes_68 (y0 : Int32) (σ : St) : Option (Int32 × St) :=
  (gd (isbb (y0)) (some (y0, σ)))
def f_X10_makes_34 (k4 : Int32 → Int32 → Int32 → St → Option (Int32 × St)) (k13 : Int32 → Int32 → Int32 → Int32 → St → Option (Int32 × St)) (x1 : Int32) (x2 : Int32) (x3 : Int32) (x4 : Int32) (σ : St) : Option (Int32 × St) :=
  (k13 x1 x2 x3 (x4 + 1) σ)
def f_X10_makes_13 (k4 : Int32 → Int32 → Int32 → St → Option (Int32 × St)) : Nat → Int32 → Int32 → Int32 → Int32 → St → Option (Int32 × St)
  | 0, _, _, _, _, _ => none
  | n + 1, x1, x2, x3, x4, σ =>
    (gd (inb x3 10)
    (if (gI σ 56 x3.toNatClampNeg) ≤ x4 then
      (k4 x1 x2 (x3 + 1) σ)
      else
      (f_X10_makes_34 k4 (f_X10_makes_13 k4 n) x1 (x2 ||| ((shlI x2 x3) &&& 1023)) x3 x4 σ)))
def f_X10_makes_4 : Nat → Int32 → Int32 → Int32 → St → Option (Int32 × St)
  | 0, _, _, _, _ => none
  | n + 1, x1, x2, x3, σ =>
    (if (9 : Int32) < x3 then
    (if ((shrI x2 1) &&& ((shlI 1 x1) - 1)) = ((shlI 1 x1) - 1) then
      (f_X10_makes_68 1 σ)
      else
      (f_X10_makes_68 0 σ))
    else
    (f_X10_makes_13 (f_X10_makes_4 n) FU x1 x2 x3 0 σ))
def f_X10_makes (x1 : Int32) (σ : St) : Option (Int32 × St) :=
  (f_X10_makes_4 FU x1 1 1 σ)
def f_X10_tailFrom_19 (k4 : Int32 → Int32 → St → Option (Int32 × St)) (x2 : Int32) (x3 : Int32) (σ : St) : Option (Int32 × St) :=
  (k4 x2 (x3 + 1) σ)
def f_X10_tailFrom_4 : Nat → Int32 → Int32 → St → Option (Int32 × St)
  | 0, _, _, _ => none
  | n + 1, x2, x3, σ =>
    (if (9 : Int32) < x3 then
    (some (x2, σ))
    else
    (gd (inb x3 10)
      (f_X10_tailFrom_19 (f_X10_tailFrom_4 n) (x2 + (gI σ 56 x3.toNatClampNeg)) x3 σ)))
def f_X10_tailFrom (x1 : Int32) (σ : St) : Option (Int32 × St) :=
  (f_X10_tailFrom_4 FU 0 x1 σ)
def f_X10_nextRow_106 : Nat → Int32 → Int32 → St → Option (Int32 × St)
  | 0, _, _, _ => none
  | n + 1, x5, x6, σ =>
    (if (8 : Int32) < x6 then
    (some (1, (sI σ 56 (9 : Int32).toNatClampNeg x5)))
    else
    (gd (inb x6 10)
      (f_X10_nextRow_106 n x5 (x6 + 1) (sI σ 56 x6.toNatClampNeg 0))))
def f_X10_nextRow_100 (x4 : Int32) (x5 : Int32) (σ : St) : Option (Int32 × St) :=
  (f_X10_nextRow_106 FU x5 (x4 + 1) σ)
def f_X10_nextRow_71 (k52 : Int32 → Int32 → Int32 → St → Option (Int32 × St)) (x4 : Int32) (x5 : Int32) (x6 : Int32) (σ : St) : Option (Int32 × St) :=
  (k52 x4 x5 (x6 + 1) σ)
def f_X10_nextRow_52 : Nat → Int32 → Int32 → Int32 → St → Option (Int32 × St)
  | 0, _, _, _, _ => none
  | n + 1, x4, x5, x6, σ =>
    (if x4 ≤ x6 then
    (gd (inb x4 10)
      (gd (inb x4 10)
        (gd (inb x4 10)
          (f_X10_nextRow_100 x4 (x5 - (gI (sI σ 56 x4.toNatClampNeg ((gI σ 56 x4.toNatClampNeg) + 1)) 56 x4.toNatClampNeg)) (sI σ 56 x4.toNatClampNeg ((gI σ 56 x4.toNatClampNeg) + 1))))))
    else
    (gd (inb x6 10)
      (f_X10_nextRow_71 (f_X10_nextRow_52 n) x4 (x5 - (gI σ 56 x6.toNatClampNeg)) x6 σ)))
def f_X10_nextRow_35 (x1 : Int32) (x2 : Int32) (x3 : Int32) (σ : St) : Option (Int32 × St) :=
  (if x3 = 0 then
    (some (0, σ))
    else
    (f_X10_nextRow_52 FU (x2 - 1) x1 1 σ))
def f_X10_nextRow_31 (k5 : Int32 → Int32 → Int32 → St → Option (Int32 × St)) (x1 : Int32) (x3 : Int32) (y0 : Int32) (σ : St) : Option (Int32 × St) :=
  (k5 x1 y0 x3 σ)
def f_X10_nextRow_5 : Nat → Int32 → Int32 → Int32 → St → Option (Int32 × St)
  | 0, _, _, _, _ => none
  | n + 1, x1, x2, x3, σ =>
    (if x2 ≤ 1 then
    (f_X10_nextRow_35 x1 x2 x3 σ)
    else
    (if x3 = 0 then
      ((f_X10_tailFrom x2 σ).bind fun p1 =>
        (if p1.1 = 0 then
          (f_X10_nextRow_31 (f_X10_nextRow_5 n) x1 p1.1 (x2 - 1) p1.2)
          else
          (f_X10_nextRow_31 (f_X10_nextRow_5 n) x1 p1.1 x2 p1.2)))
      else
      (f_X10_nextRow_35 x1 x2 x3 σ)))
def f_X10_nextRow (x1 : Int32) (σ : St) : Option (Int32 × St) :=
  (f_X10_nextRow_5 FU x1 9 0 σ)
def f_X10_isOf_29 (k2 : Int32 → Int32 → St → Option (Int32 × St)) (x1 : Int32) (x2 : Int32) (σ : St) : Option (Int32 × St) :=
  (k2 x1 (x2 + 1) σ)
def f_X10_isOf_2 : Nat → Int32 → Int32 → St → Option (Int32 × St)
  | 0, _, _, _ => none
  | n + 1, x1, x2, σ =>
    (if (9 : Int32) < x2 then
    (some (1, σ))
    else
    (gd (inb x2 10)
      (if (gI σ 56 x2.toNatClampNeg) ≤ 0 then
        (f_X10_isOf_29 (f_X10_isOf_2 n) x1 x2 σ)
        else
        ((f_X10_has x1 (x2 - 1) σ).bind fun p1 =>
          (if p1.1 = 0 then
            (some (0, p1.2))
            else
            (f_X10_isOf_29 (f_X10_isOf_2 n) x1 x2 p1.2))))))
def f_X10_isOf (x1 : Int32) (σ : St) : Option (Int32 × St) :=
  (f_X10_isOf_2 FU x1 1 σ)
def f_X10_all_34 (σ : St) : Option (Int32 × St) :=
  (some ((-1), σ))
def f_X10_all_166 (y0 : Int32) (σ : St) : Option (Int32 × St) :=
  (some (y0, σ))
def f_X10_all_149 (k128 : Int32 → Int32 → Int32 → Int32 → St → Option (Int32 × St)) (x3 : Int32) (x4 : Int32) (x6 : Int32) (x7 : Int32) (σ : St) : Option (Int32 × St) :=
  (k128 x3 x4 x6 (x7 + (-1)) σ)
def f_X10_all_128 : Nat → Int32 → Int32 → Int32 → Int32 → St → Option (Int32 × St)
  | 0, _, _, _, _, _ => none
  | n + 1, x3, x4, x6, x7, σ =>
    (if x7 < 1 then
    (if x3 = 0 then
      (f_X10_all_166 x4 σ)
      else
      (f_X10_all_166 x6 σ))
    else
    (gd (inb x7 10)
      (f_X10_all_149 (f_X10_all_128 n) x3 x4 ((10 * x6) + (gI σ 56 x7.toNatClampNeg)) x7 σ)))
def f_X10_all_116 (k39 : Int32 → Int32 → Int32 → Int32 → St → Option (Int32 × St)) (x1 : Int32) (x2 : Int32) (x3 : Int32) (x4 : Int32) (x5 : Int32) (σ : St) : Option (Int32 × St) :=
  (if x5 = 0 then
    (k39 x1 x2 x3 (x4 + 1) σ)
    else
    (f_X10_all_128 FU x3 x4 0 9 σ))
def f_X10_all_105 (k39 : Int32 → Int32 → Int32 → Int32 → St → Option (Int32 × St)) (k84 : Int32 → Int32 → Int32 → Int32 → Int32 → St → Option (Int32 × St)) (x1 : Int32) (x2 : Int32) (x3 : Int32) (x4 : Int32) (σ : St) : Option (Int32 × St) :=
  ((f_X10_nextRow x4 σ).bind fun p5 =>
    (k84 x1 x2 x3 x4 p5.1 p5.2))
def f_X10_all_84 (k39 : Int32 → Int32 → Int32 → Int32 → St → Option (Int32 × St)) : Nat → Int32 → Int32 → Int32 → Int32 → Int32 → St → Option (Int32 × St)
  | 0, _, _, _, _, _, _ => none
  | n + 1, x1, x2, x3, x4, x5, σ =>
    (if x5 = 0 then
    (f_X10_all_116 k39 x1 x2 x3 x4 x5 σ)
    else
    ((f_X10_isOf x1 σ).bind fun p4 =>
      (if p4.1 = 0 then
        (f_X10_all_105 k39 (f_X10_all_84 k39 n) x1 x2 x3 x4 p4.2)
        else
        ((f_X10_makes x2 p4.2).bind fun p6 =>
          (if p6.1 = 0 then
            (f_X10_all_105 k39 (f_X10_all_84 k39 n) x1 x2 x3 x4 p6.2)
            else
            (f_X10_all_116 k39 x1 x2 x3 x4 x5 p6.2))))))
def f_X10_all_74 (k39 : Int32 → Int32 → Int32 → Int32 → St → Option (Int32 × St)) (k48 : Int32 → Int32 → Int32 → Int32 → Int32 → St → Option (Int32 × St)) (x1 : Int32) (x2 : Int32) (x3 : Int32) (x4 : Int32) (x5 : Int32) (y0 : Int32) (y1 : Int32) (σ : St) : Option (Int32 × St) :=
  (gd (inb y1 10)
    (k48 x1 x2 x3 x4 (x5 + 1) (sI σ 56 y1.toNatClampNeg y0)))
def f_X10_all_48 (k39 : Int32 → Int32 → Int32 → Int32 → St → Option (Int32 × St)) : Nat → Int32 → Int32 → Int32 → Int32 → Int32 → St → Option (Int32 × St)
  | 0, _, _, _, _, _, _ => none
  | n + 1, x1, x2, x3, x4, x5, σ =>
    (if (9 : Int32) < x5 then
    (f_X10_all_84 k39 FU x1 x2 x3 x4 1 σ)
    else
    (if x5 = 9 then
      (f_X10_all_74 k39 (f_X10_all_48 k39 n) x1 x2 x3 x4 x5 x4 x5 σ)
      else
      (f_X10_all_74 k39 (f_X10_all_48 k39 n) x1 x2 x3 x4 x5 0 x5 σ)))
def f_X10_all_39 : Nat → Int32 → Int32 → Int32 → Int32 → St → Option (Int32 × St)
  | 0, _, _, _, _, _ => none
  | n + 1, x1, x2, x3, x4, σ =>
    (if x2 < x4 then
    (some ((-1), σ))
    else
    (f_X10_all_48 (f_X10_all_39 n) FU x1 x2 x3 x4 1 σ))
def f_X10_all (x1 : Int32) (x2 : Int32) (x3 : Int32) (σ : St) : Option (Int32 × St) :=
  ((f_X10_in x1.toInt64 1 511 σ).bind fun p1 =>
    (if p1.1 = 0 then
      (f_X10_all_34 p1.2)
      else
      ((f_X10_in x2.toInt64 1 9 p1.2).bind fun p2 =>
        (if p2.1 = 0 then
          (f_X10_all_34 p2.2)
          else
          ((f_X10_in x3.toInt64 0 1 p2.2).bind fun p3 =>
            (if p3.1 = 0 then
              (f_X10_all_34 p3.2)
              else
              (f_X10_all_39 FU x1 x2 x3 1 p3.2)))))))
def f_X10_begin_58 : Nat → Int32 → St → Option (St)
  | 0, _, _ => none
  | n + 1, x2, σ =>
    (if (12 : Int32) ≤ x2 then
    (some σ)
    else
    (gd (inb (0 + x2) 19)
      (gd (inb x2 12)
        (f_X10_begin_58 n (x2 + 1) (sI σ 47 x2.toNatClampNeg (gI σ 46 (0 + x2).toNatClampNeg))))))
def f_X10_begin_49 (k12 : Int32 → Int32 → St → Option (St)) (x1 : Int32) (x2 : Int32) (y0 : Int32) (y1 : Int32) (σ : St) : Option (St) :=
  (gd (inb y1 19)
    (k12 x1 (x2 + 1) (sI σ 46 y1.toNatClampNeg y0)))
def f_X10_begin_12 : Nat → Int32 → Int32 → St → Option (St)
  | 0, _, _, _ => none
  | n + 1, x1, x2, σ =>
    (if (19 : Int32) ≤ x2 then
    (f_X10_begin_58 FU 0 σ)
    else
    (gd (inb x2 19)
      (gd (inb x2 19)
        (if x1 = 0 then
          (gd (inb x2 19)
            (f_X10_begin_49 (f_X10_begin_12 n) x1 x2 (gI (sI σ 57 x2.toNatClampNeg (gI σ 46 x2.toNatClampNeg)) 46 x2.toNatClampNeg) x2 (sI σ 57 x2.toNatClampNeg (gI σ 46 x2.toNatClampNeg))))
          else
          (f_X10_begin_49 (f_X10_begin_12 n) x1 x2 0 x2 (sI σ 57 x2.toNatClampNeg (gI σ 46 x2.toNatClampNeg)))))))
def f_X10_begin (x1 : Int32) (σ : St) : Option (St) :=
  (gd (isbb x1)
    (f_X10_begin_12 FU x1 0 (sI (sI σ 38 21 1) 38 22 x1)))
def f_X10_over_2 : Nat → Int32 → St → Option (St)
  | 0, _, _ => none
  | n + 1, x1, σ =>
    (if (19 : Int32) ≤ x1 then
    (some (sI (sI σ 38 21 0) 38 22 0))
    else
    (gd (inb x1 19)
      (gd (inb x1 19)
        (f_X10_over_2 n (x1 + 1) (sI σ 46 x1.toNatClampNeg (gI σ 57 x1.toNatClampNeg))))))
def f_X10_over (σ : St) : Option (St) :=
  (f_X10_over_2 FU 0 σ)
def f_X10_tried_20 (σ : St) : Option (Int64 × St) :=
  (some ((-1), σ))
def f_X10_tried_102 (y0 : Int64) (σ : St) : Option (Int64 × St) :=
  ((f_X10_over σ).bind fun p5 =>
    (some (y0, p5)))
def f_X10_tried_76 (x2 : Int32) (y0 : Int32) (σ : St) : Option (Int64 × St) :=
  (if x2 = 0 then
    ((f_X10_number σ).bind fun p6 =>
      (f_X10_tried_102 p6.1 p6.2))
    else
    (gd (inb y0 19)
      (gd (inb y0 19)
        (f_X10_tried_102 (((gI σ 46 y0.toNatClampNeg) - (gI σ 57 y0.toNatClampNeg)).toInt64) σ))))
def f_X10_tried (x1 : Int32) (x2 : Int32) (σ : St) : Option (Int64 × St) :=
  ((f_X10_isSum x1 σ).bind fun p1 =>
    (if p1.1 = 0 then
      (f_X10_tried_20 p1.2)
      else
      ((f_X10_in x2.toInt64 0 5 p1.2).bind fun p2 =>
        (if p2.1 = 0 then
          (f_X10_tried_20 p2.2)
          else
          ((f_X10_begin 0 p2.2).bind fun p3 =>
            ((f_X10_runOf x1 p3).bind fun p4 =>
              (if x2 = 1 then
                (f_X10_tried_76 x2 12 p4)
                else
                (if x2 = 2 then
                  (f_X10_tried_76 x2 13 p4)
                  else
                  (if x2 = 3 then
                    (f_X10_tried_76 x2 14 p4)
                    else
                    (if x2 = 4 then
                      (f_X10_tried_76 x2 16 p4)
                      else
                      (f_X10_tried_76 x2 15 p4)))))))))))
def f_X10_needs_16 (σ : St) : Option (Int32 × St) :=
  (some ((-1), σ))
def f_X10_needs (x1 : Int32) (x2 : Int32) (σ : St) : Option (Int32 × St) :=
  ((f_X10_isSum x1 σ).bind fun p1 =>
    (if p1.1 = 0 then
      (f_X10_needs_16 p1.2)
      else
      ((f_X10_isRope x2 p1.2).bind fun p2 =>
        (if p2.1 = 0 then
          (f_X10_needs_16 p2.2)
          else
          ((f_X10_begin 0 p2.2).bind fun p3 =>
            ((f_X10_runOf x1 p3).bind fun p4 =>
              ((f_X10_over p4).bind fun p5 =>
                (gd (inb x2 12)
                  (some ((gI p5 47 x2.toNatClampNeg), p5))))))))))
def f_X10_herd_45 (k28 : Int32 → Int32 → St → Option (Int32 × St)) (x2 : Int32) (x3 : Int32) (σ : St) : Option (Int32 × St) :=
  (k28 x2 (x3 + 1) σ)
def f_X10_herd_28 : Nat → Int32 → Int32 → St → Option (Int32 × St)
  | 0, _, _, _ => none
  | n + 1, x2, x3, σ =>
    (if (gI σ 38 1) ≤ x3 then
    (some (x2, σ))
    else
    (gd (inb x3 12)
      (f_X10_herd_45 (f_X10_herd_28 n) (x2 + (gI σ 47 x3.toNatClampNeg)) x3 σ)))
def f_X10_herd (x1 : Int32) (σ : St) : Option (Int32 × St) :=
  ((f_X10_isSum x1 σ).bind fun p1 =>
    (if p1.1 = 0 then
      (some ((-1), p1.2))
      else
      ((f_X10_begin 1 p1.2).bind fun p2 =>
        ((f_X10_runOf x1 p2).bind fun p3 =>
          ((f_X10_over p3).bind fun p4 =>
            (f_X10_herd_28 FU 0 0 p4))))))
def f_X10_cheaper_102 (k27 : Int32 → Int32 → Int32 → Int32 → Int32 → St → Option (Int32 × St)) (x1 : Int32) (x2 : Int32) (x3 : Int32) (x5 : Int32) (y0 : Int32) (σ : St) : Option (Int32 × St) :=
  (k27 x1 x2 x3 y0 (x5 + 1) σ)
def f_X10_cheaper_89 (k27 : Int32 → Int32 → Int32 → Int32 → Int32 → St → Option (Int32 × St)) (x1 : Int32) (x2 : Int32) (x4 : Int32) (x5 : Int32) (x6 : Int32) (y0 : Int32) (σ : St) : Option (Int32 × St) :=
  (if x5 = 0 then
    (f_X10_cheaper_102 k27 x1 x2 y0 x5 x6 σ)
    else
    (f_X10_cheaper_102 k27 x1 x2 y0 x5 x4 σ))
def f_X10_cheaper_88 (k27 : Int32 → Int32 → Int32 → Int32 → Int32 → St → Option (Int32 × St)) (x1 : Int32) (x2 : Int32) (x3 : Int32) (x4 : Int32) (x5 : Int32) (x6 : Int32) (σ : St) : Option (Int32 × St) :=
  (f_X10_cheaper_89 k27 x1 x2 x4 x5 x6 x3 σ)
def f_X10_cheaper_67 (k27 : Int32 → Int32 → Int32 → Int32 → Int32 → St → Option (Int32 × St)) (x1 : Int32) (x2 : Int32) (x3 : Int32) (x4 : Int32) (x5 : Int32) (x6 : Int32) (σ : St) : Option (Int32 × St) :=
  ((f_X10_over σ).bind fun p4 =>
    (if x5 = 1 then
      (if x4 ≤ x6 then
        (f_X10_cheaper_88 k27 x1 x2 x3 x4 x5 x6 p4)
        else
        (f_X10_cheaper_89 k27 x1 x2 x4 x5 x6 1 p4))
      else
      (f_X10_cheaper_88 k27 x1 x2 x3 x4 x5 x6 p4)))
def f_X10_cheaper_27 : Nat → Int32 → Int32 → Int32 → Int32 → Int32 → St → Option (Int32 × St)
  | 0, _, _, _, _, _, _ => none
  | n + 1, x1, x2, x3, x4, x5, σ =>
    (if (2 : Int32) ≤ x5 then
    (some (x3, (sI σ 38 11 x2)))
    else
    ((f_X10_begin 0 σ).bind fun p2 =>
      ((f_X10_addOf x1 1 (sI p2 38 11 x5)).bind fun p3 =>
        (f_X10_cheaper_67 (f_X10_cheaper_27 n) x1 x2 x3 x4 x5 ((gI p3 46 (12 : Int32).toNatClampNeg) - (gI p3 57 (12 : Int32).toNatClampNeg)) p3))))
def f_X10_cheaper_19 (x1 : Int32) (x2 : Int32) (σ : St) : Option (Int32 × St) :=
  (f_X10_cheaper_27 FU x1 x2 0 0 0 σ)
def f_X10_cheaper (x1 : Int32) (σ : St) : Option (Int32 × St) :=
  ((f_X10_in x1.toInt64 0 999999999 σ).bind fun p1 =>
    (if p1.1 = 0 then
      (some ((-1), p1.2))
      else
      (f_X10_cheaper_19 x1 (gI p1.2 38 11) p1.2)))
def f_X10_standingAt_291 (k17 : Int32 → Int32 → Int32 → Int32 → Int32 → Int32 → Int32 → St → Option (Int32 × St)) (k93 : Int32 → Int32 → Int32 → Int32 → Int32 → Int32 → Int32 → Int32 → Int32 → Int32 → Int32 → Int32 → Int32 → St → Option (Int32 × St)) (x1 : Int32) (x2 : Int32) (x3 : Int32) (x4 : Int32) (x5 : Int32) (x6 : Int32) (x7 : Int32) (x8 : Int32) (x9 : Int32) (x10 : Int32) (x11 : Int32) (x12 : Int32) (x13 : Int32) (σ : St) : Option (Int32 × St) :=
  (k93 x1 x2 x3 x4 x5 x6 x7 x8 x9 x10 x11 x12 (x13 + 1) σ)
def f_X10_standingAt_285 (k17 : Int32 → Int32 → Int32 → Int32 → Int32 → Int32 → Int32 → St → Option (Int32 × St)) (k93 : Int32 → Int32 → Int32 → Int32 → Int32 → Int32 → Int32 → Int32 → Int32 → Int32 → Int32 → Int32 → Int32 → St → Option (Int32 × St)) (x1 : Int32) (x2 : Int32) (x3 : Int32) (x4 : Int32) (x5 : Int32) (x6 : Int32) (x7 : Int32) (x8 : Int32) (x10 : Int32) (x12 : Int32) (x13 : Int32) (x17 : Int32) (y0 : Int32) (σ : St) : Option (Int32 × St) :=
  (f_X10_standingAt_291 k17 k93 x1 x2 x3 x4 x5 x6 x7 x8 x17 x10 y0 x12 x13 σ)
def f_X10_standingAt_266 (k17 : Int32 → Int32 → Int32 → Int32 → Int32 → Int32 → Int32 → St → Option (Int32 × St)) (k93 : Int32 → Int32 → Int32 → Int32 → Int32 → Int32 → Int32 → Int32 → Int32 → Int32 → Int32 → Int32 → Int32 → St → Option (Int32 × St)) (x1 : Int32) (x2 : Int32) (x3 : Int32) (x4 : Int32) (x5 : Int32) (x6 : Int32) (x7 : Int32) (x8 : Int32) (x10 : Int32) (x11 : Int32) (x12 : Int32) (x13 : Int32) (x16 : Int32) (x17 : Int32) (σ : St) : Option (Int32 × St) :=
  (if x16 ≤ 9 then
    (f_X10_standingAt_285 k17 k93 x1 x2 x3 x4 x5 x6 x7 x8 x10 x12 x13 x17 x11 σ)
    else
    (f_X10_standingAt_285 k17 k93 x1 x2 x3 x4 x5 x6 x7 x8 x10 x12 x13 x17 (x10 + (gI σ 38 13)) σ))
def f_X10_standingAt_248 (k17 : Int32 → Int32 → Int32 → Int32 → Int32 → Int32 → Int32 → St → Option (Int32 × St)) (k93 : Int32 → Int32 → Int32 → Int32 → Int32 → Int32 → Int32 → Int32 → Int32 → Int32 → Int32 → Int32 → Int32 → St → Option (Int32 × St)) (x1 : Int32) (x2 : Int32) (x3 : Int32) (x4 : Int32) (x5 : Int32) (x6 : Int32) (x7 : Int32) (x8 : Int32) (x9 : Int32) (x11 : Int32) (x12 : Int32) (x13 : Int32) (x16 : Int32) (x17 : Int32) (x18 : Int32) (σ : St) : Option (Int32 × St) :=
  (f_X10_standingAt_266 k17 k93 x1 x2 x3 x4 x5 x6 x7 x8 (x18 + ((gI σ 38 12) * (abI (x17 - x9)))) x11 x12 x13 x16 x17 σ)
def f_X10_standingAt_245 (k17 : Int32 → Int32 → Int32 → Int32 → Int32 → Int32 → Int32 → St → Option (Int32 × St)) (k93 : Int32 → Int32 → Int32 → Int32 → Int32 → Int32 → Int32 → Int32 → Int32 → Int32 → Int32 → Int32 → Int32 → St → Option (Int32 × St)) (x1 : Int32) (x2 : Int32) (x3 : Int32) (x4 : Int32) (x5 : Int32) (x7 : Int32) (x8 : Int32) (x9 : Int32) (x11 : Int32) (x12 : Int32) (x13 : Int32) (x16 : Int32) (x17 : Int32) (x18 : Int32) (y0 : Int32) (y1 : Int32) (σ : St) : Option (Int32 × St) :=
  (f_X10_standingAt_248 k17 k93 x1 x2 x3 x4 x5 (y1 + y0) x7 x8 x9 x11 x12 x13 x16 x17 x18 σ)
def f_X10_standingAt_228 (k17 : Int32 → Int32 → Int32 → Int32 → Int32 → Int32 → Int32 → St → Option (Int32 × St)) (k93 : Int32 → Int32 → Int32 → Int32 → Int32 → Int32 → Int32 → Int32 → Int32 → Int32 → Int32 → Int32 → Int32 → St → Option (Int32 × St)) (x1 : Int32) (x2 : Int32) (x3 : Int32) (x4 : Int32) (x5 : Int32) (x6 : Int32) (x7 : Int32) (x8 : Int32) (x9 : Int32) (x11 : Int32) (x12 : Int32) (x13 : Int32) (x16 : Int32) (x17 : Int32) (x18 : Int32) (x19 : Int32) (σ : St) : Option (Int32 × St) :=
  (if x17 ≤ x9 then
    (f_X10_standingAt_245 k17 k93 x1 x2 x3 x4 x5 x7 x8 x9 x11 x12 x13 x16 x17 x18 (-x19) x6 σ)
    else
    (f_X10_standingAt_245 k17 k93 x1 x2 x3 x4 x5 x7 x8 x9 x11 x12 x13 x16 x17 x18 x19 x6 σ))
def f_X10_standingAt_200 (k17 : Int32 → Int32 → Int32 → Int32 → Int32 → Int32 → Int32 → St → Option (Int32 × St)) (k93 : Int32 → Int32 → Int32 → Int32 → Int32 → Int32 → Int32 → Int32 → Int32 → Int32 → Int32 → Int32 → Int32 → St → Option (Int32 × St)) (x1 : Int32) (x2 : Int32) (x3 : Int32) (x4 : Int32) (x5 : Int32) (x6 : Int32) (x7 : Int32) (x8 : Int32) (x9 : Int32) (x11 : Int32) (x12 : Int32) (x13 : Int32) (x16 : Int32) (x17 : Int32) (x18 : Int32) (σ : St) : Option (Int32 × St) :=
  (gd (nzI (gI σ 38 12))
    (f_X10_standingAt_228 k17 k93 x1 x2 x3 x4 x5 x6 x7 x8 x9 x11 x12 x13 x16 x17 x18 (mxI 0 (mnI (abI (x17 - x9)) (((x3 - x18) + 1) / (gI σ 38 12)))) σ))
def f_X10_standingAt_191 (k17 : Int32 → Int32 → Int32 → Int32 → Int32 → Int32 → Int32 → St → Option (Int32 × St)) (k93 : Int32 → Int32 → Int32 → Int32 → Int32 → Int32 → Int32 → Int32 → Int32 → Int32 → Int32 → Int32 → Int32 → St → Option (Int32 × St)) (x1 : Int32) (x2 : Int32) (x3 : Int32) (x4 : Int32) (x5 : Int32) (x6 : Int32) (x7 : Int32) (x8 : Int32) (x9 : Int32) (x10 : Int32) (x11 : Int32) (x12 : Int32) (x13 : Int32) (x15 : Int32) (x16 : Int32) (x17 : Int32) (σ : St) : Option (Int32 × St) :=
  (f_X10_standingAt_200 k17 k93 x1 x2 x3 x4 x5 x6 x7 x8 x9 x11 x12 x13 x16 x17 (mxI x10 x15) σ)
def f_X10_standingAt_179 (k17 : Int32 → Int32 → Int32 → Int32 → Int32 → Int32 → Int32 → St → Option (Int32 × St)) (k93 : Int32 → Int32 → Int32 → Int32 → Int32 → Int32 → Int32 → Int32 → Int32 → Int32 → Int32 → Int32 → Int32 → St → Option (Int32 × St)) (x1 : Int32) (x2 : Int32) (x3 : Int32) (x4 : Int32) (x5 : Int32) (x6 : Int32) (x7 : Int32) (x8 : Int32) (x9 : Int32) (x10 : Int32) (x11 : Int32) (x12 : Int32) (x13 : Int32) (x15 : Int32) (x16 : Int32) (y0 : Int32) (σ : St) : Option (Int32 × St) :=
  (gd (inb x7 12)
    (f_X10_standingAt_191 k17 k93 x1 x2 x3 x4 x5 x6 x7 x8 x9 x10 x11 x12 x13 x15 x16 (mnI y0 (gI σ 44 x7.toNatClampNeg)) σ))
def f_X10_standingAt_162 (k17 : Int32 → Int32 → Int32 → Int32 → Int32 → Int32 → Int32 → St → Option (Int32 × St)) (k93 : Int32 → Int32 → Int32 → Int32 → Int32 → Int32 → Int32 → Int32 → Int32 → Int32 → Int32 → Int32 → Int32 → St → Option (Int32 × St)) (x1 : Int32) (x2 : Int32) (x3 : Int32) (x4 : Int32) (x5 : Int32) (x6 : Int32) (x7 : Int32) (x8 : Int32) (x9 : Int32) (x10 : Int32) (x11 : Int32) (x12 : Int32) (x13 : Int32) (x15 : Int32) (x16 : Int32) (σ : St) : Option (Int32 × St) :=
  (if x16 ≤ 9 then
    (f_X10_standingAt_179 k17 k93 x1 x2 x3 x4 x5 x6 x7 x8 x9 x10 x11 x12 x13 x15 x16 x16 σ)
    else
    (f_X10_standingAt_179 k17 k93 x1 x2 x3 x4 x5 x6 x7 x8 x9 x10 x11 x12 x13 x15 x16 (x16 - 10) σ))
def f_X10_standingAt_159 (k17 : Int32 → Int32 → Int32 → Int32 → Int32 → Int32 → Int32 → St → Option (Int32 × St)) (k93 : Int32 → Int32 → Int32 → Int32 → Int32 → Int32 → Int32 → Int32 → Int32 → Int32 → Int32 → Int32 → Int32 → St → Option (Int32 × St)) (x1 : Int32) (x2 : Int32) (x3 : Int32) (x4 : Int32) (x5 : Int32) (x6 : Int32) (x7 : Int32) (x8 : Int32) (x9 : Int32) (x10 : Int32) (x11 : Int32) (x12 : Int32) (x13 : Int32) (x15 : Int32) (y0 : Int32) (y1 : Int32) (σ : St) : Option (Int32 × St) :=
  (f_X10_standingAt_162 k17 k93 x1 x2 x3 x4 x5 x6 x7 x8 x9 x10 x11 x12 x13 x15 (y1 + y0) σ)
def f_X10_standingAt_133 (k17 : Int32 → Int32 → Int32 → Int32 → Int32 → Int32 → Int32 → St → Option (Int32 × St)) (k93 : Int32 → Int32 → Int32 → Int32 → Int32 → Int32 → Int32 → Int32 → Int32 → Int32 → Int32 → Int32 → Int32 → St → Option (Int32 × St)) (x1 : Int32) (x2 : Int32) (x3 : Int32) (x4 : Int32) (x5 : Int32) (x6 : Int32) (x7 : Int32) (x8 : Int32) (x9 : Int32) (x10 : Int32) (x11 : Int32) (x12 : Int32) (x13 : Int32) (x14 : Int32) (y0 : Int32) (σ : St) : Option (Int32 × St) :=
  (if y0 = (-1) then
    (f_X10_standingAt_291 k17 k93 x1 x2 x3 x4 x5 x6 x7 x8 x9 x10 x11 x12 x13 σ)
    else
    (if x14 = 0 then
      (f_X10_standingAt_159 k17 k93 x1 x2 x3 x4 x5 x6 x7 x8 x9 x10 x11 x12 x13 y0 1 x9 σ)
      else
      ((f_X10_digitOf x1.toInt64 x7 σ).bind fun p2 =>
        (f_X10_standingAt_159 k17 k93 x1 x2 x3 x4 x5 x6 x7 x8 x9 x10 x11 x12 x13 y0 p2.1 x9 p2.2))))
def f_X10_standingAt_119 (k17 : Int32 → Int32 → Int32 → Int32 → Int32 → Int32 → Int32 → St → Option (Int32 × St)) (k93 : Int32 → Int32 → Int32 → Int32 → Int32 → Int32 → Int32 → Int32 → Int32 → Int32 → Int32 → Int32 → Int32 → St → Option (Int32 × St)) (x1 : Int32) (x2 : Int32) (x3 : Int32) (x4 : Int32) (x5 : Int32) (x6 : Int32) (x7 : Int32) (x8 : Int32) (x9 : Int32) (x10 : Int32) (x11 : Int32) (x12 : Int32) (x13 : Int32) (y0 : Int32) (σ : St) : Option (Int32 × St) :=
  (if y0 = 0 then
    (f_X10_standingAt_133 k17 k93 x1 x2 x3 x4 x5 x6 x7 x8 x9 x10 x11 x12 x13 y0 x5 σ)
    else
    (f_X10_standingAt_133 k17 k93 x1 x2 x3 x4 x5 x6 x7 x8 x9 x10 x11 x12 x13 y0 x8 σ))
def f_X10_standingAt_109 (k17 : Int32 → Int32 → Int32 → Int32 → Int32 → Int32 → Int32 → St → Option (Int32 × St)) (k93 : Int32 → Int32 → Int32 → Int32 → Int32 → Int32 → Int32 → Int32 → Int32 → Int32 → Int32 → Int32 → Int32 → St → Option (Int32 × St)) (x1 : Int32) (x2 : Int32) (x3 : Int32) (x4 : Int32) (x5 : Int32) (x6 : Int32) (x7 : Int32) (x8 : Int32) (x9 : Int32) (x10 : Int32) (x11 : Int32) (x12 : Int32) (x13 : Int32) (y0 : Int32) (σ : St) : Option (Int32 × St) :=
  (if y0 = x12 then
    (f_X10_standingAt_119 k17 k93 x1 x2 x3 x4 x5 x6 x7 x8 x9 x10 x11 x12 x13 1 σ)
    else
    (f_X10_standingAt_119 k17 k93 x1 x2 x3 x4 x5 x6 x7 x8 x9 x10 x11 x12 x13 0 σ))
def f_X10_standingAt_93 (k17 : Int32 → Int32 → Int32 → Int32 → Int32 → Int32 → Int32 → St → Option (Int32 × St)) : Nat → Int32 → Int32 → Int32 → Int32 → Int32 → Int32 → Int32 → Int32 → Int32 → Int32 → Int32 → Int32 → Int32 → St → Option (Int32 × St)
  | 0, _, _, _, _, _, _, _, _, _, _, _, _, _, _ => none
  | n + 1, x1, x2, x3, x4, x5, x6, x7, x8, x9, x10, x11, x12, x13, σ =>
    (if (2 : Int32) ≤ x13 then
    (k17 x1 x2 x3 x4 x11 x6 (x7 + 1) σ)
    else
    (if x13 = 0 then
      (f_X10_standingAt_109 k17 (f_X10_standingAt_93 k17 n) x1 x2 x3 x4 x5 x6 x7 x8 x9 x10 x11 x12 x13 1 σ)
      else
      (f_X10_standingAt_109 k17 (f_X10_standingAt_93 k17 n) x1 x2 x3 x4 x5 x6 x7 x8 x9 x10 x11 x12 x13 0 σ)))
def f_X10_standingAt_88 (k17 : Int32 → Int32 → Int32 → Int32 → Int32 → Int32 → Int32 → St → Option (Int32 × St)) (x1 : Int32) (x2 : Int32) (x3 : Int32) (x4 : Int32) (x5 : Int32) (x6 : Int32) (x7 : Int32) (x8 : Int32) (x9 : Int32) (x10 : Int32) (x11 : Int32) (y0 : Int32) (σ : St) : Option (Int32 × St) :=
  (f_X10_standingAt_93 k17 FU x1 x2 x3 x4 x5 x6 x7 x8 x9 x10 x11 y0 0 σ)
def f_X10_standingAt_87 (k17 : Int32 → Int32 → Int32 → Int32 → Int32 → Int32 → Int32 → St → Option (Int32 × St)) (x1 : Int32) (x2 : Int32) (x3 : Int32) (x4 : Int32) (x5 : Int32) (x6 : Int32) (x7 : Int32) (x8 : Int32) (x9 : Int32) (x10 : Int32) (x11 : Int32) (σ : St) : Option (Int32 × St) :=
  (f_X10_standingAt_88 k17 x1 x2 x3 x4 x5 x6 x7 x8 x9 x10 x11 0 σ)
def f_X10_standingAt_83 (k17 : Int32 → Int32 → Int32 → Int32 → Int32 → Int32 → Int32 → St → Option (Int32 × St)) (x1 : Int32) (x2 : Int32) (x3 : Int32) (x4 : Int32) (x5 : Int32) (x6 : Int32) (x7 : Int32) (x8 : Int32) (x9 : Int32) (x10 : Int32) (x11 : Int32) (σ : St) : Option (Int32 × St) :=
  (f_X10_standingAt_88 k17 x1 x2 x3 x4 x5 x6 x7 x8 x9 x10 x11 1 σ)
def f_X10_standingAt_54 (k17 : Int32 → Int32 → Int32 → Int32 → Int32 → Int32 → Int32 → St → Option (Int32 × St)) (x1 : Int32) (x2 : Int32) (x3 : Int32) (x4 : Int32) (x5 : Int32) (x7 : Int32) (x8 : Int32) (x9 : Int32) (σ : St) : Option (Int32 × St) :=
  (if x8 = (-1) then
    (f_X10_standingAt_87 k17 x1 x2 x3 x4 x5 x9 x7 x8 x9 0 (-1) σ)
    else
    (if x5 = (-1) then
      (f_X10_standingAt_83 k17 x1 x2 x3 x4 x5 x9 x7 x8 x9 0 (-1) σ)
      else
      (if x5 < x8 then
        (f_X10_standingAt_87 k17 x1 x2 x3 x4 x5 x9 x7 x8 x9 0 (-1) σ)
        else
        (f_X10_standingAt_83 k17 x1 x2 x3 x4 x5 x9 x7 x8 x9 0 (-1) σ))))
def f_X10_standingAt_41 (k17 : Int32 → Int32 → Int32 → Int32 → Int32 → Int32 → Int32 → St → Option (Int32 × St)) (x1 : Int32) (x2 : Int32) (x3 : Int32) (x4 : Int32) (x5 : Int32) (x7 : Int32) (y0 : Int32) (σ : St) : Option (Int32 × St) :=
  (gd (inb (0 + x7) 19)
    (f_X10_standingAt_54 k17 x1 x2 x3 x4 x5 x7 y0 (gI σ 46 (0 + x7).toNatClampNeg) σ))
def f_X10_standingAt_17 : Nat → Int32 → Int32 → Int32 → Int32 → Int32 → Int32 → Int32 → St → Option (Int32 × St)
  | 0, _, _, _, _, _, _, _, _ => none
  | n + 1, x1, x2, x3, x4, x5, x6, x7, σ =>
    (if x2 < x7 then
    (some (x6, σ))
    else
    (if x4 < x7 then
      (f_X10_standingAt_41 (f_X10_standingAt_17 n) x1 x2 x3 x4 x5 x7 (-1) σ)
      else
      (f_X10_standingAt_41 (f_X10_standingAt_17 n) x1 x2 x3 x4 x5 x7 ((gI σ 38 14) * x7) σ)))
def f_X10_standingAt (x1 : Int32) (x2 : Int32) (x3 : Int32) (σ : St) : Option (Int32 × St) :=
  ((f_X10_highest x1.toInt64 σ).bind fun p1 =>
    (f_X10_standingAt_17 FU x1 x2 x3 p1.1 (-1) 0 0 p1.2))
def f_X10_standing_43 (y0 : Int32) (σ : St) : Option (Int32 × St) :=
  (some (y0, σ))
def f_X10_standing_42 (σ : St) : Option (Int32 × St) :=
  (f_X10_standing_43 (-1) σ)
def f_X10_standing (x1 : Int32) (x2 : Int32) (x3 : Int32) (σ : St) : Option (Int32 × St) :=
  ((f_X10_in x1.toInt64 0 999999999 σ).bind fun p1 =>
    (if p1.1 = 0 then
      (f_X10_standing_42 p1.2)
      else
      ((f_X10_isRope x2 p1.2).bind fun p2 =>
        (if p2.1 = 0 then
          (f_X10_standing_42 p2.2)
          else
          ((f_X10_in x3.toInt64 0 9999 p2.2).bind fun p3 =>
            (if p3.1 = 0 then
              (f_X10_standing_42 p3.2)
              else
              ((f_X10_standingAt x1 x2 x3 p3.2).bind fun p4 =>
                (f_X10_standing_43 p4.1 p4.2))))))))
def f_X10_heardAs_86 (k22 : Int32 → Int64 → Int64 → Int32 → St → Option (Int64 × St)) (x1 : Int32) (x2 : Int64) (x4 : Int64) (x6 : Int32) (σ : St) : Option (Int64 × St) :=
  (k22 x1 x2 x4 (x6 + 1) σ)
def f_X10_heardAs_83 (k22 : Int32 → Int64 → Int64 → Int32 → St → Option (Int64 × St)) (x1 : Int32) (x2 : Int64) (x6 : Int32) (y0 : Int64) (y1 : Int64) (σ : St) : Option (Int64 × St) :=
  (f_X10_heardAs_86 k22 x1 x2 (y1 * y0) x6 σ)
def f_X10_heardAs_22 : Nat → Int32 → Int64 → Int64 → Int32 → St → Option (Int64 × St)
  | 0, _, _, _, _, _ => none
  | n + 1, x1, x2, x4, x6, σ =>
    ((f_X10_many x1.toInt64 σ).bind fun p3 =>
    (if p3.1 ≤ x6 then
      (some (x4, p3.2))
      else
      ((f_X10_digitOf x1.toInt64 x6 p3.2).bind fun p4 =>
        ((f_X10_digitOf x2 x6 p4.2).bind fun p5 =>
          (if p4.1 = p5.1 then
            ((f_X10_itself p4.1 p5.2).bind fun p6 =>
              (f_X10_heardAs_83 (f_X10_heardAs_22 n) x1 x2 x6 p6.1.toInt64 x4 p6.2))
            else
            (gd (inb ((10 * p4.1) + p5.1) 100)
              (f_X10_heardAs_83 (f_X10_heardAs_22 n) x1 x2 x6 ((gI p5.2 45 ((10 * p4.1) + p5.1).toNatClampNeg).toInt64) x4 p5.2)))))))
def f_X10_heardAs (x1 : Int32) (x2 : Int64) (σ : St) : Option (Int64 × St) :=
  ((f_X10_many x2 σ).bind fun p1 =>
    ((f_X10_many x1.toInt64 p1.2).bind fun p2 =>
      (if p1.1 ≤ p2.1 then
        (f_X10_heardAs_22 FU x1 x2 1 0 p2.2)
        else
        (some (0, p2.2)))))
def f_X10_as_24 (σ : St) : Option (Int32 × St) :=
  (some ((-1), σ))
def f_X10_as_74 (y0 : Int64) (σ : St) : Option (Int32 × St) :=
  (some (y0.toInt32, σ))
def f_X10_as (x1 : Int32) (x2 : Int32) (σ : St) : Option (Int32 × St) :=
  ((f_X10_in x1.toInt64 0 999999999 σ).bind fun p1 =>
    (if p1.1 = 0 then
      (f_X10_as_24 p1.2)
      else
      ((f_X10_in x2.toInt64 0 999999999 p1.2).bind fun p2 =>
        (if p2.1 = 0 then
          (f_X10_as_24 p2.2)
          else
          ((f_X10_many x1.toInt64 p2.2).bind fun p3 =>
            ((f_X10_ten (2 * p3.1) p3.2).bind fun p4 =>
              ((f_X10_heardAs x1 x2.toInt64 p4.2).bind fun p5 =>
                (if (lg_cmp p4.1 1000000) < 0 then
                  (gd (nzJ p4.1)
                    (f_X10_as_74 (p5.1 * (1000000 / p4.1)) p5.2))
                  else
                  (gd (nzJ (p4.1 / 1000000))
                    (f_X10_as_74 (p5.1 / (p4.1 / 1000000)) p5.2))))))))))
def f_X10_guess_79 (k21 : Int32 → Int32 → Int64 → Int32 → St → Option (Int32 × St)) (x1 : Int32) (x2 : Int32) (x3 : Int64) (x5 : Int32) (σ : St) : Option (Int32 × St) :=
  (k21 x1 x2 x3 (x5 + 1) σ)
def f_X10_guess_66 (k21 : Int32 → Int32 → Int64 → Int32 → St → Option (Int32 × St)) (x1 : Int32) (x2 : Int32) (x3 : Int64) (x5 : Int32) (x6 : Int64) (σ : St) : Option (Int32 × St) :=
  (if (lg_cmp x6 x3) ≤ 0 then
    (f_X10_guess_79 k21 x1 x2 x3 x5 σ)
    else
    (f_X10_guess_79 k21 x1 x5 x6 x5 σ))
def f_X10_guess_21 : Nat → Int32 → Int32 → Int64 → Int32 → St → Option (Int32 × St)
  | 0, _, _, _, _, _ => none
  | n + 1, x1, x2, x3, x5, σ =>
    (if (gI σ 38 33) ≤ x5 then
    (some (x2, σ))
    else
    (gd (inb x5 8)
      ((f_X10_heardAs (gI σ 54 x5.toNatClampNeg) x1.toInt64 σ).bind fun p2 =>
        (gd (inb x5 8)
          ((f_X10_many ((gI p2.2 54 x5.toNatClampNeg).toInt64) p2.2).bind fun p3 =>
            ((f_X10_ten (18 - (2 * p3.1)) p3.2).bind fun p4 =>
              (f_X10_guess_66 (f_X10_guess_21 n) x1 x2 x3 x5 (p2.1 * p4.1) p4.2)))))))
def f_X10_guess (x1 : Int32) (σ : St) : Option (Int32 × St) :=
  ((f_X10_in x1.toInt64 0 999999999 σ).bind fun p1 =>
    (if p1.1 = 0 then
      (some ((-1), p1.2))
      else
      (f_X10_guess_21 FU x1 (-1) 0 0 p1.2)))
def f_X10_safest_26 (σ : St) : Option (Int32 × St) :=
  (some ((-1), σ))
def f_X10_safest_61 (k33 : Int32 → Int32 → Int32 → Int32 → St → Option (Int32 × St)) (x1 : Int32) (x2 : Int32) (x4 : Int32) (y0 : Int32) (σ : St) : Option (Int32 × St) :=
  (k33 x1 x2 y0 (x4 + 1) σ)
def f_X10_safest_33 : Nat → Int32 → Int32 → Int32 → Int32 → St → Option (Int32 × St)
  | 0, _, _, _, _, _ => none
  | n + 1, x1, x2, x3, x4, σ =>
    (if x2 < x4 then
    (some (x3, σ))
    else
    ((f_X10_miss x1 x4 σ).bind fun p3 =>
      ((f_X10_miss x1 x3 p3.2).bind fun p4 =>
        (if p4.1 ≤ p3.1 then
          (f_X10_safest_61 (f_X10_safest_33 n) x1 x2 x4 x3 p4.2)
          else
          (f_X10_safest_61 (f_X10_safest_33 n) x1 x2 x4 x4 p4.2)))))
def f_X10_safest (x1 : Int32) (x2 : Int32) (σ : St) : Option (Int32 × St) :=
  ((f_X10_in x1.toInt64 0 999999999 σ).bind fun p1 =>
    (if p1.1 = 0 then
      (f_X10_safest_26 p1.2)
      else
      ((f_X10_in x2.toInt64 2 99 p1.2).bind fun p2 =>
        (if p2.1 = 0 then
          (f_X10_safest_26 p2.2)
          else
          (f_X10_safest_33 FU x1 x2 2 3 p2.2)))))
def f_X10_confused_71 (k4 : Int32 → Int32 → St → Option (Int32 × St)) (k14 : Int32 → Int32 → Int32 → St → Option (Int32 × St)) (x1 : Int32) (x2 : Int32) (x3 : Int32) (σ : St) : Option (Int32 × St) :=
  (k14 x1 x2 (x3 + 1) σ)
def f_X10_confused_69 (k4 : Int32 → Int32 → St → Option (Int32 × St)) (k14 : Int32 → Int32 → Int32 → St → Option (Int32 × St)) (x2 : Int32) (x3 : Int32) (y0 : Int32) (y1 : Int32) (σ : St) : Option (Int32 × St) :=
  (f_X10_confused_71 k4 k14 (y1 + y0) x2 x3 σ)
def f_X10_confused_64 (k4 : Int32 → Int32 → St → Option (Int32 × St)) (k14 : Int32 → Int32 → Int32 → St → Option (Int32 × St)) (x2 : Int32) (x3 : Int32) (y0 : Int32) (σ : St) : Option (Int32 × St) :=
  (f_X10_confused_69 k4 k14 x2 x3 1 y0 σ)
def f_X10_confused_14 (k4 : Int32 → Int32 → St → Option (Int32 × St)) : Nat → Int32 → Int32 → Int32 → St → Option (Int32 × St)
  | 0, _, _, _, _ => none
  | n + 1, x1, x2, x3, σ =>
    (if x2 ≤ x3 then
    (k4 x1 (x2 + 1) σ)
    else
    (gd (inb x2 8)
      (gd (inb x3 8)
        ((f_X10_heardAs (gI σ 54 x2.toNatClampNeg) ((gI σ 54 x3.toNatClampNeg).toInt64) σ).bind fun p1 =>
          (if (0 : Int32) < (lg_cmp p1.1 0) then
            (f_X10_confused_64 k4 (f_X10_confused_14 k4 n) x2 x3 x1 p1.2)
            else
            (gd (inb x3 8)
              (gd (inb x2 8)
                ((f_X10_heardAs (gI p1.2 54 x3.toNatClampNeg) ((gI p1.2 54 x2.toNatClampNeg).toInt64) p1.2).bind fun p2 =>
                  (if (lg_cmp p2.1 0) ≤ 0 then
                    (f_X10_confused_69 k4 (f_X10_confused_14 k4 n) x2 x3 0 x1 p2.2)
                    else
                    (f_X10_confused_64 k4 (f_X10_confused_14 k4 n) x2 x3 x1 p2.2))))))))))
def f_X10_confused_4 : Nat → Int32 → Int32 → St → Option (Int32 × St)
  | 0, _, _, _ => none
  | n + 1, x1, x2, σ =>
    (if (gI σ 38 33) ≤ x2 then
    (some (x1, σ))
    else
    (f_X10_confused_14 (f_X10_confused_4 n) FU x1 x2 0 σ))
def f_X10_confused (σ : St) : Option (Int32 × St) :=
  (f_X10_confused_4 FU 0 0 σ)
def f_J9_multiplyHigh_f86c9_71 (x4 : Int64) (x8 : Int64) (x16 : Int64) (x18 : Int64) (σ : St) : Option (Int64 × St) :=
  (some ((((x4 * x8) + x18) + (shrJ x16 32)), σ))
def f_J9_multiplyHigh_f86c9_61 (x4 : Int64) (x6 : Int64) (x8 : Int64) (x16 : Int64) (x18 : Int64) (σ : St) : Option (Int64 × St) :=
  (f_J9_multiplyHigh_f86c9_71 x4 x8 (x16 + (x6 * x8)) x18 σ)
def f_J9_multiplyHigh_f86c9_54 (x4 : Int64) (x6 : Int64) (x8 : Int64) (x14 : Int64) (x16 : Int64) (σ : St) : Option (Int64 × St) :=
  (f_J9_multiplyHigh_f86c9_61 x4 x6 x8 x16 (shrJ x14 32) σ)
def f_J9_multiplyHigh_f86c9_46 (x4 : Int64) (x6 : Int64) (x8 : Int64) (x14 : Int64) (σ : St) : Option (Int64 × St) :=
  (f_J9_multiplyHigh_f86c9_54 x4 x6 x8 x14 (x14 &&& 4294967295) σ)
def f_J9_multiplyHigh_f86c9_33 (x4 : Int64) (x6 : Int64) (x8 : Int64) (x10 : Int64) (x12 : Int64) (σ : St) : Option (Int64 × St) :=
  (f_J9_multiplyHigh_f86c9_46 x4 x6 x8 ((x4 * x10) + (ushJ x12 32)) σ)
def f_J9_multiplyHigh_f86c9_26 (x4 : Int64) (x6 : Int64) (x8 : Int64) (x10 : Int64) (σ : St) : Option (Int64 × St) :=
  (f_J9_multiplyHigh_f86c9_33 x4 x6 x8 x10 (x6 * x10) σ)
def f_J9_multiplyHigh_f86c9_19 (x2 : Int64) (x4 : Int64) (x6 : Int64) (x8 : Int64) (σ : St) : Option (Int64 × St) :=
  (f_J9_multiplyHigh_f86c9_26 x4 x6 x8 (x2 &&& 4294967295) σ)
def f_J9_multiplyHigh_f86c9_13 (x2 : Int64) (x4 : Int64) (x6 : Int64) (σ : St) : Option (Int64 × St) :=
  (f_J9_multiplyHigh_f86c9_19 x2 x4 x6 (shrJ x2 32) σ)
def f_J9_multiplyHigh_f86c9_6 (x0 : Int64) (x2 : Int64) (x4 : Int64) (σ : St) : Option (Int64 × St) :=
  (f_J9_multiplyHigh_f86c9_13 x2 x4 (x0 &&& 4294967295) σ)
def f_J9_multiplyHigh_f86c9 (x0 : Int64) (x2 : Int64) (σ : St) : Option (Int64 × St) :=
  (f_J9_multiplyHigh_f86c9_6 x0 x2 (shrJ x0 32) σ)
def f_X10_partOf_112 (k8 : Int64 → Int64 → Int32 → Int32 → St → Option (Int32 × St)) (x0 : Int64) (x2 : Int64) (x4 : Int32) (x5 : Int32) (σ : St) : Option (Int32 × St) :=
  (k8 x0 x2 x4 x5 σ)
def f_X10_partOf_106 (k8 : Int64 → Int64 → Int32 → Int32 → St → Option (Int32 × St)) (x0 : Int64) (x2 : Int64) (x4 : Int32) (x5 : Int32) (σ : St) : Option (Int32 × St) :=
  (f_X10_partOf_112 k8 x0 x2 x4 (shrI x5 1) σ)
def f_X10_partOf_103 (k8 : Int64 → Int64 → Int32 → Int32 → St → Option (Int32 × St)) (x0 : Int64) (x2 : Int64) (x5 : Int32) (y0 : Int32) (y1 : Int32) (σ : St) : Option (Int32 × St) :=
  (f_X10_partOf_106 k8 x0 x2 (y1 + y0) x5 σ)
def f_X10_partOf_88 (k8 : Int64 → Int64 → Int32 → Int32 → St → Option (Int32 × St)) (x0 : Int64) (x2 : Int64) (x4 : Int32) (x5 : Int32) (y0 : Int32) (σ : St) : Option (Int32 × St) :=
  (if y0 = 0 then
    (f_X10_partOf_103 k8 x0 x2 x5 0 x4 σ)
    else
    (f_X10_partOf_103 k8 x0 x2 x5 x5 x4 σ))
def f_X10_partOf_83 (k8 : Int64 → Int64 → Int32 → Int32 → St → Option (Int32 × St)) (x0 : Int64) (x2 : Int64) (x4 : Int32) (x5 : Int32) (σ : St) : Option (Int32 × St) :=
  (f_X10_partOf_88 k8 x0 x2 x4 x5 1 σ)
def f_X10_partOf_87 (k8 : Int64 → Int64 → Int32 → Int32 → St → Option (Int32 × St)) (x0 : Int64) (x2 : Int64) (x4 : Int32) (x5 : Int32) (σ : St) : Option (Int32 × St) :=
  (f_X10_partOf_88 k8 x0 x2 x4 x5 0 σ)
def f_X10_partOf_51 (k8 : Int64 → Int64 → Int32 → Int32 → St → Option (Int32 × St)) (x0 : Int64) (x2 : Int64) (x4 : Int32) (x5 : Int32) (x6 : Int64) (x8 : Int64) (x10 : Int64) (x12 : Int64) (σ : St) : Option (Int32 × St) :=
  (if (lg_cmp x6 x10) < 0 then
    (f_X10_partOf_83 k8 x0 x2 x4 x5 σ)
    else
    (if (lg_cmp x6 x10) = 0 then
      (if (0 : Int32) < (lg_cmp (x8 + (-9223372036854775808)) (x12 + (-9223372036854775808))) then
        (f_X10_partOf_87 k8 x0 x2 x4 x5 σ)
        else
        (f_X10_partOf_83 k8 x0 x2 x4 x5 σ))
      else
      (f_X10_partOf_87 k8 x0 x2 x4 x5 σ)))
def f_X10_partOf_35 (k8 : Int64 → Int64 → Int32 → Int32 → St → Option (Int32 × St)) (x0 : Int64) (x2 : Int64) (x4 : Int32) (x5 : Int32) (x6 : Int64) (x8 : Int64) (σ : St) : Option (Int32 × St) :=
  ((f_J9_multiplyHigh_f86c9 x0 1000000 σ).bind fun p2 =>
    (f_X10_partOf_51 k8 x0 x2 x4 x5 x6 x8 p2.1 (x0 * 1000000) p2.2))
def f_X10_partOf_8 : Nat → Int64 → Int64 → Int32 → Int32 → St → Option (Int32 × St)
  | 0, _, _, _, _, _ => none
  | n + 1, x0, x2, x4, x5, σ =>
    (if x5 ≤ 0 then
    (some (x4, σ))
    else
    ((f_J9_multiplyHigh_f86c9 x2 ((x4 + x5).toInt64) σ).bind fun p1 =>
      (f_X10_partOf_35 (f_X10_partOf_8 n) x0 x2 x4 x5 p1.1 (x2 * ((x4 + x5).toInt64)) p1.2)))
def f_X10_partOf (x0 : Int64) (x2 : Int64) (σ : St) : Option (Int32 × St) :=
  (f_X10_partOf_8 FU x0 x2 0 524288 σ)
def f_X10_odds_132 (y0 : Int32) (σ : St) : Option (Int32 × St) :=
  (some (y0, σ))
def f_X10_odds_106 (k42 : Int32 → Int64 → Int64 → Int64 → Int32 → St → Option (Int32 × St)) (x1 : Int32) (x2 : Int64) (x4 : Int64) (x8 : Int32) (y0 : Int64) (σ : St) : Option (Int32 × St) :=
  (k42 x1 x2 x4 y0 (x8 + 1) σ)
def f_X10_odds_93 (k42 : Int32 → Int64 → Int64 → Int64 → Int32 → St → Option (Int32 × St)) (x1 : Int32) (x2 : Int64) (x4 : Int64) (x6 : Int64) (x8 : Int32) (x9 : Int64) (σ : St) : Option (Int32 × St) :=
  (if x8 = x1 then
    (f_X10_odds_106 k42 x1 x2 x4 x8 x9 σ)
    else
    (f_X10_odds_106 k42 x1 x2 x4 x8 x6 σ))
def f_X10_odds_86 (k42 : Int32 → Int64 → Int64 → Int64 → Int32 → St → Option (Int32 × St)) (x1 : Int32) (x2 : Int64) (x4 : Int64) (x6 : Int64) (x8 : Int32) (x9 : Int64) (σ : St) : Option (Int32 × St) :=
  (f_X10_odds_93 k42 x1 x2 (x4 + x9) x6 x8 x9 σ)
def f_X10_odds_42 : Nat → Int32 → Int64 → Int64 → Int64 → Int32 → St → Option (Int32 × St)
  | 0, _, _, _, _, _, _ => none
  | n + 1, x1, x2, x4, x6, x8, σ =>
    (if (gI σ 38 33) ≤ x8 then
    (if (lg_cmp x4 0) = 0 then
      (f_X10_odds_132 0 σ)
      else
      ((f_X10_partOf x6 x4 σ).bind fun p3 =>
        (f_X10_odds_132 p3.1 p3.2)))
    else
    (gd (inb x8 8)
      ((f_X10_heardAs (gI σ 54 x8.toNatClampNeg) x2 σ).bind fun p4 =>
        (gd (inb x8 8)
          ((f_X10_many ((gI p4.2 54 x8.toNatClampNeg).toInt64) p4.2).bind fun p5 =>
            ((f_X10_ten (18 - (2 * p5.1)) p5.2).bind fun p6 =>
              (f_X10_odds_86 (f_X10_odds_42 n) x1 x2 x4 x6 x8 (p4.1 * p6.1) p6.2)))))))
def f_X10_odds (x1 : Int32) (σ : St) : Option (Int32 × St) :=
  ((f_X10_in x1.toInt64 0 (((gI σ 38 33) - 1).toInt64) σ).bind fun p1 =>
    (if p1.1 = 0 then
      (some ((-1), p1.2))
      else
      (if (gI p1.2 38 20) = 0 then
        ((f_X10_seenNumber p1.2).bind fun p2 =>
          (f_X10_odds_42 FU x1 p2.1 0 0 0 p2.2))
        else
        (some ((-2), p1.2)))))
def f_X10_ends_35 (y0 : Int32) (y1 : Int32) (y2 : Int32) (σ : St) : Option (St) :=
  (gd (inb y2 12)
    (some (sI σ 62 y2.toNatClampNeg (y1 + y0))))
def f_X10_ends_19 (x1 : Int32) (x2 : Int32) (σ : St) : Option (St) :=
  (gd (inb x1 12)
    (if x2 = 0 then
      (f_X10_ends_35 0 (gI σ 62 x1.toNatClampNeg) x1 σ)
      else
      (f_X10_ends_35 1 (gI σ 62 x1.toNatClampNeg) x1 σ)))
def f_X10_ends (x1 : Int32) (x2 : Int32) (σ : St) : Option (St) :=
  (gd (inb x1 12)
    (gd (inb x1 12)
      (gd (inb x1 12)
        (f_X10_ends_19 x1 x2 (sI (sI σ 64 x1.toNatClampNeg (gI σ 59 x1.toNatClampNeg)) 58 x1.toNatClampNeg (-1))))))
def f_X10_work_267 (σ : St) : Option (St) :=
  (some σ)
def f_X10_work_264 (k24 : Int32 → Int32 → Int32 → Int32 → Int32 → St → Option (St)) (x1 : Int32) (x2 : Int32) (x3 : Int32) (x4 : Int32) (x5 : Int32) (σ : St) : Option (St) :=
  (k24 x1 x2 x3 x4 x5 σ)
def f_X10_work_233 (k24 : Int32 → Int32 → Int32 → Int32 → Int32 → St → Option (St)) (x1 : Int32) (x2 : Int32) (x3 : Int32) (x4 : Int32) (x5 : Int32) (x8 : Int32) (σ : St) : Option (St) :=
  (gd (inb x1 12)
    (if x8 = 0 then
      (gd (inb x1 12)
        ((f_X10_ends x1 (gI (sI σ 58 x1.toNatClampNeg (x2 + (x8 * (gI σ 38 12)))) 60 x1.toNatClampNeg) (sI σ 58 x1.toNatClampNeg (x2 + (x8 * (gI σ 38 12))))).bind fun p1 =>
          (f_X10_work_264 k24 x1 x2 x3 x4 x5 p1)))
      else
      (f_X10_work_264 k24 x1 x2 x3 x4 x5 (sI σ 58 x1.toNatClampNeg (x2 + (x8 * (gI σ 38 12)))))))
def f_X10_work_214 (k24 : Int32 → Int32 → Int32 → Int32 → Int32 → St → Option (St)) (x1 : Int32) (x2 : Int32) (x3 : Int32) (x4 : Int32) (x5 : Int32) (y0 : Int32) (y1 : Int32) (σ : St) : Option (St) :=
  (gd ((inb y1 12 && isbb y0))
    (gd (inb x1 12)
      (gd (inb x1 12)
        (f_X10_work_233 k24 x1 x2 x3 x4 x5 (abI ((gI (sI σ 60 y1.toNatClampNeg y0) 59 x1.toNatClampNeg) - (gI (sI σ 60 y1.toNatClampNeg y0) 64 x1.toNatClampNeg))) (sI σ 60 y1.toNatClampNeg y0)))))
def f_X10_work_197 (k24 : Int32 → Int32 → Int32 → Int32 → Int32 → St → Option (St)) (x1 : Int32) (x2 : Int32) (x3 : Int32) (x4 : Int32) (x5 : Int32) (x7 : Int32) (σ : St) : Option (St) :=
  (if x7 ≤ 9 then
    (f_X10_work_214 k24 x1 x2 x3 x4 x5 0 x1 σ)
    else
    (f_X10_work_214 k24 x1 x2 x3 x4 x5 1 x1 σ))
def f_X10_work_187 (k24 : Int32 → Int32 → Int32 → Int32 → Int32 → St → Option (St)) (x1 : Int32) (x2 : Int32) (x3 : Int32) (x4 : Int32) (x5 : Int32) (x7 : Int32) (y0 : Int32) (y1 : Int32) (σ : St) : Option (St) :=
  (gd (inb x1 12)
    (gd (inb y1 12)
      (f_X10_work_197 k24 x1 x2 x3 x4 x5 x7 (sI σ 59 y1.toNatClampNeg (mnI y0 (gI σ 44 x1.toNatClampNeg))))))
def f_X10_work_163 (k24 : Int32 → Int32 → Int32 → Int32 → Int32 → St → Option (St)) (x1 : Int32) (x2 : Int32) (x3 : Int32) (x4 : Int32) (x5 : Int32) (x7 : Int32) (y0 : Int32) (y1 : Int32) (y2 : Int32) (σ : St) : Option (St) :=
  (gd (inb y2 12)
    (if x7 ≤ 9 then
      (f_X10_work_187 k24 x1 x2 x3 x4 x5 x7 x7 x1 (sI σ 63 y2.toNatClampNeg (y1 - y0)))
      else
      (f_X10_work_187 k24 x1 x2 x3 x4 x5 x7 (x7 - 10) x1 (sI σ 63 y2.toNatClampNeg (y1 - y0)))))
def f_X10_work_145 (k24 : Int32 → Int32 → Int32 → Int32 → Int32 → St → Option (St)) (x1 : Int32) (x2 : Int32) (x3 : Int32) (x4 : Int32) (x5 : Int32) (x6 : Int32) (x7 : Int32) (y0 : Int32) (y1 : Int32) (σ : St) : Option (St) :=
  (gd ((inb y1 12 && isbb y0))
    (gd (inb x1 12)
      (if x6 = 0 then
        (f_X10_work_163 k24 x1 x2 x3 x4 x5 x7 1 (gI (sI σ 61 y1.toNatClampNeg y0) 63 x1.toNatClampNeg) x1 (sI σ 61 y1.toNatClampNeg y0))
        else
        (f_X10_work_163 k24 x1 x2 x3 x4 x5 x7 0 (gI (sI σ 61 y1.toNatClampNeg y0) 63 x1.toNatClampNeg) x1 (sI σ 61 y1.toNatClampNeg y0)))))
def f_X10_work_140 (k24 : Int32 → Int32 → Int32 → Int32 → Int32 → St → Option (St)) (x1 : Int32) (x2 : Int32) (x3 : Int32) (x4 : Int32) (x5 : Int32) (x6 : Int32) (x7 : Int32) (y0 : Int32) (σ : St) : Option (St) :=
  (f_X10_work_145 k24 x1 x2 x3 x4 x5 x6 x7 1 y0 σ)
def f_X10_work_121 (k24 : Int32 → Int32 → Int32 → Int32 → Int32 → St → Option (St)) (x1 : Int32) (x2 : Int32) (x3 : Int32) (x4 : Int32) (x5 : Int32) (x6 : Int32) (x7 : Int32) (σ : St) : Option (St) :=
  (gd (inb x1 12)
    (if (gI σ 61 x1.toNatClampNeg) = 0 then
      (if x6 = 0 then
        (f_X10_work_145 k24 x1 x2 x3 x4 x5 x6 x7 0 x1 σ)
        else
        (f_X10_work_140 k24 x1 x2 x3 x4 x5 x6 x7 x1 σ))
      else
      (f_X10_work_140 k24 x1 x2 x3 x4 x5 x6 x7 x1 σ)))
def f_X10_work_118 (k24 : Int32 → Int32 → Int32 → Int32 → Int32 → St → Option (St)) (x1 : Int32) (x2 : Int32) (x3 : Int32) (x4 : Int32) (x5 : Int32) (x6 : Int32) (y0 : Int32) (y1 : Int32) (σ : St) : Option (St) :=
  (f_X10_work_121 k24 x1 x2 x3 x4 x5 x6 (y1 + y0) σ)
def f_X10_work_90 (k24 : Int32 → Int32 → Int32 → Int32 → Int32 → St → Option (St)) (x1 : Int32) (x2 : Int32) (x3 : Int32) (x4 : Int32) (x6 : Int32) (y0 : Int32) (σ : St) : Option (St) :=
  (if y0 = 0 then
    (f_X10_work_264 k24 x1 x2 x3 x4 y0 σ)
    else
    (gd (inb x1 12)
      (if x6 = 0 then
        (f_X10_work_118 k24 x1 x2 x3 x4 y0 x6 1 (gI σ 64 x1.toNatClampNeg) σ)
        else
        ((f_X10_digitOf x3.toInt64 x1 σ).bind fun p2 =>
          (f_X10_work_118 k24 x1 x2 x3 x4 y0 x6 p2.1 (gI σ 64 x1.toNatClampNeg) p2.2)))))
def f_X10_work_85 (k24 : Int32 → Int32 → Int32 → Int32 → Int32 → St → Option (St)) (x1 : Int32) (x2 : Int32) (x3 : Int32) (x4 : Int32) (x6 : Int32) (σ : St) : Option (St) :=
  (f_X10_work_90 k24 x1 x2 x3 x4 x6 1 σ)
def f_X10_work_69 (k24 : Int32 → Int32 → Int32 → Int32 → Int32 → St → Option (St)) (x1 : Int32) (x2 : Int32) (x3 : Int32) (x4 : Int32) (y0 : Int32) (σ : St) : Option (St) :=
  (if y0 = 0 then
    (gd (inb x1 12)
      (if (gI σ 63 x1.toNatClampNeg) ≤ 0 then
        (f_X10_work_90 k24 x1 x2 x3 x4 y0 0 σ)
        else
        (f_X10_work_85 k24 x1 x2 x3 x4 y0 σ)))
    else
    (f_X10_work_85 k24 x1 x2 x3 x4 y0 σ))
def f_X10_work_68 (k24 : Int32 → Int32 → Int32 → Int32 → Int32 → St → Option (St)) (x1 : Int32) (x2 : Int32) (x3 : Int32) (x4 : Int32) (σ : St) : Option (St) :=
  (f_X10_work_69 k24 x1 x2 x3 x4 0 σ)
def f_X10_work_24 : Nat → Int32 → Int32 → Int32 → Int32 → Int32 → St → Option (St)
  | 0, _, _, _, _, _, _ => none
  | n + 1, x1, x2, x3, x4, x5, σ =>
    (if x5 = 0 then
    (f_X10_work_267 σ)
    else
    (gd (inb x1 12)
      (if (gI σ 58 x1.toNatClampNeg) = (-1) then
        (gd (inb x1 12)
          (if (gI σ 61 x1.toNatClampNeg) = 0 then
            (if x4 < x1 then
              (f_X10_work_68 (f_X10_work_24 n) x1 x2 x3 x4 σ)
              else
              (if x2 < ((gI σ 38 14) * x1) then
                (f_X10_work_68 (f_X10_work_24 n) x1 x2 x3 x4 σ)
                else
                (f_X10_work_69 (f_X10_work_24 n) x1 x2 x3 x4 1 σ)))
            else
            (f_X10_work_68 (f_X10_work_24 n) x1 x2 x3 x4 σ)))
        else
        (f_X10_work_267 σ))))
def f_X10_work_21 (x1 : Int32) (x2 : Int32) (x3 : Int32) (x4 : Int32) (σ : St) : Option (St) :=
  (f_X10_work_24 FU x1 x2 x3 x4 1 σ)
def f_X10_work (x1 : Int32) (x2 : Int32) (x3 : Int32) (x4 : Int32) (σ : St) : Option (St) :=
  (gd (inb x1 12)
    (if (gI σ 58 x1.toNatClampNeg) = x2 then
      (gd (inb x1 12)
        ((f_X10_ends x1 (gI σ 60 x1.toNatClampNeg) σ).bind fun p3 =>
          (f_X10_work_21 x1 x2 x3 x4 p3)))
      else
      (f_X10_work_21 x1 x2 x3 x4 σ)))
def f_X10_areAtRest_62 : Nat → Int32 → Int32 → St → Option (Int32 × St)
  | 0, _, _, _ => none
  | n + 1, x2, x3, σ =>
    (if x2 ≤ x3 then
    (some (1, σ))
    else
    (gd (inb x3 9)
      (if (gI σ 65 x3.toNatClampNeg) = (-1) then
        (f_X10_areAtRest_62 n x2 (x3 + 1) σ)
        else
        (some (0, σ)))))
def f_X10_areAtRest_52 (σ : St) : Option (Int32 × St) :=
  (some (0, σ))
def f_X10_areAtRest_54 (k2 : Int32 → Int32 → Int32 → St → Option (Int32 × St)) (x1 : Int32) (x2 : Int32) (x3 : Int32) (σ : St) : Option (Int32 × St) :=
  (k2 x1 x2 (x3 + 1) σ)
def f_X10_areAtRest_2 : Nat → Int32 → Int32 → Int32 → St → Option (Int32 × St)
  | 0, _, _, _, _ => none
  | n + 1, x1, x2, x3, σ =>
    (if (gI σ 38 1) ≤ x3 then
    (f_X10_areAtRest_62 FU x2 0 σ)
    else
    (gd (inb x3 12)
      (if (gI σ 58 x3.toNatClampNeg) = (-1) then
        (gd (inb x3 12)
          (if (0 : Int32) < (gI σ 62 x3.toNatClampNeg) then
            (f_X10_areAtRest_52 σ)
            else
            (gd (inb x3 12)
              (if (0 : Int32) < (gI σ 63 x3.toNatClampNeg) then
                (f_X10_areAtRest_52 σ)
                else
                (if x1 < x3 then
                  (f_X10_areAtRest_54 (f_X10_areAtRest_2 n) x1 x2 x3 σ)
                  else
                  (gd (inb x3 12)
                    (if (gI σ 61 x3.toNatClampNeg) = 0 then
                      (f_X10_areAtRest_52 σ)
                      else
                      (f_X10_areAtRest_54 (f_X10_areAtRest_2 n) x1 x2 x3 σ))))))))
        else
        (f_X10_areAtRest_52 σ))))
def f_X10_areAtRest (x1 : Int32) (x2 : Int32) (σ : St) : Option (Int32 × St) :=
  (f_X10_areAtRest_2 FU x1 x2 0 σ)
def f_X10_relayOf_306 (k103 : Int32 → Int32 → Int32 → Int32 → Int32 → Int32 → St → Option (Int32 × St)) (k209 : Int32 → Int32 → Int32 → Int32 → Int32 → Int32 → St → Option (Int32 × St)) (k241 : Int32 → Int32 → Int32 → Int32 → Int32 → Int32 → Int32 → Int32 → St → Option (Int32 × St)) (x1 : Int32) (x2 : Int32) (x3 : Int32) (x4 : Int32) (x5 : Int32) (x7 : Int32) (x8 : Int32) (x9 : Int32) (σ : St) : Option (Int32 × St) :=
  (k241 x1 x2 x3 x4 x5 x7 x8 (x9 + 1) σ)
def f_X10_relayOf_297 (k103 : Int32 → Int32 → Int32 → Int32 → Int32 → Int32 → St → Option (Int32 × St)) (k209 : Int32 → Int32 → Int32 → Int32 → Int32 → Int32 → St → Option (Int32 × St)) (k241 : Int32 → Int32 → Int32 → Int32 → Int32 → Int32 → Int32 → Int32 → St → Option (Int32 × St)) (x1 : Int32) (x2 : Int32) (x3 : Int32) (x4 : Int32) (x5 : Int32) (x7 : Int32) (x8 : Int32) (x9 : Int32) (σ : St) : Option (Int32 × St) :=
  (gd (inb x9 9)
    (f_X10_relayOf_306 k103 k209 k241 x1 x2 x3 x4 x5 x7 x8 x9 (sI σ 66 x9.toNatClampNeg x8)))
def f_X10_relayOf_241 (k103 : Int32 → Int32 → Int32 → Int32 → Int32 → Int32 → St → Option (Int32 × St)) (k209 : Int32 → Int32 → Int32 → Int32 → Int32 → Int32 → St → Option (Int32 × St)) : Nat → Int32 → Int32 → Int32 → Int32 → Int32 → Int32 → Int32 → Int32 → St → Option (Int32 × St)
  | 0, _, _, _, _, _, _, _, _, _ => none
  | n + 1, x1, x2, x3, x4, x5, x7, x8, x9, σ =>
    (if x2 ≤ x9 then
    (k209 x1 x2 x3 x4 x5 (x7 + 1) σ)
    else
    (gd (inb x8 12)
      (if (gI σ 62 x8.toNatClampNeg) ≤ 0 then
        (f_X10_relayOf_306 k103 k209 (f_X10_relayOf_241 k103 k209 n) x1 x2 x3 x4 x5 x7 x8 x9 σ)
        else
        (gd (inb x9 9)
          (if (gI σ 65 x9.toNatClampNeg) = (-1) then
            (gd (inb x8 12)
              (gd (inb x8 12)
                (gd (inb x9 9)
                  (f_X10_relayOf_297 k103 k209 (f_X10_relayOf_241 k103 k209 n) x1 x2 x3 x4 x5 x7 x8 x9 (sI (sI σ 62 x8.toNatClampNeg ((gI σ 62 x8.toNatClampNeg) - 1)) 65 x9.toNatClampNeg (x5 + (mxI 1 (gI (sI σ 62 x8.toNatClampNeg ((gI σ 62 x8.toNatClampNeg) - 1)) 38 13))))))))
            else
            (f_X10_relayOf_306 k103 k209 (f_X10_relayOf_241 k103 k209 n) x1 x2 x3 x4 x5 x7 x8 x9 σ))))))
def f_X10_relayOf_236 (k103 : Int32 → Int32 → Int32 → Int32 → Int32 → Int32 → St → Option (Int32 × St)) (k209 : Int32 → Int32 → Int32 → Int32 → Int32 → Int32 → St → Option (Int32 × St)) (x1 : Int32) (x2 : Int32) (x3 : Int32) (x4 : Int32) (x5 : Int32) (x7 : Int32) (y0 : Int32) (σ : St) : Option (Int32 × St) :=
  (f_X10_relayOf_241 k103 k209 FU x1 x2 x3 x4 x5 x7 y0 0 σ)
def f_X10_relayOf_209 (k103 : Int32 → Int32 → Int32 → Int32 → Int32 → Int32 → St → Option (Int32 × St)) : Nat → Int32 → Int32 → Int32 → Int32 → Int32 → Int32 → St → Option (Int32 × St)
  | 0, _, _, _, _, _, _, _ => none
  | n + 1, x1, x2, x3, x4, x5, x7, σ =>
    (if (gI σ 38 1) ≤ x7 then
    ((f_X10_areAtRest x4 x2 σ).bind fun p2 =>
      (k103 x1 x2 x3 x4 (x5 + 1) p2.1 p2.2))
    else
    (if x3 = 0 then
      (f_X10_relayOf_236 k103 (f_X10_relayOf_209 k103 n) x1 x2 x3 x4 x5 x7 x7 σ)
      else
      (f_X10_relayOf_236 k103 (f_X10_relayOf_209 k103 n) x1 x2 x3 x4 x5 x7 (((gI σ 38 1) - 1) - x7) σ)))
def f_X10_relayOf_180 (k103 : Int32 → Int32 → Int32 → Int32 → Int32 → Int32 → St → Option (Int32 × St)) : Nat → Int32 → Int32 → Int32 → Int32 → Int32 → Int32 → St → Option (Int32 × St)
  | 0, _, _, _, _, _, _, _ => none
  | n + 1, x1, x2, x3, x4, x5, x7, σ =>
    (if (gI σ 38 1) ≤ x7 then
    (f_X10_relayOf_209 k103 FU x1 x2 x3 x4 x5 0 σ)
    else
    ((f_X10_work x7 x5 x1 x4 σ).bind fun p3 =>
      (f_X10_relayOf_180 k103 n x1 x2 x3 x4 x5 (x7 + 1) p3)))
def f_X10_relayOf_171 (k103 : Int32 → Int32 → Int32 → Int32 → Int32 → Int32 → St → Option (Int32 × St)) (k111 : Int32 → Int32 → Int32 → Int32 → Int32 → Int32 → St → Option (Int32 × St)) (x1 : Int32) (x2 : Int32) (x3 : Int32) (x4 : Int32) (x5 : Int32) (x7 : Int32) (σ : St) : Option (Int32 × St) :=
  (k111 x1 x2 x3 x4 x5 (x7 + 1) σ)
def f_X10_relayOf_111 (k103 : Int32 → Int32 → Int32 → Int32 → Int32 → Int32 → St → Option (Int32 × St)) : Nat → Int32 → Int32 → Int32 → Int32 → Int32 → Int32 → St → Option (Int32 × St)
  | 0, _, _, _, _, _, _, _ => none
  | n + 1, x1, x2, x3, x4, x5, x7, σ =>
    (if x2 ≤ x7 then
    (f_X10_relayOf_180 k103 FU x1 x2 x3 x4 x5 0 σ)
    else
    (gd (inb x7 9)
      (if (gI σ 65 x7.toNatClampNeg) = x5 then
        (gd (inb x7 9)
          (gd (inb x7 9)
            (if (gI (sI σ 65 x7.toNatClampNeg (-1)) 38 1) ≤ ((gI (sI σ 65 x7.toNatClampNeg (-1)) 66 x7.toNatClampNeg) + 1) then
              (f_X10_relayOf_171 k103 (f_X10_relayOf_111 k103 n) x1 x2 x3 x4 x5 x7 (sI σ 65 x7.toNatClampNeg (-1)))
              else
              (gd (inb x7 9)
                (gd (inb ((gI (sI σ 65 x7.toNatClampNeg (-1)) 66 x7.toNatClampNeg) + 1) 12)
                  (gd (inb ((gI (sI σ 65 x7.toNatClampNeg (-1)) 66 x7.toNatClampNeg) + 1) 12)
                    (f_X10_relayOf_171 k103 (f_X10_relayOf_111 k103 n) x1 x2 x3 x4 x5 x7 (sI (sI σ 65 x7.toNatClampNeg (-1)) 63 ((gI (sI σ 65 x7.toNatClampNeg (-1)) 66 x7.toNatClampNeg) + 1).toNatClampNeg ((gI (sI σ 65 x7.toNatClampNeg (-1)) 63 ((gI (sI σ 65 x7.toNatClampNeg (-1)) 66 x7.toNatClampNeg) + 1).toNatClampNeg) + 1)))))))))
        else
        (f_X10_relayOf_171 k103 (f_X10_relayOf_111 k103 n) x1 x2 x3 x4 x5 x7 σ))))
def f_X10_relayOf_103 : Nat → Int32 → Int32 → Int32 → Int32 → Int32 → Int32 → St → Option (Int32 × St)
  | 0, _, _, _, _, _, _, _ => none
  | n + 1, x1, x2, x3, x4, x5, x6, σ =>
    (if x6 = 0 then
    (f_X10_relayOf_111 (f_X10_relayOf_103 n) FU x1 x2 x3 x4 x5 0 σ)
    else
    (some ((x5 - 1), σ)))
def f_X10_relayOf_77 : Nat → Int32 → Int32 → Int32 → Int32 → Int32 → St → Option (Int32 × St)
  | 0, _, _, _, _, _, _ => none
  | n + 1, x1, x2, x3, x4, x5, σ =>
    (if x2 ≤ x5 then
    (f_X10_relayOf_103 FU x1 x2 x3 x4 0 0 σ)
    else
    (gd (inb x5 9)
      (f_X10_relayOf_77 n x1 x2 x3 x4 (x5 + 1) (sI σ 65 x5.toNatClampNeg (-1)))))
def f_X10_relayOf_68 (k11 : Int32 → Int32 → Int32 → Int32 → Int32 → St → Option (Int32 × St)) (x1 : Int32) (x2 : Int32) (x3 : Int32) (x4 : Int32) (x5 : Int32) (σ : St) : Option (Int32 × St) :=
  (k11 x1 x2 x3 x4 (x5 + 1) σ)
def f_X10_relayOf_44 (k11 : Int32 → Int32 → Int32 → Int32 → Int32 → St → Option (Int32 × St)) (x1 : Int32) (x2 : Int32) (x3 : Int32) (x4 : Int32) (x5 : Int32) (σ : St) : Option (Int32 × St) :=
  (gd (inb x5 12)
    (gd (inb (0 + x5) 19)
      (gd (inb x5 12)
        (f_X10_relayOf_68 k11 x1 x2 x3 x4 x5 (sI (sI σ 63 x5.toNatClampNeg 0) 64 x5.toNatClampNeg (gI (sI σ 63 x5.toNatClampNeg 0) 46 (0 + x5).toNatClampNeg))))))
def f_X10_relayOf_11 : Nat → Int32 → Int32 → Int32 → Int32 → Int32 → St → Option (Int32 × St)
  | 0, _, _, _, _, _, _ => none
  | n + 1, x1, x2, x3, x4, x5, σ =>
    (if (gI σ 38 1) ≤ x5 then
    (f_X10_relayOf_77 FU x1 x2 x3 x4 0 σ)
    else
    (gd (inb x5 12)
      (gd (inb x5 12)
        (gd (inb x5 12)
          (f_X10_relayOf_44 (f_X10_relayOf_11 n) x1 x2 x3 x4 x5 (sI (sI (sI σ 58 x5.toNatClampNeg (-1)) 61 x5.toNatClampNeg 0) 62 x5.toNatClampNeg 0))))))
def f_X10_relayOf (x1 : Int32) (x2 : Int32) (x3 : Int32) (σ : St) : Option (Int32 × St) :=
  ((f_X10_highest x1.toInt64 σ).bind fun p1 =>
    (f_X10_relayOf_11 FU x1 x2 x3 p1.1 0 p1.2))
def f_X10_relay_45 (y0 : Int32) (σ : St) : Option (Int32 × St) :=
  (some (y0, σ))
def f_X10_relay_44 (σ : St) : Option (Int32 × St) :=
  (f_X10_relay_45 (-1) σ)
def f_X10_relay (x1 : Int32) (x2 : Int32) (x3 : Int32) (σ : St) : Option (Int32 × St) :=
  ((f_X10_in x1.toInt64 0 999999999 σ).bind fun p1 =>
    (if p1.1 = 0 then
      (f_X10_relay_44 p1.2)
      else
      ((f_X10_in x2.toInt64 1 9 p1.2).bind fun p2 =>
        (if p2.1 = 0 then
          (f_X10_relay_44 p2.2)
          else
          ((f_X10_in x3.toInt64 0 1 p2.2).bind fun p3 =>
            (if p3.1 = 0 then
              (f_X10_relay_44 p3.2)
              else
              ((f_X10_relayOf x1 x2 x3 p3.2).bind fun p4 =>
                (f_X10_relay_45 p4.1 p4.2))))))))
def f_X10_ranked_50 (y0 : Int32) (σ : St) : Option (Int32 × St) :=
  (some (y0, σ))
def f_X10_ranked_49 (σ : St) : Option (Int32 × St) :=
  (f_X10_ranked_50 (-1) σ)
def f_X10_ranked (x1 : Int32) (x2 : Int32) (σ : St) : Option (Int32 × St) :=
  ((f_X10_in x1.toInt64 0 999999999 σ).bind fun p1 =>
    (if p1.1 = 0 then
      (f_X10_ranked_49 p1.2)
      else
      ((f_X10_in x2.toInt64 1 9 p1.2).bind fun p2 =>
        (if p2.1 = 0 then
          (f_X10_ranked_49 p2.2)
          else
          ((f_X10_relayOf x1 x2 1 p2.2).bind fun p3 =>
            ((f_X10_relayOf x1 x2 0 p3.2).bind fun p4 =>
              (if p4.1 ≤ p3.1 then
                (f_X10_ranked_50 0 p4.2)
                else
                (f_X10_ranked_50 1 p4.2))))))))
def f_X10_walksTwice_48 (k10 : Int64 → Int32 → Int32 → Int64 → Int32 → St → Option (Int32 × St)) (x0 : Int64) (x2 : Int32) (x3 : Int32) (x4 : Int64) (x6 : Int32) (σ : St) : Option (Int32 × St) :=
  (k10 x0 x2 x3 x4 (x6 + (-1)) σ)
def f_X10_walksTwice_41 (k10 : Int64 → Int32 → Int32 → Int64 → Int32 → St → Option (Int32 × St)) (x0 : Int64) (x2 : Int32) (x3 : Int32) (x4 : Int64) (x6 : Int32) (x7 : Int64) (σ : St) : Option (Int32 × St) :=
  (f_X10_walksTwice_48 k10 x0 x2 x3 (x4 + x7) x6 σ)
def f_X10_walksTwice_30 (k10 : Int64 → Int32 → Int32 → Int64 → Int32 → St → Option (Int32 × St)) (x0 : Int64) (x2 : Int32) (x3 : Int32) (x4 : Int64) (x6 : Int32) (x7 : Int64) (σ : St) : Option (Int32 × St) :=
  ((f_X10_walksOf x4 x7 x2 σ).bind fun p3 =>
    (f_X10_walksTwice_41 k10 x0 x2 (x3 + p3.1) x4 x6 x7 p3.2))
def f_X10_walksTwice_10 : Nat → Int64 → Int32 → Int32 → Int64 → Int32 → St → Option (Int32 × St)
  | 0, _, _, _, _, _, _ => none
  | n + 1, x0, x2, x3, x4, x6, σ =>
    (if x6 < 0 then
    (some (x3, σ))
    else
    ((f_X10_digitOf x0 x6 σ).bind fun p1 =>
      ((f_X10_ten x6 p1.2).bind fun p2 =>
        (f_X10_walksTwice_30 (f_X10_walksTwice_10 n) x0 x2 x3 x4 x6 (p1.1.toInt64 * p2.1) p2.2))))
def f_X10_walksTwice (x0 : Int64) (x2 : Int32) (σ : St) : Option (Int32 × St) :=
  (f_X10_walksTwice_10 FU x0 x2 0 x0 (x2 - 1) σ)
def f_X10_relax_53 (y0 : Int32) (y1 : Int32) (σ : St) : Option (St) :=
  (gd (inb y1 1000)
    (some (sI σ 67 y1.toNatClampNeg y0)))
def f_X10_relax_42 (x4 : Int32) (y0 : Int32) (σ : St) : Option (St) :=
  (f_X10_relax_53 x4 y0 σ)
def f_X10_relax_16 (x2 : Int32) (x4 : Int32) (σ : St) : Option (St) :=
  (gd (inb x2 1000)
    (if (gI σ 67 x2.toNatClampNeg) = (-1) then
      (f_X10_relax_42 x4 x2 σ)
      else
      (gd (inb x2 1000)
        (if (gI σ 67 x2.toNatClampNeg) ≤ x4 then
          (gd (inb x2 1000)
            (f_X10_relax_53 (gI σ 67 x2.toNatClampNeg) x2 σ))
          else
          (f_X10_relax_42 x4 x2 σ)))))
def f_X10_relax (x1 : Int32) (x2 : Int32) (x3 : Int32) (σ : St) : Option (St) :=
  (gd (inb x1 1000)
    (f_X10_relax_16 x2 (((gI σ 67 x1.toNatClampNeg) + (1000 * x3)) + 1) σ))
def f_X10_makeAll_206 (k39 : Int32 → St → Option (St)) (x1 : Int32) (σ : St) : Option (St) :=
  (k39 (x1 + 1) σ)
def f_X10_makeAll_171 (k39 : Int32 → St → Option (St)) (k117 : Int32 → Int32 → Int32 → St → Option (St)) (k125 : Int32 → Int32 → Int32 → Int32 → St → Option (St)) (x1 : Int32) (x2 : Int32) (x3 : Int32) (x4 : Int32) (σ : St) : Option (St) :=
  (k125 x1 x2 x3 (x4 + 1) σ)
def f_X10_makeAll_143 (k39 : Int32 → St → Option (St)) (k117 : Int32 → Int32 → Int32 → St → Option (St)) (k125 : Int32 → Int32 → Int32 → Int32 → St → Option (St)) (x1 : Int32) (x2 : Int32) (x3 : Int32) (x4 : Int32) (x5 : Int32) (σ : St) : Option (St) :=
  (if (999 : Int32) < (x2 + x5) then
    (f_X10_makeAll_171 k39 k117 k125 x1 x2 x3 x4 σ)
    else
    ((f_X10_walksOf x2.toInt64 x5.toInt64 3 σ).bind fun p4 =>
      ((f_X10_relax x2 (x2 + x5) p4.1 p4.2).bind fun p5 =>
        (f_X10_makeAll_171 k39 k117 k125 x1 x2 x3 x4 p5))))
def f_X10_makeAll_125 (k39 : Int32 → St → Option (St)) (k117 : Int32 → Int32 → Int32 → St → Option (St)) : Nat → Int32 → Int32 → Int32 → Int32 → St → Option (St)
  | 0, _, _, _, _, _ => none
  | n + 1, x1, x2, x3, x4, σ =>
    (if (9 : Int32) < x4 then
    (k117 x1 x2 (x3 + 1) σ)
    else
    ((f_X10_ten x3 σ).bind fun p3 =>
      (f_X10_makeAll_143 k39 k117 (f_X10_makeAll_125 k39 k117 n) x1 x2 x3 x4 ((x4.toInt64 * p3.1).toInt32) p3.2)))
def f_X10_makeAll_117 (k39 : Int32 → St → Option (St)) : Nat → Int32 → Int32 → Int32 → St → Option (St)
  | 0, _, _, _, _ => none
  | n + 1, x1, x2, x3, σ =>
    (if (3 : Int32) ≤ x3 then
    (if (999 : Int32) < (2 * x2) then
      (f_X10_makeAll_206 k39 x1 σ)
      else
      ((f_X10_walksTwice x2.toInt64 3 σ).bind fun p1 =>
        ((f_X10_relax x2 (2 * x2) p1.1 p1.2).bind fun p2 =>
          (f_X10_makeAll_206 k39 x1 p2))))
    else
    (f_X10_makeAll_125 k39 (f_X10_makeAll_117 k39 n) FU x1 x2 x3 1 σ))
def f_X10_makeAll_101 (k39 : Int32 → St → Option (St)) (k50 : Int32 → Int32 → Int32 → St → Option (St)) (x1 : Int32) (x3 : Int32) (y0 : Int32) (σ : St) : Option (St) :=
  (k50 x1 y0 (x3 + 1) σ)
def f_X10_makeAll_100 (k39 : Int32 → St → Option (St)) (k50 : Int32 → Int32 → Int32 → St → Option (St)) (x1 : Int32) (x2 : Int32) (x3 : Int32) (σ : St) : Option (St) :=
  (f_X10_makeAll_101 k39 k50 x1 x3 x2 σ)
def f_X10_makeAll_96 (k39 : Int32 → St → Option (St)) (k50 : Int32 → Int32 → Int32 → St → Option (St)) (x1 : Int32) (x3 : Int32) (σ : St) : Option (St) :=
  (f_X10_makeAll_101 k39 k50 x1 x3 x3 σ)
def f_X10_makeAll_50 (k39 : Int32 → St → Option (St)) : Nat → Int32 → Int32 → Int32 → St → Option (St)
  | 0, _, _, _, _ => none
  | n + 1, x1, x2, x3, σ =>
    (if (1000 : Int32) ≤ x3 then
    (gd (inb x2 1000)
      (f_X10_makeAll_117 k39 FU x1 x2 0 (sI σ 68 x2.toNatClampNeg 1)))
    else
    (gd (inb x3 1000)
      (if (gI σ 68 x3.toNatClampNeg) = 0 then
        (gd (inb x3 1000)
          (if (gI σ 67 x3.toNatClampNeg) = (-1) then
            (f_X10_makeAll_100 k39 (f_X10_makeAll_50 k39 n) x1 x2 x3 σ)
            else
            (if x2 = (-1) then
              (f_X10_makeAll_96 k39 (f_X10_makeAll_50 k39 n) x1 x3 σ)
              else
              (gd (inb x3 1000)
                (gd (inb x2 1000)
                  (if (gI σ 67 x2.toNatClampNeg) ≤ (gI σ 67 x3.toNatClampNeg) then
                    (f_X10_makeAll_100 k39 (f_X10_makeAll_50 k39 n) x1 x2 x3 σ)
                    else
                    (f_X10_makeAll_96 k39 (f_X10_makeAll_50 k39 n) x1 x3 σ)))))))
        else
        (f_X10_makeAll_100 k39 (f_X10_makeAll_50 k39 n) x1 x2 x3 σ))))
def f_X10_makeAll_39 : Nat → Int32 → St → Option (St)
  | 0, _, _ => none
  | n + 1, x1, σ =>
    (if (1000 : Int32) ≤ x1 then
    (some σ)
    else
    (f_X10_makeAll_50 (f_X10_makeAll_39 n) FU x1 (-1) 0 σ))
def f_X10_makeAll_23 (k2 : Int32 → St → Option (St)) (x1 : Int32) (y0 : Int32) (y1 : Int32) (σ : St) : Option (St) :=
  (gd (inb y1 1000)
    (gd (inb x1 1000)
      (k2 (x1 + 1) (sI (sI σ 67 y1.toNatClampNeg y0) 68 x1.toNatClampNeg 0))))
def f_X10_makeAll_2 : Nat → Int32 → St → Option (St)
  | 0, _, _ => none
  | n + 1, x1, σ =>
    (if (1000 : Int32) ≤ x1 then
    (f_X10_makeAll_39 FU 0 σ)
    else
    (if x1 = 0 then
      (f_X10_makeAll_23 (f_X10_makeAll_2 n) x1 0 x1 σ)
      else
      (f_X10_makeAll_23 (f_X10_makeAll_2 n) x1 (-1) x1 σ)))
def f_X10_makeAll (σ : St) : Option (St) :=
  (f_X10_makeAll_2 FU 0 σ)
def f_X10_make_22 (σ : St) : Option (Int32 × St) :=
  (some ((-1), σ))
def f_X10_make_55 (y0 : Int32) (σ : St) : Option (Int32 × St) :=
  (some (y0, σ))
def f_X10_make (x1 : Int32) (x2 : Int32) (σ : St) : Option (Int32 × St) :=
  ((f_X10_in x1.toInt64 0 999 σ).bind fun p1 =>
    (if p1.1 = 0 then
      (f_X10_make_22 p1.2)
      else
      ((f_X10_in x2.toInt64 0 1 p1.2).bind fun p2 =>
        (if p2.1 = 0 then
          (f_X10_make_22 p2.2)
          else
          ((f_X10_makeAll p2.2).bind fun p3 =>
            (if x2 = 0 then
              (gd (inb x1 1000)
                (f_X10_make_55 ((gI p3 67 x1.toNatClampNeg) / 1000) p3))
              else
              (gd (inb x1 1000)
                (f_X10_make_55 (rmI (gI p3 67 x1.toNatClampNeg) 1000) p3))))))))
def f_X10_kids_13 (σ : St) : Option (Int32 × St) :=
  (some ((-1), σ))
def f_X10_kids_95 (k56 : Int32 → Int32 → Int32 → St → Option (Int32 × St)) (x1 : Int32) (x2 : Int32) (x3 : Int32) (σ : St) : Option (Int32 × St) :=
  (k56 x1 x2 (x3 + 1) σ)
def f_X10_kids_84 (k56 : Int32 → Int32 → Int32 → St → Option (Int32 × St)) (x1 : Int32) (x2 : Int32) (x3 : Int32) (y0 : Int32) (y1 : Int32) (y2 : Int32) (σ : St) : Option (Int32 × St) :=
  (gd (inb y2 12)
    (gd (inb x3 12)
      (f_X10_kids_95 k56 x1 (x2 + (gI (sI σ 44 y2.toNatClampNeg (y1 + y0)) 44 x3.toNatClampNeg)) x3 (sI σ 44 y2.toNatClampNeg (y1 + y0)))))
def f_X10_kids_56 : Nat → Int32 → Int32 → Int32 → St → Option (Int32 × St)
  | 0, _, _, _, _ => none
  | n + 1, x1, x2, x3, σ =>
    (if (gI σ 38 1) ≤ x3 then
    (some (x2, σ))
    else
    (gd (inb x3 12)
      ((f_X10_has x1 x3 σ).bind fun p1 =>
        (if p1.1 = 0 then
          (f_X10_kids_84 (f_X10_kids_56 n) x1 x2 x3 0 (gI σ 44 x3.toNatClampNeg) x3 p1.2)
          else
          (f_X10_kids_84 (f_X10_kids_56 n) x1 x2 x3 1 (gI σ 44 x3.toNatClampNeg) x3 p1.2)))))
def f_X10_kids_48 (k19 : Int32 → Int32 → Int32 → St → Option (Int32 × St)) (x1 : Int32) (x2 : Int32) (x3 : Int32) (σ : St) : Option (Int32 × St) :=
  (k19 x1 x2 (x3 + 1) σ)
def f_X10_kids_19 : Nat → Int32 → Int32 → Int32 → St → Option (Int32 × St)
  | 0, _, _, _, _ => none
  | n + 1, x1, x2, x3, σ =>
    (if (gI σ 38 1) ≤ x3 then
    (f_X10_kids_56 FU x1 x2 0 σ)
    else
    ((f_X10_has x1 x3 σ).bind fun p2 =>
      (if p2.1 = 0 then
        (f_X10_kids_48 (f_X10_kids_19 n) x1 x2 x3 p2.2)
        else
        (gd (inb x3 12)
          (if (gI p2.2 44 x3.toNatClampNeg) = 12 then
            (some ((-1), p2.2))
            else
            (f_X10_kids_48 (f_X10_kids_19 n) x1 x2 x3 p2.2))))))
def f_X10_kids (x1 : Int32) (σ : St) : Option (Int32 × St) :=
  (if x1 ≤ 0 then
    (f_X10_kids_13 σ)
    else
    (if (shrI x1 (gI σ 38 1)) = 0 then
      (f_X10_kids_19 FU x1 0 0 σ)
      else
      (f_X10_kids_13 σ)))
def f_X10_image_68 (σ : St) : Option (Int32 × St) :=
  (some ((gI (sI (sJ σ 38 55 (gJ σ 38 18)) 38 56 1) 46 (18 : Int32).toNatClampNeg), (sI (sJ σ 38 55 (gJ σ 38 18)) 38 56 1)))
def f_X10_image_28 : Nat → Int32 → St → Option (Int32 × St)
  | 0, _, _ => none
  | n + 1, x1, σ =>
    (if (12 : Int32) ≤ x1 then
    (f_X10_image_68 (sI (sI σ 38 53 (gI σ 38 19)) 38 54 (gI (sI σ 38 53 (gI σ 38 19)) 38 20)))
    else
    (gd (inb x1 12)
      (gd (inb x1 12)
        (f_X10_image_28 n (x1 + 1) (sI σ 70 x1.toNatClampNeg (gI σ 44 x1.toNatClampNeg))))))
def f_X10_image_2 : Nat → Int32 → St → Option (Int32 × St)
  | 0, _, _ => none
  | n + 1, x1, σ =>
    (if (19 : Int32) ≤ x1 then
    (f_X10_image_28 FU 0 σ)
    else
    (gd (inb x1 19)
      (gd (inb x1 19)
        (f_X10_image_2 n (x1 + 1) (sI σ 69 x1.toNatClampNeg (gI σ 46 x1.toNatClampNeg))))))
def f_X10_image (σ : St) : Option (Int32 × St) :=
  (f_X10_image_2 FU 0 σ)
def f_X10_back_77 (σ : St) : Option (Int32 × St) :=
  (some ((gI (sI (sJ σ 38 18 (gJ σ 38 55)) 38 27 0) 46 (18 : Int32).toNatClampNeg), (sI (sJ σ 38 18 (gJ σ 38 55)) 38 27 0)))
def f_X10_back_37 : Nat → Int32 → St → Option (Int32 × St)
  | 0, _, _ => none
  | n + 1, x1, σ =>
    (if (12 : Int32) ≤ x1 then
    (f_X10_back_77 (sI (sI σ 38 19 (gI σ 38 53)) 38 20 (gI (sI σ 38 19 (gI σ 38 53)) 38 54)))
    else
    (gd (inb x1 12)
      (gd (inb x1 12)
        (f_X10_back_37 n (x1 + 1) (sI σ 44 x1.toNatClampNeg (gI σ 70 x1.toNatClampNeg))))))
def f_X10_back_11 : Nat → Int32 → St → Option (Int32 × St)
  | 0, _, _ => none
  | n + 1, x1, σ =>
    (if (19 : Int32) ≤ x1 then
    (f_X10_back_37 FU 0 σ)
    else
    (gd (inb x1 19)
      (gd (inb x1 19)
        (f_X10_back_11 n (x1 + 1) (sI σ 46 x1.toNatClampNeg (gI σ 69 x1.toNatClampNeg))))))
def f_X10_back (σ : St) : Option (Int32 × St) :=
  (if (gI σ 38 56) = 0 then
    (some ((-1), σ))
    else
    (f_X10_back_11 FU 0 σ))
def f_X10_count (x1 : Int32) (σ : St) : Option (Int32 × St) :=
  (if x1 = 0 then
    (some ((gI σ 38 1), σ))
    else if x1 = 1 then
    (some ((gI σ 38 10), σ))
    else if x1 = 2 then
    (some ((gI σ 38 3), σ))
    else if x1 = 3 then
    (some ((gI σ 38 33), σ))
    else if x1 = 4 then
    (some ((gI σ 38 27), σ))
    else 
    (some ((-1), σ)))
def f_L_cell_13 (ar : Nat) (ln_ : Nat) (y0 : Int32) (σ : St) : Option (Int32 × St) :=
  (some (y0, σ))
def f_L_cell (ar : Nat) (ln_ : Nat) (x1 : Int32) (σ : St) : Option (Int32 × St) :=
  (if (Int32.ofNat ln_) ≤ x1 then
    (f_L_cell_13 ar ln_ 0 σ)
    else
    (gd (inb x1 ln_)
      (f_L_cell_13 ar ln_ (gI σ ar x1.toNatClampNeg) σ)))
