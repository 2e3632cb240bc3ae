def g_L_1876 (sc : Nat × (Nat → Int32)) (k33 : Int32 → En → St → Option (Int32 × En × St)) (x4 : Int32) (X : En) (σ : St) : Option (Int32 × En × St) :=
  (k33 (x4 + 6) X σ)
def g_L_252 (sc : Nat × (Nat → Int32)) (k33 : Int32 → En → St → Option (Int32 × En × St)) (x4 : Int32) (X : En) (σ : St) : Option (Int32 × En × St) :=
  (gd (inb (x4 + 1) sc.1) (gd (inb (x4 + 2) sc.1) (gd (inb (x4 + 3) sc.1) (gd (inb (x4 + 4) sc.1) (gd (inb (x4 + 5) sc.1) ((f_X9_feed (sc.2 (x4 + 1).toNatClampNeg) (sc.2 (x4 + 2).toNatClampNeg) (sc.2 (x4 + 3).toNatClampNeg) (sc.2 (x4 + 4).toNatClampNeg) (sc.2 (x4 + 5).toNatClampNeg) σ).bind fun p8 => (gd (inb (x4 + 1) sc.1) (gd (inb (x4 + 2) sc.1) (gd (inb (x4 + 3) sc.1) (gd (inb (x4 + 4) sc.1) (gd (inb (x4 + 5) sc.1) ((f_X10_feed (sc.2 (x4 + 1).toNatClampNeg) (sc.2 (x4 + 2).toNatClampNeg) (sc.2 (x4 + 3).toNatClampNeg) (sc.2 (x4 + 4).toNatClampNeg) (sc.2 (x4 + 5).toNatClampNeg) p8.2).bind fun p14 => (if p8.1 = p14.1 then
 (g_L_1876 sc k33 x4 X p14.2)
 else
 (some (0, X, p14.2)))))))))))))))
def g_L_325 (sc : Nat × (Nat → Int32)) (k33 : Int32 → En → St → Option (Int32 × En × St)) (x4 : Int32) (X : En) (σ : St) : Option (Int32 × En × St) :=
  (gd (inb (x4 + 1) sc.1) ((f_X9_end (sc.2 (x4 + 1).toNatClampNeg) σ).bind fun p18 => (gd (inb (x4 + 1) sc.1) ((f_X10_end (sc.2 (x4 + 1).toNatClampNeg) p18.2).bind fun p20 => (if p18.1 = p20.1 then
 (g_L_1876 sc k33 x4 X p20.2)
 else
 (some (0, X, p20.2)))))))
def g_L_350 (sc : Nat × (Nat → Int32)) (k33 : Int32 → En → St → Option (Int32 × En × St)) (x4 : Int32) (X : En) (σ : St) : Option (Int32 × En × St) :=
  ((g_X9_fault X σ).bind fun p23 => ((f_X10_fault p23.2.2).bind fun p24 => (if p23.1 = p24.1 then
 (g_L_1876 sc k33 x4 p23.2.1 p24.2)
 else
 (some (0, p23.2.1, p24.2)))))
def g_L_363 (sc : Nat × (Nat → Int32)) (k33 : Int32 → En → St → Option (Int32 × En × St)) (x4 : Int32) (X : En) (σ : St) : Option (Int32 × En × St) :=
  ((g_X9_text X σ).bind fun p27 => ((f_X10_text p27.2.2).bind fun p28 => (if p27.1 = p28.1 then
 (g_L_1876 sc k33 x4 p27.2.1 p28.2)
 else
 (some (0, p27.2.1, p28.2)))))
def g_L_453 (sc : Nat × (Nat → Int32)) (k33 : Int32 → En → St → Option (Int32 × En × St)) (x4 : Int32) (X : En) (σ : St) : Option (Int32 × En × St) :=
  (g_L_1876 sc k33 x4 X σ)
def g_L_376 (sc : Nat × (Nat → Int32)) (k33 : Int32 → En → St → Option (Int32 × En × St)) (x4 : Int32) (X : En) (σ : St) : Option (Int32 × En × St) :=
  (gd (inb (x4 + 1) sc.1) (gd (inb (x4 + 2) sc.1) (gd (inb (x4 + 3) sc.1) ((g_L_step (sc.2 (x4 + 1).toNatClampNeg) (sc.2 (x4 + 2).toNatClampNeg) (sc.2 (x4 + 3).toNatClampNeg) X σ).bind fun p34 => (gd (inb (x4 + 1) sc.1) (gd (inb (x4 + 2) sc.1) (gd (inb (x4 + 3) sc.1) ((f_X10_step (sc.2 (x4 + 1).toNatClampNeg) (sc.2 (x4 + 2).toNatClampNeg) (sc.2 (x4 + 3).toNatClampNeg) p34.2.2).bind fun p38 => ((f_X10_thrown p38.2).bind fun p39 => (if p39.1 = p34.1 then
 (if p34.1 = 0 then
 (gd (inb 0 1) (if (lg_cmp (gJ p39.2 71 (0 : Int32).toNatClampNeg) p38.1.toInt64) = 0 then
 (g_L_453 sc k33 x4 p34.2.1 p39.2)
 else
 (some (0, p34.2.1, p39.2))))
 else
 (g_L_453 sc k33 x4 p34.2.1 p39.2))
 else
 (some (0, p34.2.1, p39.2))))))))))))
def g_L_456 (sc : Nat × (Nat → Int32)) (k33 : Int32 → En → St → Option (Int32 × En × St)) (x4 : Int32) (X : En) (σ : St) : Option (Int32 × En × St) :=
  (gd (inb (x4 + 1) sc.1) (gd (inb (x4 + 2) sc.1) ((f_X9_set (sc.2 (x4 + 1).toNatClampNeg) (sc.2 (x4 + 2).toNatClampNeg) σ).bind fun p47 => (gd (inb (x4 + 1) sc.1) (gd (inb (x4 + 2) sc.1) ((f_X10_set (sc.2 (x4 + 1).toNatClampNeg) (sc.2 (x4 + 2).toNatClampNeg) p47.2).bind fun p50 => (if p47.1 = p50.1 then
 (g_L_1876 sc k33 x4 X p50.2)
 else
 (some (0, X, p50.2)))))))))
def g_L_493 (sc : Nat × (Nat → Int32)) (k33 : Int32 → En → St → Option (Int32 × En × St)) (x4 : Int32) (X : En) (σ : St) : Option (Int32 × En × St) :=
  (gd (inb (x4 + 1) sc.1) (gd (inb (x4 + 2) sc.1) ((f_X9_goats (sc.2 (x4 + 1).toNatClampNeg) (sc.2 (x4 + 2).toNatClampNeg) σ).bind fun p55 => (gd (inb (x4 + 1) sc.1) (gd (inb (x4 + 2) sc.1) ((f_X10_goats (sc.2 (x4 + 1).toNatClampNeg) (sc.2 (x4 + 2).toNatClampNeg) p55.2).bind fun p58 => (if p55.1 = p58.1 then
 (g_L_1876 sc k33 x4 X p58.2)
 else
 (some (0, X, p58.2)))))))))
def g_L_530 (sc : Nat × (Nat → Int32)) (k33 : Int32 → En → St → Option (Int32 × En × St)) (x4 : Int32) (X : En) (σ : St) : Option (Int32 × En × St) :=
  (gd (inb (x4 + 1) sc.1) (gd (inb (x4 + 2) sc.1) (gd (inb (x4 + 3) sc.1) ((f_X9_echo (sc.2 (x4 + 1).toNatClampNeg) (sc.2 (x4 + 2).toNatClampNeg) (sc.2 (x4 + 3).toNatClampNeg) σ).bind fun p64 => (gd (inb (x4 + 1) sc.1) (gd (inb (x4 + 2) sc.1) (gd (inb (x4 + 3) sc.1) ((f_X10_echo (sc.2 (x4 + 1).toNatClampNeg) (sc.2 (x4 + 2).toNatClampNeg) (sc.2 (x4 + 3).toNatClampNeg) p64.2).bind fun p68 => (if p64.1 = p68.1 then
 (g_L_1876 sc k33 x4 X p68.2)
 else
 (some (0, X, p68.2)))))))))))
def g_L_579 (sc : Nat × (Nat → Int32)) (k33 : Int32 → En → St → Option (Int32 × En × St)) (x4 : Int32) (X : En) (σ : St) : Option (Int32 × En × St) :=
  (gd (inb (x4 + 1) sc.1) (gd (inb (x4 + 2) sc.1) ((f_X9_wind ((shlJ ((sc.2 (x4 + 1).toNatClampNeg).toInt64) 32) ||| (((sc.2 (x4 + 2).toNatClampNeg).toInt64) &&& 4294967295)) σ).bind fun p73 => (gd (inb (x4 + 1) sc.1) (gd (inb (x4 + 2) sc.1) ((f_X10_wind ((shlJ ((sc.2 (x4 + 1).toNatClampNeg).toInt64) 32) ||| (((sc.2 (x4 + 2).toNatClampNeg).toInt64) &&& 4294967295)) p73).bind fun p76 => (g_L_1876 sc k33 x4 X p76)))))))
def g_L_679 (sc : Nat × (Nat → Int32)) (k33 : Int32 → En → St → Option (Int32 × En × St)) (x4 : Int32) (y0 : Int32) (y1 : Int32) (y3 : Int32) (X : En) (σ : St) : Option (Int32 × En × St) :=
  ((f_X10_add y1 y0 σ).bind fun p83 => (if y3 = p83.1 then
 (g_L_1876 sc k33 x4 X p83.2)
 else
 (some (0, X, p83.2))))
def g_L_655 (sc : Nat × (Nat → Int32)) (k33 : Int32 → En → St → Option (Int32 × En × St)) (x4 : Int32) (y0 : Int32) (y1 : Int32) (X : En) (σ : St) : Option (Int32 × En × St) :=
  ((f_X9_add y1 y0 σ).bind fun p80 => (gd (inb (x4 + 1) sc.1) (gd (inb (x4 + 2) sc.1) (if (sc.2 (x4 + 2).toNatClampNeg) = 0 then
 (g_L_679 sc k33 x4 0 (sc.2 (x4 + 1).toNatClampNeg) p80.1 X p80.2)
 else
 (g_L_679 sc k33 x4 1 (sc.2 (x4 + 1).toNatClampNeg) p80.1 X p80.2)))))
def g_L_634 (sc : Nat × (Nat → Int32)) (k33 : Int32 → En → St → Option (Int32 × En × St)) (x4 : Int32) (X : En) (σ : St) : Option (Int32 × En × St) :=
  (gd (inb (x4 + 1) sc.1) (gd (inb (x4 + 2) sc.1) (if (sc.2 (x4 + 2).toNatClampNeg) = 0 then
 (g_L_655 sc k33 x4 0 (sc.2 (x4 + 1).toNatClampNeg) X σ)
 else
 (g_L_655 sc k33 x4 1 (sc.2 (x4 + 1).toNatClampNeg) X σ))))
def g_L_687 (sc : Nat × (Nat → Int32)) (k33 : Int32 → En → St → Option (Int32 × En × St)) (x4 : Int32) (X : En) (σ : St) : Option (Int32 × En × St) :=
  (gd (inb (x4 + 1) sc.1) ((f_X9_act (sc.2 (x4 + 1).toNatClampNeg) σ).bind fun p89 => (gd (inb (x4 + 1) sc.1) ((f_X10_act (sc.2 (x4 + 1).toNatClampNeg) p89.2).bind fun p91 => (if p89.1 = p91.1 then
 (g_L_1876 sc k33 x4 X p91.2)
 else
 (some (0, X, p91.2)))))))
def g_L_712 (sc : Nat × (Nat → Int32)) (k33 : Int32 → En → St → Option (Int32 × En × St)) (x4 : Int32) (X : En) (σ : St) : Option (Int32 × En × St) :=
  (gd (inb (x4 + 1) sc.1) ((g_X9_run (sc.2 (x4 + 1).toNatClampNeg) X σ).bind fun p95 => (gd (inb (x4 + 1) sc.1) ((f_X10_run (sc.2 (x4 + 1).toNatClampNeg) p95.2.2).bind fun p97 => (if p95.1 = p97.1 then
 (g_L_1876 sc k33 x4 p95.2.1 p97.2)
 else
 (some (0, p95.2.1, p97.2)))))))
def g_L_737 (sc : Nat × (Nat → Int32)) (k33 : Int32 → En → St → Option (Int32 × En × St)) (x4 : Int32) (X : En) (σ : St) : Option (Int32 × En × St) :=
  ((f_X9_undo σ).bind fun p100 => ((f_X10_undo p100.2).bind fun p101 => (if p100.1 = p101.1 then
 (g_L_1876 sc k33 x4 X p101.2)
 else
 (some (0, X, p101.2)))))
def g_L_750 (sc : Nat × (Nat → Int32)) (k33 : Int32 → En → St → Option (Int32 × En × St)) (x4 : Int32) (X : En) (σ : St) : Option (Int32 × En × St) :=
  (gd (inb (x4 + 1) sc.1) (gd (inb (x4 + 2) sc.1) ((f_X9_rope (sc.2 (x4 + 1).toNatClampNeg) (sc.2 (x4 + 2).toNatClampNeg) σ).bind fun p106 => (gd (inb (x4 + 1) sc.1) (gd (inb (x4 + 2) sc.1) ((f_X10_rope (sc.2 (x4 + 1).toNatClampNeg) (sc.2 (x4 + 2).toNatClampNeg) p106.2).bind fun p109 => (if p106.1 = p109.1 then
 (g_L_1876 sc k33 x4 X p109.2)
 else
 (some (0, X, p109.2)))))))))
def g_L_787 (sc : Nat × (Nat → Int32)) (k33 : Int32 → En → St → Option (Int32 × En × St)) (x4 : Int32) (X : En) (σ : St) : Option (Int32 × En × St) :=
  ((f_X9_number σ).bind fun p112 => ((f_X10_number p112.2).bind fun p113 => (if (lg_cmp p112.1 p113.1) = 0 then
 (g_L_1876 sc k33 x4 X p113.2)
 else
 (some (0, X, p113.2)))))
def g_L_801 (sc : Nat × (Nat → Int32)) (k33 : Int32 → En → St → Option (Int32 × En × St)) (x4 : Int32) (X : En) (σ : St) : Option (Int32 × En × St) :=
  (gd (inb (x4 + 1) sc.1) ((f_X9_told (sc.2 (x4 + 1).toNatClampNeg) σ).bind fun p117 => (gd (inb (x4 + 1) sc.1) ((f_X10_told (sc.2 (x4 + 1).toNatClampNeg) p117.2).bind fun p119 => (if p117.1 = p119.1 then
 (g_L_1876 sc k33 x4 X p119.2)
 else
 (some (0, X, p119.2)))))))
def g_L_826 (sc : Nat × (Nat → Int32)) (k33 : Int32 → En → St → Option (Int32 × En × St)) (x4 : Int32) (X : En) (σ : St) : Option (Int32 × En × St) :=
  (gd (inb (x4 + 1) sc.1) (gd (inb (x4 + 2) sc.1) ((f_X9_done (sc.2 (x4 + 1).toNatClampNeg) (sc.2 (x4 + 2).toNatClampNeg) σ).bind fun p124 => (gd (inb (x4 + 1) sc.1) (gd (inb (x4 + 2) sc.1) ((f_X10_done (sc.2 (x4 + 1).toNatClampNeg) (sc.2 (x4 + 2).toNatClampNeg) p124.2).bind fun p127 => (if p124.1 = p127.1 then
 (g_L_1876 sc k33 x4 X p127.2)
 else
 (some (0, X, p127.2)))))))))
def g_L_908 (sc : Nat × (Nat → Int32)) (k33 : Int32 → En → St → Option (Int32 × En × St)) (x4 : Int32) (y0 : Int32) (y1 : Int32) (y3 : Int32) (X : En) (σ : St) : Option (Int32 × En × St) :=
  ((f_X10_two y1 y0 σ).bind fun p135 => (if y3 = p135.1 then
 (g_L_1876 sc k33 x4 X p135.2)
 else
 (some (0, X, p135.2))))
def g_L_884 (sc : Nat × (Nat → Int32)) (k33 : Int32 → En → St → Option (Int32 × En × St)) (x4 : Int32) (y0 : Int32) (y1 : Int32) (X : En) (σ : St) : Option (Int32 × En × St) :=
  ((f_X9_two y1 y0 σ).bind fun p132 => (gd (inb (x4 + 1) sc.1) (gd (inb (x4 + 2) sc.1) (if (sc.2 (x4 + 2).toNatClampNeg) = 0 then
 (g_L_908 sc k33 x4 0 (sc.2 (x4 + 1).toNatClampNeg) p132.1 X p132.2)
 else
 (g_L_908 sc k33 x4 1 (sc.2 (x4 + 1).toNatClampNeg) p132.1 X p132.2)))))
def g_L_863 (sc : Nat × (Nat → Int32)) (k33 : Int32 → En → St → Option (Int32 × En × St)) (x4 : Int32) (X : En) (σ : St) : Option (Int32 × En × St) :=
  (gd (inb (x4 + 1) sc.1) (gd (inb (x4 + 2) sc.1) (if (sc.2 (x4 + 2).toNatClampNeg) = 0 then
 (g_L_884 sc k33 x4 0 (sc.2 (x4 + 1).toNatClampNeg) X σ)
 else
 (g_L_884 sc k33 x4 1 (sc.2 (x4 + 1).toNatClampNeg) X σ))))
def g_L_961 (sc : Nat × (Nat → Int32)) (k33 : Int32 → En → St → Option (Int32 × En × St)) (x4 : Int32) (y0 : Int32) (y1 : Int32) (y3 : Int32) (X : En) (σ : St) : Option (Int32 × En × St) :=
  ((f_X10_fog y1 y0 σ).bind fun p145 => (if y3 = p145.1 then
 (g_L_1876 sc k33 x4 X p145.2)
 else
 (some (0, X, p145.2))))
def g_L_937 (sc : Nat × (Nat → Int32)) (k33 : Int32 → En → St → Option (Int32 × En × St)) (x4 : Int32) (y0 : Int32) (y1 : Int32) (X : En) (σ : St) : Option (Int32 × En × St) :=
  ((f_X9_fog y1 y0 σ).bind fun p142 => (gd (inb (x4 + 1) sc.1) (gd (inb (x4 + 2) sc.1) (if (sc.2 (x4 + 2).toNatClampNeg) = 0 then
 (g_L_961 sc k33 x4 0 (sc.2 (x4 + 1).toNatClampNeg) p142.1 X p142.2)
 else
 (g_L_961 sc k33 x4 1 (sc.2 (x4 + 1).toNatClampNeg) p142.1 X p142.2)))))
def g_L_916 (sc : Nat × (Nat → Int32)) (k33 : Int32 → En → St → Option (Int32 × En × St)) (x4 : Int32) (X : En) (σ : St) : Option (Int32 × En × St) :=
  (gd (inb (x4 + 1) sc.1) (gd (inb (x4 + 2) sc.1) (if (sc.2 (x4 + 2).toNatClampNeg) = 0 then
 (g_L_937 sc k33 x4 0 (sc.2 (x4 + 1).toNatClampNeg) X σ)
 else
 (g_L_937 sc k33 x4 1 (sc.2 (x4 + 1).toNatClampNeg) X σ))))
def g_L_969 (sc : Nat × (Nat → Int32)) (k33 : Int32 → En → St → Option (Int32 × En × St)) (x4 : Int32) (X : En) (σ : St) : Option (Int32 × En × St) :=
  (gd (inb (x4 + 1) sc.1) ((f_X9_bell (sc.2 (x4 + 1).toNatClampNeg) σ).bind fun p151 => (gd (inb (x4 + 1) sc.1) ((f_X10_bell (sc.2 (x4 + 1).toNatClampNeg) p151.2).bind fun p153 => (if p151.1 = p153.1 then
 (g_L_1876 sc k33 x4 X p153.2)
 else
 (some (0, X, p153.2)))))))
def g_L_994 (sc : Nat × (Nat → Int32)) (k33 : Int32 → En → St → Option (Int32 × En × St)) (x4 : Int32) (X : En) (σ : St) : Option (Int32 × En × St) :=
  (gd (inb (x4 + 1) sc.1) (gd (inb (x4 + 2) sc.1) ((g_X9_miss (sc.2 (x4 + 1).toNatClampNeg) (sc.2 (x4 + 2).toNatClampNeg) X σ).bind fun p158 => (gd (inb (x4 + 1) sc.1) (gd (inb (x4 + 2) sc.1) ((f_X10_miss (sc.2 (x4 + 1).toNatClampNeg) (sc.2 (x4 + 2).toNatClampNeg) p158.2.2).bind fun p161 => (if p158.1 = p161.1 then
 (g_L_1876 sc k33 x4 p158.2.1 p161.2)
 else
 (some (0, p158.2.1, p161.2)))))))))
def g_L_1031 (sc : Nat × (Nat → Int32)) (k33 : Int32 → En → St → Option (Int32 × En × St)) (x4 : Int32) (X : En) (σ : St) : Option (Int32 × En × St) :=
  (gd (inb (x4 + 1) sc.1) (gd (inb (x4 + 2) sc.1) (gd (inb (x4 + 3) sc.1) ((g_X9_span (sc.2 (x4 + 1).toNatClampNeg) (sc.2 (x4 + 2).toNatClampNeg) (sc.2 (x4 + 3).toNatClampNeg) X σ).bind fun p167 => (gd (inb (x4 + 1) sc.1) (gd (inb (x4 + 2) sc.1) (gd (inb (x4 + 3) sc.1) ((f_X10_span (sc.2 (x4 + 1).toNatClampNeg) (sc.2 (x4 + 2).toNatClampNeg) (sc.2 (x4 + 3).toNatClampNeg) p167.2.2).bind fun p171 => (if (lg_cmp p167.1 p171.1) = 0 then
 (g_L_1876 sc k33 x4 p167.2.1 p171.2)
 else
 (some (0, p167.2.1, p171.2)))))))))))
def g_L_1081 (sc : Nat × (Nat → Int32)) (k33 : Int32 → En → St → Option (Int32 × En × St)) (x4 : Int32) (X : En) (σ : St) : Option (Int32 × En × St) :=
  (gd (inb (x4 + 1) sc.1) (gd (inb (x4 + 2) sc.1) (gd (inb (x4 + 3) sc.1) ((f_X9_astray (sc.2 (x4 + 1).toNatClampNeg) (sc.2 (x4 + 2).toNatClampNeg) (sc.2 (x4 + 3).toNatClampNeg) σ).bind fun p177 => (gd (inb (x4 + 1) sc.1) (gd (inb (x4 + 2) sc.1) (gd (inb (x4 + 3) sc.1) ((f_X10_astray (sc.2 (x4 + 1).toNatClampNeg) (sc.2 (x4 + 2).toNatClampNeg) (sc.2 (x4 + 3).toNatClampNeg) p177.2).bind fun p181 => (if p177.1 = p181.1 then
 (g_L_1876 sc k33 x4 X p181.2)
 else
 (some (0, X, p181.2)))))))))))
def g_L_1130 (sc : Nat × (Nat → Int32)) (k33 : Int32 → En → St → Option (Int32 × En × St)) (x4 : Int32) (X : En) (σ : St) : Option (Int32 × En × St) :=
  (gd (inb (x4 + 1) sc.1) ((f_X9_harvest (sc.2 (x4 + 1).toNatClampNeg) σ).bind fun p185 => (gd (inb (x4 + 1) sc.1) ((f_X10_harvest (sc.2 (x4 + 1).toNatClampNeg) p185.2).bind fun p187 => (if p185.1 = p187.1 then
 (g_L_1876 sc k33 x4 X p187.2)
 else
 (some (0, X, p187.2)))))))
def g_L_1155 (sc : Nat × (Nat → Int32)) (k33 : Int32 → En → St → Option (Int32 × En × St)) (x4 : Int32) (X : En) (σ : St) : Option (Int32 × En × St) :=
  (gd (inb (x4 + 1) sc.1) ((g_X9_fewest (sc.2 (x4 + 1).toNatClampNeg) X σ).bind fun p191 => (gd (inb (x4 + 1) sc.1) ((f_X10_fewest (sc.2 (x4 + 1).toNatClampNeg) p191.2.2).bind fun p193 => (if p191.1 = p193.1 then
 (g_L_1876 sc k33 x4 p191.2.1 p193.2)
 else
 (some (0, p191.2.1, p193.2)))))))
def g_L_1180 (sc : Nat × (Nat → Int32)) (k33 : Int32 → En → St → Option (Int32 × En × St)) (x4 : Int32) (X : En) (σ : St) : Option (Int32 × En × St) :=
  (gd (inb (x4 + 1) sc.1) ((f_X9_added (sc.2 (x4 + 1).toNatClampNeg) σ).bind fun p197 => (gd (inb (x4 + 1) sc.1) ((f_X10_added (sc.2 (x4 + 1).toNatClampNeg) p197.2).bind fun p199 => (if p197.1 = p199.1 then
 (g_L_1876 sc k33 x4 X p199.2)
 else
 (some (0, X, p199.2)))))))
def g_L_1205 (sc : Nat × (Nat → Int32)) (k33 : Int32 → En → St → Option (Int32 × En × St)) (x4 : Int32) (X : En) (σ : St) : Option (Int32 × En × St) :=
  ((f_X9_near σ).bind fun p202 => ((f_X10_near p202.2).bind fun p203 => (if p202.1 = p203.1 then
 (g_L_1876 sc k33 x4 X p203.2)
 else
 (some (0, X, p203.2)))))
def g_L_1218 (sc : Nat × (Nat → Int32)) (k33 : Int32 → En → St → Option (Int32 × En × St)) (x4 : Int32) (X : En) (σ : St) : Option (Int32 × En × St) :=
  (gd (inb (x4 + 1) sc.1) (gd (inb (x4 + 2) sc.1) (gd (inb (x4 + 3) sc.1) (gd (inb (x4 + 4) sc.1) ((f_X9_product (sc.2 (x4 + 1).toNatClampNeg) (sc.2 (x4 + 2).toNatClampNeg) (sc.2 (x4 + 3).toNatClampNeg) (sc.2 (x4 + 4).toNatClampNeg) σ).bind fun p210 => (gd (inb (x4 + 1) sc.1) (gd (inb (x4 + 2) sc.1) (gd (inb (x4 + 3) sc.1) (gd (inb (x4 + 4) sc.1) ((f_X10_product (sc.2 (x4 + 1).toNatClampNeg) (sc.2 (x4 + 2).toNatClampNeg) (sc.2 (x4 + 3).toNatClampNeg) (sc.2 (x4 + 4).toNatClampNeg) p210.2).bind fun p215 => (if (lg_cmp p210.1 p215.1) = 0 then
 (g_L_1876 sc k33 x4 X p215.2)
 else
 (some (0, X, p215.2)))))))))))))
def g_L_1280 (sc : Nat × (Nat → Int32)) (k33 : Int32 → En → St → Option (Int32 × En × St)) (x4 : Int32) (X : En) (σ : St) : Option (Int32 × En × St) :=
  (gd (inb (x4 + 1) sc.1) (gd (inb (x4 + 2) sc.1) ((f_X9_rival (sc.2 (x4 + 1).toNatClampNeg) (sc.2 (x4 + 2).toNatClampNeg) σ).bind fun p220 => (gd (inb (x4 + 1) sc.1) (gd (inb (x4 + 2) sc.1) ((f_X10_rival (sc.2 (x4 + 1).toNatClampNeg) (sc.2 (x4 + 2).toNatClampNeg) p220.2).bind fun p223 => (if p220.1 = p223.1 then
 (g_L_1876 sc k33 x4 X p223.2)
 else
 (some (0, X, p223.2)))))))))
def g_L_1317 (sc : Nat × (Nat → Int32)) (k33 : Int32 → En → St → Option (Int32 × En × St)) (x4 : Int32) (X : En) (σ : St) : Option (Int32 × En × St) :=
  (gd (inb (x4 + 1) sc.1) (gd (inb (x4 + 2) sc.1) (gd (inb (x4 + 3) sc.1) ((g_X9_all (sc.2 (x4 + 1).toNatClampNeg) (sc.2 (x4 + 2).toNatClampNeg) (sc.2 (x4 + 3).toNatClampNeg) X σ).bind fun p229 => (gd (inb (x4 + 1) sc.1) (gd (inb (x4 + 2) sc.1) (gd (inb (x4 + 3) sc.1) ((f_X10_all (sc.2 (x4 + 1).toNatClampNeg) (sc.2 (x4 + 2).toNatClampNeg) (sc.2 (x4 + 3).toNatClampNeg) p229.2.2).bind fun p233 => (if p229.1 = p233.1 then
 (g_L_1876 sc k33 x4 p229.2.1 p233.2)
 else
 (some (0, p229.2.1, p233.2)))))))))))
def g_L_1366 (sc : Nat × (Nat → Int32)) (k33 : Int32 → En → St → Option (Int32 × En × St)) (x4 : Int32) (X : En) (σ : St) : Option (Int32 × En × St) :=
  (gd (inb (x4 + 1) sc.1) (gd (inb (x4 + 2) sc.1) ((g_X9_tried (sc.2 (x4 + 1).toNatClampNeg) (sc.2 (x4 + 2).toNatClampNeg) X σ).bind fun p238 => (gd (inb (x4 + 1) sc.1) (gd (inb (x4 + 2) sc.1) ((f_X10_tried (sc.2 (x4 + 1).toNatClampNeg) (sc.2 (x4 + 2).toNatClampNeg) p238.2.2).bind fun p241 => (if (lg_cmp p238.1 p241.1) = 0 then
 (g_L_1876 sc k33 x4 p238.2.1 p241.2)
 else
 (some (0, p238.2.1, p241.2)))))))))
def g_L_1404 (sc : Nat × (Nat → Int32)) (k33 : Int32 → En → St → Option (Int32 × En × St)) (x4 : Int32) (X : En) (σ : St) : Option (Int32 × En × St) :=
  (gd (inb (x4 + 1) sc.1) (gd (inb (x4 + 2) sc.1) ((g_X9_needs (sc.2 (x4 + 1).toNatClampNeg) (sc.2 (x4 + 2).toNatClampNeg) X σ).bind fun p246 => (gd (inb (x4 + 1) sc.1) (gd (inb (x4 + 2) sc.1) ((f_X10_needs (sc.2 (x4 + 1).toNatClampNeg) (sc.2 (x4 + 2).toNatClampNeg) p246.2.2).bind fun p249 => (if p246.1 = p249.1 then
 (g_L_1876 sc k33 x4 p246.2.1 p249.2)
 else
 (some (0, p246.2.1, p249.2)))))))))
def g_L_1441 (sc : Nat × (Nat → Int32)) (k33 : Int32 → En → St → Option (Int32 × En × St)) (x4 : Int32) (X : En) (σ : St) : Option (Int32 × En × St) :=
  (gd (inb (x4 + 1) sc.1) ((f_X9_cheaper (sc.2 (x4 + 1).toNatClampNeg) σ).bind fun p253 => (gd (inb (x4 + 1) sc.1) ((f_X10_cheaper (sc.2 (x4 + 1).toNatClampNeg) p253.2).bind fun p255 => (if p253.1 = p255.1 then
 (g_L_1876 sc k33 x4 X p255.2)
 else
 (some (0, X, p255.2)))))))
def g_L_1466 (sc : Nat × (Nat → Int32)) (k33 : Int32 → En → St → Option (Int32 × En × St)) (x4 : Int32) (X : En) (σ : St) : Option (Int32 × En × St) :=
  (gd (inb (x4 + 1) sc.1) (gd (inb (x4 + 2) sc.1) (gd (inb (x4 + 3) sc.1) ((f_X9_standing (sc.2 (x4 + 1).toNatClampNeg) (sc.2 (x4 + 2).toNatClampNeg) (sc.2 (x4 + 3).toNatClampNeg) σ).bind fun p261 => (gd (inb (x4 + 1) sc.1) (gd (inb (x4 + 2) sc.1) (gd (inb (x4 + 3) sc.1) ((f_X10_standing (sc.2 (x4 + 1).toNatClampNeg) (sc.2 (x4 + 2).toNatClampNeg) (sc.2 (x4 + 3).toNatClampNeg) p261.2).bind fun p265 => (if p261.1 = p265.1 then
 (g_L_1876 sc k33 x4 X p265.2)
 else
 (some (0, X, p265.2)))))))))))
def g_L_1515 (sc : Nat × (Nat → Int32)) (k33 : Int32 → En → St → Option (Int32 × En × St)) (x4 : Int32) (X : En) (σ : St) : Option (Int32 × En × St) :=
  (gd (inb (x4 + 1) sc.1) (gd (inb (x4 + 2) sc.1) ((f_X9_as (sc.2 (x4 + 1).toNatClampNeg) (sc.2 (x4 + 2).toNatClampNeg) σ).bind fun p270 => (gd (inb (x4 + 1) sc.1) (gd (inb (x4 + 2) sc.1) ((f_X10_as (sc.2 (x4 + 1).toNatClampNeg) (sc.2 (x4 + 2).toNatClampNeg) p270.2).bind fun p273 => (if p270.1 = p273.1 then
 (g_L_1876 sc k33 x4 X p273.2)
 else
 (some (0, X, p273.2)))))))))
def g_L_1552 (sc : Nat × (Nat → Int32)) (k33 : Int32 → En → St → Option (Int32 × En × St)) (x4 : Int32) (X : En) (σ : St) : Option (Int32 × En × St) :=
  (gd (inb (x4 + 1) sc.1) ((f_X9_guess (sc.2 (x4 + 1).toNatClampNeg) σ).bind fun p277 => (gd (inb (x4 + 1) sc.1) ((f_X10_guess (sc.2 (x4 + 1).toNatClampNeg) p277.2).bind fun p279 => (if p277.1 = p279.1 then
 (g_L_1876 sc k33 x4 X p279.2)
 else
 (some (0, X, p279.2)))))))
def g_L_1577 (sc : Nat × (Nat → Int32)) (k33 : Int32 → En → St → Option (Int32 × En × St)) (x4 : Int32) (X : En) (σ : St) : Option (Int32 × En × St) :=
  (gd (inb (x4 + 1) sc.1) (gd (inb (x4 + 2) sc.1) ((g_X9_safest (sc.2 (x4 + 1).toNatClampNeg) (sc.2 (x4 + 2).toNatClampNeg) X σ).bind fun p284 => (gd (inb (x4 + 1) sc.1) (gd (inb (x4 + 2) sc.1) ((f_X10_safest (sc.2 (x4 + 1).toNatClampNeg) (sc.2 (x4 + 2).toNatClampNeg) p284.2.2).bind fun p287 => (if p284.1 = p287.1 then
 (g_L_1876 sc k33 x4 p284.2.1 p287.2)
 else
 (some (0, p284.2.1, p287.2)))))))))
def g_L_1614 (sc : Nat × (Nat → Int32)) (k33 : Int32 → En → St → Option (Int32 × En × St)) (x4 : Int32) (X : En) (σ : St) : Option (Int32 × En × St) :=
  ((f_X9_confused σ).bind fun p290 => ((f_X10_confused p290.2).bind fun p291 => (if p290.1 = p291.1 then
 (g_L_1876 sc k33 x4 X p291.2)
 else
 (some (0, X, p291.2)))))
def g_L_1627 (sc : Nat × (Nat → Int32)) (k33 : Int32 → En → St → Option (Int32 × En × St)) (x4 : Int32) (X : En) (σ : St) : Option (Int32 × En × St) :=
  (gd (inb (x4 + 1) sc.1) ((f_X9_kids (sc.2 (x4 + 1).toNatClampNeg) σ).bind fun p295 => (gd (inb (x4 + 1) sc.1) ((f_X10_kids (sc.2 (x4 + 1).toNatClampNeg) p295.2).bind fun p297 => (if p295.1 = p297.1 then
 (g_L_1876 sc k33 x4 X p297.2)
 else
 (some (0, X, p297.2)))))))
def g_L_1652 (sc : Nat × (Nat → Int32)) (k33 : Int32 → En → St → Option (Int32 × En × St)) (x4 : Int32) (X : En) (σ : St) : Option (Int32 × En × St) :=
  (gd (inb (x4 + 1) sc.1) ((g_X9_herd (sc.2 (x4 + 1).toNatClampNeg) X σ).bind fun p301 => (gd (inb (x4 + 1) sc.1) ((f_X10_herd (sc.2 (x4 + 1).toNatClampNeg) p301.2.2).bind fun p303 => (if p301.1 = p303.1 then
 (g_L_1876 sc k33 x4 p301.2.1 p303.2)
 else
 (some (0, p301.2.1, p303.2)))))))
def g_L_1677 (sc : Nat × (Nat → Int32)) (k33 : Int32 → En → St → Option (Int32 × En × St)) (x4 : Int32) (X : En) (σ : St) : Option (Int32 × En × St) :=
  (gd (inb (x4 + 1) sc.1) (gd (inb (x4 + 2) sc.1) (gd (inb (x4 + 3) sc.1) ((f_X9_relay (sc.2 (x4 + 1).toNatClampNeg) (sc.2 (x4 + 2).toNatClampNeg) (sc.2 (x4 + 3).toNatClampNeg) σ).bind fun p309 => (gd (inb (x4 + 1) sc.1) (gd (inb (x4 + 2) sc.1) (gd (inb (x4 + 3) sc.1) ((f_X10_relay (sc.2 (x4 + 1).toNatClampNeg) (sc.2 (x4 + 2).toNatClampNeg) (sc.2 (x4 + 3).toNatClampNeg) p309.2).bind fun p313 => (if p309.1 = p313.1 then
 (g_L_1876 sc k33 x4 X p313.2)
 else
 (some (0, X, p313.2)))))))))))
def g_L_1726 (sc : Nat × (Nat → Int32)) (k33 : Int32 → En → St → Option (Int32 × En × St)) (x4 : Int32) (X : En) (σ : St) : Option (Int32 × En × St) :=
  (gd (inb (x4 + 1) sc.1) (gd (inb (x4 + 2) sc.1) ((f_X9_ranked (sc.2 (x4 + 1).toNatClampNeg) (sc.2 (x4 + 2).toNatClampNeg) σ).bind fun p318 => (gd (inb (x4 + 1) sc.1) (gd (inb (x4 + 2) sc.1) ((f_X10_ranked (sc.2 (x4 + 1).toNatClampNeg) (sc.2 (x4 + 2).toNatClampNeg) p318.2).bind fun p321 => (if p318.1 = p321.1 then
 (g_L_1876 sc k33 x4 X p321.2)
 else
 (some (0, X, p321.2)))))))))
def g_L_1763 (sc : Nat × (Nat → Int32)) (k33 : Int32 → En → St → Option (Int32 × En × St)) (x4 : Int32) (X : En) (σ : St) : Option (Int32 × En × St) :=
  (gd (inb (x4 + 1) sc.1) ((f_X9_odds (sc.2 (x4 + 1).toNatClampNeg) σ).bind fun p325 => (gd (inb (x4 + 1) sc.1) ((f_X10_odds (sc.2 (x4 + 1).toNatClampNeg) p325.2).bind fun p327 => (if p325.1 = p327.1 then
 (g_L_1876 sc k33 x4 X p327.2)
 else
 (some (0, X, p327.2)))))))
def g_L_1788 (sc : Nat × (Nat → Int32)) (k33 : Int32 → En → St → Option (Int32 × En × St)) (x4 : Int32) (X : En) (σ : St) : Option (Int32 × En × St) :=
  (gd (inb (x4 + 1) sc.1) (gd (inb (x4 + 2) sc.1) ((f_X9_make (sc.2 (x4 + 1).toNatClampNeg) (sc.2 (x4 + 2).toNatClampNeg) σ).bind fun p332 => (gd (inb (x4 + 1) sc.1) (gd (inb (x4 + 2) sc.1) ((f_X10_make (sc.2 (x4 + 1).toNatClampNeg) (sc.2 (x4 + 2).toNatClampNeg) p332.2).bind fun p335 => (if p332.1 = p335.1 then
 (g_L_1876 sc k33 x4 X p335.2)
 else
 (some (0, X, p335.2)))))))))
def g_L_1825 (sc : Nat × (Nat → Int32)) (k33 : Int32 → En → St → Option (Int32 × En × St)) (x4 : Int32) (X : En) (σ : St) : Option (Int32 × En × St) :=
  ((g_X9_image X σ).bind fun p338 => ((f_X10_image p338.2.2).bind fun p339 => (if p338.1 = p339.1 then
 (g_L_1876 sc k33 x4 p338.2.1 p339.2)
 else
 (some (0, p338.2.1, p339.2)))))
def g_L_1838 (sc : Nat × (Nat → Int32)) (k33 : Int32 → En → St → Option (Int32 × En × St)) (x4 : Int32) (X : En) (σ : St) : Option (Int32 × En × St) :=
  ((g_X9_back X σ).bind fun p342 => ((f_X10_back p342.2.2).bind fun p343 => (if p342.1 = p343.1 then
 (g_L_1876 sc k33 x4 p342.2.1 p343.2)
 else
 (some (0, p342.2.1, p343.2)))))
def g_L_1851 (sc : Nat × (Nat → Int32)) (k33 : Int32 → En → St → Option (Int32 × En × St)) (x4 : Int32) (X : En) (σ : St) : Option (Int32 × En × St) :=
  (gd (inb (x4 + 1) sc.1) ((f_X9_count (sc.2 (x4 + 1).toNatClampNeg) σ).bind fun p347 => (gd (inb (x4 + 1) sc.1) ((f_X10_count (sc.2 (x4 + 1).toNatClampNeg) p347.2).bind fun p349 => (if p347.1 = p349.1 then
 (g_L_1876 sc k33 x4 X p349.2)
 else
 (some (0, X, p349.2)))))))
def g_L_33 (sc : Nat × (Nat → Int32)) : Nat → Int32 → En → St → Option (Int32 × En × St)
  | 0, _, _, _ => none
  | n + 1, x4, X, σ =>
    (if ((Int32.ofNat sc.1) - 6) < x4 then
 (some (1, X, σ))
 else
 (gd (inb x4 sc.1) (if ((sc.2 x4.toNatClampNeg) &&& 63) = 0 then
 (g_L_252 sc (g_L_33 sc n) x4 X σ)
 else if ((sc.2 x4.toNatClampNeg) &&& 63) = 1 then
 (g_L_325 sc (g_L_33 sc n) x4 X σ)
 else if ((sc.2 x4.toNatClampNeg) &&& 63) = 2 then
 (g_L_350 sc (g_L_33 sc n) x4 X σ)
 else if ((sc.2 x4.toNatClampNeg) &&& 63) = 3 then
 (g_L_363 sc (g_L_33 sc n) x4 X σ)
 else if ((sc.2 x4.toNatClampNeg) &&& 63) = 4 then
 (g_L_376 sc (g_L_33 sc n) x4 X σ)
 else if ((sc.2 x4.toNatClampNeg) &&& 63) = 5 then
 (g_L_456 sc (g_L_33 sc n) x4 X σ)
 else if ((sc.2 x4.toNatClampNeg) &&& 63) = 6 then
 (g_L_493 sc (g_L_33 sc n) x4 X σ)
 else if ((sc.2 x4.toNatClampNeg) &&& 63) = 7 then
 (g_L_530 sc (g_L_33 sc n) x4 X σ)
 else if ((sc.2 x4.toNatClampNeg) &&& 63) = 8 then
 (g_L_579 sc (g_L_33 sc n) x4 X σ)
 else if ((sc.2 x4.toNatClampNeg) &&& 63) = 9 then
 (g_L_634 sc (g_L_33 sc n) x4 X σ)
 else if ((sc.2 x4.toNatClampNeg) &&& 63) = 10 then
 (g_L_687 sc (g_L_33 sc n) x4 X σ)
 else if ((sc.2 x4.toNatClampNeg) &&& 63) = 11 then
 (g_L_712 sc (g_L_33 sc n) x4 X σ)
 else if ((sc.2 x4.toNatClampNeg) &&& 63) = 12 then
 (g_L_737 sc (g_L_33 sc n) x4 X σ)
 else if ((sc.2 x4.toNatClampNeg) &&& 63) = 13 then
 (g_L_750 sc (g_L_33 sc n) x4 X σ)
 else if ((sc.2 x4.toNatClampNeg) &&& 63) = 14 then
 (g_L_787 sc (g_L_33 sc n) x4 X σ)
 else if ((sc.2 x4.toNatClampNeg) &&& 63) = 15 then
 (g_L_801 sc (g_L_33 sc n) x4 X σ)
 else if ((sc.2 x4.toNatClampNeg) &&& 63) = 16 then
 (g_L_826 sc (g_L_33 sc n) x4 X σ)
 else if ((sc.2 x4.toNatClampNeg) &&& 63) = 17 then
 (g_L_863 sc (g_L_33 sc n) x4 X σ)
 else if ((sc.2 x4.toNatClampNeg) &&& 63) = 18 then
 (g_L_916 sc (g_L_33 sc n) x4 X σ)
 else if ((sc.2 x4.toNatClampNeg) &&& 63) = 19 then
 (g_L_969 sc (g_L_33 sc n) x4 X σ)
 else if ((sc.2 x4.toNatClampNeg) &&& 63) = 20 then
 (g_L_994 sc (g_L_33 sc n) x4 X σ)
 else if ((sc.2 x4.toNatClampNeg) &&& 63) = 21 then
 (g_L_1031 sc (g_L_33 sc n) x4 X σ)
 else if ((sc.2 x4.toNatClampNeg) &&& 63) = 22 then
 (g_L_1081 sc (g_L_33 sc n) x4 X σ)
 else if ((sc.2 x4.toNatClampNeg) &&& 63) = 23 then
 (g_L_1130 sc (g_L_33 sc n) x4 X σ)
 else if ((sc.2 x4.toNatClampNeg) &&& 63) = 24 then
 (g_L_1155 sc (g_L_33 sc n) x4 X σ)
 else if ((sc.2 x4.toNatClampNeg) &&& 63) = 25 then
 (g_L_1180 sc (g_L_33 sc n) x4 X σ)
 else if ((sc.2 x4.toNatClampNeg) &&& 63) = 26 then
 (g_L_1205 sc (g_L_33 sc n) x4 X σ)
 else if ((sc.2 x4.toNatClampNeg) &&& 63) = 27 then
 (g_L_1218 sc (g_L_33 sc n) x4 X σ)
 else if ((sc.2 x4.toNatClampNeg) &&& 63) = 28 then
 (g_L_1280 sc (g_L_33 sc n) x4 X σ)
 else if ((sc.2 x4.toNatClampNeg) &&& 63) = 29 then
 (g_L_1317 sc (g_L_33 sc n) x4 X σ)
 else if ((sc.2 x4.toNatClampNeg) &&& 63) = 30 then
 (g_L_1366 sc (g_L_33 sc n) x4 X σ)
 else if ((sc.2 x4.toNatClampNeg) &&& 63) = 31 then
 (g_L_1404 sc (g_L_33 sc n) x4 X σ)
 else if ((sc.2 x4.toNatClampNeg) &&& 63) = 32 then
 (g_L_1441 sc (g_L_33 sc n) x4 X σ)
 else if ((sc.2 x4.toNatClampNeg) &&& 63) = 33 then
 (g_L_1466 sc (g_L_33 sc n) x4 X σ)
 else if ((sc.2 x4.toNatClampNeg) &&& 63) = 34 then
 (g_L_1515 sc (g_L_33 sc n) x4 X σ)
 else if ((sc.2 x4.toNatClampNeg) &&& 63) = 35 then
 (g_L_1552 sc (g_L_33 sc n) x4 X σ)
 else if ((sc.2 x4.toNatClampNeg) &&& 63) = 36 then
 (g_L_1577 sc (g_L_33 sc n) x4 X σ)
 else if ((sc.2 x4.toNatClampNeg) &&& 63) = 37 then
 (g_L_1614 sc (g_L_33 sc n) x4 X σ)
 else if ((sc.2 x4.toNatClampNeg) &&& 63) = 38 then
 (g_L_1627 sc (g_L_33 sc n) x4 X σ)
 else if ((sc.2 x4.toNatClampNeg) &&& 63) = 39 then
 (g_L_1652 sc (g_L_33 sc n) x4 X σ)
 else if ((sc.2 x4.toNatClampNeg) &&& 63) = 40 then
 (g_L_1677 sc (g_L_33 sc n) x4 X σ)
 else if ((sc.2 x4.toNatClampNeg) &&& 63) = 41 then
 (g_L_1726 sc (g_L_33 sc n) x4 X σ)
 else if ((sc.2 x4.toNatClampNeg) &&& 63) = 42 then
 (g_L_1763 sc (g_L_33 sc n) x4 X σ)
 else if ((sc.2 x4.toNatClampNeg) &&& 63) = 43 then
 (g_L_1788 sc (g_L_33 sc n) x4 X σ)
 else if ((sc.2 x4.toNatClampNeg) &&& 63) = 44 then
 (g_L_1825 sc (g_L_33 sc n) x4 X σ)
 else if ((sc.2 x4.toNatClampNeg) &&& 63) = 45 then
 (g_L_1838 sc (g_L_33 sc n) x4 X σ)
 else if ((sc.2 x4.toNatClampNeg) &&& 63) = 46 then
 (g_L_1851 sc (g_L_33 sc n) x4 X σ)
 else (g_L_1876 sc (g_L_33 sc n) x4 X σ))))
def e_L_pre (sc : Nat × (Nat → Int32)) (X : En) (σ : St) : Option (Nat × Nat × Nat × En × St) :=
  (mkO X σ 10 18 fun t1 Y2 τ3 => gd (rk Y2 t1 10) ((e_X9_init t1 (if 0 < sc.1 then sc.2 0 else 0) Y2 τ3).bind fun p5 => (gd (rk p5.1 t1 10) (mkO p5.1 p5.2 11 57 fun t6 Y7 τ8 => gd (rk Y7 t1 10) (gd (rk Y7 t6 11) ((e_X10_init t6 (if 0 < sc.1 then sc.2 0 else 0) Y7 τ8).bind fun p10 => (gd (rk p10.1 t1 10) (gd (rk p10.1 t6 11) (mkA p10.1 p10.2 21 1 fun t11 Y12 τ13 => gd (rk Y12 t6 11) (gd (rk Y12 t1 10) (gd (rk Y12 t11 21) (some (t1, t6, t11, Y12, τ13)))))))))))))
