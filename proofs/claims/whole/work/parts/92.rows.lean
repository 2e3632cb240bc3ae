theorem wg_X0_init : ∀ w ∈ wl_X0_init, w ∈ gW := wl_in [322, 323, 109, 110, 194, 324, 325, 326, 327, 370, 328, 329, 330, 331, 332, 333] (by decide +kernel) (by decide +kernel)
theorem ok_X0_init : rowOK MT wl_X0_init mr_X0_init = true := by decide +kernel
theorem wg_X9_topPlace : ∀ w ∈ wl_X9_topPlace, w ∈ gW := wl_in [649, 650] (by decide +kernel) (by decide +kernel)
theorem ok_X9_topPlace : rowOK MT wl_X9_topPlace mr_X9_topPlace = true := by decide +kernel
theorem wg_X7_topRope : ∀ w ∈ wl_X7_topRope, w ∈ gW := wl_in [646, 126, 79, 648] (by decide +kernel) (by decide +kernel)
theorem ok_X7_topRope : rowOK MT wl_X7_topRope mr_X7_topRope = true := by decide +kernel
theorem wg_X9_digitOf : ∀ w ∈ wl_X9_digitOf, w ∈ gW := wl_in [653, 650, 654] (by decide +kernel) (by decide +kernel)
theorem ok_X9_digitOf : rowOK MT wl_X9_digitOf mr_X9_digitOf = true := by decide +kernel
theorem wg_X0_setOut : ∀ w ∈ wl_X0_setOut, w ∈ gW := wl_in [1079, 128, 1080, 114, 81, 115, 334, 335, 1081, 80, 644, 645, 336, 324, 133, 325, 137, 326, 79, 652, 327, 328, 331, 332, 333] (by decide +kernel) (by decide +kernel)
theorem ok_X0_setOut : rowOK MT wl_X0_setOut mr_X0_setOut = true := by decide +kernel
theorem wg_X0_comeBack : ∀ w ∈ wl_X0_comeBack, w ∈ gW := wl_in [1092, 334, 333, 338, 327] (by decide +kernel) (by decide +kernel)
theorem ok_X0_comeBack : rowOK MT wl_X0_comeBack mr_X0_comeBack = true := by decide +kernel
theorem wg_X0_endDrive : ∀ w ∈ wl_X0_endDrive, w ∈ gW := wl_in [1100, 328, 324, 330, 331, 332] (by decide +kernel) (by decide +kernel)
theorem ok_X0_endDrive : rowOK MT wl_X0_endDrive mr_X0_endDrive = true := by decide +kernel
theorem wg_X0_nextDrive : ∀ w ∈ wl_X0_nextDrive, w ∈ gW := wl_in [1104, 326, 335, 327] (by decide +kernel) (by decide +kernel)
theorem ok_X0_nextDrive : rowOK MT wl_X0_nextDrive mr_X0_nextDrive = true := by decide +kernel
theorem wg_X9_isDigit : ∀ w ∈ wl_X9_isDigit, w ∈ gW := wl_in [550] (by decide +kernel) (by decide +kernel)
theorem ok_X9_isDigit : rowOK MT wl_X9_isDigit mr_X9_isDigit = true := by decide +kernel
theorem wg_X0_beginDrive : ∀ w ∈ wl_X0_beginDrive, w ∈ gW := wl_in [1108, 324, 331, 79, 549, 330, 325, 1080, 114, 81, 115, 1110, 678, 679, 328, 329, 337, 1097, 88, 1099, 28] (by decide +kernel) (by decide +kernel)
theorem ok_X0_beginDrive : rowOK MT wl_X0_beginDrive mr_X0_beginDrive = true := by decide +kernel
theorem wg_X0_work : ∀ w ∈ wl_X0_work, w ∈ gW := wl_in [1096, 328, 329, 1097, 88, 1099, 28, 1101, 1103, 29, 1105, 1107, 30] (by decide +kernel) (by decide +kernel)
theorem ok_X0_work : rowOK MT wl_X0_work mr_X0_work = true := by decide +kernel
theorem wg_X0_sendOut : ∀ w ∈ wl_X0_sendOut, w ∈ gW := wl_in [1114, 334, 338, 332, 333] (by decide +kernel) (by decide +kernel)
theorem ok_X0_sendOut : rowOK MT wl_X0_sendOut mr_X0_sendOut = true := by decide +kernel
theorem wg_X0_isAtRest : ∀ w ∈ wl_X0_isAtRest, w ∈ gW := wl_in [1118, 334, 328, 332, 333, 327] (by decide +kernel) (by decide +kernel)
theorem ok_X0_isAtRest : rowOK MT wl_X0_isAtRest mr_X0_isAtRest = true := by decide +kernel
theorem wg_X0_minuteOfRest : ∀ w ∈ wl_X0_minuteOfRest, w ∈ gW := wl_in [1086, 338, 337, 1087, 117, 81, 118, 1088, 1089, 88, 1091, 26, 334, 1093, 1095, 27, 1111, 1113, 31, 336, 1115, 1117, 32] (by decide +kernel) (by decide +kernel)
theorem ok_X0_minuteOfRest : rowOK MT wl_X0_minuteOfRest mr_X0_minuteOfRest = true := by decide +kernel
theorem wg_X1_init : ∀ w ∈ wl_X1_init, w ∈ gW := wl_in [244, 245, 109, 110, 194, 246, 212, 247, 248] (by decide +kernel) (by decide +kernel)
theorem ok_X1_init : rowOK MT wl_X1_init mr_X1_init = true := by decide +kernel
theorem wg_X1_learn : ∀ w ∈ wl_X1_learn, w ∈ gW := wl_in [607, 246] (by decide +kernel) (by decide +kernel)
theorem ok_X1_learn : rowOK MT wl_X1_learn mr_X1_learn = true := by decide +kernel
theorem wg_X1_hears : ∀ w ∈ wl_X1_hears, w ∈ gW := wl_in [665, 246] (by decide +kernel) (by decide +kernel)
theorem ok_X1_hears : rowOK MT wl_X1_hears mr_X1_hears = true := by decide +kernel
theorem wg_X1_likely : ∀ w ∈ wl_X1_likely, w ∈ gW := wl_in [819, 79, 648, 821, 246, 652] (by decide +kernel) (by decide +kernel)
theorem ok_X1_likely : rowOK MT wl_X1_likely mr_X1_likely = true := by decide +kernel
theorem wg_X1_wrong : ∀ w ∈ wl_X1_wrong, w ∈ gW := wl_in [814, 815, 816, 85, 817, 818, 823] (by decide +kernel) (by decide +kernel)
theorem ok_X1_wrong : rowOK MT wl_X1_wrong mr_X1_wrong = true := by decide +kernel
theorem wg_J7_fill_d0a16 : ∀ w ∈ wl_J7_fill_d0a16, w ∈ gW := wl_in [834] (by decide +kernel) (by decide +kernel)
theorem ok_J7_fill_d0a16 : rowOK MT wl_J7_fill_d0a16 mr_J7_fill_d0a16 = true := by decide +kernel
theorem wg_X1_spread : ∀ w ∈ wl_X1_spread, w ∈ gW := wl_in [839, 248, 832, 82, 833, 246, 247] (by decide +kernel) (by decide +kernel)
theorem ok_X1_spread : rowOK MT wl_X1_spread mr_X1_spread = true := by decide +kernel
theorem wg_X1_alike : ∀ w ∈ wl_X1_alike, w ∈ gW := wl_in [831, 247, 832, 82, 833, 79, 648, 652, 836, 85, 838, 15, 821] (by decide +kernel) (by decide +kernel)
theorem ok_X1_alike : rowOK MT wl_X1_alike mr_X1_alike = true := by decide +kernel
theorem wg_X1_missed : ∀ w ∈ wl_X1_missed, w ∈ gW := wl_in [827, 828, 85, 830, 14, 816, 817, 818, 823] (by decide +kernel) (by decide +kernel)
theorem ok_X1_missed : rowOK MT wl_X1_missed mr_X1_missed = true := by decide +kernel
theorem wg_X2_init : ∀ w ∈ wl_X2_init, w ∈ gW := wl_in [199, 200, 109, 110, 212, 201] (by decide +kernel) (by decide +kernel)
theorem ok_X2_init : rowOK MT wl_X2_init mr_X2_init = true := by decide +kernel
theorem wg_X7_value : ∀ w ∈ wl_X7_value, w ∈ gW := wl_in [631, 126, 131] (by decide +kernel) (by decide +kernel)
theorem ok_X7_value : rowOK MT wl_X7_value mr_X7_value = true := by decide +kernel
theorem wg_X2_keep : ∀ w ∈ wl_X2_keep, w ∈ gW := wl_in [627, 202, 201, 628, 80, 629, 630, 145, 148, 152, 155, 158, 161, 164, 203, 634, 114, 81, 115] (by decide +kernel) (by decide +kernel)
theorem ok_X2_keep : rowOK MT wl_X2_keep mr_X2_keep = true := by decide +kernel
theorem wg_X7_standFor : ∀ w ∈ wl_X7_standFor, w ∈ gW := wl_in [719, 126, 131, 79, 652] (by decide +kernel) (by decide +kernel)
theorem ok_X7_standFor : rowOK MT wl_X7_standFor mr_X7_standFor = true := by decide +kernel
theorem wg_X2_takeBack : ∀ w ∈ wl_X2_takeBack, w ∈ gW := wl_in [715, 203, 202, 201, 716, 80, 717, 718, 145, 148, 152, 155, 158, 161, 164] (by decide +kernel) (by decide +kernel)
theorem ok_X2_takeBack : rowOK MT wl_X2_takeBack mr_X2_takeBack = true := by decide +kernel
theorem wg_X2_forget : ∀ w ∈ wl_X2_forget, w ∈ gW := wl_in [1139, 203] (by decide +kernel) (by decide +kernel)
theorem ok_X2_forget : rowOK MT wl_X2_forget mr_X2_forget = true := by decide +kernel
theorem wg_X3_init : ∀ w ∈ wl_X3_init, w ∈ gW := wl_in [260, 261, 109, 110, 194, 262] (by decide +kernel) (by decide +kernel)
theorem ok_X3_init : rowOK MT wl_X3_init mr_X3_init = true := by decide +kernel
theorem wg_X3_bringIn : ∀ w ∈ wl_X3_bringIn, w ∈ gW := wl_in [914, 264, 262] (by decide +kernel) (by decide +kernel)
theorem ok_X3_bringIn : rowOK MT wl_X3_bringIn mr_X3_bringIn = true := by decide +kernel
theorem wg_X3_sets : ∀ w ∈ wl_X3_sets, w ∈ gW := wl_in [939, 264] (by decide +kernel) (by decide +kernel)
theorem ok_X3_sets : rowOK MT wl_X3_sets mr_X3_sets = true := by decide +kernel
theorem wg_X9_hasBit : ∀ w ∈ wl_X9_hasBit, w ∈ gW := wl_in [730] (by decide +kernel) (by decide +kernel)
theorem ok_X9_hasBit : rowOK MT wl_X9_hasBit mr_X9_hasBit = true := by decide +kernel
theorem wg_X3_sumOf : ∀ w ∈ wl_X3_sumOf, w ∈ gW := wl_in [949, 264, 79, 729, 262] (by decide +kernel) (by decide +kernel)
theorem ok_X3_sumOf : rowOK MT wl_X3_sumOf mr_X3_sumOf = true := by decide +kernel
theorem wg_X7_draw : ∀ w ∈ wl_X7_draw, w ∈ gW := wl_in [658, 146, 659, 660, 661] (by decide +kernel) (by decide +kernel)
theorem ok_X7_draw : rowOK MT wl_X7_draw mr_X7_draw = true := by decide +kernel
theorem wg_X7_stand : ∀ w ∈ wl_X7_stand, w ∈ gW := wl_in [674, 139, 675, 117, 81, 118, 135, 676, 114, 115, 162, 149, 131, 677, 678, 679] (by decide +kernel) (by decide +kernel)
theorem ok_X7_stand : rowOK MT wl_X7_stand mr_X7_stand = true := by decide +kernel
theorem wg_X7_drive : ∀ w ∈ wl_X7_drive, w ∈ gW := wl_in [669, 126, 131, 79, 549, 671, 80, 673, 10, 153, 159] (by decide +kernel) (by decide +kernel)
theorem ok_X7_drive : rowOK MT wl_X7_drive mr_X7_drive = true := by decide +kernel
theorem wg_X7_bring : ∀ w ∈ wl_X7_bring, w ∈ gW := wl_in [642, 126, 159, 643, 80, 644, 645, 79, 652, 655, 657, 8, 662, 85, 663, 664, 666, 668, 9] (by decide +kernel) (by decide +kernel)
theorem ok_X7_bring : rowOK MT wl_X7_bring mr_X7_bring = true := by decide +kernel
theorem wg_X3_walksAsTold : ∀ w ∈ wl_X3_walksAsTold, w ∈ gW := wl_in [930, 264, 262, 931, 80, 640, 641, 150] (by decide +kernel) (by decide +kernel)
theorem ok_X3_walksAsTold : rowOK MT wl_X3_walksAsTold mr_X3_walksAsTold = true := by decide +kernel
theorem wg_X3_walksBy : ∀ w ∈ wl_X3_walksBy, w ∈ gW := wl_in [945, 150, 946, 86, 947, 948, 950, 80, 717, 718, 262, 931, 640, 641, 266] (by decide +kernel) (by decide +kernel)
theorem ok_X3_walksBy : rowOK MT wl_X3_walksBy mr_X3_walksBy = true := by decide +kernel
theorem wg_X3_weigh : ∀ w ∈ wl_X3_weigh, w ∈ gW := wl_in [935, 267, 264, 266, 194, 936, 86, 937, 938, 940, 79, 729, 942, 944, 19, 951, 114, 81, 115] (by decide +kernel) (by decide +kernel)
theorem ok_X3_weigh : rowOK MT wl_X3_weigh mr_X3_weigh = true := by decide +kernel
theorem wg_X3_fewestWalks : ∀ w ∈ wl_X3_fewestWalks, w ∈ gW := wl_in [955, 266] (by decide +kernel) (by decide +kernel)
theorem ok_X3_fewestWalks : rowOK MT wl_X3_fewestWalks mr_X3_fewestWalks = true := by decide +kernel
theorem wg_X3_firstBehind : ∀ w ∈ wl_X3_firstBehind, w ∈ gW := wl_in [963, 264, 79, 729, 266, 942, 86, 944, 19] (by decide +kernel) (by decide +kernel)
theorem ok_X3_firstBehind : rowOK MT wl_X3_firstBehind mr_X3_firstBehind = true := by decide +kernel
theorem wg_X3_comesAt : ∀ w ∈ wl_X3_comesAt, w ∈ gW := wl_in [959, 264, 960, 86, 962, 20] (by decide +kernel) (by decide +kernel)
theorem ok_X3_comesAt : rowOK MT wl_X3_comesAt mr_X3_comesAt = true := by decide +kernel
theorem wg_J7_copyOf_59c91 : ∀ w ∈ wl_J7_copyOf_59c91, w ∈ gW := wl_in [567, 568, 569, 570, 571, 572, 574, 194, 575, 114, 81, 115, 576, 578, 577, 96] (by decide +kernel) (by decide +kernel)
theorem ok_J7_copyOf_59c91 : rowOK MT wl_J7_copyOf_59c91 mr_J7_copyOf_59c91 = true := by decide +kernel
theorem wg_X4_init : ∀ w ∈ wl_X4_init, w ∈ gW := wl_in [563, 564, 109, 110, 579, 565, 82, 566, 581] (by decide +kernel) (by decide +kernel)
theorem ok_X4_init : rowOK MT wl_X4_init mr_X4_init = true := by decide +kernel
theorem wg_X4_part : ∀ w ∈ wl_X4_part, w ∈ gW := wl_in [707, 581] (by decide +kernel) (by decide +kernel)
theorem ok_X4_part : rowOK MT wl_X4_part mr_X4_part = true := by decide +kernel
theorem wg_X5_init : ∀ w ∈ wl_X5_init, w ∈ gW := wl_in [217, 218, 109, 110, 194, 219, 222] (by decide +kernel) (by decide +kernel)
theorem ok_X5_init : rowOK MT wl_X5_init mr_X5_init = true := by decide +kernel
theorem wg_X5_write : ∀ w ∈ wl_X5_write, w ∈ gW := wl_in [436, 220, 219] (by decide +kernel) (by decide +kernel)
theorem ok_X5_write : rowOK MT wl_X5_write mr_X5_write = true := by decide +kernel
theorem wg_X5_isNext : ∀ w ∈ wl_X5_isNext, w ∈ gW := wl_in [452, 226, 220, 219] (by decide +kernel) (by decide +kernel)
theorem ok_X5_isNext : rowOK MT wl_X5_isNext mr_X5_isNext = true := by decide +kernel
theorem wg_X5_skipBlanks : ∀ w ∈ wl_X5_skipBlanks, w ∈ gW := wl_in [460, 226, 220, 219] (by decide +kernel) (by decide +kernel)
theorem ok_X5_skipBlanks : rowOK MT wl_X5_skipBlanks mr_X5_skipBlanks = true := by decide +kernel
theorem wg_J0_indexOf_0f7a4 : ∀ w ∈ wl_J0_indexOf_0f7a4, w ∈ gW := wl_in [465] (by decide +kernel) (by decide +kernel)
theorem ok_J0_indexOf_0f7a4 : rowOK MT wl_J0_indexOf_0f7a4 mr_J0_indexOf_0f7a4 = true := by decide +kernel
theorem wg_X5_readNumber : ∀ w ∈ wl_X5_readNumber, w ∈ gW := wl_in [547, 226, 220, 219, 79, 549, 222, 457, 84, 459, 2] (by decide +kernel) (by decide +kernel)
theorem ok_X5_readNumber : rowOK MT wl_X5_readNumber mr_X5_readNumber = true := by decide +kernel
theorem wg_X5_readOften : ∀ w ∈ wl_X5_readOften, w ∈ gW := wl_in [554, 226, 457, 84, 459, 2, 220, 219, 222] (by decide +kernel) (by decide +kernel)
theorem ok_X5_readOften : rowOK MT wl_X5_readOften mr_X5_readOften = true := by decide +kernel
theorem wg_X5_readStep : ∀ w ∈ wl_X5_readStep, w ∈ gW := wl_in [456, 457, 84, 459, 2, 226, 220, 219, 462, 90, 463, 464, 222, 544, 546, 3, 449, 451, 0, 551, 553, 4] (by decide +kernel) (by decide +kernel)
theorem ok_X5_readStep : rowOK MT wl_X5_readStep mr_X5_readStep = true := by decide +kernel
theorem wg_X5_look : ∀ w ∈ wl_X5_look, w ∈ gW := wl_in [448, 226, 224, 449, 84, 451, 0, 453, 455, 1, 220] (by decide +kernel) (by decide +kernel)
theorem ok_X5_look : rowOK MT wl_X5_look mr_X5_look = true := by decide +kernel
theorem wg_X6_init : ∀ w ∈ wl_X6_init, w ∈ gW := wl_in [281, 282, 109, 110, 194, 283, 284, 285, 286, 287, 289] (by decide +kernel) (by decide +kernel)
theorem ok_X6_init : rowOK MT wl_X6_init mr_X6_init = true := by decide +kernel
theorem wg_X6_driveFrom : ∀ w ∈ wl_X6_driveFrom, w ∈ gW := wl_in [762, 293, 752, 117, 81, 118, 292, 79, 549, 764, 114, 115, 765, 678, 679, 286, 283, 284, 285, 289, 287, 290, 294] (by decide +kernel) (by decide +kernel)
theorem ok_X6_driveFrom : rowOK MT wl_X6_driveFrom mr_X6_driveFrom = true := by decide +kernel
theorem wg_X6_planRope : ∀ w ∈ wl_X6_planRope, w ∈ gW := wl_in [758, 286, 287, 293, 294, 291, 759, 87, 761, 13] (by decide +kernel) (by decide +kernel)
theorem ok_X6_planRope : rowOK MT wl_X6_planRope mr_X6_planRope = true := by decide +kernel
theorem wg_X6_plan : ∀ w ∈ wl_X6_plan, w ∈ gW := wl_in [751, 752, 117, 81, 118, 289, 290, 291, 753, 80, 644, 645, 130, 132, 292, 79, 652, 136, 755, 87, 757, 12] (by decide +kernel) (by decide +kernel)
theorem ok_X6_plan : rowOK MT wl_X6_plan mr_X6_plan = true := by decide +kernel
theorem wg_X6_lastRest : ∀ w ∈ wl_X6_lastRest, w ∈ gW := wl_in [769, 287, 752, 117, 81, 118] (by decide +kernel) (by decide +kernel)
theorem ok_X6_lastRest : rowOK MT wl_X6_lastRest mr_X6_lastRest = true := by decide +kernel
theorem wg_X6_digitAt : ∀ w ∈ wl_X6_digitAt, w ∈ gW := wl_in [777, 286, 283, 289, 285, 284, 765, 678, 81, 679, 764, 114, 115] (by decide +kernel) (by decide +kernel)
theorem ok_X6_digitAt : rowOK MT wl_X6_digitAt mr_X6_digitAt = true := by decide +kernel
theorem wg_J7_fill_53178 : ∀ w ∈ wl_J7_fill_53178, w ∈ gW := wl_in [125] (by decide +kernel) (by decide +kernel)
theorem ok_J7_fill_53178 : rowOK MT wl_J7_fill_53178 mr_J7_fill_53178 = true := by decide +kernel
theorem wg_X7_init : ∀ w ∈ wl_X7_init, w ∈ gW := wl_in [121, 122, 109, 110, 194, 131, 135, 139, 126, 123, 82, 124] (by decide +kernel) (by decide +kernel)
theorem ok_X7_init : rowOK MT wl_X7_init mr_X7_init = true := by decide +kernel
