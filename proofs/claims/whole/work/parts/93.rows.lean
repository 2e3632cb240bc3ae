theorem wg_X7_startCounts : ∀ w ∈ wl_X7_startCounts, w ∈ gW := wl_in [926, 149, 153, 156, 159, 162, 165] (by decide +kernel) (by decide +kernel)
theorem ok_X7_startCounts : rowOK MT wl_X7_startCounts mr_X7_startCounts = true := by decide +kernel
theorem wg_X7_clear : ∀ w ∈ wl_X7_clear, w ∈ gW := wl_in [922, 126, 131, 123, 82, 124, 135, 139, 923, 80, 925, 18] (by decide +kernel) (by decide +kernel)
theorem ok_X7_clear : rowOK MT wl_X7_clear mr_X7_clear = true := by decide +kernel
theorem wg_X7_beginAs : ∀ w ∈ wl_X7_beginAs, w ∈ gW := wl_in [1039, 126, 131, 1040, 578, 577, 96, 135, 139, 923, 80, 925, 18] (by decide +kernel) (by decide +kernel)
theorem ok_X7_beginAs : rowOK MT wl_X7_beginAs mr_X7_beginAs = true := by decide +kernel
theorem wg_X7_becomeAs : ∀ w ∈ wl_X7_becomeAs, w ∈ gW := wl_in [1130, 1131, 80, 1037, 1038, 141, 143, 146, 149, 153, 156, 159, 162, 165] (by decide +kernel) (by decide +kernel)
theorem ok_X7_becomeAs : rowOK MT wl_X7_becomeAs mr_X7_becomeAs = true := by decide +kernel
theorem wg_X7_seen : ∀ w ∈ wl_X7_seen, w ∈ gW := wl_in [734, 131, 141, 79, 729] (by decide +kernel) (by decide +kernel)
theorem ok_X7_seen : rowOK MT wl_X7_seen mr_X7_seen = true := by decide +kernel
theorem wg_X7_valueSeen : ∀ w ∈ wl_X7_valueSeen, w ∈ gW := wl_in [805, 126, 806, 80, 732, 733] (by decide +kernel) (by decide +kernel)
theorem ok_X7_valueSeen : rowOK MT wl_X7_valueSeen mr_X7_valueSeen = true := by decide +kernel
theorem wg_X7_isFoggy : ∀ w ∈ wl_X7_isFoggy, w ∈ gW := wl_in [727, 143, 79, 729] (by decide +kernel) (by decide +kernel)
theorem ok_X7_isFoggy : rowOK MT wl_X7_isFoggy mr_X7_isFoggy = true := by decide +kernel
theorem wg_X7_twice : ∀ w ∈ wl_X7_twice, w ∈ gW := wl_in [683, 126, 131, 666, 80, 668, 9] (by decide +kernel) (by decide +kernel)
theorem ok_X7_twice : rowOK MT wl_X7_twice mr_X7_twice = true := by decide +kernel
theorem wg_X7_halve : ∀ w ∈ wl_X7_halve, w ∈ gW := wl_in [687, 126, 131, 671, 80, 673, 10, 165] (by decide +kernel) (by decide +kernel)
theorem ok_X7_halve : rowOK MT wl_X7_halve mr_X7_halve = true := by decide +kernel
theorem wg_X7_empty : ∀ w ∈ wl_X7_empty, w ∈ gW := wl_in [691, 126, 671, 80, 673, 10] (by decide +kernel) (by decide +kernel)
theorem ok_X7_empty : rowOK MT wl_X7_empty mr_X7_empty = true := by decide +kernel
theorem wg_X8_init : ∀ w ∈ wl_X8_init, w ∈ gW := wl_in [856, 857, 109, 110, 194, 858, 859, 861] (by decide +kernel) (by decide +kernel)
theorem ok_X8_init : rowOK MT wl_X8_init mr_X8_init = true := by decide +kernel
theorem wg_J9_floorMod_f86c9 : ∀ w ∈ wl_J9_floorMod_f86c9, w ∈ gW := wl_in [894] (by decide +kernel) (by decide +kernel)
theorem ok_J9_floorMod_f86c9 : rowOK MT wl_J9_floorMod_f86c9 mr_J9_floorMod_f86c9 = true := by decide +kernel
theorem wg_X8_restOf : ∀ w ∈ wl_X8_restOf, w ∈ gW := wl_in [891, 861, 892, 81, 893] (by decide +kernel) (by decide +kernel)
theorem ok_X8_restOf : rowOK MT wl_X8_restOf mr_X8_restOf = true := by decide +kernel
theorem wg_X8_countWays : ∀ w ∈ wl_X8_countWays, w ∈ gW := wl_in [886, 859, 887, 82, 124, 860, 858, 888, 102, 890, 17, 861] (by decide +kernel) (by decide +kernel)
theorem ok_X8_countWays : rowOK MT wl_X8_countWays mr_X8_countWays = true := by decide +kernel
theorem wg_X8_look : ∀ w ∈ wl_X8_look, w ∈ gW := wl_in [877, 878, 114, 81, 115, 879, 117, 118, 861, 860, 862, 129, 880, 80, 725, 726, 881, 732, 733, 858, 883, 102, 885, 16] (by decide +kernel) (by decide +kernel)
theorem ok_X8_look : rowOK MT wl_X8_look mr_X8_look = true := by decide +kernel
theorem wg_X8_howMany : ∀ w ∈ wl_X8_howMany, w ∈ gW := wl_in [898, 859, 860, 862, 888, 102, 890, 17] (by decide +kernel) (by decide +kernel)
theorem ok_X8_howMany : rowOK MT wl_X8_howMany mr_X8_howMany = true := by decide +kernel
theorem wg_X8_outermost : ∀ w ∈ wl_X8_outermost, w ∈ gW := wl_in [902, 862, 860, 858, 859, 888, 102, 890, 17, 879, 117, 81, 118] (by decide +kernel) (by decide +kernel)
theorem ok_X8_outermost : rowOK MT wl_X8_outermost mr_X8_outermost = true := by decide +kernel
theorem wg_X9_init : ∀ w ∈ wl_X9_init, w ∈ gW := wl_in [107, 108, 109, 110, 111, 112, 80, 113, 114, 81, 115, 116, 117, 118, 119, 120, 371, 127, 372, 195, 196, 83, 198, 375, 213, 214, 84, 216, 376, 238, 377, 240, 241, 85, 242, 243, 379, 256, 257, 86, 259, 380, 277, 278, 87, 280, 381, 318, 319, 88, 321, 382, 386, 387, 388] (by decide +kernel) (by decide +kernel)
theorem ok_X9_init : rowOK MT wl_X9_init mr_X9_init = true := by decide +kernel
theorem wg_X9_bytesIn : ∀ w ∈ wl_X9_bytesIn, w ∈ gW := wl_in [432] (by decide +kernel) (by decide +kernel)
theorem ok_X9_bytesIn : rowOK MT wl_X9_bytesIn mr_X9_bytesIn = true := by decide +kernel
theorem wg_X9_feed : ∀ w ∈ wl_X9_feed, w ∈ gW := wl_in [429, 430, 79, 431, 376, 221, 433, 84, 434, 435] (by decide +kernel) (by decide +kernel)
theorem ok_X9_feed : rowOK MT wl_X9_feed mr_X9_feed = true := by decide +kernel
theorem wg_X9_end : ∀ w ∈ wl_X9_end, w ∈ gW := wl_in [440, 376, 221] (by decide +kernel) (by decide +kernel)
theorem ok_X9_end : rowOK MT wl_X9_end mr_X9_end = true := by decide +kernel
theorem wg_X9_fault : ∀ w ∈ wl_X9_fault, w ∈ gW := wl_in [444, 376, 445, 84, 446, 447] (by decide +kernel) (by decide +kernel)
theorem ok_X9_fault : rowOK MT wl_X9_fault mr_X9_fault = true := by decide +kernel
theorem wg_X9_text : ∀ w ∈ wl_X9_text, w ∈ gW := wl_in [559, 378, 376, 445, 84, 446, 447, 377, 238, 560, 95, 223, 225, 561, 562, 221] (by decide +kernel) (by decide +kernel)
theorem ok_X9_text : rowOK MT wl_X9_text mr_X9_text = true := by decide +kernel
theorem wg_X9_set : ∀ w ∈ wl_X9_set, w ∈ gW := wl_in [590, 385, 386, 387, 388] (by decide +kernel) (by decide +kernel)
theorem ok_X9_set : rowOK MT wl_X9_set mr_X9_set = true := by decide +kernel
theorem wg_X9_isRope : ∀ w ∈ wl_X9_isRope, w ∈ gW := wl_in [598, 371, 127] (by decide +kernel) (by decide +kernel)
theorem ok_X9_isRope : rowOK MT wl_X9_isRope mr_X9_isRope = true := by decide +kernel
theorem wg_X9_goats : ∀ w ∈ wl_X9_goats, w ∈ gW := wl_in [594, 595, 79, 597, 5, 371, 134, 138] (by decide +kernel) (by decide +kernel)
theorem ok_X9_goats : rowOK MT wl_X9_goats mr_X9_goats = true := by decide +kernel
theorem wg_X9_echo : ∀ w ∈ wl_X9_echo, w ∈ gW := wl_in [602, 603, 79, 549, 379, 604, 85, 605, 606] (by decide +kernel) (by decide +kernel)
theorem ok_X9_echo : rowOK MT wl_X9_echo mr_X9_echo = true := by decide +kernel
theorem wg_X9_wind : ∀ w ∈ wl_X9_wind, w ∈ gW := wl_in [611, 371, 147] (by decide +kernel) (by decide +kernel)
theorem ok_X9_wind : rowOK MT wl_X9_wind mr_X9_wind = true := by decide +kernel
theorem wg_X9_isNumber : ∀ w ∈ wl_X9_isNumber, w ∈ gW := wl_in [618, 619] (by decide +kernel) (by decide +kernel)
theorem ok_X9_isNumber : rowOK MT wl_X9_isNumber mr_X9_isNumber = true := by decide +kernel
theorem wg_X9_perform : ∀ w ∈ wl_X9_perform, w ∈ gW := wl_in [638, 151, 154, 385, 639, 80, 640, 641, 680, 681, 682, 684, 685, 686, 688, 689, 690, 157, 386, 387] (by decide +kernel) (by decide +kernel)
theorem ok_X9_perform : rowOK MT wl_X9_perform mr_X9_perform = true := by decide +kernel
theorem wg_X9_actOnce : ∀ w ∈ wl_X9_actOnce, w ∈ gW := wl_in [623, 375, 371, 624, 83, 625, 626, 379, 635, 79, 637, 7, 384] (by decide +kernel) (by decide +kernel)
theorem ok_X9_actOnce : rowOK MT wl_X9_actOnce mr_X9_actOnce = true := by decide +kernel
theorem wg_X9_add : ∀ w ∈ wl_X9_add, w ∈ gW := wl_in [615, 616, 79, 617, 620, 622, 6] (by decide +kernel) (by decide +kernel)
theorem ok_X9_add : rowOK MT wl_X9_add mr_X9_add = true := by decide +kernel
theorem wg_X9_act : ∀ w ∈ wl_X9_act, w ∈ gW := wl_in [695, 620, 79, 622, 6] (by decide +kernel) (by decide +kernel)
theorem ok_X9_act : rowOK MT wl_X9_act mr_X9_act = true := by decide +kernel
theorem wg_X9_sumAt : ∀ w ∈ wl_X9_sumAt, w ∈ gW := wl_in [703, 378, 377] (by decide +kernel) (by decide +kernel)
theorem ok_X9_sumAt : rowOK MT wl_X9_sumAt mr_X9_sumAt = true := by decide +kernel
theorem wg_X9_run : ∀ w ∈ wl_X9_run, w ∈ gW := wl_in [699, 700, 79, 702, 11, 580, 704, 95, 705, 706, 620, 622, 6, 384] (by decide +kernel) (by decide +kernel)
theorem ok_X9_run : rowOK MT wl_X9_run mr_X9_run = true := by decide +kernel
theorem wg_X9_undo : ∀ w ∈ wl_X9_undo, w ∈ gW := wl_in [711, 375, 371, 712, 83, 713, 714, 384] (by decide +kernel) (by decide +kernel)
theorem ok_X9_undo : rowOK MT wl_X9_undo mr_X9_undo = true := by decide +kernel
theorem wg_X9_rope : ∀ w ∈ wl_X9_rope, w ∈ gW := wl_in [723, 595, 79, 597, 5, 371, 134, 138, 724, 80, 725, 726, 731, 732, 733] (by decide +kernel) (by decide +kernel)
theorem ok_X9_rope : rowOK MT wl_X9_rope mr_X9_rope = true := by decide +kernel
theorem wg_X9_number : ∀ w ∈ wl_X9_number, w ∈ gW := wl_in [738, 371, 739, 80, 629, 630] (by decide +kernel) (by decide +kernel)
theorem ok_X9_number : rowOK MT wl_X9_number mr_X9_number = true := by decide +kernel
theorem wg_X9_told : ∀ w ∈ wl_X9_told, w ∈ gW := wl_in [743, 371, 151, 154, 157, 160, 163, 166, 384] (by decide +kernel) (by decide +kernel)
theorem ok_X9_told : rowOK MT wl_X9_told mr_X9_told = true := by decide +kernel
theorem wg_X9_done : ∀ w ∈ wl_X9_done, w ∈ gW := wl_in [747, 616, 79, 617, 595, 597, 5, 381, 371, 386, 387, 388, 748, 87, 749, 750, 127, 766, 767, 768, 288] (by decide +kernel) (by decide +kernel)
theorem ok_X9_done : rowOK MT wl_X9_done mr_X9_done = true := by decide +kernel
theorem wg_X9_standing : ∀ w ∈ wl_X9_standing, w ∈ gW := wl_in [773, 616, 79, 617, 595, 597, 5, 381, 371, 386, 387, 388, 748, 87, 749, 750, 134, 774, 775, 776] (by decide +kernel) (by decide +kernel)
theorem ok_X9_standing : rowOK MT wl_X9_standing mr_X9_standing = true := by decide +kernel
theorem wg_X9_withBit : ∀ w ∈ wl_X9_withBit, w ∈ gW := wl_in [784] (by decide +kernel) (by decide +kernel)
theorem ok_X9_withBit : rowOK MT wl_X9_withBit mr_X9_withBit = true := by decide +kernel
theorem wg_X9_two : ∀ w ∈ wl_X9_two, w ∈ gW := wl_in [781, 595, 79, 597, 5, 371, 142, 782, 783] (by decide +kernel) (by decide +kernel)
theorem ok_X9_two : rowOK MT wl_X9_two mr_X9_two = true := by decide +kernel
theorem wg_J6_bitCount_0f7a4 : ∀ w ∈ wl_J6_bitCount_0f7a4, w ∈ gW := wl_in [791, 792, 793, 794] (by decide +kernel) (by decide +kernel)
theorem ok_J6_bitCount_0f7a4 : rowOK MT wl_J6_bitCount_0f7a4 mr_J6_bitCount_0f7a4 = true := by decide +kernel
theorem wg_X9_fog : ∀ w ∈ wl_X9_fog, w ∈ gW := wl_in [788, 595, 79, 597, 5, 371, 144, 782, 783, 789, 101, 790] (by decide +kernel) (by decide +kernel)
theorem ok_X9_fog : rowOK MT wl_X9_fog mr_X9_fog = true := by decide +kernel
theorem wg_X9_isBell : ∀ w ∈ wl_X9_isBell, w ∈ gW := wl_in [801] (by decide +kernel) (by decide +kernel)
theorem ok_X9_isBell : rowOK MT wl_X9_isBell mr_X9_isBell = true := by decide +kernel
theorem wg_X9_bell : ∀ w ∈ wl_X9_bell, w ∈ gW := wl_in [798, 799, 79, 800, 371, 144, 802, 80, 803, 804] (by decide +kernel) (by decide +kernel)
theorem ok_X9_bell : rowOK MT wl_X9_bell mr_X9_bell = true := by decide +kernel
theorem wg_X9_miss : ∀ w ∈ wl_X9_miss, w ∈ gW := wl_in [810, 616, 79, 617, 799, 800, 379, 811, 85, 812, 813, 824, 825, 826] (by decide +kernel) (by decide +kernel)
theorem ok_X9_miss : rowOK MT wl_X9_miss mr_X9_miss = true := by decide +kernel
theorem wg_X9_safest : ∀ w ∈ wl_X9_safest, w ∈ gW := wl_in [843, 616, 79, 617, 799, 800, 379, 824, 85, 825, 826] (by decide +kernel) (by decide +kernel)
theorem ok_X9_safest : rowOK MT wl_X9_safest mr_X9_safest = true := by decide +kernel
theorem wg_X9_isRest : ∀ w ∈ wl_X9_isRest, w ∈ gW := wl_in [850] (by decide +kernel) (by decide +kernel)
theorem ok_X9_isRest : rowOK MT wl_X9_isRest mr_X9_isRest = true := by decide +kernel
theorem wg_X9_span : ∀ w ∈ wl_X9_span, w ∈ gW := wl_in [847, 848, 79, 849, 851, 383, 852, 853, 102, 855, 371, 874, 875, 876, 895, 896, 897, 899, 900, 901] (by decide +kernel) (by decide +kernel)
theorem ok_X9_span : rowOK MT wl_X9_span mr_X9_span = true := by decide +kernel
theorem wg_X9_astray : ∀ w ∈ wl_X9_astray, w ∈ gW := wl_in [906, 848, 79, 849, 371, 144, 802, 80, 803, 804, 127, 731, 732, 733, 650] (by decide +kernel) (by decide +kernel)
theorem ok_X9_astray : rowOK MT wl_X9_astray mr_X9_astray = true := by decide +kernel
theorem wg_X9_harvest : ∀ w ∈ wl_X9_harvest, w ∈ gW := wl_in [910, 616, 79, 617, 380, 265, 911, 86, 912, 913] (by decide +kernel) (by decide +kernel)
theorem ok_X9_harvest : rowOK MT wl_X9_harvest mr_X9_harvest = true := by decide +kernel
theorem wg_X9_fewest : ∀ w ∈ wl_X9_fewest, w ∈ gW := wl_in [918, 380, 265, 372, 371, 127, 919, 80, 920, 921, 927, 86, 928, 929, 932, 933, 934, 952, 953, 954, 956, 957, 958] (by decide +kernel) (by decide +kernel)
theorem ok_X9_fewest : rowOK MT wl_X9_fewest mr_X9_fewest = true := by decide +kernel
theorem wg_X9_added : ∀ w ∈ wl_X9_added, w ∈ gW := wl_in [967, 371, 144, 802, 80, 803, 804, 380, 968, 86, 937, 938, 969, 947, 948] (by decide +kernel) (by decide +kernel)
theorem ok_X9_added : rowOK MT wl_X9_added mr_X9_added = true := by decide +kernel
theorem wg_X9_near : ∀ w ∈ wl_X9_near, w ∈ gW := wl_in [973, 371, 144, 802, 80, 803, 804, 380, 968, 86, 937, 938, 969, 947, 948, 127, 650, 731, 732, 733, 603, 79, 549] (by decide +kernel) (by decide +kernel)
theorem ok_X9_near : rowOK MT wl_X9_near mr_X9_near = true := by decide +kernel
theorem wg_X9_as : ∀ w ∈ wl_X9_as, w ∈ gW := wl_in [977, 616, 79, 617, 379, 978, 85, 817, 818, 979] (by decide +kernel) (by decide +kernel)
theorem ok_X9_as : rowOK MT wl_X9_as mr_X9_as = true := by decide +kernel
theorem wg_X9_guess : ∀ w ∈ wl_X9_guess, w ∈ gW := wl_in [983, 616, 79, 617, 380, 265, 379, 263, 978, 85, 817, 818] (by decide +kernel) (by decide +kernel)
theorem ok_X9_guess : rowOK MT wl_X9_guess mr_X9_guess = true := by decide +kernel
theorem wg_X9_confused : ∀ w ∈ wl_X9_confused, w ∈ gW := wl_in [987, 380, 265, 379, 263, 978, 85, 817, 818] (by decide +kernel) (by decide +kernel)
theorem ok_X9_confused : rowOK MT wl_X9_confused mr_X9_confused = true := by decide +kernel
theorem wg_X9_millionths : ∀ w ∈ wl_X9_millionths, w ∈ gW := wl_in [994] (by decide +kernel) (by decide +kernel)
theorem ok_X9_millionths : rowOK MT wl_X9_millionths mr_X9_millionths = true := by decide +kernel
theorem wg_X9_odds : ∀ w ∈ wl_X9_odds, w ∈ gW := wl_in [991, 380, 265, 371, 144, 802, 80, 803, 804, 379, 263, 978, 85, 817, 818, 992, 79, 993] (by decide +kernel) (by decide +kernel)
theorem ok_X9_odds : rowOK MT wl_X9_odds mr_X9_odds = true := by decide +kernel
theorem wg_X9_isFactor : ∀ w ∈ wl_X9_isFactor, w ∈ gW := wl_in [1001] (by decide +kernel) (by decide +kernel)
theorem ok_X9_isFactor : rowOK MT wl_X9_isFactor mr_X9_isFactor = true := by decide +kernel
theorem wg_J6_numberOfLeadingZeros_0f7a4 : ∀ w ∈ wl_J6_numberOfLeadingZeros_0f7a4, w ∈ gW := wl_in [1012, 1013] (by decide +kernel) (by decide +kernel)
theorem ok_J6_numberOfLeadingZeros_0f7a4 : rowOK MT wl_J6_numberOfLeadingZeros_0f7a4 mr_J6_numberOfLeadingZeros_0f7a4 = true := by decide +kernel
theorem wg_X9_multiplyByBits : ∀ w ∈ wl_X9_multiplyByBits, w ∈ gW := wl_in [1009, 1010, 101, 1011, 372, 680, 80, 681, 682, 1014, 79, 729, 639, 640, 641] (by decide +kernel) (by decide +kernel)
theorem ok_X9_multiplyByBits : rowOK MT wl_X9_multiplyByBits mr_X9_multiplyByBits = true := by decide +kernel
