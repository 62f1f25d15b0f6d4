/-! the checks hold -/
set_option maxRecDepth 100000 in
theorem lkF_ok : lkF.all (fun r => ck_w r.2.2.2.2 (.fieldLink (nmC r.1) r.2.1 (nmT r.2.2.1 r.2.2.2.1).1 (nmT r.2.2.1 r.2.2.2.1).2.1 (nmT r.2.2.1 r.2.2.2.1).2.2.1) && (decide (r.2.2.1 < 10) && decide (r.2.2.2.1 < am_fn r.2.2.1))) = true := by decide +kernel
set_option maxRecDepth 100000 in
theorem lkFl_0 : (List.range (am_fn 0)).all (fun k => ck_w ((lkFl.getD 0 []).getD k 0) (u_lay (nmC 0) (nmT 0) k)) = true := by decide +kernel
set_option maxRecDepth 100000 in
theorem lkFl_1 : (List.range (am_fn 1)).all (fun k => ck_w ((lkFl.getD 1 []).getD k 0) (u_lay (nmC 1) (nmT 1) k)) = true := by decide +kernel
set_option maxRecDepth 100000 in
theorem lkFl_2 : (List.range (am_fn 2)).all (fun k => ck_w ((lkFl.getD 2 []).getD k 0) (u_lay (nmC 2) (nmT 2) k)) = true := by decide +kernel
set_option maxRecDepth 100000 in
theorem lkFl_3 : (List.range (am_fn 3)).all (fun k => ck_w ((lkFl.getD 3 []).getD k 0) (u_lay (nmC 3) (nmT 3) k)) = true := by decide +kernel
set_option maxRecDepth 100000 in
theorem lkFl_4 : (List.range (am_fn 4)).all (fun k => ck_w ((lkFl.getD 4 []).getD k 0) (u_lay (nmC 4) (nmT 4) k)) = true := by decide +kernel
set_option maxRecDepth 100000 in
theorem lkFl_5 : (List.range (am_fn 5)).all (fun k => ck_w ((lkFl.getD 5 []).getD k 0) (u_lay (nmC 5) (nmT 5) k)) = true := by decide +kernel
set_option maxRecDepth 100000 in
theorem lkFl_6 : (List.range (am_fn 6)).all (fun k => ck_w ((lkFl.getD 6 []).getD k 0) (u_lay (nmC 6) (nmT 6) k)) = true := by decide +kernel
set_option maxRecDepth 100000 in
theorem lkFl_7 : (List.range (am_fn 7)).all (fun k => ck_w ((lkFl.getD 7 []).getD k 0) (u_lay (nmC 7) (nmT 7) k)) = true := by decide +kernel
set_option maxRecDepth 100000 in
theorem lkFl_8 : (List.range (am_fn 8)).all (fun k => ck_w ((lkFl.getD 8 []).getD k 0) (u_lay (nmC 8) (nmT 8) k)) = true := by decide +kernel
set_option maxRecDepth 100000 in
theorem lkFl_9 : (List.range (am_fn 9)).all (fun k => ck_w ((lkFl.getD 9 []).getD k 0) (u_lay (nmC 9) (nmT 9) k)) = true := by decide +kernel
set_option maxRecDepth 100000 in
theorem lkM_ok : lkM.all (fun r => ck_w r.2.2.2 (.methodLink (nmC r.1) r.2.1 (mY r.2.2.1)) && decide (r.2.2.1 < 157)) = true := by decide +kernel
set_option maxRecDepth 100000 in
theorem lkN_ok : lkN.all (fun r => decide (lw_tbl[r.2.2.2]? = some (.methodLinkNest (nmC r.1) r.2.1 (mY r.2.2.1) "ReleaseDesk")) && decide (r.2.2.1 < 157)) = true := by decide +kernel
def ck_y (mi : Nat) (r : Nat × Nat × Nat × Nat) : Bool := (ck_w r.2.2.2 (.initialized (mY mi).cls) && (plainName (mY mi).cls && (decide ((mY mi).cls = nmC (mO mi)) && (decide ((mY mi).cls ≠ "java/lang/invoke/MethodHandle" ∧ (mY mi).cls ≠ "java/lang/invoke/VarHandle") && (decide ((mRm mi).cells = am_mc mi ∧ (mRm mi).slots = am_ms mi) && (match lkX[mi]? with
  | some 0 => ck_w r.2.1 (.instanceMethod (mY mi)) && ck_w r.2.2.1 (.selects (mY mi).cls (mY mi) (mY mi))
  | some 1 => ck_w r.2.1 (.static (mY mi))
  | some 2 => ck_w r.2.1 (.instanceMethod (mY mi)) && decide ((mY mi).name = "<init>" ∧ mR mi = none)
  | _ => false))))))
set_option maxRecDepth 100000 in
theorem lkY_0 : ck_y 0 (0, 59, 0, 40) = true := by decide +kernel
set_option maxRecDepth 100000 in
theorem lkY_1 : ck_y 1 (0, 228, 229, 40) = true := by decide +kernel
set_option maxRecDepth 100000 in
theorem lkY_2 : ck_y 2 (0, 246, 247, 40) = true := by decide +kernel
set_option maxRecDepth 100000 in
theorem lkY_3 : ck_y 3 (0, 266, 267, 40) = true := by decide +kernel
set_option maxRecDepth 100000 in
theorem lkY_4 : ck_y 4 (0, 274, 275, 40) = true := by decide +kernel
set_option maxRecDepth 100000 in
theorem lkY_5 : ck_y 5 (0, 290, 291, 40) = true := by decide +kernel
set_option maxRecDepth 100000 in
theorem lkY_6 : ck_y 6 (0, 294, 295, 40) = true := by decide +kernel
set_option maxRecDepth 100000 in
theorem lkY_7 : ck_y 7 (0, 309, 310, 40) = true := by decide +kernel
set_option maxRecDepth 100000 in
theorem lkY_8 : ck_y 8 (0, 325, 326, 40) = true := by decide +kernel
set_option maxRecDepth 100000 in
theorem lkY_9 : ck_y 9 (0, 354, 355, 40) = true := by decide +kernel
set_option maxRecDepth 100000 in
theorem lkY_10 : ck_y 10 (0, 362, 363, 40) = true := by decide +kernel
set_option maxRecDepth 100000 in
theorem lkY_11 : ck_y 11 (0, 372, 373, 40) = true := by decide +kernel
set_option maxRecDepth 100000 in
theorem lkY_12 : ck_y 12 (0, 602, 603, 40) = true := by decide +kernel
set_option maxRecDepth 100000 in
theorem lkY_13 : ck_y 13 (0, 619, 620, 40) = true := by decide +kernel
set_option maxRecDepth 100000 in
theorem lkY_14 : ck_y 14 (0, 627, 628, 40) = true := by decide +kernel
set_option maxRecDepth 100000 in
theorem lkY_15 : ck_y 15 (0, 706, 707, 40) = true := by decide +kernel
set_option maxRecDepth 100000 in
theorem lkY_16 : ck_y 16 (0, 710, 711, 40) = true := by decide +kernel
set_option maxRecDepth 100000 in
theorem lkY_17 : ck_y 17 (0, 714, 715, 40) = true := by decide +kernel
set_option maxRecDepth 100000 in
theorem lkY_18 : ck_y 18 (0, 377, 2, 40) = true := by decide +kernel
set_option maxRecDepth 100000 in
theorem lkY_19 : ck_y 19 (0, 636, 12, 40) = true := by decide +kernel
set_option maxRecDepth 100000 in
theorem lkY_20 : ck_y 20 (0, 251, 0, 40) = true := by decide +kernel
set_option maxRecDepth 100000 in
theorem lkY_21 : ck_y 21 (0, 279, 1, 40) = true := by decide +kernel
set_option maxRecDepth 100000 in
theorem lkY_22 : ck_y 22 (0, 232, 0, 40) = true := by decide +kernel
set_option maxRecDepth 100000 in
theorem lkY_23 : ck_y 23 (0, 366, 0, 40) = true := by decide +kernel
set_option maxRecDepth 100000 in
theorem lkY_24 : ck_y 24 (0, 235, 0, 40) = true := by decide +kernel
set_option maxRecDepth 100000 in
theorem lkY_25 : ck_y 25 (0, 369, 0, 40) = true := by decide +kernel
set_option maxRecDepth 100000 in
theorem lkY_26 : ck_y 26 (0, 270, 0, 40) = true := by decide +kernel
set_option maxRecDepth 100000 in
theorem lkY_27 : ck_y 27 (0, 444, 0, 40) = true := by decide +kernel
set_option maxRecDepth 100000 in
theorem lkY_28 : ck_y 28 (0, 493, 0, 40) = true := by decide +kernel
set_option maxRecDepth 100000 in
theorem lkY_29 : ck_y 29 (0, 585, 0, 40) = true := by decide +kernel
set_option maxRecDepth 100000 in
theorem lkY_30 : ck_y 30 (0, 648, 0, 40) = true := by decide +kernel
set_option maxRecDepth 100000 in
theorem lkY_31 : ck_y 31 (0, 723, 0, 50) = true := by decide +kernel
set_option maxRecDepth 100000 in
theorem lkY_32 : ck_y 32 (0, 817, 0, 50) = true := by decide +kernel
set_option maxRecDepth 100000 in
theorem lkY_33 : ck_y 33 (0, 825, 17, 50) = true := by decide +kernel
set_option maxRecDepth 100000 in
theorem lkY_34 : ck_y 34 (0, 813, 814, 50) = true := by decide +kernel
set_option maxRecDepth 100000 in
theorem lkY_35 : ck_y 35 (0, 820, 821, 50) = true := by decide +kernel
set_option maxRecDepth 100000 in
theorem lkY_36 : ck_y 36 (0, 832, 0, 50) = true := by decide +kernel
set_option maxRecDepth 100000 in
theorem lkY_37 : ck_y 37 (0, 828, 829, 50) = true := by decide +kernel
set_option maxRecDepth 100000 in
theorem lkY_38 : ck_y 38 (0, 835, 836, 50) = true := by decide +kernel
set_option maxRecDepth 100000 in
theorem lkY_39 : ck_y 39 (0, 839, 840, 50) = true := by decide +kernel
set_option maxRecDepth 100000 in
theorem lkY_40 : ck_y 40 (0, 843, 844, 50) = true := by decide +kernel
set_option maxRecDepth 100000 in
theorem lkY_41 : ck_y 41 (0, 847, 848, 50) = true := by decide +kernel
set_option maxRecDepth 100000 in
theorem lkY_42 : ck_y 42 (0, 851, 852, 50) = true := by decide +kernel
set_option maxRecDepth 100000 in
theorem lkY_43 : ck_y 43 (0, 855, 856, 50) = true := by decide +kernel
set_option maxRecDepth 100000 in
theorem lkY_44 : ck_y 44 (0, 859, 860, 50) = true := by decide +kernel
set_option maxRecDepth 100000 in
theorem lkY_45 : ck_y 45 (0, 894, 0, 50) = true := by decide +kernel
set_option maxRecDepth 100000 in
theorem lkY_46 : ck_y 46 (0, 891, 23, 50) = true := by decide +kernel
set_option maxRecDepth 100000 in
theorem lkY_47 : ck_y 47 (0, 898, 24, 50) = true := by decide +kernel
set_option maxRecDepth 100000 in
theorem lkY_48 : ck_y 48 (0, 887, 22, 50) = true := by decide +kernel
set_option maxRecDepth 100000 in
theorem lkY_49 : ck_y 49 (0, 876, 20, 50) = true := by decide +kernel
set_option maxRecDepth 100000 in
theorem lkY_50 : ck_y 50 (0, 918, 29, 50) = true := by decide +kernel
set_option maxRecDepth 100000 in
theorem lkY_51 : ck_y 51 (0, 906, 26, 50) = true := by decide +kernel
set_option maxRecDepth 100000 in
theorem lkY_52 : ck_y 52 (0, 883, 0, 50) = true := by decide +kernel
set_option maxRecDepth 100000 in
theorem lkY_53 : ck_y 53 (0, 880, 21, 50) = true := by decide +kernel
set_option maxRecDepth 100000 in
theorem lkY_54 : ck_y 54 (0, 902, 25, 50) = true := by decide +kernel
set_option maxRecDepth 100000 in
theorem lkY_55 : ck_y 55 (0, 910, 27, 50) = true := by decide +kernel
set_option maxRecDepth 100000 in
theorem lkY_56 : ck_y 56 (0, 872, 19, 50) = true := by decide +kernel
set_option maxRecDepth 100000 in
theorem lkY_57 : ck_y 57 (0, 914, 28, 50) = true := by decide +kernel
set_option maxRecDepth 100000 in
theorem lkY_58 : ck_y 58 (0, 922, 30, 50) = true := by decide +kernel
set_option maxRecDepth 100000 in
theorem lkY_59 : ck_y 59 (0, 868, 18, 50) = true := by decide +kernel
set_option maxRecDepth 100000 in
theorem lkY_60 : ck_y 60 (0, 863, 864, 50) = true := by decide +kernel
set_option maxRecDepth 100000 in
theorem lkY_61 : ck_y 61 (0, 925, 926, 50) = true := by decide +kernel
set_option maxRecDepth 100000 in
theorem lkY_62 : ck_y 62 (0, 929, 930, 50) = true := by decide +kernel
set_option maxRecDepth 100000 in
theorem lkY_63 : ck_y 63 (0, 942, 32, 50) = true := by decide +kernel
set_option maxRecDepth 100000 in
theorem lkY_64 : ck_y 64 (0, 950, 34, 50) = true := by decide +kernel
set_option maxRecDepth 100000 in
theorem lkY_65 : ck_y 65 (0, 954, 35, 50) = true := by decide +kernel
set_option maxRecDepth 100000 in
theorem lkY_66 : ck_y 66 (0, 963, 37, 50) = true := by decide +kernel
set_option maxRecDepth 100000 in
theorem lkY_67 : ck_y 67 (0, 967, 38, 50) = true := by decide +kernel
set_option maxRecDepth 100000 in
theorem lkY_68 : ck_y 68 (0, 946, 33, 50) = true := by decide +kernel
set_option maxRecDepth 100000 in
theorem lkY_69 : ck_y 69 (0, 938, 31, 50) = true := by decide +kernel
set_option maxRecDepth 100000 in
theorem lkY_70 : ck_y 70 (0, 933, 934, 50) = true := by decide +kernel
set_option maxRecDepth 100000 in
theorem lkY_71 : ck_y 71 (0, 958, 36, 50) = true := by decide +kernel
set_option maxRecDepth 100000 in
theorem lkY_72 : ck_y 72 (0, 970, 971, 50) = true := by decide +kernel
set_option maxRecDepth 100000 in
theorem lkY_73 : ck_y 73 (0, 974, 975, 50) = true := by decide +kernel
set_option maxRecDepth 100000 in
theorem lkY_74 : ck_y 74 (0, 978, 979, 50) = true := by decide +kernel
set_option maxRecDepth 100000 in
theorem lkY_75 : ck_y 75 (0, 73, 0, 42) = true := by decide +kernel
set_option maxRecDepth 100000 in
theorem lkY_76 : ck_y 76 (0, 242, 243, 42) = true := by decide +kernel
set_option maxRecDepth 100000 in
theorem lkY_77 : ck_y 77 (0, 258, 259, 42) = true := by decide +kernel
set_option maxRecDepth 100000 in
theorem lkY_78 : ck_y 78 (0, 262, 263, 42) = true := by decide +kernel
set_option maxRecDepth 100000 in
theorem lkY_79 : ck_y 79 (0, 286, 287, 42) = true := by decide +kernel
set_option maxRecDepth 100000 in
theorem lkY_80 : ck_y 80 (0, 298, 299, 42) = true := by decide +kernel
set_option maxRecDepth 100000 in
theorem lkY_81 : ck_y 81 (0, 305, 306, 42) = true := by decide +kernel
set_option maxRecDepth 100000 in
theorem lkY_82 : ck_y 82 (0, 254, 255, 42) = true := by decide +kernel
set_option maxRecDepth 100000 in
theorem lkY_83 : ck_y 83 (0, 388, 389, 42) = true := by decide +kernel
set_option maxRecDepth 100000 in
theorem lkY_84 : ck_y 84 (0, 400, 401, 42) = true := by decide +kernel
set_option maxRecDepth 100000 in
theorem lkY_85 : ck_y 85 (0, 396, 397, 42) = true := by decide +kernel
set_option maxRecDepth 100000 in
theorem lkY_86 : ck_y 86 (0, 416, 417, 42) = true := by decide +kernel
set_option maxRecDepth 100000 in
theorem lkY_87 : ck_y 87 (0, 412, 413, 42) = true := by decide +kernel
set_option maxRecDepth 100000 in
theorem lkY_88 : ck_y 88 (0, 282, 283, 42) = true := by decide +kernel
set_option maxRecDepth 100000 in
theorem lkY_89 : ck_y 89 (0, 426, 427, 42) = true := by decide +kernel
set_option maxRecDepth 100000 in
theorem lkY_90 : ck_y 90 (0, 431, 432, 42) = true := by decide +kernel
set_option maxRecDepth 100000 in
theorem lkY_91 : ck_y 91 (0, 440, 441, 42) = true := by decide +kernel
set_option maxRecDepth 100000 in
theorem lkY_92 : ck_y 92 (0, 447, 448, 42) = true := by decide +kernel
set_option maxRecDepth 100000 in
theorem lkY_93 : ck_y 93 (0, 455, 456, 42) = true := by decide +kernel
set_option maxRecDepth 100000 in
theorem lkY_94 : ck_y 94 (0, 67, 0, 41) = true := by decide +kernel
set_option maxRecDepth 100000 in
theorem lkY_95 : ck_y 95 (0, 238, 239, 41) = true := by decide +kernel
set_option maxRecDepth 100000 in
theorem lkY_96 : ck_y 96 (0, 380, 381, 41) = true := by decide +kernel
set_option maxRecDepth 100000 in
theorem lkY_97 : ck_y 97 (0, 465, 9, 41) = true := by decide +kernel
set_option maxRecDepth 100000 in
theorem lkY_98 : ck_y 98 (0, 393, 3, 41) = true := by decide +kernel
set_option maxRecDepth 100000 in
theorem lkY_99 : ck_y 99 (0, 423, 5, 41) = true := by decide +kernel
set_option maxRecDepth 100000 in
theorem lkY_100 : ck_y 100 (0, 461, 8, 41) = true := by decide +kernel
set_option maxRecDepth 100000 in
theorem lkY_101 : ck_y 101 (0, 436, 6, 41) = true := by decide +kernel
set_option maxRecDepth 100000 in
theorem lkY_102 : ck_y 102 (0, 452, 7, 41) = true := by decide +kernel
set_option maxRecDepth 100000 in
theorem lkY_103 : ck_y 103 (0, 623, 624, 41) = true := by decide +kernel
set_option maxRecDepth 100000 in
theorem lkY_104 : ck_y 104 (0, 405, 4, 41) = true := by decide +kernel
set_option maxRecDepth 100000 in
theorem lkY_105 : ck_y 105 (0, 106, 0, 44) = true := by decide +kernel
set_option maxRecDepth 100000 in
theorem lkY_106 : ck_y 106 (0, 384, 385, 44) = true := by decide +kernel
set_option maxRecDepth 100000 in
theorem lkY_107 : ck_y 107 (0, 597, 598, 44) = true := by decide +kernel
set_option maxRecDepth 100000 in
theorem lkY_108 : ck_y 108 (0, 606, 607, 44) = true := by decide +kernel
set_option maxRecDepth 100000 in
theorem lkY_109 : ck_y 109 (0, 408, 409, 44) = true := by decide +kernel
set_option maxRecDepth 100000 in
theorem lkY_110 : ck_y 110 (0, 588, 0, 44) = true := by decide +kernel
set_option maxRecDepth 100000 in
theorem lkY_111 : ck_y 111 (0, 469, 470, 44) = true := by decide +kernel
set_option maxRecDepth 100000 in
theorem lkY_112 : ck_y 112 (0, 594, 11, 44) = true := by decide +kernel
set_option maxRecDepth 100000 in
theorem lkY_113 : ck_y 113 (0, 473, 474, 44) = true := by decide +kernel
set_option maxRecDepth 100000 in
theorem lkY_114 : ck_y 114 (0, 557, 558, 44) = true := by decide +kernel
set_option maxRecDepth 100000 in
theorem lkY_115 : ck_y 115 (0, 612, 613, 44) = true := by decide +kernel
set_option maxRecDepth 100000 in
theorem lkY_116 : ck_y 116 (0, 477, 478, 44) = true := by decide +kernel
set_option maxRecDepth 100000 in
theorem lkY_117 : ck_y 117 (0, 481, 482, 44) = true := by decide +kernel
set_option maxRecDepth 100000 in
theorem lkY_118 : ck_y 118 (0, 639, 640, 44) = true := by decide +kernel
set_option maxRecDepth 100000 in
theorem lkY_119 : ck_y 119 (0, 644, 645, 44) = true := by decide +kernel
set_option maxRecDepth 100000 in
theorem lkY_120 : ck_y 120 (0, 181, 0, 48) = true := by decide +kernel
set_option maxRecDepth 100000 in
theorem lkY_121 : ck_y 121 (0, 485, 486, 48) = true := by decide +kernel
set_option maxRecDepth 100000 in
theorem lkY_122 : ck_y 122 (0, 490, 10, 48) = true := by decide +kernel
set_option maxRecDepth 100000 in
theorem lkY_123 : ck_y 123 (0, 503, 0, 48) = true := by decide +kernel
set_option maxRecDepth 100000 in
theorem lkY_124 : ck_y 124 (0, 497, 0, 48) = true := by decide +kernel
set_option maxRecDepth 100000 in
theorem lkY_125 : ck_y 125 (0, 577, 578, 48) = true := by decide +kernel
set_option maxRecDepth 100000 in
theorem lkY_126 : ck_y 126 (0, 681, 682, 48) = true := by decide +kernel
set_option maxRecDepth 100000 in
theorem lkY_127 : ck_y 127 (0, 573, 574, 48) = true := by decide +kernel
set_option maxRecDepth 100000 in
theorem lkY_128 : ck_y 128 (0, 132, 0, 45) = true := by decide +kernel
set_option maxRecDepth 100000 in
theorem lkY_129 : ck_y 129 (0, 321, 322, 45) = true := by decide +kernel
set_option maxRecDepth 100000 in
theorem lkY_130 : ck_y 130 (0, 313, 314, 45) = true := by decide +kernel
set_option maxRecDepth 100000 in
theorem lkY_131 : ck_y 131 (0, 317, 318, 45) = true := by decide +kernel
set_option maxRecDepth 100000 in
theorem lkY_132 : ck_y 132 (0, 346, 347, 45) = true := by decide +kernel
set_option maxRecDepth 100000 in
theorem lkY_133 : ck_y 133 (0, 341, 342, 45) = true := by decide +kernel
set_option maxRecDepth 100000 in
theorem lkY_134 : ck_y 134 (0, 569, 570, 45) = true := by decide +kernel
set_option maxRecDepth 100000 in
theorem lkY_135 : ck_y 135 (0, 194, 0, 49) = true := by decide +kernel
set_option maxRecDepth 100000 in
theorem lkY_136 : ck_y 136 (0, 631, 632, 49) = true := by decide +kernel
set_option maxRecDepth 100000 in
theorem lkY_137 : ck_y 137 (0, 698, 699, 49) = true := by decide +kernel
set_option maxRecDepth 100000 in
theorem lkY_138 : ck_y 138 (0, 702, 703, 49) = true := by decide +kernel
set_option maxRecDepth 100000 in
theorem lkY_139 : ck_y 139 (0, 690, 691, 49) = true := by decide +kernel
set_option maxRecDepth 100000 in
theorem lkY_140 : ck_y 140 (0, 651, 652, 49) = true := by decide +kernel
set_option maxRecDepth 100000 in
theorem lkY_141 : ck_y 141 (0, 694, 0, 49) = true := by decide +kernel
set_option maxRecDepth 100000 in
theorem lkY_142 : ck_y 142 (0, 663, 14, 49) = true := by decide +kernel
set_option maxRecDepth 100000 in
theorem lkY_143 : ck_y 143 (0, 657, 13, 49) = true := by decide +kernel
set_option maxRecDepth 100000 in
theorem lkY_144 : ck_y 144 (0, 677, 16, 49) = true := by decide +kernel
set_option maxRecDepth 100000 in
theorem lkY_145 : ck_y 145 (0, 671, 15, 49) = true := by decide +kernel
set_option maxRecDepth 100000 in
theorem lkY_146 : ck_y 146 (0, 153, 0, 47) = true := by decide +kernel
set_option maxRecDepth 100000 in
theorem lkY_147 : ck_y 147 (0, 337, 338, 47) = true := by decide +kernel
set_option maxRecDepth 100000 in
theorem lkY_148 : ck_y 148 (0, 565, 566, 47) = true := by decide +kernel
set_option maxRecDepth 100000 in
theorem lkY_149 : ck_y 149 (0, 581, 582, 47) = true := by decide +kernel
set_option maxRecDepth 100000 in
theorem lkY_150 : ck_y 150 (0, 146, 0, 46) = true := by decide +kernel
set_option maxRecDepth 100000 in
theorem lkY_151 : ck_y 151 (0, 350, 351, 46) = true := by decide +kernel
set_option maxRecDepth 100000 in
theorem lkY_152 : ck_y 152 (0, 329, 330, 46) = true := by decide +kernel
set_option maxRecDepth 100000 in
theorem lkY_153 : ck_y 153 (0, 333, 334, 46) = true := by decide +kernel
set_option maxRecDepth 100000 in
theorem lkY_154 : ck_y 154 (0, 358, 359, 46) = true := by decide +kernel
set_option maxRecDepth 100000 in
theorem lkY_155 : ck_y 155 (0, 561, 562, 46) = true := by decide +kernel
set_option maxRecDepth 100000 in
theorem lkY_156 : ck_y 156 (0, 77, 0, 43) = true := by decide +kernel
set_option maxRecDepth 100000 in
theorem lkB_0 : lw_tbl[60]? = some (.code (mY 0) (mB 0) (am_nL 0) (mR 0)) := by rfl
set_option maxRecDepth 100000 in
theorem lkB_1 : lw_tbl[230]? = some (.code (mY 1) (mB 1) (am_nL 1) (mR 1)) := by rfl
set_option maxRecDepth 100000 in
theorem lkB_2 : lw_tbl[248]? = some (.code (mY 2) (mB 2) (am_nL 2) (mR 2)) := by rfl
set_option maxRecDepth 100000 in
theorem lkB_3 : lw_tbl[268]? = some (.code (mY 3) (mB 3) (am_nL 3) (mR 3)) := by rfl
set_option maxRecDepth 100000 in
theorem lkB_4 : lw_tbl[276]? = some (.code (mY 4) (mB 4) (am_nL 4) (mR 4)) := by rfl
set_option maxRecDepth 100000 in
theorem lkB_5 : lw_tbl[292]? = some (.code (mY 5) (mB 5) (am_nL 5) (mR 5)) := by rfl
set_option maxRecDepth 100000 in
theorem lkB_6 : lw_tbl[296]? = some (.code (mY 6) (mB 6) (am_nL 6) (mR 6)) := by rfl
set_option maxRecDepth 100000 in
theorem lkB_7 : lw_tbl[311]? = some (.code (mY 7) (mB 7) (am_nL 7) (mR 7)) := by rfl
set_option maxRecDepth 100000 in
theorem lkB_8 : lw_tbl[327]? = some (.code (mY 8) (mB 8) (am_nL 8) (mR 8)) := by rfl
set_option maxRecDepth 100000 in
theorem lkB_9 : lw_tbl[356]? = some (.code (mY 9) (mB 9) (am_nL 9) (mR 9)) := by rfl
set_option maxRecDepth 100000 in
theorem lkB_10 : lw_tbl[364]? = some (.code (mY 10) (mB 10) (am_nL 10) (mR 10)) := by rfl
set_option maxRecDepth 100000 in
theorem lkB_11 : lw_tbl[374]? = some (.code (mY 11) (mB 11) (am_nL 11) (mR 11)) := by rfl
set_option maxRecDepth 100000 in
theorem lkB_12 : lw_tbl[604]? = some (.code (mY 12) (mB 12) (am_nL 12) (mR 12)) := by rfl
set_option maxRecDepth 100000 in
theorem lkB_13 : lw_tbl[621]? = some (.code (mY 13) (mB 13) (am_nL 13) (mR 13)) := by rfl
set_option maxRecDepth 100000 in
theorem lkB_14 : lw_tbl[629]? = some (.code (mY 14) (mB 14) (am_nL 14) (mR 14)) := by rfl
set_option maxRecDepth 100000 in
theorem lkB_15 : lw_tbl[708]? = some (.code (mY 15) (mB 15) (am_nL 15) (mR 15)) := by rfl
set_option maxRecDepth 100000 in
theorem lkB_16 : lw_tbl[712]? = some (.code (mY 16) (mB 16) (am_nL 16) (mR 16)) := by rfl
set_option maxRecDepth 100000 in
theorem lkB_17 : lw_tbl[716]? = some (.code (mY 17) (mB 17) (am_nL 17) (mR 17)) := by rfl
set_option maxRecDepth 100000 in
theorem lkB_18 : lw_tbl[378]? = some (.code (mY 18) (mB 18) (am_nL 18) (mR 18)) := by rfl
set_option maxRecDepth 100000 in
theorem lkB_19 : lw_tbl[637]? = some (.code (mY 19) (mB 19) (am_nL 19) (mR 19)) := by rfl
set_option maxRecDepth 100000 in
theorem lkB_20 : lw_tbl[252]? = some (.code (mY 20) (mB 20) (am_nL 20) (mR 20)) := by rfl
set_option maxRecDepth 100000 in
theorem lkB_21 : lw_tbl[280]? = some (.code (mY 21) (mB 21) (am_nL 21) (mR 21)) := by rfl
set_option maxRecDepth 100000 in
theorem lkB_22 : lw_tbl[233]? = some (.code (mY 22) (mB 22) (am_nL 22) (mR 22)) := by rfl
set_option maxRecDepth 100000 in
theorem lkB_23 : lw_tbl[367]? = some (.code (mY 23) (mB 23) (am_nL 23) (mR 23)) := by rfl
set_option maxRecDepth 100000 in
theorem lkB_24 : lw_tbl[236]? = some (.code (mY 24) (mB 24) (am_nL 24) (mR 24)) := by rfl
set_option maxRecDepth 100000 in
theorem lkB_25 : lw_tbl[370]? = some (.code (mY 25) (mB 25) (am_nL 25) (mR 25)) := by rfl
set_option maxRecDepth 100000 in
theorem lkB_26 : lw_tbl[271]? = some (.code (mY 26) (mB 26) (am_nL 26) (mR 26)) := by rfl
set_option maxRecDepth 100000 in
theorem lkB_27 : lw_tbl[445]? = some (.code (mY 27) (mB 27) (am_nL 27) (mR 27)) := by rfl
set_option maxRecDepth 100000 in
theorem lkB_28 : lw_tbl[494]? = some (.code (mY 28) (mB 28) (am_nL 28) (mR 28)) := by rfl
set_option maxRecDepth 100000 in
theorem lkB_29 : lw_tbl[586]? = some (.code (mY 29) (mB 29) (am_nL 29) (mR 29)) := by rfl
set_option maxRecDepth 100000 in
theorem lkB_30 : lw_tbl[649]? = some (.code (mY 30) (mB 30) (am_nL 30) (mR 30)) := by rfl
set_option maxRecDepth 100000 in
theorem lkB_31 : lw_tbl[724]? = some (.code (mY 31) (mB 31) (am_nL 31) (mR 31)) := by rfl
set_option maxRecDepth 100000 in
theorem lkB_32 : lw_tbl[818]? = some (.code (mY 32) (mB 32) (am_nL 32) (mR 32)) := by rfl
set_option maxRecDepth 100000 in
theorem lkB_33 : lw_tbl[826]? = some (.code (mY 33) (mB 33) (am_nL 33) (mR 33)) := by rfl
set_option maxRecDepth 100000 in
theorem lkB_34 : lw_tbl[815]? = some (.code (mY 34) (mB 34) (am_nL 34) (mR 34)) := by rfl
set_option maxRecDepth 100000 in
theorem lkB_35 : lw_tbl[822]? = some (.code (mY 35) (mB 35) (am_nL 35) (mR 35)) := by rfl
set_option maxRecDepth 100000 in
theorem lkB_36 : lw_tbl[833]? = some (.code (mY 36) (mB 36) (am_nL 36) (mR 36)) := by rfl
set_option maxRecDepth 100000 in
theorem lkB_37 : lw_tbl[830]? = some (.code (mY 37) (mB 37) (am_nL 37) (mR 37)) := by rfl
set_option maxRecDepth 100000 in
theorem lkB_38 : lw_tbl[837]? = some (.code (mY 38) (mB 38) (am_nL 38) (mR 38)) := by rfl
set_option maxRecDepth 100000 in
theorem lkB_39 : lw_tbl[841]? = some (.code (mY 39) (mB 39) (am_nL 39) (mR 39)) := by rfl
set_option maxRecDepth 100000 in
theorem lkB_40 : lw_tbl[845]? = some (.code (mY 40) (mB 40) (am_nL 40) (mR 40)) := by rfl
set_option maxRecDepth 100000 in
theorem lkB_41 : lw_tbl[849]? = some (.code (mY 41) (mB 41) (am_nL 41) (mR 41)) := by rfl
set_option maxRecDepth 100000 in
theorem lkB_42 : lw_tbl[853]? = some (.code (mY 42) (mB 42) (am_nL 42) (mR 42)) := by rfl
set_option maxRecDepth 100000 in
theorem lkB_43 : lw_tbl[857]? = some (.code (mY 43) (mB 43) (am_nL 43) (mR 43)) := by rfl
set_option maxRecDepth 100000 in
theorem lkB_44 : lw_tbl[861]? = some (.code (mY 44) (mB 44) (am_nL 44) (mR 44)) := by rfl
set_option maxRecDepth 100000 in
theorem lkB_45 : lw_tbl[895]? = some (.code (mY 45) (mB 45) (am_nL 45) (mR 45)) := by rfl
set_option maxRecDepth 100000 in
theorem lkB_46 : lw_tbl[892]? = some (.code (mY 46) (mB 46) (am_nL 46) (mR 46)) := by rfl
set_option maxRecDepth 100000 in
theorem lkB_47 : lw_tbl[899]? = some (.code (mY 47) (mB 47) (am_nL 47) (mR 47)) := by rfl
set_option maxRecDepth 100000 in
theorem lkB_48 : lw_tbl[888]? = some (.code (mY 48) (mB 48) (am_nL 48) (mR 48)) := by rfl
set_option maxRecDepth 100000 in
theorem lkB_49 : lw_tbl[877]? = some (.code (mY 49) (mB 49) (am_nL 49) (mR 49)) := by rfl
set_option maxRecDepth 100000 in
theorem lkB_50 : lw_tbl[919]? = some (.code (mY 50) (mB 50) (am_nL 50) (mR 50)) := by rfl
set_option maxRecDepth 100000 in
theorem lkB_51 : lw_tbl[907]? = some (.code (mY 51) (mB 51) (am_nL 51) (mR 51)) := by rfl
set_option maxRecDepth 100000 in
theorem lkB_52 : lw_tbl[884]? = some (.code (mY 52) (mB 52) (am_nL 52) (mR 52)) := by rfl
set_option maxRecDepth 100000 in
theorem lkB_53 : lw_tbl[881]? = some (.code (mY 53) (mB 53) (am_nL 53) (mR 53)) := by rfl
set_option maxRecDepth 100000 in
theorem lkB_54 : lw_tbl[903]? = some (.code (mY 54) (mB 54) (am_nL 54) (mR 54)) := by rfl
set_option maxRecDepth 100000 in
theorem lkB_55 : lw_tbl[911]? = some (.code (mY 55) (mB 55) (am_nL 55) (mR 55)) := by rfl
set_option maxRecDepth 100000 in
theorem lkB_56 : lw_tbl[873]? = some (.code (mY 56) (mB 56) (am_nL 56) (mR 56)) := by rfl
set_option maxRecDepth 100000 in
theorem lkB_57 : lw_tbl[915]? = some (.code (mY 57) (mB 57) (am_nL 57) (mR 57)) := by rfl
set_option maxRecDepth 100000 in
theorem lkB_58 : lw_tbl[923]? = some (.code (mY 58) (mB 58) (am_nL 58) (mR 58)) := by rfl
set_option maxRecDepth 100000 in
theorem lkB_59 : lw_tbl[869]? = some (.code (mY 59) (mB 59) (am_nL 59) (mR 59)) := by rfl
set_option maxRecDepth 100000 in
theorem lkB_60 : lw_tbl[865]? = some (.code (mY 60) (mB 60) (am_nL 60) (mR 60)) := by rfl
set_option maxRecDepth 100000 in
theorem lkB_61 : lw_tbl[927]? = some (.code (mY 61) (mB 61) (am_nL 61) (mR 61)) := by rfl
set_option maxRecDepth 100000 in
theorem lkB_62 : lw_tbl[931]? = some (.code (mY 62) (mB 62) (am_nL 62) (mR 62)) := by rfl
set_option maxRecDepth 100000 in
theorem lkB_63 : lw_tbl[943]? = some (.code (mY 63) (mB 63) (am_nL 63) (mR 63)) := by rfl
set_option maxRecDepth 100000 in
theorem lkB_64 : lw_tbl[951]? = some (.code (mY 64) (mB 64) (am_nL 64) (mR 64)) := by rfl
set_option maxRecDepth 100000 in
theorem lkB_65 : lw_tbl[955]? = some (.code (mY 65) (mB 65) (am_nL 65) (mR 65)) := by rfl
set_option maxRecDepth 100000 in
theorem lkB_66 : lw_tbl[964]? = some (.code (mY 66) (mB 66) (am_nL 66) (mR 66)) := by rfl
set_option maxRecDepth 100000 in
theorem lkB_67 : lw_tbl[968]? = some (.code (mY 67) (mB 67) (am_nL 67) (mR 67)) := by rfl
set_option maxRecDepth 100000 in
theorem lkB_68 : lw_tbl[947]? = some (.code (mY 68) (mB 68) (am_nL 68) (mR 68)) := by rfl
set_option maxRecDepth 100000 in
theorem lkB_69 : lw_tbl[939]? = some (.code (mY 69) (mB 69) (am_nL 69) (mR 69)) := by rfl
set_option maxRecDepth 100000 in
theorem lkB_70 : lw_tbl[935]? = some (.code (mY 70) (mB 70) (am_nL 70) (mR 70)) := by rfl
set_option maxRecDepth 100000 in
theorem lkB_71 : lw_tbl[959]? = some (.code (mY 71) (mB 71) (am_nL 71) (mR 71)) := by rfl
set_option maxRecDepth 100000 in
theorem lkB_72 : lw_tbl[972]? = some (.code (mY 72) (mB 72) (am_nL 72) (mR 72)) := by rfl
set_option maxRecDepth 100000 in
theorem lkB_73 : lw_tbl[976]? = some (.code (mY 73) (mB 73) (am_nL 73) (mR 73)) := by rfl
set_option maxRecDepth 100000 in
theorem lkB_74 : lw_tbl[980]? = some (.code (mY 74) (mB 74) (am_nL 74) (mR 74)) := by rfl
set_option maxRecDepth 100000 in
theorem lkB_75 : lw_tbl[74]? = some (.code (mY 75) (mB 75) (am_nL 75) (mR 75)) := by rfl
set_option maxRecDepth 100000 in
theorem lkB_76 : lw_tbl[244]? = some (.code (mY 76) (mB 76) (am_nL 76) (mR 76)) := by rfl
set_option maxRecDepth 100000 in
theorem lkB_77 : lw_tbl[260]? = some (.code (mY 77) (mB 77) (am_nL 77) (mR 77)) := by rfl
set_option maxRecDepth 100000 in
theorem lkB_78 : lw_tbl[264]? = some (.code (mY 78) (mB 78) (am_nL 78) (mR 78)) := by rfl
set_option maxRecDepth 100000 in
theorem lkB_79 : lw_tbl[288]? = some (.code (mY 79) (mB 79) (am_nL 79) (mR 79)) := by rfl
set_option maxRecDepth 100000 in
theorem lkB_80 : lw_tbl[300]? = some (.code (mY 80) (mB 80) (am_nL 80) (mR 80)) := by rfl
set_option maxRecDepth 100000 in
theorem lkB_81 : lw_tbl[307]? = some (.code (mY 81) (mB 81) (am_nL 81) (mR 81)) := by rfl
set_option maxRecDepth 100000 in
theorem lkB_82 : lw_tbl[256]? = some (.code (mY 82) (mB 82) (am_nL 82) (mR 82)) := by rfl
set_option maxRecDepth 100000 in
theorem lkB_83 : lw_tbl[390]? = some (.code (mY 83) (mB 83) (am_nL 83) (mR 83)) := by rfl
set_option maxRecDepth 100000 in
theorem lkB_84 : lw_tbl[402]? = some (.code (mY 84) (mB 84) (am_nL 84) (mR 84)) := by rfl
set_option maxRecDepth 100000 in
theorem lkB_85 : lw_tbl[398]? = some (.code (mY 85) (mB 85) (am_nL 85) (mR 85)) := by rfl
set_option maxRecDepth 100000 in
theorem lkB_86 : lw_tbl[418]? = some (.code (mY 86) (mB 86) (am_nL 86) (mR 86)) := by rfl
set_option maxRecDepth 100000 in
theorem lkB_87 : lw_tbl[414]? = some (.code (mY 87) (mB 87) (am_nL 87) (mR 87)) := by rfl
set_option maxRecDepth 100000 in
theorem lkB_88 : lw_tbl[284]? = some (.code (mY 88) (mB 88) (am_nL 88) (mR 88)) := by rfl
set_option maxRecDepth 100000 in
theorem lkB_89 : lw_tbl[428]? = some (.code (mY 89) (mB 89) (am_nL 89) (mR 89)) := by rfl
set_option maxRecDepth 100000 in
theorem lkB_90 : lw_tbl[433]? = some (.code (mY 90) (mB 90) (am_nL 90) (mR 90)) := by rfl
set_option maxRecDepth 100000 in
theorem lkB_91 : lw_tbl[442]? = some (.code (mY 91) (mB 91) (am_nL 91) (mR 91)) := by rfl
set_option maxRecDepth 100000 in
theorem lkB_92 : lw_tbl[449]? = some (.code (mY 92) (mB 92) (am_nL 92) (mR 92)) := by rfl
set_option maxRecDepth 100000 in
theorem lkB_93 : lw_tbl[457]? = some (.code (mY 93) (mB 93) (am_nL 93) (mR 93)) := by rfl
set_option maxRecDepth 100000 in
theorem lkB_94 : lw_tbl[68]? = some (.code (mY 94) (mB 94) (am_nL 94) (mR 94)) := by rfl
set_option maxRecDepth 100000 in
theorem lkB_95 : lw_tbl[240]? = some (.code (mY 95) (mB 95) (am_nL 95) (mR 95)) := by rfl
set_option maxRecDepth 100000 in
theorem lkB_96 : lw_tbl[382]? = some (.code (mY 96) (mB 96) (am_nL 96) (mR 96)) := by rfl
set_option maxRecDepth 100000 in
theorem lkB_97 : lw_tbl[466]? = some (.code (mY 97) (mB 97) (am_nL 97) (mR 97)) := by rfl
set_option maxRecDepth 100000 in
theorem lkB_98 : lw_tbl[394]? = some (.code (mY 98) (mB 98) (am_nL 98) (mR 98)) := by rfl
set_option maxRecDepth 100000 in
theorem lkB_99 : lw_tbl[424]? = some (.code (mY 99) (mB 99) (am_nL 99) (mR 99)) := by rfl
set_option maxRecDepth 100000 in
theorem lkB_100 : lw_tbl[462]? = some (.code (mY 100) (mB 100) (am_nL 100) (mR 100)) := by rfl
set_option maxRecDepth 100000 in
theorem lkB_101 : lw_tbl[437]? = some (.code (mY 101) (mB 101) (am_nL 101) (mR 101)) := by rfl
set_option maxRecDepth 100000 in
theorem lkB_102 : lw_tbl[453]? = some (.code (mY 102) (mB 102) (am_nL 102) (mR 102)) := by rfl
set_option maxRecDepth 100000 in
theorem lkB_103 : lw_tbl[625]? = some (.code (mY 103) (mB 103) (am_nL 103) (mR 103)) := by rfl
set_option maxRecDepth 100000 in
theorem lkB_104 : lw_tbl[406]? = some (.code (mY 104) (mB 104) (am_nL 104) (mR 104)) := by rfl
set_option maxRecDepth 100000 in
theorem lkB_105 : lw_tbl[107]? = some (.code (mY 105) (mB 105) (am_nL 105) (mR 105)) := by rfl
set_option maxRecDepth 100000 in
theorem lkB_106 : lw_tbl[386]? = some (.code (mY 106) (mB 106) (am_nL 106) (mR 106)) := by rfl
set_option maxRecDepth 100000 in
theorem lkB_107 : lw_tbl[599]? = some (.code (mY 107) (mB 107) (am_nL 107) (mR 107)) := by rfl
set_option maxRecDepth 100000 in
theorem lkB_108 : lw_tbl[608]? = some (.code (mY 108) (mB 108) (am_nL 108) (mR 108)) := by rfl
set_option maxRecDepth 100000 in
theorem lkB_109 : lw_tbl[410]? = some (.code (mY 109) (mB 109) (am_nL 109) (mR 109)) := by rfl
set_option maxRecDepth 100000 in
theorem lkB_110 : lw_tbl[589]? = some (.code (mY 110) (mB 110) (am_nL 110) (mR 110)) := by rfl
set_option maxRecDepth 100000 in
theorem lkB_111 : lw_tbl[471]? = some (.code (mY 111) (mB 111) (am_nL 111) (mR 111)) := by rfl
set_option maxRecDepth 100000 in
theorem lkB_112 : lw_tbl[595]? = some (.code (mY 112) (mB 112) (am_nL 112) (mR 112)) := by rfl
set_option maxRecDepth 100000 in
theorem lkB_113 : lw_tbl[475]? = some (.code (mY 113) (mB 113) (am_nL 113) (mR 113)) := by rfl
set_option maxRecDepth 100000 in
theorem lkB_114 : lw_tbl[559]? = some (.code (mY 114) (mB 114) (am_nL 114) (mR 114)) := by rfl
set_option maxRecDepth 100000 in
theorem lkB_115 : lw_tbl[614]? = some (.code (mY 115) (mB 115) (am_nL 115) (mR 115)) := by rfl
set_option maxRecDepth 100000 in
theorem lkB_116 : lw_tbl[479]? = some (.code (mY 116) (mB 116) (am_nL 116) (mR 116)) := by rfl
set_option maxRecDepth 100000 in
theorem lkB_117 : lw_tbl[483]? = some (.code (mY 117) (mB 117) (am_nL 117) (mR 117)) := by rfl
set_option maxRecDepth 100000 in
theorem lkB_118 : lw_tbl[641]? = some (.code (mY 118) (mB 118) (am_nL 118) (mR 118)) := by rfl
set_option maxRecDepth 100000 in
theorem lkB_119 : lw_tbl[646]? = some (.code (mY 119) (mB 119) (am_nL 119) (mR 119)) := by rfl
set_option maxRecDepth 100000 in
theorem lkB_120 : lw_tbl[182]? = some (.code (mY 120) (mB 120) (am_nL 120) (mR 120)) := by rfl
set_option maxRecDepth 100000 in
theorem lkB_121 : lw_tbl[487]? = some (.code (mY 121) (mB 121) (am_nL 121) (mR 121)) := by rfl
set_option maxRecDepth 100000 in
theorem lkB_122 : lw_tbl[491]? = some (.code (mY 122) (mB 122) (am_nL 122) (mR 122)) := by rfl
set_option maxRecDepth 100000 in
theorem lkB_123 : lw_tbl[504]? = some (.code (mY 123) (mB 123) (am_nL 123) (mR 123)) := by rfl
set_option maxRecDepth 100000 in
theorem lkB_124 : lw_tbl[498]? = some (.code (mY 124) (mB 124) (am_nL 124) (mR 124)) := by rfl
set_option maxRecDepth 100000 in
theorem lkB_125 : lw_tbl[579]? = some (.code (mY 125) (mB 125) (am_nL 125) (mR 125)) := by rfl
set_option maxRecDepth 100000 in
theorem lkB_126 : lw_tbl[683]? = some (.code (mY 126) (mB 126) (am_nL 126) (mR 126)) := by rfl
set_option maxRecDepth 100000 in
theorem lkB_127 : lw_tbl[575]? = some (.code (mY 127) (mB 127) (am_nL 127) (mR 127)) := by rfl
set_option maxRecDepth 100000 in
theorem lkB_128 : lw_tbl[133]? = some (.code (mY 128) (mB 128) (am_nL 128) (mR 128)) := by rfl
set_option maxRecDepth 100000 in
theorem lkB_129 : lw_tbl[323]? = some (.code (mY 129) (mB 129) (am_nL 129) (mR 129)) := by rfl
set_option maxRecDepth 100000 in
theorem lkB_130 : lw_tbl[315]? = some (.code (mY 130) (mB 130) (am_nL 130) (mR 130)) := by rfl
set_option maxRecDepth 100000 in
theorem lkB_131 : lw_tbl[319]? = some (.code (mY 131) (mB 131) (am_nL 131) (mR 131)) := by rfl
set_option maxRecDepth 100000 in
theorem lkB_132 : lw_tbl[348]? = some (.code (mY 132) (mB 132) (am_nL 132) (mR 132)) := by rfl
set_option maxRecDepth 100000 in
theorem lkB_133 : lw_tbl[343]? = some (.code (mY 133) (mB 133) (am_nL 133) (mR 133)) := by rfl
set_option maxRecDepth 100000 in
theorem lkB_134 : lw_tbl[571]? = some (.code (mY 134) (mB 134) (am_nL 134) (mR 134)) := by rfl
set_option maxRecDepth 100000 in
theorem lkB_135 : lw_tbl[195]? = some (.code (mY 135) (mB 135) (am_nL 135) (mR 135)) := by rfl
set_option maxRecDepth 100000 in
theorem lkB_136 : lw_tbl[633]? = some (.code (mY 136) (mB 136) (am_nL 136) (mR 136)) := by rfl
set_option maxRecDepth 100000 in
theorem lkB_137 : lw_tbl[700]? = some (.code (mY 137) (mB 137) (am_nL 137) (mR 137)) := by rfl
set_option maxRecDepth 100000 in
theorem lkB_138 : lw_tbl[704]? = some (.code (mY 138) (mB 138) (am_nL 138) (mR 138)) := by rfl
set_option maxRecDepth 100000 in
theorem lkB_139 : lw_tbl[692]? = some (.code (mY 139) (mB 139) (am_nL 139) (mR 139)) := by rfl
set_option maxRecDepth 100000 in
theorem lkB_140 : lw_tbl[653]? = some (.code (mY 140) (mB 140) (am_nL 140) (mR 140)) := by rfl
set_option maxRecDepth 100000 in
theorem lkB_141 : lw_tbl[695]? = some (.code (mY 141) (mB 141) (am_nL 141) (mR 141)) := by rfl
set_option maxRecDepth 100000 in
theorem lkB_142 : lw_tbl[664]? = some (.code (mY 142) (mB 142) (am_nL 142) (mR 142)) := by rfl
set_option maxRecDepth 100000 in
theorem lkB_143 : lw_tbl[658]? = some (.code (mY 143) (mB 143) (am_nL 143) (mR 143)) := by rfl
set_option maxRecDepth 100000 in
theorem lkB_144 : lw_tbl[678]? = some (.code (mY 144) (mB 144) (am_nL 144) (mR 144)) := by rfl
set_option maxRecDepth 100000 in
theorem lkB_145 : lw_tbl[672]? = some (.code (mY 145) (mB 145) (am_nL 145) (mR 145)) := by rfl
set_option maxRecDepth 100000 in
theorem lkB_146 : lw_tbl[154]? = some (.code (mY 146) (mB 146) (am_nL 146) (mR 146)) := by rfl
set_option maxRecDepth 100000 in
theorem lkB_147 : lw_tbl[339]? = some (.code (mY 147) (mB 147) (am_nL 147) (mR 147)) := by rfl
set_option maxRecDepth 100000 in
theorem lkB_148 : lw_tbl[567]? = some (.code (mY 148) (mB 148) (am_nL 148) (mR 148)) := by rfl
set_option maxRecDepth 100000 in
theorem lkB_149 : lw_tbl[583]? = some (.code (mY 149) (mB 149) (am_nL 149) (mR 149)) := by rfl
set_option maxRecDepth 100000 in
theorem lkB_150 : lw_tbl[147]? = some (.code (mY 150) (mB 150) (am_nL 150) (mR 150)) := by rfl
set_option maxRecDepth 100000 in
theorem lkB_151 : lw_tbl[352]? = some (.code (mY 151) (mB 151) (am_nL 151) (mR 151)) := by rfl
set_option maxRecDepth 100000 in
theorem lkB_152 : lw_tbl[331]? = some (.code (mY 152) (mB 152) (am_nL 152) (mR 152)) := by rfl
set_option maxRecDepth 100000 in
theorem lkB_153 : lw_tbl[335]? = some (.code (mY 153) (mB 153) (am_nL 153) (mR 153)) := by rfl
set_option maxRecDepth 100000 in
theorem lkB_154 : lw_tbl[360]? = some (.code (mY 154) (mB 154) (am_nL 154) (mR 154)) := by rfl
set_option maxRecDepth 100000 in
theorem lkB_155 : lw_tbl[563]? = some (.code (mY 155) (mB 155) (am_nL 155) (mR 155)) := by rfl
set_option maxRecDepth 100000 in
theorem lkB_156 : lw_tbl[78]? = some (.code (mY 156) (mB 156) (am_nL 156) (mR 156)) := by rfl
theorem lkY_ok : ∀ mi, mi < 157 → ∃ r, ck_y mi r = true := by
  intro mi h
  match mi, h with
  | 0, _ => exact ⟨_, lkY_0⟩
  | 1, _ => exact ⟨_, lkY_1⟩
  | 2, _ => exact ⟨_, lkY_2⟩
  | 3, _ => exact ⟨_, lkY_3⟩
  | 4, _ => exact ⟨_, lkY_4⟩
  | 5, _ => exact ⟨_, lkY_5⟩
  | 6, _ => exact ⟨_, lkY_6⟩
  | 7, _ => exact ⟨_, lkY_7⟩
  | 8, _ => exact ⟨_, lkY_8⟩
  | 9, _ => exact ⟨_, lkY_9⟩
  | 10, _ => exact ⟨_, lkY_10⟩
  | 11, _ => exact ⟨_, lkY_11⟩
  | 12, _ => exact ⟨_, lkY_12⟩
  | 13, _ => exact ⟨_, lkY_13⟩
  | 14, _ => exact ⟨_, lkY_14⟩
  | 15, _ => exact ⟨_, lkY_15⟩
  | 16, _ => exact ⟨_, lkY_16⟩
  | 17, _ => exact ⟨_, lkY_17⟩
  | 18, _ => exact ⟨_, lkY_18⟩
  | 19, _ => exact ⟨_, lkY_19⟩
  | 20, _ => exact ⟨_, lkY_20⟩
  | 21, _ => exact ⟨_, lkY_21⟩
  | 22, _ => exact ⟨_, lkY_22⟩
  | 23, _ => exact ⟨_, lkY_23⟩
  | 24, _ => exact ⟨_, lkY_24⟩
  | 25, _ => exact ⟨_, lkY_25⟩
  | 26, _ => exact ⟨_, lkY_26⟩
  | 27, _ => exact ⟨_, lkY_27⟩
  | 28, _ => exact ⟨_, lkY_28⟩
  | 29, _ => exact ⟨_, lkY_29⟩
  | 30, _ => exact ⟨_, lkY_30⟩
  | 31, _ => exact ⟨_, lkY_31⟩
  | 32, _ => exact ⟨_, lkY_32⟩
  | 33, _ => exact ⟨_, lkY_33⟩
  | 34, _ => exact ⟨_, lkY_34⟩
  | 35, _ => exact ⟨_, lkY_35⟩
  | 36, _ => exact ⟨_, lkY_36⟩
  | 37, _ => exact ⟨_, lkY_37⟩
  | 38, _ => exact ⟨_, lkY_38⟩
  | 39, _ => exact ⟨_, lkY_39⟩
  | 40, _ => exact ⟨_, lkY_40⟩
  | 41, _ => exact ⟨_, lkY_41⟩
  | 42, _ => exact ⟨_, lkY_42⟩
  | 43, _ => exact ⟨_, lkY_43⟩
  | 44, _ => exact ⟨_, lkY_44⟩
  | 45, _ => exact ⟨_, lkY_45⟩
  | 46, _ => exact ⟨_, lkY_46⟩
  | 47, _ => exact ⟨_, lkY_47⟩
  | 48, _ => exact ⟨_, lkY_48⟩
  | 49, _ => exact ⟨_, lkY_49⟩
  | 50, _ => exact ⟨_, lkY_50⟩
  | 51, _ => exact ⟨_, lkY_51⟩
  | 52, _ => exact ⟨_, lkY_52⟩
  | 53, _ => exact ⟨_, lkY_53⟩
  | 54, _ => exact ⟨_, lkY_54⟩
  | 55, _ => exact ⟨_, lkY_55⟩
  | 56, _ => exact ⟨_, lkY_56⟩
  | 57, _ => exact ⟨_, lkY_57⟩
  | 58, _ => exact ⟨_, lkY_58⟩
  | 59, _ => exact ⟨_, lkY_59⟩
  | 60, _ => exact ⟨_, lkY_60⟩
  | 61, _ => exact ⟨_, lkY_61⟩
  | 62, _ => exact ⟨_, lkY_62⟩
  | 63, _ => exact ⟨_, lkY_63⟩
  | 64, _ => exact ⟨_, lkY_64⟩
  | 65, _ => exact ⟨_, lkY_65⟩
  | 66, _ => exact ⟨_, lkY_66⟩
  | 67, _ => exact ⟨_, lkY_67⟩
  | 68, _ => exact ⟨_, lkY_68⟩
  | 69, _ => exact ⟨_, lkY_69⟩
  | 70, _ => exact ⟨_, lkY_70⟩
  | 71, _ => exact ⟨_, lkY_71⟩
  | 72, _ => exact ⟨_, lkY_72⟩
  | 73, _ => exact ⟨_, lkY_73⟩
  | 74, _ => exact ⟨_, lkY_74⟩
  | 75, _ => exact ⟨_, lkY_75⟩
  | 76, _ => exact ⟨_, lkY_76⟩
  | 77, _ => exact ⟨_, lkY_77⟩
  | 78, _ => exact ⟨_, lkY_78⟩
  | 79, _ => exact ⟨_, lkY_79⟩
  | 80, _ => exact ⟨_, lkY_80⟩
  | 81, _ => exact ⟨_, lkY_81⟩
  | 82, _ => exact ⟨_, lkY_82⟩
  | 83, _ => exact ⟨_, lkY_83⟩
  | 84, _ => exact ⟨_, lkY_84⟩
  | 85, _ => exact ⟨_, lkY_85⟩
  | 86, _ => exact ⟨_, lkY_86⟩
  | 87, _ => exact ⟨_, lkY_87⟩
  | 88, _ => exact ⟨_, lkY_88⟩
  | 89, _ => exact ⟨_, lkY_89⟩
  | 90, _ => exact ⟨_, lkY_90⟩
  | 91, _ => exact ⟨_, lkY_91⟩
  | 92, _ => exact ⟨_, lkY_92⟩
  | 93, _ => exact ⟨_, lkY_93⟩
  | 94, _ => exact ⟨_, lkY_94⟩
  | 95, _ => exact ⟨_, lkY_95⟩
  | 96, _ => exact ⟨_, lkY_96⟩
  | 97, _ => exact ⟨_, lkY_97⟩
  | 98, _ => exact ⟨_, lkY_98⟩
  | 99, _ => exact ⟨_, lkY_99⟩
  | 100, _ => exact ⟨_, lkY_100⟩
  | 101, _ => exact ⟨_, lkY_101⟩
  | 102, _ => exact ⟨_, lkY_102⟩
  | 103, _ => exact ⟨_, lkY_103⟩
  | 104, _ => exact ⟨_, lkY_104⟩
  | 105, _ => exact ⟨_, lkY_105⟩
  | 106, _ => exact ⟨_, lkY_106⟩
  | 107, _ => exact ⟨_, lkY_107⟩
  | 108, _ => exact ⟨_, lkY_108⟩
  | 109, _ => exact ⟨_, lkY_109⟩
  | 110, _ => exact ⟨_, lkY_110⟩
  | 111, _ => exact ⟨_, lkY_111⟩
  | 112, _ => exact ⟨_, lkY_112⟩
  | 113, _ => exact ⟨_, lkY_113⟩
  | 114, _ => exact ⟨_, lkY_114⟩
  | 115, _ => exact ⟨_, lkY_115⟩
  | 116, _ => exact ⟨_, lkY_116⟩
  | 117, _ => exact ⟨_, lkY_117⟩
  | 118, _ => exact ⟨_, lkY_118⟩
  | 119, _ => exact ⟨_, lkY_119⟩
  | 120, _ => exact ⟨_, lkY_120⟩
  | 121, _ => exact ⟨_, lkY_121⟩
  | 122, _ => exact ⟨_, lkY_122⟩
  | 123, _ => exact ⟨_, lkY_123⟩
  | 124, _ => exact ⟨_, lkY_124⟩
  | 125, _ => exact ⟨_, lkY_125⟩
  | 126, _ => exact ⟨_, lkY_126⟩
  | 127, _ => exact ⟨_, lkY_127⟩
  | 128, _ => exact ⟨_, lkY_128⟩
  | 129, _ => exact ⟨_, lkY_129⟩
  | 130, _ => exact ⟨_, lkY_130⟩
  | 131, _ => exact ⟨_, lkY_131⟩
  | 132, _ => exact ⟨_, lkY_132⟩
  | 133, _ => exact ⟨_, lkY_133⟩
  | 134, _ => exact ⟨_, lkY_134⟩
  | 135, _ => exact ⟨_, lkY_135⟩
  | 136, _ => exact ⟨_, lkY_136⟩
  | 137, _ => exact ⟨_, lkY_137⟩
  | 138, _ => exact ⟨_, lkY_138⟩
  | 139, _ => exact ⟨_, lkY_139⟩
  | 140, _ => exact ⟨_, lkY_140⟩
  | 141, _ => exact ⟨_, lkY_141⟩
  | 142, _ => exact ⟨_, lkY_142⟩
  | 143, _ => exact ⟨_, lkY_143⟩
  | 144, _ => exact ⟨_, lkY_144⟩
  | 145, _ => exact ⟨_, lkY_145⟩
  | 146, _ => exact ⟨_, lkY_146⟩
  | 147, _ => exact ⟨_, lkY_147⟩
  | 148, _ => exact ⟨_, lkY_148⟩
  | 149, _ => exact ⟨_, lkY_149⟩
  | 150, _ => exact ⟨_, lkY_150⟩
  | 151, _ => exact ⟨_, lkY_151⟩
  | 152, _ => exact ⟨_, lkY_152⟩
  | 153, _ => exact ⟨_, lkY_153⟩
  | 154, _ => exact ⟨_, lkY_154⟩
  | 155, _ => exact ⟨_, lkY_155⟩
  | 156, _ => exact ⟨_, lkY_156⟩
  | mi + 157, h => exact absurd h (by omega)
theorem lkB_ok : ∀ mi, mi < 157 → Cond.code (mY mi) (mB mi) (am_nL mi) (mR mi) ∈ lw_tbl := by
  intro mi h
  match mi, h with
  | 0, _ => exact List.mem_of_getElem? lkB_0
  | 1, _ => exact List.mem_of_getElem? lkB_1
  | 2, _ => exact List.mem_of_getElem? lkB_2
  | 3, _ => exact List.mem_of_getElem? lkB_3
  | 4, _ => exact List.mem_of_getElem? lkB_4
  | 5, _ => exact List.mem_of_getElem? lkB_5
  | 6, _ => exact List.mem_of_getElem? lkB_6
  | 7, _ => exact List.mem_of_getElem? lkB_7
  | 8, _ => exact List.mem_of_getElem? lkB_8
  | 9, _ => exact List.mem_of_getElem? lkB_9
  | 10, _ => exact List.mem_of_getElem? lkB_10
  | 11, _ => exact List.mem_of_getElem? lkB_11
  | 12, _ => exact List.mem_of_getElem? lkB_12
  | 13, _ => exact List.mem_of_getElem? lkB_13
  | 14, _ => exact List.mem_of_getElem? lkB_14
  | 15, _ => exact List.mem_of_getElem? lkB_15
  | 16, _ => exact List.mem_of_getElem? lkB_16
  | 17, _ => exact List.mem_of_getElem? lkB_17
  | 18, _ => exact List.mem_of_getElem? lkB_18
  | 19, _ => exact List.mem_of_getElem? lkB_19
  | 20, _ => exact List.mem_of_getElem? lkB_20
  | 21, _ => exact List.mem_of_getElem? lkB_21
  | 22, _ => exact List.mem_of_getElem? lkB_22
  | 23, _ => exact List.mem_of_getElem? lkB_23
  | 24, _ => exact List.mem_of_getElem? lkB_24
  | 25, _ => exact List.mem_of_getElem? lkB_25
  | 26, _ => exact List.mem_of_getElem? lkB_26
  | 27, _ => exact List.mem_of_getElem? lkB_27
  | 28, _ => exact List.mem_of_getElem? lkB_28
  | 29, _ => exact List.mem_of_getElem? lkB_29
  | 30, _ => exact List.mem_of_getElem? lkB_30
  | 31, _ => exact List.mem_of_getElem? lkB_31
  | 32, _ => exact List.mem_of_getElem? lkB_32
  | 33, _ => exact List.mem_of_getElem? lkB_33
  | 34, _ => exact List.mem_of_getElem? lkB_34
  | 35, _ => exact List.mem_of_getElem? lkB_35
  | 36, _ => exact List.mem_of_getElem? lkB_36
  | 37, _ => exact List.mem_of_getElem? lkB_37
  | 38, _ => exact List.mem_of_getElem? lkB_38
  | 39, _ => exact List.mem_of_getElem? lkB_39
  | 40, _ => exact List.mem_of_getElem? lkB_40
  | 41, _ => exact List.mem_of_getElem? lkB_41
  | 42, _ => exact List.mem_of_getElem? lkB_42
  | 43, _ => exact List.mem_of_getElem? lkB_43
  | 44, _ => exact List.mem_of_getElem? lkB_44
  | 45, _ => exact List.mem_of_getElem? lkB_45
  | 46, _ => exact List.mem_of_getElem? lkB_46
  | 47, _ => exact List.mem_of_getElem? lkB_47
  | 48, _ => exact List.mem_of_getElem? lkB_48
  | 49, _ => exact List.mem_of_getElem? lkB_49
  | 50, _ => exact List.mem_of_getElem? lkB_50
  | 51, _ => exact List.mem_of_getElem? lkB_51
  | 52, _ => exact List.mem_of_getElem? lkB_52
  | 53, _ => exact List.mem_of_getElem? lkB_53
  | 54, _ => exact List.mem_of_getElem? lkB_54
  | 55, _ => exact List.mem_of_getElem? lkB_55
  | 56, _ => exact List.mem_of_getElem? lkB_56
  | 57, _ => exact List.mem_of_getElem? lkB_57
  | 58, _ => exact List.mem_of_getElem? lkB_58
  | 59, _ => exact List.mem_of_getElem? lkB_59
  | 60, _ => exact List.mem_of_getElem? lkB_60
  | 61, _ => exact List.mem_of_getElem? lkB_61
  | 62, _ => exact List.mem_of_getElem? lkB_62
  | 63, _ => exact List.mem_of_getElem? lkB_63
  | 64, _ => exact List.mem_of_getElem? lkB_64
  | 65, _ => exact List.mem_of_getElem? lkB_65
  | 66, _ => exact List.mem_of_getElem? lkB_66
  | 67, _ => exact List.mem_of_getElem? lkB_67
  | 68, _ => exact List.mem_of_getElem? lkB_68
  | 69, _ => exact List.mem_of_getElem? lkB_69
  | 70, _ => exact List.mem_of_getElem? lkB_70
  | 71, _ => exact List.mem_of_getElem? lkB_71
  | 72, _ => exact List.mem_of_getElem? lkB_72
  | 73, _ => exact List.mem_of_getElem? lkB_73
  | 74, _ => exact List.mem_of_getElem? lkB_74
  | 75, _ => exact List.mem_of_getElem? lkB_75
  | 76, _ => exact List.mem_of_getElem? lkB_76
  | 77, _ => exact List.mem_of_getElem? lkB_77
  | 78, _ => exact List.mem_of_getElem? lkB_78
  | 79, _ => exact List.mem_of_getElem? lkB_79
  | 80, _ => exact List.mem_of_getElem? lkB_80
  | 81, _ => exact List.mem_of_getElem? lkB_81
  | 82, _ => exact List.mem_of_getElem? lkB_82
  | 83, _ => exact List.mem_of_getElem? lkB_83
  | 84, _ => exact List.mem_of_getElem? lkB_84
  | 85, _ => exact List.mem_of_getElem? lkB_85
  | 86, _ => exact List.mem_of_getElem? lkB_86
  | 87, _ => exact List.mem_of_getElem? lkB_87
  | 88, _ => exact List.mem_of_getElem? lkB_88
  | 89, _ => exact List.mem_of_getElem? lkB_89
  | 90, _ => exact List.mem_of_getElem? lkB_90
  | 91, _ => exact List.mem_of_getElem? lkB_91
  | 92, _ => exact List.mem_of_getElem? lkB_92
  | 93, _ => exact List.mem_of_getElem? lkB_93
  | 94, _ => exact List.mem_of_getElem? lkB_94
  | 95, _ => exact List.mem_of_getElem? lkB_95
  | 96, _ => exact List.mem_of_getElem? lkB_96
  | 97, _ => exact List.mem_of_getElem? lkB_97
  | 98, _ => exact List.mem_of_getElem? lkB_98
  | 99, _ => exact List.mem_of_getElem? lkB_99
  | 100, _ => exact List.mem_of_getElem? lkB_100
  | 101, _ => exact List.mem_of_getElem? lkB_101
  | 102, _ => exact List.mem_of_getElem? lkB_102
  | 103, _ => exact List.mem_of_getElem? lkB_103
  | 104, _ => exact List.mem_of_getElem? lkB_104
  | 105, _ => exact List.mem_of_getElem? lkB_105
  | 106, _ => exact List.mem_of_getElem? lkB_106
  | 107, _ => exact List.mem_of_getElem? lkB_107
  | 108, _ => exact List.mem_of_getElem? lkB_108
  | 109, _ => exact List.mem_of_getElem? lkB_109
  | 110, _ => exact List.mem_of_getElem? lkB_110
  | 111, _ => exact List.mem_of_getElem? lkB_111
  | 112, _ => exact List.mem_of_getElem? lkB_112
  | 113, _ => exact List.mem_of_getElem? lkB_113
  | 114, _ => exact List.mem_of_getElem? lkB_114
  | 115, _ => exact List.mem_of_getElem? lkB_115
  | 116, _ => exact List.mem_of_getElem? lkB_116
  | 117, _ => exact List.mem_of_getElem? lkB_117
  | 118, _ => exact List.mem_of_getElem? lkB_118
  | 119, _ => exact List.mem_of_getElem? lkB_119
  | 120, _ => exact List.mem_of_getElem? lkB_120
  | 121, _ => exact List.mem_of_getElem? lkB_121
  | 122, _ => exact List.mem_of_getElem? lkB_122
  | 123, _ => exact List.mem_of_getElem? lkB_123
  | 124, _ => exact List.mem_of_getElem? lkB_124
  | 125, _ => exact List.mem_of_getElem? lkB_125
  | 126, _ => exact List.mem_of_getElem? lkB_126
  | 127, _ => exact List.mem_of_getElem? lkB_127
  | 128, _ => exact List.mem_of_getElem? lkB_128
  | 129, _ => exact List.mem_of_getElem? lkB_129
  | 130, _ => exact List.mem_of_getElem? lkB_130
  | 131, _ => exact List.mem_of_getElem? lkB_131
  | 132, _ => exact List.mem_of_getElem? lkB_132
  | 133, _ => exact List.mem_of_getElem? lkB_133
  | 134, _ => exact List.mem_of_getElem? lkB_134
  | 135, _ => exact List.mem_of_getElem? lkB_135
  | 136, _ => exact List.mem_of_getElem? lkB_136
  | 137, _ => exact List.mem_of_getElem? lkB_137
  | 138, _ => exact List.mem_of_getElem? lkB_138
  | 139, _ => exact List.mem_of_getElem? lkB_139
  | 140, _ => exact List.mem_of_getElem? lkB_140
  | 141, _ => exact List.mem_of_getElem? lkB_141
  | 142, _ => exact List.mem_of_getElem? lkB_142
  | 143, _ => exact List.mem_of_getElem? lkB_143
  | 144, _ => exact List.mem_of_getElem? lkB_144
  | 145, _ => exact List.mem_of_getElem? lkB_145
  | 146, _ => exact List.mem_of_getElem? lkB_146
  | 147, _ => exact List.mem_of_getElem? lkB_147
  | 148, _ => exact List.mem_of_getElem? lkB_148
  | 149, _ => exact List.mem_of_getElem? lkB_149
  | 150, _ => exact List.mem_of_getElem? lkB_150
  | 151, _ => exact List.mem_of_getElem? lkB_151
  | 152, _ => exact List.mem_of_getElem? lkB_152
  | 153, _ => exact List.mem_of_getElem? lkB_153
  | 154, _ => exact List.mem_of_getElem? lkB_154
  | 155, _ => exact List.mem_of_getElem? lkB_155
  | 156, _ => exact List.mem_of_getElem? lkB_156
  | mi + 157, h => exact absurd h (by omega)
set_option maxRecDepth 100000 in
theorem lkC_ok : lkC.all (fun r => ck_w r.2.2.2 (.classLink (nmC r.1) r.2.1 (nmC r.2.2.1))) = true := by decide +kernel
set_option maxRecDepth 100000 in
theorem lkO_ok : (List.range 10).all (fun ci => ck_w (lkO.getD ci (0, 0)).1 (.instantiable (nmC ci) (am_fn ci)) && ck_w (lkO.getD ci (0, 0)).2 (.initialized (nmC ci))) = true := by decide +kernel
set_option maxRecDepth 100000 in
theorem lkK_ok : lkK.all (fun r => ck_w r.2.2.2 (.constant (nmC r.1) r.2.1 (Int32.ofNat r.2.2.1))) = true := by decide +kernel
set_option maxRecDepth 100000 in
theorem lkD_ok : lkD.all (fun r => ck_w r.2.2.2 (.constantDouble (nmC r.1) r.2.1 (UInt64.ofNat r.2.2.1))) = true := by decide +kernel
set_option maxRecDepth 100000 in
theorem lkI_ok : lkI.all (fun r => ck_w r.2.2 (.methodLink (nmC r.1) r.2.1 objectInit)) = true := by decide +kernel
set_option maxRecDepth 100000 in
theorem lkA_ok : lkA.all (fun r => ck_w r.2.2 (.methodLink (nmC r.1) r.2.1 arraycopyName)) = true := by decide +kernel
set_option maxRecDepth 100000 in
theorem lkZ_ok : ck_w 62 (.instanceMethod objectInit) = true ∧ ck_w 63 (.code objectInit ⟨#[0xb1]⟩ 1 none) = true ∧ ck_w 303 (.native arraycopyName) = true ∧ ck_w 302 (.static arraycopyName) = true ∧ ck_w 51 (.initialized "java/lang/System") = true ∧ ck_w 101 (.arrayClass .int) = true ∧ ck_w 142 (.arrayClass .char) = true ∧ ck_w 811 (.arrayClass .boolean) = true ∧ ck_w 102 (.arrayClass .double) = true := by decide +kernel
set_option maxRecDepth 100000 in
theorem lkQ_ok : lw_tbl[150]? = some (.arrayOver (.object "ReleaseDesk$Rule")) := by decide +kernel
theorem lkL_ok : lkL.all (fun r => ck_w r.2.2 (.methodLink (nmC r.1) r.2.1 ⟨"java/lang/String", "length", "()I"⟩)) = true := by decide +kernel
theorem lkH_ok : lkH.all (fun r => ck_w r.2.2 (.methodLink (nmC r.1) r.2.1 ⟨"java/lang/String", "charAt", "(I)C"⟩)) = true := by decide +kernel
set_option maxRecDepth 100000 in
theorem lkT_ok : ck_w 52 (.initialized "java/lang/String") = true ∧ ck_w 509 (.instanceMethod ⟨"java/lang/String", "length", "()I"⟩) = true ∧ ck_w 510 (.selects "java/lang/String" ⟨"java/lang/String", "length", "()I"⟩ ⟨"java/lang/String", "length", "()I"⟩) = true ∧ ck_w 519 (.instanceMethod ⟨"java/lang/String", "charAt", "(I)C"⟩) = true ∧ ck_w 520 (.selects "java/lang/String" ⟨"java/lang/String", "charAt", "(I)C"⟩ ⟨"java/lang/String", "charAt", "(I)C"⟩) = true := by decide +kernel
set_option maxRecDepth 100000 in
theorem lkT_1 : lw_tbl[511]? = some (.code ⟨"java/lang/String", "length", "()I"⟩ prog_12_method_54_code 1 (some .int)) := by rfl
set_option maxRecDepth 100000 in
theorem lkT_2 : lw_tbl[521]? = some (.code ⟨"java/lang/String", "charAt", "(I)C"⟩ prog_12_method_56_code 2 (some .char)) := by rfl
