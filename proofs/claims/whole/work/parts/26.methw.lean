/-! The words that calls lean on. -/
def pm_cwi (y : Nat) : Nat := ([65, 73, 90, 93, 96, 116, 132, 187, 191, 195, 198, 201, 205, 210, 214, 221, 229, 233, 238, 245, 249, 253, 257, 261, 265, 269, 273, 276, 279, 285, 288, 376, 379, 383, 387, 391, 395, 402, 441, 445, 449, 453, 456, 461, 464, 484, 495, 498, 501, 505, 509, 514, 518, 522, 526, 530, 535, 539, 545, 549, 552, 559, 562, 567, 587, 593, 599, 605, 609, 613, 617, 621, 625, 630, 635, 639, 645, 648, 661, 666, 690, 706, 709, 713, 717, 721, 725, 729, 735, 741, 744, 747, 751, 755, 759, 764, 768, 774, 856, 860, 864, 868, 872, 876, 880, 884, 888, 892, 896, 900, 904, 908, 912, 916, 920, 924, 928, 932, 936, 940, 944, 948, 952, 956, 960, 964, 968, 972, 976, 980, 983, 986, 990, 994, 998, 1002, 1006, 1010, 1014, 1018] : List Nat).getD y 0
def pm_hw (y : Nat) : List (Nat × Nat × Nat × Nat) := ([[], [], [], [], [], [], [], [], [], [], [], [], [], [], [], [], [], [], [], [], [], [], [], [], [], [], [], [], [(0, 9, 12, 13), (0, 9, 15, 15)], [], [], [], [(0, 9, 12, 13), (0, 9, 15, 15)], [], [], [], [], [], [], [], [], [], [], [], [], [], [], [], [(0, 8, 11, 15)], [], [], [], [], [], [], [], [], [], [], [], [], [], [], [], [], [], [], [], [], [], [], [(0, 10, 13, 13), (0, 10, 17, 15)], [], [], [(0, 9, 12, 13), (0, 9, 15, 15)], [], [], [], [(0, 9, 12, 13), (0, 9, 15, 34), (0, 9, 18, 15)], [], [], [], [(0, 8, 11, 34)], [], [(0, 8, 11, 34)], [], [], [], [], [], [], [], [(0, 9, 12, 34)], [], [], [(0, 9, 12, 34)], [], [], [], [], [], [], [], [], [], [], [], [], [], [], [], [], [], [], [], [], [], [], [], [], [], [], [], [], [], [], [], [], [], [], [], [], [], [], [], [], [], [], [], []] : List (List (Nat × Nat × Nat × Nat))).getD y []
def pm_cw (y : Nat) : Cond := match pm_hw y with
  | [] => .code (pm_nm y) (pm_byt y) (pm_mx y) (pm_ret y)
  | hh => .codeWith (pm_nm y) (pm_byt y) (pm_mx y) (pm_ret y) hh
theorem pm_cw_0 : lw_tbl[pm_cwi 0]? = some (pm_cw 0) := by decide +kernel
theorem pm_cw_1 : lw_tbl[pm_cwi 1]? = some (pm_cw 1) := by decide +kernel
theorem pm_cw_2 : lw_tbl[pm_cwi 2]? = some (pm_cw 2) := by decide +kernel
theorem pm_cw_3 : lw_tbl[pm_cwi 3]? = some (pm_cw 3) := by decide +kernel
theorem pm_cw_4 : lw_tbl[pm_cwi 4]? = some (pm_cw 4) := by decide +kernel
theorem pm_cw_5 : lw_tbl[pm_cwi 5]? = some (pm_cw 5) := by decide +kernel
theorem pm_cw_6 : lw_tbl[pm_cwi 6]? = some (pm_cw 6) := by decide +kernel
theorem pm_cw_7 : lw_tbl[pm_cwi 7]? = some (pm_cw 7) := by decide +kernel
theorem pm_cw_8 : lw_tbl[pm_cwi 8]? = some (pm_cw 8) := by decide +kernel
theorem pm_cw_9 : lw_tbl[pm_cwi 9]? = some (pm_cw 9) := by decide +kernel
theorem pm_cw_10 : lw_tbl[pm_cwi 10]? = some (pm_cw 10) := by decide +kernel
theorem pm_cw_11 : lw_tbl[pm_cwi 11]? = some (pm_cw 11) := by decide +kernel
theorem pm_cw_12 : lw_tbl[pm_cwi 12]? = some (pm_cw 12) := by decide +kernel
theorem pm_cw_13 : lw_tbl[pm_cwi 13]? = some (pm_cw 13) := by decide +kernel
theorem pm_cw_14 : lw_tbl[pm_cwi 14]? = some (pm_cw 14) := by decide +kernel
theorem pm_cw_15 : lw_tbl[pm_cwi 15]? = some (pm_cw 15) := by decide +kernel
theorem pm_cw_16 : lw_tbl[pm_cwi 16]? = some (pm_cw 16) := by decide +kernel
theorem pm_cw_17 : lw_tbl[pm_cwi 17]? = some (pm_cw 17) := by decide +kernel
theorem pm_cw_18 : lw_tbl[pm_cwi 18]? = some (pm_cw 18) := by decide +kernel
theorem pm_cw_19 : lw_tbl[pm_cwi 19]? = some (pm_cw 19) := by decide +kernel
theorem pm_cw_20 : lw_tbl[pm_cwi 20]? = some (pm_cw 20) := by decide +kernel
theorem pm_cw_21 : lw_tbl[pm_cwi 21]? = some (pm_cw 21) := by decide +kernel
theorem pm_cw_22 : lw_tbl[pm_cwi 22]? = some (pm_cw 22) := by decide +kernel
theorem pm_cw_23 : lw_tbl[pm_cwi 23]? = some (pm_cw 23) := by decide +kernel
theorem pm_cw_24 : lw_tbl[pm_cwi 24]? = some (pm_cw 24) := by decide +kernel
theorem pm_cw_25 : lw_tbl[pm_cwi 25]? = some (pm_cw 25) := by decide +kernel
theorem pm_cw_26 : lw_tbl[pm_cwi 26]? = some (pm_cw 26) := by decide +kernel
theorem pm_cw_27 : lw_tbl[pm_cwi 27]? = some (pm_cw 27) := by decide +kernel
theorem pm_cw_28 : lw_tbl[pm_cwi 28]? = some (pm_cw 28) := by decide +kernel
theorem pm_cw_29 : lw_tbl[pm_cwi 29]? = some (pm_cw 29) := by decide +kernel
theorem pm_cw_30 : lw_tbl[pm_cwi 30]? = some (pm_cw 30) := by decide +kernel
theorem pm_cw_31 : lw_tbl[pm_cwi 31]? = some (pm_cw 31) := by decide +kernel
theorem pm_cw_32 : lw_tbl[pm_cwi 32]? = some (pm_cw 32) := by decide +kernel
theorem pm_cw_33 : lw_tbl[pm_cwi 33]? = some (pm_cw 33) := by decide +kernel
theorem pm_cw_34 : lw_tbl[pm_cwi 34]? = some (pm_cw 34) := by decide +kernel
theorem pm_cw_35 : lw_tbl[pm_cwi 35]? = some (pm_cw 35) := by decide +kernel
theorem pm_cw_36 : lw_tbl[pm_cwi 36]? = some (pm_cw 36) := by decide +kernel
theorem pm_cw_37 : lw_tbl[pm_cwi 37]? = some (pm_cw 37) := by decide +kernel
theorem pm_cw_38 : lw_tbl[pm_cwi 38]? = some (pm_cw 38) := by decide +kernel
theorem pm_cw_39 : lw_tbl[pm_cwi 39]? = some (pm_cw 39) := by decide +kernel
theorem pm_cw_40 : lw_tbl[pm_cwi 40]? = some (pm_cw 40) := by decide +kernel
theorem pm_cw_41 : lw_tbl[pm_cwi 41]? = some (pm_cw 41) := by decide +kernel
theorem pm_cw_42 : lw_tbl[pm_cwi 42]? = some (pm_cw 42) := by decide +kernel
theorem pm_cw_43 : lw_tbl[pm_cwi 43]? = some (pm_cw 43) := by decide +kernel
theorem pm_cw_44 : lw_tbl[pm_cwi 44]? = some (pm_cw 44) := by decide +kernel
theorem pm_cw_45 : lw_tbl[pm_cwi 45]? = some (pm_cw 45) := by decide +kernel
theorem pm_cw_46 : lw_tbl[pm_cwi 46]? = some (pm_cw 46) := by decide +kernel
theorem pm_cw_47 : lw_tbl[pm_cwi 47]? = some (pm_cw 47) := by decide +kernel
theorem pm_cw_48 : lw_tbl[pm_cwi 48]? = some (pm_cw 48) := by decide +kernel
theorem pm_cw_49 : lw_tbl[pm_cwi 49]? = some (pm_cw 49) := by decide +kernel
theorem pm_cw_50 : lw_tbl[pm_cwi 50]? = some (pm_cw 50) := by decide +kernel
theorem pm_cw_51 : lw_tbl[pm_cwi 51]? = some (pm_cw 51) := by decide +kernel
theorem pm_cw_52 : lw_tbl[pm_cwi 52]? = some (pm_cw 52) := by decide +kernel
theorem pm_cw_53 : lw_tbl[pm_cwi 53]? = some (pm_cw 53) := by decide +kernel
theorem pm_cw_54 : lw_tbl[pm_cwi 54]? = some (pm_cw 54) := by decide +kernel
theorem pm_cw_55 : lw_tbl[pm_cwi 55]? = some (pm_cw 55) := by decide +kernel
theorem pm_cw_56 : lw_tbl[pm_cwi 56]? = some (pm_cw 56) := by decide +kernel
theorem pm_cw_57 : lw_tbl[pm_cwi 57]? = some (pm_cw 57) := by decide +kernel
theorem pm_cw_58 : lw_tbl[pm_cwi 58]? = some (pm_cw 58) := by decide +kernel
theorem pm_cw_59 : lw_tbl[pm_cwi 59]? = some (pm_cw 59) := by decide +kernel
theorem pm_cw_60 : lw_tbl[pm_cwi 60]? = some (pm_cw 60) := by decide +kernel
theorem pm_cw_61 : lw_tbl[pm_cwi 61]? = some (pm_cw 61) := by decide +kernel
theorem pm_cw_62 : lw_tbl[pm_cwi 62]? = some (pm_cw 62) := by decide +kernel
theorem pm_cw_63 : lw_tbl[pm_cwi 63]? = some (pm_cw 63) := by decide +kernel
theorem pm_cw_64 : lw_tbl[pm_cwi 64]? = some (pm_cw 64) := by decide +kernel
theorem pm_cw_65 : lw_tbl[pm_cwi 65]? = some (pm_cw 65) := by decide +kernel
theorem pm_cw_66 : lw_tbl[pm_cwi 66]? = some (pm_cw 66) := by decide +kernel
theorem pm_cw_67 : lw_tbl[pm_cwi 67]? = some (pm_cw 67) := by decide +kernel
theorem pm_cw_68 : lw_tbl[pm_cwi 68]? = some (pm_cw 68) := by decide +kernel
theorem pm_cw_69 : lw_tbl[pm_cwi 69]? = some (pm_cw 69) := by decide +kernel
theorem pm_cw_70 : lw_tbl[pm_cwi 70]? = some (pm_cw 70) := by decide +kernel
theorem pm_cw_71 : lw_tbl[pm_cwi 71]? = some (pm_cw 71) := by decide +kernel
theorem pm_cw_72 : lw_tbl[pm_cwi 72]? = some (pm_cw 72) := by decide +kernel
theorem pm_cw_73 : lw_tbl[pm_cwi 73]? = some (pm_cw 73) := by decide +kernel
theorem pm_cw_74 : lw_tbl[pm_cwi 74]? = some (pm_cw 74) := by decide +kernel
theorem pm_cw_75 : lw_tbl[pm_cwi 75]? = some (pm_cw 75) := by decide +kernel
theorem pm_cw_76 : lw_tbl[pm_cwi 76]? = some (pm_cw 76) := by decide +kernel
theorem pm_cw_77 : lw_tbl[pm_cwi 77]? = some (pm_cw 77) := by decide +kernel
theorem pm_cw_78 : lw_tbl[pm_cwi 78]? = some (pm_cw 78) := by decide +kernel
theorem pm_cw_79 : lw_tbl[pm_cwi 79]? = some (pm_cw 79) := by decide +kernel
theorem pm_cw_80 : lw_tbl[pm_cwi 80]? = some (pm_cw 80) := by decide +kernel
theorem pm_cw_81 : lw_tbl[pm_cwi 81]? = some (pm_cw 81) := by decide +kernel
theorem pm_cw_82 : lw_tbl[pm_cwi 82]? = some (pm_cw 82) := by decide +kernel
theorem pm_cw_83 : lw_tbl[pm_cwi 83]? = some (pm_cw 83) := by decide +kernel
theorem pm_cw_84 : lw_tbl[pm_cwi 84]? = some (pm_cw 84) := by decide +kernel
theorem pm_cw_85 : lw_tbl[pm_cwi 85]? = some (pm_cw 85) := by decide +kernel
theorem pm_cw_86 : lw_tbl[pm_cwi 86]? = some (pm_cw 86) := by decide +kernel
theorem pm_cw_87 : lw_tbl[pm_cwi 87]? = some (pm_cw 87) := by decide +kernel
theorem pm_cw_88 : lw_tbl[pm_cwi 88]? = some (pm_cw 88) := by decide +kernel
theorem pm_cw_89 : lw_tbl[pm_cwi 89]? = some (pm_cw 89) := by decide +kernel
theorem pm_cw_90 : lw_tbl[pm_cwi 90]? = some (pm_cw 90) := by decide +kernel
theorem pm_cw_91 : lw_tbl[pm_cwi 91]? = some (pm_cw 91) := by decide +kernel
theorem pm_cw_92 : lw_tbl[pm_cwi 92]? = some (pm_cw 92) := by decide +kernel
theorem pm_cw_93 : lw_tbl[pm_cwi 93]? = some (pm_cw 93) := by decide +kernel
theorem pm_cw_94 : lw_tbl[pm_cwi 94]? = some (pm_cw 94) := by decide +kernel
theorem pm_cw_95 : lw_tbl[pm_cwi 95]? = some (pm_cw 95) := by decide +kernel
theorem pm_cw_96 : lw_tbl[pm_cwi 96]? = some (pm_cw 96) := by decide +kernel
theorem pm_cw_97 : lw_tbl[pm_cwi 97]? = some (pm_cw 97) := by decide +kernel
theorem pm_cw_98 : lw_tbl[pm_cwi 98]? = some (pm_cw 98) := by decide +kernel
theorem pm_cw_99 : lw_tbl[pm_cwi 99]? = some (pm_cw 99) := by decide +kernel
theorem pm_cw_100 : lw_tbl[pm_cwi 100]? = some (pm_cw 100) := by decide +kernel
theorem pm_cw_101 : lw_tbl[pm_cwi 101]? = some (pm_cw 101) := by decide +kernel
theorem pm_cw_102 : lw_tbl[pm_cwi 102]? = some (pm_cw 102) := by decide +kernel
theorem pm_cw_103 : lw_tbl[pm_cwi 103]? = some (pm_cw 103) := by decide +kernel
theorem pm_cw_104 : lw_tbl[pm_cwi 104]? = some (pm_cw 104) := by decide +kernel
theorem pm_cw_105 : lw_tbl[pm_cwi 105]? = some (pm_cw 105) := by decide +kernel
theorem pm_cw_106 : lw_tbl[pm_cwi 106]? = some (pm_cw 106) := by decide +kernel
theorem pm_cw_107 : lw_tbl[pm_cwi 107]? = some (pm_cw 107) := by decide +kernel
theorem pm_cw_108 : lw_tbl[pm_cwi 108]? = some (pm_cw 108) := by decide +kernel
theorem pm_cw_109 : lw_tbl[pm_cwi 109]? = some (pm_cw 109) := by decide +kernel
theorem pm_cw_110 : lw_tbl[pm_cwi 110]? = some (pm_cw 110) := by decide +kernel
theorem pm_cw_111 : lw_tbl[pm_cwi 111]? = some (pm_cw 111) := by decide +kernel
theorem pm_cw_112 : lw_tbl[pm_cwi 112]? = some (pm_cw 112) := by decide +kernel
theorem pm_cw_113 : lw_tbl[pm_cwi 113]? = some (pm_cw 113) := by decide +kernel
theorem pm_cw_114 : lw_tbl[pm_cwi 114]? = some (pm_cw 114) := by decide +kernel
theorem pm_cw_115 : lw_tbl[pm_cwi 115]? = some (pm_cw 115) := by decide +kernel
theorem pm_cw_116 : lw_tbl[pm_cwi 116]? = some (pm_cw 116) := by decide +kernel
theorem pm_cw_117 : lw_tbl[pm_cwi 117]? = some (pm_cw 117) := by decide +kernel
theorem pm_cw_118 : lw_tbl[pm_cwi 118]? = some (pm_cw 118) := by decide +kernel
theorem pm_cw_119 : lw_tbl[pm_cwi 119]? = some (pm_cw 119) := by decide +kernel
theorem pm_cw_120 : lw_tbl[pm_cwi 120]? = some (pm_cw 120) := by decide +kernel
theorem pm_cw_121 : lw_tbl[pm_cwi 121]? = some (pm_cw 121) := by decide +kernel
theorem pm_cw_122 : lw_tbl[pm_cwi 122]? = some (pm_cw 122) := by decide +kernel
theorem pm_cw_123 : lw_tbl[pm_cwi 123]? = some (pm_cw 123) := by decide +kernel
theorem pm_cw_124 : lw_tbl[pm_cwi 124]? = some (pm_cw 124) := by decide +kernel
theorem pm_cw_125 : lw_tbl[pm_cwi 125]? = some (pm_cw 125) := by decide +kernel
theorem pm_cw_126 : lw_tbl[pm_cwi 126]? = some (pm_cw 126) := by decide +kernel
theorem pm_cw_127 : lw_tbl[pm_cwi 127]? = some (pm_cw 127) := by decide +kernel
theorem pm_cw_128 : lw_tbl[pm_cwi 128]? = some (pm_cw 128) := by decide +kernel
theorem pm_cw_129 : lw_tbl[pm_cwi 129]? = some (pm_cw 129) := by decide +kernel
theorem pm_cw_130 : lw_tbl[pm_cwi 130]? = some (pm_cw 130) := by decide +kernel
theorem pm_cw_131 : lw_tbl[pm_cwi 131]? = some (pm_cw 131) := by decide +kernel
theorem pm_cw_132 : lw_tbl[pm_cwi 132]? = some (pm_cw 132) := by decide +kernel
theorem pm_cw_133 : lw_tbl[pm_cwi 133]? = some (pm_cw 133) := by decide +kernel
theorem pm_cw_134 : lw_tbl[pm_cwi 134]? = some (pm_cw 134) := by decide +kernel
theorem pm_cw_135 : lw_tbl[pm_cwi 135]? = some (pm_cw 135) := by decide +kernel
theorem pm_cw_136 : lw_tbl[pm_cwi 136]? = some (pm_cw 136) := by decide +kernel
theorem pm_cw_137 : lw_tbl[pm_cwi 137]? = some (pm_cw 137) := by decide +kernel
theorem pm_cw_138 : lw_tbl[pm_cwi 138]? = some (pm_cw 138) := by decide +kernel
theorem pm_cw_139 : lw_tbl[pm_cwi 139]? = some (pm_cw 139) := by decide +kernel
def pm_yL : List Nat := [0, 1, 2, 3, 4, 5, 6, 7, 8, 9, 10, 11, 12, 13, 14, 15, 16, 17, 18, 19, 20, 21, 22, 23, 24, 25, 26, 27, 28, 29, 30, 31, 32, 33, 34, 35, 36, 37, 38, 39, 40, 41, 42, 43, 44, 45, 46, 47, 48, 49, 50, 51, 52, 53, 54, 55, 56, 57, 58, 59, 60, 61, 62, 63, 64, 65, 66, 67, 68, 69, 70, 71, 72, 73, 74, 75, 76, 77, 78, 79, 80, 81, 82, 83, 84, 85, 86, 87, 88, 89, 90, 91, 92, 93, 94, 95, 96, 97, 98, 99, 100, 101, 102, 103, 104, 105, 106, 107, 108, 109, 110, 111, 112, 113, 114, 115, 116, 117, 118, 119, 120, 121, 122, 123, 124, 125, 126, 127, 128, 129, 130, 131, 132, 133, 134, 135, 136, 137, 138, 139]
theorem pm_yL_in : ∀ y, y < 140 → y ∈ pm_yL := by decide +kernel
theorem pm_g1a : ∀ y ∈ pm_yL, lw_tbl[pm_cwi y]? = some (pm_cw y) := List.forall_mem_cons.mpr ⟨pm_cw_0, List.forall_mem_cons.mpr ⟨pm_cw_1, List.forall_mem_cons.mpr ⟨pm_cw_2, List.forall_mem_cons.mpr ⟨pm_cw_3, List.forall_mem_cons.mpr ⟨pm_cw_4, List.forall_mem_cons.mpr ⟨pm_cw_5, List.forall_mem_cons.mpr ⟨pm_cw_6, List.forall_mem_cons.mpr ⟨pm_cw_7, List.forall_mem_cons.mpr ⟨pm_cw_8, List.forall_mem_cons.mpr ⟨pm_cw_9, List.forall_mem_cons.mpr ⟨pm_cw_10, List.forall_mem_cons.mpr ⟨pm_cw_11, List.forall_mem_cons.mpr ⟨pm_cw_12, List.forall_mem_cons.mpr ⟨pm_cw_13, List.forall_mem_cons.mpr ⟨pm_cw_14, List.forall_mem_cons.mpr ⟨pm_cw_15, List.forall_mem_cons.mpr ⟨pm_cw_16, List.forall_mem_cons.mpr ⟨pm_cw_17, List.forall_mem_cons.mpr ⟨pm_cw_18, List.forall_mem_cons.mpr ⟨pm_cw_19, List.forall_mem_cons.mpr ⟨pm_cw_20, List.forall_mem_cons.mpr ⟨pm_cw_21, List.forall_mem_cons.mpr ⟨pm_cw_22, List.forall_mem_cons.mpr ⟨pm_cw_23, List.forall_mem_cons.mpr ⟨pm_cw_24, List.forall_mem_cons.mpr ⟨pm_cw_25, List.forall_mem_cons.mpr ⟨pm_cw_26, List.forall_mem_cons.mpr ⟨pm_cw_27, List.forall_mem_cons.mpr ⟨pm_cw_28, List.forall_mem_cons.mpr ⟨pm_cw_29, List.forall_mem_cons.mpr ⟨pm_cw_30, List.forall_mem_cons.mpr ⟨pm_cw_31, List.forall_mem_cons.mpr ⟨pm_cw_32, List.forall_mem_cons.mpr ⟨pm_cw_33, List.forall_mem_cons.mpr ⟨pm_cw_34, List.forall_mem_cons.mpr ⟨pm_cw_35, List.forall_mem_cons.mpr ⟨pm_cw_36, List.forall_mem_cons.mpr ⟨pm_cw_37, List.forall_mem_cons.mpr ⟨pm_cw_38, List.forall_mem_cons.mpr ⟨pm_cw_39, List.forall_mem_cons.mpr ⟨pm_cw_40, List.forall_mem_cons.mpr ⟨pm_cw_41, List.forall_mem_cons.mpr ⟨pm_cw_42, List.forall_mem_cons.mpr ⟨pm_cw_43, List.forall_mem_cons.mpr ⟨pm_cw_44, List.forall_mem_cons.mpr ⟨pm_cw_45, List.forall_mem_cons.mpr ⟨pm_cw_46, List.forall_mem_cons.mpr ⟨pm_cw_47, List.forall_mem_cons.mpr ⟨pm_cw_48, List.forall_mem_cons.mpr ⟨pm_cw_49, List.forall_mem_cons.mpr ⟨pm_cw_50, List.forall_mem_cons.mpr ⟨pm_cw_51, List.forall_mem_cons.mpr ⟨pm_cw_52, List.forall_mem_cons.mpr ⟨pm_cw_53, List.forall_mem_cons.mpr ⟨pm_cw_54, List.forall_mem_cons.mpr ⟨pm_cw_55, List.forall_mem_cons.mpr ⟨pm_cw_56, List.forall_mem_cons.mpr ⟨pm_cw_57, List.forall_mem_cons.mpr ⟨pm_cw_58, List.forall_mem_cons.mpr ⟨pm_cw_59, List.forall_mem_cons.mpr ⟨pm_cw_60, List.forall_mem_cons.mpr ⟨pm_cw_61, List.forall_mem_cons.mpr ⟨pm_cw_62, List.forall_mem_cons.mpr ⟨pm_cw_63, List.forall_mem_cons.mpr ⟨pm_cw_64, List.forall_mem_cons.mpr ⟨pm_cw_65, List.forall_mem_cons.mpr ⟨pm_cw_66, List.forall_mem_cons.mpr ⟨pm_cw_67, List.forall_mem_cons.mpr ⟨pm_cw_68, List.forall_mem_cons.mpr ⟨pm_cw_69, List.forall_mem_cons.mpr ⟨pm_cw_70, List.forall_mem_cons.mpr ⟨pm_cw_71, List.forall_mem_cons.mpr ⟨pm_cw_72, List.forall_mem_cons.mpr ⟨pm_cw_73, List.forall_mem_cons.mpr ⟨pm_cw_74, List.forall_mem_cons.mpr ⟨pm_cw_75, List.forall_mem_cons.mpr ⟨pm_cw_76, List.forall_mem_cons.mpr ⟨pm_cw_77, List.forall_mem_cons.mpr ⟨pm_cw_78, List.forall_mem_cons.mpr ⟨pm_cw_79, List.forall_mem_cons.mpr ⟨pm_cw_80, List.forall_mem_cons.mpr ⟨pm_cw_81, List.forall_mem_cons.mpr ⟨pm_cw_82, List.forall_mem_cons.mpr ⟨pm_cw_83, List.forall_mem_cons.mpr ⟨pm_cw_84, List.forall_mem_cons.mpr ⟨pm_cw_85, List.forall_mem_cons.mpr ⟨pm_cw_86, List.forall_mem_cons.mpr ⟨pm_cw_87, List.forall_mem_cons.mpr ⟨pm_cw_88, List.forall_mem_cons.mpr ⟨pm_cw_89, List.forall_mem_cons.mpr ⟨pm_cw_90, List.forall_mem_cons.mpr ⟨pm_cw_91, List.forall_mem_cons.mpr ⟨pm_cw_92, List.forall_mem_cons.mpr ⟨pm_cw_93, List.forall_mem_cons.mpr ⟨pm_cw_94, List.forall_mem_cons.mpr ⟨pm_cw_95, List.forall_mem_cons.mpr ⟨pm_cw_96, List.forall_mem_cons.mpr ⟨pm_cw_97, List.forall_mem_cons.mpr ⟨pm_cw_98, List.forall_mem_cons.mpr ⟨pm_cw_99, List.forall_mem_cons.mpr ⟨pm_cw_100, List.forall_mem_cons.mpr ⟨pm_cw_101, List.forall_mem_cons.mpr ⟨pm_cw_102, List.forall_mem_cons.mpr ⟨pm_cw_103, List.forall_mem_cons.mpr ⟨pm_cw_104, List.forall_mem_cons.mpr ⟨pm_cw_105, List.forall_mem_cons.mpr ⟨pm_cw_106, List.forall_mem_cons.mpr ⟨pm_cw_107, List.forall_mem_cons.mpr ⟨pm_cw_108, List.forall_mem_cons.mpr ⟨pm_cw_109, List.forall_mem_cons.mpr ⟨pm_cw_110, List.forall_mem_cons.mpr ⟨pm_cw_111, List.forall_mem_cons.mpr ⟨pm_cw_112, List.forall_mem_cons.mpr ⟨pm_cw_113, List.forall_mem_cons.mpr ⟨pm_cw_114, List.forall_mem_cons.mpr ⟨pm_cw_115, List.forall_mem_cons.mpr ⟨pm_cw_116, List.forall_mem_cons.mpr ⟨pm_cw_117, List.forall_mem_cons.mpr ⟨pm_cw_118, List.forall_mem_cons.mpr ⟨pm_cw_119, List.forall_mem_cons.mpr ⟨pm_cw_120, List.forall_mem_cons.mpr ⟨pm_cw_121, List.forall_mem_cons.mpr ⟨pm_cw_122, List.forall_mem_cons.mpr ⟨pm_cw_123, List.forall_mem_cons.mpr ⟨pm_cw_124, List.forall_mem_cons.mpr ⟨pm_cw_125, List.forall_mem_cons.mpr ⟨pm_cw_126, List.forall_mem_cons.mpr ⟨pm_cw_127, List.forall_mem_cons.mpr ⟨pm_cw_128, List.forall_mem_cons.mpr ⟨pm_cw_129, List.forall_mem_cons.mpr ⟨pm_cw_130, List.forall_mem_cons.mpr ⟨pm_cw_131, List.forall_mem_cons.mpr ⟨pm_cw_132, List.forall_mem_cons.mpr ⟨pm_cw_133, List.forall_mem_cons.mpr ⟨pm_cw_134, List.forall_mem_cons.mpr ⟨pm_cw_135, List.forall_mem_cons.mpr ⟨pm_cw_136, List.forall_mem_cons.mpr ⟨pm_cw_137, List.forall_mem_cons.mpr ⟨pm_cw_138, List.forall_mem_cons.mpr ⟨pm_cw_139, fun _ h => absurd h List.not_mem_nil⟩⟩⟩⟩⟩⟩⟩⟩⟩⟩⟩⟩⟩⟩⟩⟩⟩⟩⟩⟩⟩⟩⟩⟩⟩⟩⟩⟩⟩⟩⟩⟩⟩⟩⟩⟩⟩⟩⟩⟩⟩⟩⟩⟩⟩⟩⟩⟩⟩⟩⟩⟩⟩⟩⟩⟩⟩⟩⟩⟩⟩⟩⟩⟩⟩⟩⟩⟩⟩⟩⟩⟩⟩⟩⟩⟩⟩⟩⟩⟩⟩⟩⟩⟩⟩⟩⟩⟩⟩⟩⟩⟩⟩⟩⟩⟩⟩⟩⟩⟩⟩⟩⟩⟩⟩⟩⟩⟩⟩⟩⟩⟩⟩⟩⟩⟩⟩⟩⟩⟩⟩⟩⟩⟩⟩⟩⟩⟩⟩⟩⟩⟩⟩⟩⟩⟩⟩⟩⟩⟩
theorem pm_g1 : ∀ y, y < 140 → lw_tbl[pm_cwi y]? = some (pm_cw y) := fun y h => pm_g1a y (pm_yL_in y h)
def pm_ini (y : Nat) : Nat := ([35, 36, 39, 38, 37, 40, 41, 35, 39, 39, 49, 50, 39, 39, 39, 41, 35, 35, 56, 51, 35, 35, 35, 35, 35, 35, 41, 34, 34, 35, 35, 36, 34, 35, 35, 39, 56, 51, 39, 39, 39, 39, 52, 52, 53, 53, 36, 53, 34, 35, 41, 39, 35, 35, 40, 40, 40, 40, 40, 40, 55, 40, 53, 56, 41, 40, 35, 35, 35, 41, 41, 34, 35, 41, 34, 35, 58, 57, 34, 35, 60, 39, 34, 35, 34, 35, 35, 56, 57, 60, 58, 60, 34, 35, 41, 34, 35, 43, 43, 43, 43, 43, 43, 43, 43, 43, 43, 43, 43, 43, 43, 43, 43, 43, 43, 43, 43, 43, 43, 43, 43, 43, 43, 43, 43, 43, 43, 43, 43, 43, 43, 43, 43, 43, 43, 43, 43, 43, 43, 43] : List Nat).getD y 0
theorem pm_g2 : ∀ y, y < 140 → lw_tbl[pm_ini y]? = some (.initialized (pm_nm y).cls) := by decide +kernel
theorem pm_g3 : ∀ y, y < 140 → plainFor (pm_nm y) = true := by decide +kernel
theorem pm_g4 : ∀ y, y < 142 → (parseMethodDescriptor (pm_nm y).desc).map (fun d => d.parameters.length) = some (pm_na y) ∧ ((pm_nm y).cls ≠ "java/lang/invoke/MethodHandle" ∧ (pm_nm y).cls ≠ "java/lang/invoke/VarHandle") ∧ pm_mx y ≤ 45 := by decide +kernel
theorem pm_g4o : ∀ y, y < 141 → pm_on (pm_own y) = (pm_nm y).cls := by decide +kernel
def pm_sw (y : Nat) : Nat := ([0, 0, 0, 0, 0, 0, 0, 0, 0, 0, 197, 200, 0, 0, 0, 0, 0, 0, 0, 0, 0, 0, 0, 0, 0, 0, 0, 275, 278, 0, 287, 0, 378, 0, 0, 0, 0, 0, 0, 0, 0, 0, 455, 460, 463, 483, 0, 497, 500, 0, 0, 0, 0, 0, 0, 0, 0, 0, 0, 0, 551, 0, 561, 0, 0, 0, 0, 0, 0, 0, 0, 620, 0, 0, 634, 0, 0, 0, 660, 0, 0, 0, 708, 0, 716, 0, 0, 0, 0, 0, 0, 746, 750, 0, 0, 763, 0, 0, 0, 0, 0, 0, 0, 0, 0, 0, 0, 0, 0, 0, 0, 0, 0, 0, 0, 0, 0, 0, 0, 0, 0, 0, 0, 0, 0, 0, 0, 0, 0, 0, 982, 985, 0, 0, 0, 0, 0, 0, 0, 0] : List Nat).getD y 0
def pm_imi (y : Nat) : Nat := ([64, 72, 89, 92, 95, 115, 131, 185, 189, 193, 0, 0, 203, 208, 213, 219, 227, 231, 236, 243, 247, 251, 255, 260, 263, 267, 271, 0, 0, 283, 0, 374, 0, 381, 386, 389, 393, 401, 439, 444, 448, 452, 0, 0, 0, 0, 493, 0, 0, 503, 507, 512, 517, 521, 524, 528, 533, 537, 543, 547, 0, 558, 0, 566, 585, 591, 598, 604, 608, 611, 615, 0, 623, 628, 0, 637, 644, 647, 0, 664, 689, 704, 0, 711, 0, 719, 724, 727, 731, 740, 743, 0, 0, 753, 757, 0, 766, 773, 854, 858, 863, 866, 870, 875, 878, 883, 887, 891, 895, 899, 903, 907, 911, 915, 919, 922, 926, 931, 935, 939, 943, 947, 950, 955, 958, 962, 966, 970, 975, 979, 0, 0, 988, 992, 996, 1000, 1004, 1008, 1013, 1016] : List Nat).getD y 0
theorem pm_g5 : ∀ o, o < 19 → ∀ e ∈ pm_msL.getD o [], e.2.1 < 140 ∧ lw_tbl[e.2.2]? = some (.methodLink (pm_on o) e.1 (pm_nm e.2.1)) ∧ lw_tbl[pm_sw e.2.1]? = some (.static (pm_nm e.2.1)) := by decide +kernel
theorem pm_g6 : ∀ o, o < 19 → ∀ e ∈ pm_miL.getD o [], e.2.1 < 140 ∧ (pm_nm e.2.1).name = "<init>" ∧ pm_ret e.2.1 = none ∧ pm_hw e.2.1 = [] ∧ lw_tbl[pm_imi e.2.1]? = some (.instanceMethod (pm_nm e.2.1)) ∧ (if e.2.2.2 = true then lw_tbl[e.2.2.1]? = some (.methodLinkNest (pm_on o) e.1 (pm_nm e.2.1) "PostingShelf") else lw_tbl[e.2.2.1]? = some (.methodLink (pm_on o) e.1 (pm_nm e.2.1))) := by decide +kernel
theorem pm_g7 : ∀ o, o < 19 → ∀ e ∈ pm_mvL.getD o [], e.2.1 < 142 ∧ lw_tbl[e.2.2]? = some (.methodLink (pm_on o) e.1 (pm_nm e.2.1)) := by decide +kernel
theorem pm_g8 : ∀ e ∈ pm_selL, e.1.1 < 10 ∧ e.2.1 < 140 ∧ pm_hw e.2.1 = [] ∧ pm_na e.1.2 = pm_na e.2.1 ∧ lw_tbl[e.2.2]? = some (.selects (pm_cn e.1.1) (pm_nm e.1.2) (pm_nm e.2.1)) ∧ lw_tbl[pm_imi e.2.1]? = some (.instanceMethod (pm_nm e.2.1)) ∧ (e.1.2 = e.2.1 ∨ (lw_tbl[737]? = some (.declares (pm_nm e.1.2)) ∧ lw_tbl[738]? = some (.sameMethod (pm_nm e.1.2).cls (pm_nm e.1.2).cls (pm_nm e.1.2).name (pm_nm e.1.2).desc))) := by decide +kernel
