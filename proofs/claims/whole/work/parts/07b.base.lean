def LY : Ly := [(12, 0, [3, 5, 9, 18, 27, 33, 39, 41, 44, 0, 0, 45, 57, 0, 0, 63, 0, 64, 65]), (10, 0, [4, 0]), (0, 400, []), (11, 0, [6, 7, 8, 0, 0]), (0, 401, []), (0, 401, []), (0, 401, []), (9, 0, [0, 0, 0, 0, 0, 0, 0, 0, 0, 0, 0, 10, 11, 12, 13, 14, 15, 16, 17]), (0, 10, []), (0, 8, []), (0, 48, []), (0, 5, []), (0, 5, []), (0, 5, []), (0, 5, []), (0, 5, []), (9, 0, [0, 0, 0, 0, 0, 0, 0, 0, 0, 0, 0, 19, 20, 21, 22, 23, 24, 25, 26]), (0, 10, []), (0, 8, []), (0, 48, []), (0, 5, []), (0, 5, []), (0, 5, []), (0, 5, []), (0, 5, []), (5, 0, [0, 0, 0, 28, 29, 30, 31, 32]), (0, 12, []), (0, 12, []), (0, 12, []), (0, 12, []), (0, 400, []), (5, 0, [0, 0, 0, 34, 35, 36, 37, 38]), (0, 12, []), (0, 12, []), (0, 12, []), (0, 12, []), (0, 400, []), (7, 0, [40, 0, 0]), (0, 60, []), (8, 0, [42, 43, 0]), (4, 0, [0, 0, 0, 0, 0, 0, 0, 0, 0]), (0, 8, []), (3, 12, [66, 78, 90, 102, 114, 126, 138, 150, 162, 174, 186, 198]), (6, 0, [46, 55]), (9, 0, [0, 0, 0, 0, 0, 0, 0, 0, 0, 0, 0, 47, 48, 49, 50, 51, 52, 53, 54]), (0, 10, []), (0, 8, []), (0, 48, []), (0, 5, []), (0, 5, []), (0, 5, []), (0, 5, []), (0, 5, []), (7, 0, [56, 0, 0]), (0, 60, []), (5, 0, [0, 0, 0, 58, 59, 60, 61, 62]), (0, 12, []), (0, 12, []), (0, 12, []), (0, 12, []), (0, 400, []), (0, 12, []), (0, 185, []), (0, 201, []), (6, 0, [67, 76]), (9, 0, [0, 0, 0, 0, 0, 0, 0, 0, 0, 0, 0, 68, 69, 70, 71, 72, 73, 74, 75]), (0, 10, []), (0, 8, []), (0, 48, []), (0, 5, []), (0, 5, []), (0, 5, []), (0, 5, []), (0, 5, []), (7, 0, [77, 0, 0]), (0, 60, []), (6, 0, [79, 88]), (9, 0, [0, 0, 0, 0, 0, 0, 0, 0, 0, 0, 0, 80, 81, 82, 83, 84, 85, 86, 87]), (0, 10, []), (0, 8, []), (0, 48, []), (0, 5, []), (0, 5, []), (0, 5, []), (0, 5, []), (0, 5, []), (7, 0, [89, 0, 0]), (0, 60, []), (6, 0, [91, 100]), (9, 0, [0, 0, 0, 0, 0, 0, 0, 0, 0, 0, 0, 92, 93, 94, 95, 96, 97, 98, 99]), (0, 10, []), (0, 8, []), (0, 48, []), (0, 5, []), (0, 5, []), (0, 5, []), (0, 5, []), (0, 5, []), (7, 0, [101, 0, 0]), (0, 60, []), (6, 0, [103, 112]), (9, 0, [0, 0, 0, 0, 0, 0, 0, 0, 0, 0, 0, 104, 105, 106, 107, 108, 109, 110, 111]), (0, 10, []), (0, 8, []), (0, 48, []), (0, 5, []), (0, 5, []), (0, 5, []), (0, 5, []), (0, 5, []), (7, 0, [113, 0, 0]), (0, 60, []), (6, 0, [115, 124]), (9, 0, [0, 0, 0, 0, 0, 0, 0, 0, 0, 0, 0, 116, 117, 118, 119, 120, 121, 122, 123]), (0, 10, []), (0, 8, []), (0, 48, []), (0, 5, []), (0, 5, []), (0, 5, []), (0, 5, []), (0, 5, []), (7, 0, [125, 0, 0]), (0, 60, []), (6, 0, [127, 136]), (9, 0, [0, 0, 0, 0, 0, 0, 0, 0, 0, 0, 0, 128, 129, 130, 131, 132, 133, 134, 135]), (0, 10, []), (0, 8, []), (0, 48, []), (0, 5, []), (0, 5, []), (0, 5, []), (0, 5, []), (0, 5, []), (7, 0, [137, 0, 0]), (0, 60, []), (6, 0, [139, 148]), (9, 0, [0, 0, 0, 0, 0, 0, 0, 0, 0, 0, 0, 140, 141, 142, 143, 144, 145, 146, 147]), (0, 10, []), (0, 8, []), (0, 48, []), (0, 5, []), (0, 5, []), (0, 5, []), (0, 5, []), (0, 5, []), (7, 0, [149, 0, 0]), (0, 60, []), (6, 0, [151, 160]), (9, 0, [0, 0, 0, 0, 0, 0, 0, 0, 0, 0, 0, 152, 153, 154, 155, 156, 157, 158, 159]), (0, 10, []), (0, 8, []), (0, 48, []), (0, 5, []), (0, 5, []), (0, 5, []), (0, 5, []), (0, 5, []), (7, 0, [161, 0, 0]), (0, 60, []), (6, 0, [163, 172]), (9, 0, [0, 0, 0, 0, 0, 0, 0, 0, 0, 0, 0, 164, 165, 166, 167, 168, 169, 170, 171]), (0, 10, []), (0, 8, []), (0, 48, []), (0, 5, []), (0, 5, []), (0, 5, []), (0, 5, []), (0, 5, []), (7, 0, [173, 0, 0]), (0, 60, []), (6, 0, [175, 184]), (9, 0, [0, 0, 0, 0, 0, 0, 0, 0, 0, 0, 0, 176, 177, 178, 179, 180, 181, 182, 183]), (0, 10, []), (0, 8, []), (0, 48, []), (0, 5, []), (0, 5, []), (0, 5, []), (0, 5, []), (0, 5, []), (7, 0, [185, 0, 0]), (0, 60, []), (6, 0, [187, 196]), (9, 0, [0, 0, 0, 0, 0, 0, 0, 0, 0, 0, 0, 188, 189, 190, 191, 192, 193, 194, 195]), (0, 10, []), (0, 8, []), (0, 48, []), (0, 5, []), (0, 5, []), (0, 5, []), (0, 5, []), (0, 5, []), (7, 0, [197, 0, 0]), (0, 60, []), (6, 0, [199, 208]), (9, 0, [0, 0, 0, 0, 0, 0, 0, 0, 0, 0, 0, 200, 201, 202, 203, 204, 205, 206, 207]), (0, 10, []), (0, 8, []), (0, 48, []), (0, 5, []), (0, 5, []), (0, 5, []), (0, 5, []), (0, 5, []), (7, 0, [209, 0, 0]), (0, 60, []), (13, 0, [0, 211, 212, 213, 214, 215, 0, 0, 216, 0, 0, 0, 0, 0, 0, 217, 0, 218, 0, 219, 220]), (0, 2107, []), (0, 1258, []), (0, 1258, []), (0, 409, []), (0, 4908, []), (1, 400, []), (0, 5, []), (0, 400, []), (0, 8, []), (0, 201, []), (2, 1, [])]
theorem ly_0 : LY[0]? = some (12, 0, [3, 5, 9, 18, 27, 33, 39, 41, 44, 0, 0, 45, 57, 0, 0, 63, 0, 64, 65]) := rfl
theorem ly_1 : LY[1]? = some (10, 0, [4, 0]) := rfl
theorem ly_2 : LY[2]? = some (0, 400, []) := rfl
theorem ly_3 : LY[3]? = some (11, 0, [6, 7, 8, 0, 0]) := rfl
theorem ly_4 : LY[4]? = some (0, 401, []) := rfl
theorem ly_5 : LY[5]? = some (0, 401, []) := rfl
theorem ly_6 : LY[6]? = some (0, 401, []) := rfl
theorem ly_7 : LY[7]? = some (9, 0, [0, 0, 0, 0, 0, 0, 0, 0, 0, 0, 0, 10, 11, 12, 13, 14, 15, 16, 17]) := rfl
theorem ly_8 : LY[8]? = some (0, 10, []) := rfl
theorem ly_9 : LY[9]? = some (0, 8, []) := rfl
theorem ly_10 : LY[10]? = some (0, 48, []) := rfl
theorem ly_11 : LY[11]? = some (0, 5, []) := rfl
theorem ly_12 : LY[12]? = some (0, 5, []) := rfl
theorem ly_13 : LY[13]? = some (0, 5, []) := rfl
theorem ly_14 : LY[14]? = some (0, 5, []) := rfl
theorem ly_15 : LY[15]? = some (0, 5, []) := rfl
theorem ly_16 : LY[16]? = some (9, 0, [0, 0, 0, 0, 0, 0, 0, 0, 0, 0, 0, 19, 20, 21, 22, 23, 24, 25, 26]) := rfl
theorem ly_17 : LY[17]? = some (0, 10, []) := rfl
theorem ly_18 : LY[18]? = some (0, 8, []) := rfl
theorem ly_19 : LY[19]? = some (0, 48, []) := rfl
theorem ly_20 : LY[20]? = some (0, 5, []) := rfl
theorem ly_21 : LY[21]? = some (0, 5, []) := rfl
theorem ly_22 : LY[22]? = some (0, 5, []) := rfl
theorem ly_23 : LY[23]? = some (0, 5, []) := rfl
theorem ly_24 : LY[24]? = some (0, 5, []) := rfl
theorem ly_25 : LY[25]? = some (5, 0, [0, 0, 0, 28, 29, 30, 31, 32]) := rfl
theorem ly_26 : LY[26]? = some (0, 12, []) := rfl
theorem ly_27 : LY[27]? = some (0, 12, []) := rfl
theorem ly_28 : LY[28]? = some (0, 12, []) := rfl
theorem ly_29 : LY[29]? = some (0, 12, []) := rfl
theorem ly_30 : LY[30]? = some (0, 400, []) := rfl
theorem ly_31 : LY[31]? = some (5, 0, [0, 0, 0, 34, 35, 36, 37, 38]) := rfl
theorem ly_32 : LY[32]? = some (0, 12, []) := rfl
theorem ly_33 : LY[33]? = some (0, 12, []) := rfl
theorem ly_34 : LY[34]? = some (0, 12, []) := rfl
theorem ly_35 : LY[35]? = some (0, 12, []) := rfl
theorem ly_36 : LY[36]? = some (0, 400, []) := rfl
theorem ly_37 : LY[37]? = some (7, 0, [40, 0, 0]) := rfl
theorem ly_38 : LY[38]? = some (0, 60, []) := rfl
theorem ly_39 : LY[39]? = some (8, 0, [42, 43, 0]) := rfl
theorem ly_40 : LY[40]? = some (4, 0, [0, 0, 0, 0, 0, 0, 0, 0, 0]) := rfl
theorem ly_41 : LY[41]? = some (0, 8, []) := rfl
theorem ly_42 : LY[42]? = some (3, 12, [66, 78, 90, 102, 114, 126, 138, 150, 162, 174, 186, 198]) := rfl
theorem ly_43 : LY[43]? = some (6, 0, [46, 55]) := rfl
theorem ly_44 : LY[44]? = some (9, 0, [0, 0, 0, 0, 0, 0, 0, 0, 0, 0, 0, 47, 48, 49, 50, 51, 52, 53, 54]) := rfl
theorem ly_45 : LY[45]? = some (0, 10, []) := rfl
theorem ly_46 : LY[46]? = some (0, 8, []) := rfl
theorem ly_47 : LY[47]? = some (0, 48, []) := rfl
theorem ly_48 : LY[48]? = some (0, 5, []) := rfl
theorem ly_49 : LY[49]? = some (0, 5, []) := rfl
theorem ly_50 : LY[50]? = some (0, 5, []) := rfl
theorem ly_51 : LY[51]? = some (0, 5, []) := rfl
theorem ly_52 : LY[52]? = some (0, 5, []) := rfl
theorem ly_53 : LY[53]? = some (7, 0, [56, 0, 0]) := rfl
theorem ly_54 : LY[54]? = some (0, 60, []) := rfl
theorem ly_55 : LY[55]? = some (5, 0, [0, 0, 0, 58, 59, 60, 61, 62]) := rfl
theorem ly_56 : LY[56]? = some (0, 12, []) := rfl
theorem ly_57 : LY[57]? = some (0, 12, []) := rfl
theorem ly_58 : LY[58]? = some (0, 12, []) := rfl
theorem ly_59 : LY[59]? = some (0, 12, []) := rfl
theorem ly_60 : LY[60]? = some (0, 400, []) := rfl
theorem ly_61 : LY[61]? = some (0, 12, []) := rfl
theorem ly_62 : LY[62]? = some (0, 185, []) := rfl
theorem ly_63 : LY[63]? = some (0, 201, []) := rfl
theorem ly_64 : LY[64]? = some (6, 0, [67, 76]) := rfl
theorem ly_65 : LY[65]? = some (9, 0, [0, 0, 0, 0, 0, 0, 0, 0, 0, 0, 0, 68, 69, 70, 71, 72, 73, 74, 75]) := rfl
theorem ly_66 : LY[66]? = some (0, 10, []) := rfl
theorem ly_67 : LY[67]? = some (0, 8, []) := rfl
theorem ly_68 : LY[68]? = some (0, 48, []) := rfl
theorem ly_69 : LY[69]? = some (0, 5, []) := rfl
theorem ly_70 : LY[70]? = some (0, 5, []) := rfl
theorem ly_71 : LY[71]? = some (0, 5, []) := rfl
theorem ly_72 : LY[72]? = some (0, 5, []) := rfl
theorem ly_73 : LY[73]? = some (0, 5, []) := rfl
theorem ly_74 : LY[74]? = some (7, 0, [77, 0, 0]) := rfl
theorem ly_75 : LY[75]? = some (0, 60, []) := rfl
theorem ly_76 : LY[76]? = some (6, 0, [79, 88]) := rfl
theorem ly_77 : LY[77]? = some (9, 0, [0, 0, 0, 0, 0, 0, 0, 0, 0, 0, 0, 80, 81, 82, 83, 84, 85, 86, 87]) := rfl
theorem ly_78 : LY[78]? = some (0, 10, []) := rfl
theorem ly_79 : LY[79]? = some (0, 8, []) := rfl
theorem ly_80 : LY[80]? = some (0, 48, []) := rfl
theorem ly_81 : LY[81]? = some (0, 5, []) := rfl
theorem ly_82 : LY[82]? = some (0, 5, []) := rfl
theorem ly_83 : LY[83]? = some (0, 5, []) := rfl
theorem ly_84 : LY[84]? = some (0, 5, []) := rfl
theorem ly_85 : LY[85]? = some (0, 5, []) := rfl
theorem ly_86 : LY[86]? = some (7, 0, [89, 0, 0]) := rfl
theorem ly_87 : LY[87]? = some (0, 60, []) := rfl
theorem ly_88 : LY[88]? = some (6, 0, [91, 100]) := rfl
theorem ly_89 : LY[89]? = some (9, 0, [0, 0, 0, 0, 0, 0, 0, 0, 0, 0, 0, 92, 93, 94, 95, 96, 97, 98, 99]) := rfl
theorem ly_90 : LY[90]? = some (0, 10, []) := rfl
theorem ly_91 : LY[91]? = some (0, 8, []) := rfl
theorem ly_92 : LY[92]? = some (0, 48, []) := rfl
theorem ly_93 : LY[93]? = some (0, 5, []) := rfl
theorem ly_94 : LY[94]? = some (0, 5, []) := rfl
theorem ly_95 : LY[95]? = some (0, 5, []) := rfl
theorem ly_96 : LY[96]? = some (0, 5, []) := rfl
theorem ly_97 : LY[97]? = some (0, 5, []) := rfl
theorem ly_98 : LY[98]? = some (7, 0, [101, 0, 0]) := rfl
theorem ly_99 : LY[99]? = some (0, 60, []) := rfl
theorem ly_100 : LY[100]? = some (6, 0, [103, 112]) := rfl
theorem ly_101 : LY[101]? = some (9, 0, [0, 0, 0, 0, 0, 0, 0, 0, 0, 0, 0, 104, 105, 106, 107, 108, 109, 110, 111]) := rfl
theorem ly_102 : LY[102]? = some (0, 10, []) := rfl
theorem ly_103 : LY[103]? = some (0, 8, []) := rfl
theorem ly_104 : LY[104]? = some (0, 48, []) := rfl
theorem ly_105 : LY[105]? = some (0, 5, []) := rfl
theorem ly_106 : LY[106]? = some (0, 5, []) := rfl
theorem ly_107 : LY[107]? = some (0, 5, []) := rfl
theorem ly_108 : LY[108]? = some (0, 5, []) := rfl
theorem ly_109 : LY[109]? = some (0, 5, []) := rfl
theorem ly_110 : LY[110]? = some (7, 0, [113, 0, 0]) := rfl
theorem ly_111 : LY[111]? = some (0, 60, []) := rfl
theorem ly_112 : LY[112]? = some (6, 0, [115, 124]) := rfl
theorem ly_113 : LY[113]? = some (9, 0, [0, 0, 0, 0, 0, 0, 0, 0, 0, 0, 0, 116, 117, 118, 119, 120, 121, 122, 123]) := rfl
theorem ly_114 : LY[114]? = some (0, 10, []) := rfl
theorem ly_115 : LY[115]? = some (0, 8, []) := rfl
theorem ly_116 : LY[116]? = some (0, 48, []) := rfl
theorem ly_117 : LY[117]? = some (0, 5, []) := rfl
theorem ly_118 : LY[118]? = some (0, 5, []) := rfl
theorem ly_119 : LY[119]? = some (0, 5, []) := rfl
theorem ly_120 : LY[120]? = some (0, 5, []) := rfl
theorem ly_121 : LY[121]? = some (0, 5, []) := rfl
theorem ly_122 : LY[122]? = some (7, 0, [125, 0, 0]) := rfl
theorem ly_123 : LY[123]? = some (0, 60, []) := rfl
theorem ly_124 : LY[124]? = some (6, 0, [127, 136]) := rfl
theorem ly_125 : LY[125]? = some (9, 0, [0, 0, 0, 0, 0, 0, 0, 0, 0, 0, 0, 128, 129, 130, 131, 132, 133, 134, 135]) := rfl
theorem ly_126 : LY[126]? = some (0, 10, []) := rfl
theorem ly_127 : LY[127]? = some (0, 8, []) := rfl
theorem ly_128 : LY[128]? = some (0, 48, []) := rfl
theorem ly_129 : LY[129]? = some (0, 5, []) := rfl
theorem ly_130 : LY[130]? = some (0, 5, []) := rfl
theorem ly_131 : LY[131]? = some (0, 5, []) := rfl
theorem ly_132 : LY[132]? = some (0, 5, []) := rfl
theorem ly_133 : LY[133]? = some (0, 5, []) := rfl
theorem ly_134 : LY[134]? = some (7, 0, [137, 0, 0]) := rfl
theorem ly_135 : LY[135]? = some (0, 60, []) := rfl
theorem ly_136 : LY[136]? = some (6, 0, [139, 148]) := rfl
theorem ly_137 : LY[137]? = some (9, 0, [0, 0, 0, 0, 0, 0, 0, 0, 0, 0, 0, 140, 141, 142, 143, 144, 145, 146, 147]) := rfl
theorem ly_138 : LY[138]? = some (0, 10, []) := rfl
theorem ly_139 : LY[139]? = some (0, 8, []) := rfl
theorem ly_140 : LY[140]? = some (0, 48, []) := rfl
theorem ly_141 : LY[141]? = some (0, 5, []) := rfl
theorem ly_142 : LY[142]? = some (0, 5, []) := rfl
theorem ly_143 : LY[143]? = some (0, 5, []) := rfl
theorem ly_144 : LY[144]? = some (0, 5, []) := rfl
theorem ly_145 : LY[145]? = some (0, 5, []) := rfl
theorem ly_146 : LY[146]? = some (7, 0, [149, 0, 0]) := rfl
theorem ly_147 : LY[147]? = some (0, 60, []) := rfl
theorem ly_148 : LY[148]? = some (6, 0, [151, 160]) := rfl
theorem ly_149 : LY[149]? = some (9, 0, [0, 0, 0, 0, 0, 0, 0, 0, 0, 0, 0, 152, 153, 154, 155, 156, 157, 158, 159]) := rfl
theorem ly_150 : LY[150]? = some (0, 10, []) := rfl
theorem ly_151 : LY[151]? = some (0, 8, []) := rfl
theorem ly_152 : LY[152]? = some (0, 48, []) := rfl
theorem ly_153 : LY[153]? = some (0, 5, []) := rfl
theorem ly_154 : LY[154]? = some (0, 5, []) := rfl
theorem ly_155 : LY[155]? = some (0, 5, []) := rfl
theorem ly_156 : LY[156]? = some (0, 5, []) := rfl
theorem ly_157 : LY[157]? = some (0, 5, []) := rfl
theorem ly_158 : LY[158]? = some (7, 0, [161, 0, 0]) := rfl
theorem ly_159 : LY[159]? = some (0, 60, []) := rfl
theorem ly_160 : LY[160]? = some (6, 0, [163, 172]) := rfl
theorem ly_161 : LY[161]? = some (9, 0, [0, 0, 0, 0, 0, 0, 0, 0, 0, 0, 0, 164, 165, 166, 167, 168, 169, 170, 171]) := rfl
theorem ly_162 : LY[162]? = some (0, 10, []) := rfl
theorem ly_163 : LY[163]? = some (0, 8, []) := rfl
theorem ly_164 : LY[164]? = some (0, 48, []) := rfl
theorem ly_165 : LY[165]? = some (0, 5, []) := rfl
theorem ly_166 : LY[166]? = some (0, 5, []) := rfl
theorem ly_167 : LY[167]? = some (0, 5, []) := rfl
theorem ly_168 : LY[168]? = some (0, 5, []) := rfl
theorem ly_169 : LY[169]? = some (0, 5, []) := rfl
theorem ly_170 : LY[170]? = some (7, 0, [173, 0, 0]) := rfl
theorem ly_171 : LY[171]? = some (0, 60, []) := rfl
theorem ly_172 : LY[172]? = some (6, 0, [175, 184]) := rfl
theorem ly_173 : LY[173]? = some (9, 0, [0, 0, 0, 0, 0, 0, 0, 0, 0, 0, 0, 176, 177, 178, 179, 180, 181, 182, 183]) := rfl
theorem ly_174 : LY[174]? = some (0, 10, []) := rfl
theorem ly_175 : LY[175]? = some (0, 8, []) := rfl
theorem ly_176 : LY[176]? = some (0, 48, []) := rfl
theorem ly_177 : LY[177]? = some (0, 5, []) := rfl
theorem ly_178 : LY[178]? = some (0, 5, []) := rfl
theorem ly_179 : LY[179]? = some (0, 5, []) := rfl
theorem ly_180 : LY[180]? = some (0, 5, []) := rfl
theorem ly_181 : LY[181]? = some (0, 5, []) := rfl
theorem ly_182 : LY[182]? = some (7, 0, [185, 0, 0]) := rfl
theorem ly_183 : LY[183]? = some (0, 60, []) := rfl
theorem ly_184 : LY[184]? = some (6, 0, [187, 196]) := rfl
theorem ly_185 : LY[185]? = some (9, 0, [0, 0, 0, 0, 0, 0, 0, 0, 0, 0, 0, 188, 189, 190, 191, 192, 193, 194, 195]) := rfl
theorem ly_186 : LY[186]? = some (0, 10, []) := rfl
theorem ly_187 : LY[187]? = some (0, 8, []) := rfl
theorem ly_188 : LY[188]? = some (0, 48, []) := rfl
theorem ly_189 : LY[189]? = some (0, 5, []) := rfl
theorem ly_190 : LY[190]? = some (0, 5, []) := rfl
theorem ly_191 : LY[191]? = some (0, 5, []) := rfl
theorem ly_192 : LY[192]? = some (0, 5, []) := rfl
theorem ly_193 : LY[193]? = some (0, 5, []) := rfl
theorem ly_194 : LY[194]? = some (7, 0, [197, 0, 0]) := rfl
theorem ly_195 : LY[195]? = some (0, 60, []) := rfl
theorem ly_196 : LY[196]? = some (6, 0, [199, 208]) := rfl
theorem ly_197 : LY[197]? = some (9, 0, [0, 0, 0, 0, 0, 0, 0, 0, 0, 0, 0, 200, 201, 202, 203, 204, 205, 206, 207]) := rfl
theorem ly_198 : LY[198]? = some (0, 10, []) := rfl
theorem ly_199 : LY[199]? = some (0, 8, []) := rfl
theorem ly_200 : LY[200]? = some (0, 48, []) := rfl
theorem ly_201 : LY[201]? = some (0, 5, []) := rfl
theorem ly_202 : LY[202]? = some (0, 5, []) := rfl
theorem ly_203 : LY[203]? = some (0, 5, []) := rfl
theorem ly_204 : LY[204]? = some (0, 5, []) := rfl
theorem ly_205 : LY[205]? = some (0, 5, []) := rfl
theorem ly_206 : LY[206]? = some (7, 0, [209, 0, 0]) := rfl
theorem ly_207 : LY[207]? = some (0, 60, []) := rfl
theorem ly_208 : LY[208]? = some (13, 0, [0, 211, 212, 213, 214, 215, 0, 0, 216, 0, 0, 0, 0, 0, 0, 217, 0, 218, 0, 219, 220]) := rfl
theorem ly_209 : LY[209]? = some (0, 2107, []) := rfl
theorem ly_210 : LY[210]? = some (0, 1258, []) := rfl
theorem ly_211 : LY[211]? = some (0, 1258, []) := rfl
theorem ly_212 : LY[212]? = some (0, 409, []) := rfl
theorem ly_213 : LY[213]? = some (0, 4908, []) := rfl
theorem ly_214 : LY[214]? = some (1, 400, []) := rfl
theorem ly_215 : LY[215]? = some (0, 5, []) := rfl
theorem ly_216 : LY[216]? = some (0, 400, []) := rfl
theorem ly_217 : LY[217]? = some (0, 8, []) := rfl
theorem ly_218 : LY[218]? = some (0, 201, []) := rfl
theorem ly_219 : LY[219]? = some (2, 1, []) := rfl
def kTable (a : Nat) : Prop := LY[a]? = some (9, 0, [0, 0, 0, 0, 0, 0, 0, 0, 0, 0, 0, a + 3, a + 4, a + 5, a + 6, a + 7, a + 8, a + 9, a + 10]) ∧ LY[a + 1]? = some (0, 10, []) ∧ LY[a + 2]? = some (0, 8, []) ∧ LY[a + 3]? = some (0, 48, []) ∧ LY[a + 4]? = some (0, 5, []) ∧ LY[a + 5]? = some (0, 5, []) ∧ LY[a + 6]? = some (0, 5, []) ∧ LY[a + 7]? = some (0, 5, []) ∧ LY[a + 8]? = some (0, 5, [])
theorem kT_who {a : Nat} (h : kTable a) : LY[a + 1]? = some (0, 10, []) := h.2.1
theorem kT_taste {a : Nat} (h : kTable a) : LY[a + 2]? = some (0, 8, []) := h.2.2.1
theorem kT_has {a : Nat} (h : kTable a) : LY[a + 3]? = some (0, 48, []) := h.2.2.2.1
theorem kT_place {a : Nat} (h : kTable a) : LY[a + 4]? = some (0, 5, []) := h.2.2.2.2.1
theorem kT_trait {a : Nat} (h : kTable a) : LY[a + 5]? = some (0, 5, []) := h.2.2.2.2.2.1
theorem kT_grains {a : Nat} (h : kTable a) : LY[a + 6]? = some (0, 5, []) := h.2.2.2.2.2.2.1
theorem kT_set {a : Nat} (h : kTable a) : LY[a + 7]? = some (0, 5, []) := h.2.2.2.2.2.2.2.1
theorem kT_step {a : Nat} (h : kTable a) : LY[a + 8]? = some (0, 5, []) := h.2.2.2.2.2.2.2.2
def kLaw (a : Nat) : Prop := LY[a]? = some (5, 0, [0, 0, 0, a + 3, a + 4, a + 5, a + 6, a + 7]) ∧ LY[a + 1]? = some (0, 12, []) ∧ LY[a + 2]? = some (0, 12, []) ∧ LY[a + 3]? = some (0, 12, []) ∧ LY[a + 4]? = some (0, 12, []) ∧ LY[a + 5]? = some (0, 400, [])
theorem kL_kind {a : Nat} (h : kLaw a) : LY[a + 1]? = some (0, 12, []) := h.2.1
theorem kL_n {a : Nat} (h : kLaw a) : LY[a + 2]? = some (0, 12, []) := h.2.2.1
theorem kL_from {a : Nat} (h : kLaw a) : LY[a + 3]? = some (0, 12, []) := h.2.2.2.1
theorem kL_to {a : Nat} (h : kLaw a) : LY[a + 4]? = some (0, 12, []) := h.2.2.2.2.1
theorem kL_code {a : Nat} (h : kLaw a) : LY[a + 5]? = some (0, 400, []) := h.2.2.2.2.2
def kLog (a : Nat) : Prop := LY[a]? = some (7, 0, [a + 3, 0, 0]) ∧ LY[a + 1]? = some (0, 60, [])
theorem kP_packed {a : Nat} (h : kLog a) : LY[a + 1]? = some (0, 60, []) := h.2
def kMoment (a : Nat) : Prop := LY[a]? = some (6, 0, [a + 3, a + 12]) ∧ kTable (a + 1) ∧ kLog (a + 10)
theorem kM_table {a : Nat} (h : kMoment a) : kTable (a + 1) := h.2.1
theorem kM_log {a : Nat} (h : kMoment a) : kLog (a + 10) := h.2.2
theorem kTable_7 : kTable 7 := ⟨rfl, rfl, rfl, rfl, rfl, rfl, rfl, rfl, rfl⟩
theorem kTable_16 : kTable 16 := ⟨rfl, rfl, rfl, rfl, rfl, rfl, rfl, rfl, rfl⟩
theorem kTable_44 : kTable 44 := ⟨rfl, rfl, rfl, rfl, rfl, rfl, rfl, rfl, rfl⟩
theorem kLaw_25 : kLaw 25 := ⟨rfl, rfl, rfl, rfl, rfl, rfl⟩
theorem kLaw_31 : kLaw 31 := ⟨rfl, rfl, rfl, rfl, rfl, rfl⟩
theorem kLaw_55 : kLaw 55 := ⟨rfl, rfl, rfl, rfl, rfl, rfl⟩
theorem kLog_37 : kLog 37 := ⟨rfl, rfl⟩
theorem kLog_53 : kLog 53 := ⟨rfl, rfl⟩
theorem kMoment_43 : kMoment 43 := ⟨rfl, ⟨rfl, rfl, rfl, rfl, rfl, rfl, rfl, rfl, rfl⟩, ⟨rfl, rfl⟩⟩
theorem kM_all : ∀ j, j < 12 → kMoment (12 * j + 64) ∧ [66, 78, 90, 102, 114, 126, 138, 150, 162, 174, 186, 198][j]? = some (12 * j + 64 + 2) := by
  intro j hj
  have : j = 0 ∨ j = 1 ∨ j = 2 ∨ j = 3 ∨ j = 4 ∨ j = 5 ∨ j = 6 ∨ j = 7 ∨ j = 8 ∨ j = 9 ∨ j = 10 ∨ j = 11 := by omega
  rcases this with h | h | h | h | h | h | h | h | h | h | h | h <;> subst h <;> exact ⟨⟨rfl, ⟨rfl, rfl, rfl, rfl, rfl, rfl, rfl, rfl, rfl⟩, ⟨rfl, rfl⟩⟩, rfl⟩
theorem inb_lt {x : Int32} {n : Nat} (h : inb x n = true) : x.toNatClampNeg < n := by
  simp only [inb, Bool.and_eq_true, decide_eq_true_eq] at h
  exact h.2
theorem kM_at {x : Int32} (g : inb x 12 = true) : kMoment (12 * x.toNatClampNeg + 64) := (kM_all _ (inb_lt g)).1
theorem rf_mom {x : Int32} (g : inb x 12 = true) : [66, 78, 90, 102, 114, 126, 138, 150, 162, 174, 186, 198][x.toNatClampNeg]? = some (12 * x.toNatClampNeg + 64 + 2) := (kM_all _ (inb_lt g)).2
theorem cls_X0 : am_cls 0 RX0 TX0 9 tyX0 := ⟨rfl, by decide +kernel, tyX0_ok, nmX0⟩
theorem cls_X1 : am_cls 1 RX1 TX1 8 tyX1 := ⟨rfl, by decide +kernel, tyX1_ok, nmX1⟩
theorem cls_X3 : am_cls 2 RX3 TX3 2 tyX3 := ⟨rfl, by decide +kernel, tyX3_ok, nmX3⟩
theorem cls_X4 : am_cls 3 RX4 TX4 3 tyX4 := ⟨rfl, by decide +kernel, tyX4_ok, nmX4⟩
theorem cls_X5 : am_cls 4 RX5 TX5 3 tyX5 := ⟨rfl, by decide +kernel, tyX5_ok, nmX5⟩
theorem cls_X6 : am_cls 5 RX6 TX6 19 tyX6 := ⟨rfl, by decide +kernel, tyX6_ok, nmX6⟩
theorem cls_X8 : am_cls 6 RX8 TX8 2 tyX8 := ⟨rfl, by decide +kernel, tyX8_ok, nmX8⟩
theorem cls_X9 : am_cls 7 RX9 TX9 5 tyX9 := ⟨rfl, by decide +kernel, tyX9_ok, nmX9⟩
theorem cls_X10 : am_cls 8 RX10 TX10 19 tyX10 := ⟨rfl, by decide +kernel, tyX10_ok, nmX10⟩
theorem cls_X11 : am_cls 9 RX11 TX11 21 tyX11 := ⟨rfl, by decide +kernel, tyX11_ok, nmX11⟩
theorem mv_X6_hasOf : am_MV yX6_hasOf cX6_hasOf 4 (some .int) 2 5 := ⟨⟨aw_440, aw_4, ⟨by decide, by decide⟩, by decide +kernel⟩, aw_438, aw_439, rfl⟩
theorem mv_X6_isOnDiet : am_MV yX6_isOnDiet cX6_isOnDiet 2 (some .boolean) 1 5 := ⟨⟨aw_444, aw_4, ⟨by decide, by decide⟩, by decide +kernel⟩, aw_442, aw_443, rfl⟩
theorem mv_X0_tell : am_MV yX0_tell cX0_tell 4 none 3 0 := ⟨⟨aw_436, aw_9, ⟨by decide, by decide⟩, by decide +kernel⟩, aw_434, aw_435, rfl⟩
theorem mv_X1_clears : am_MV yX1_clears cX1_clears 1 none 0 1 := ⟨⟨aw_807, aw_6, ⟨by decide, by decide⟩, by decide +kernel⟩, aw_805, aw_806, rfl⟩
theorem mv_X1_copies : am_MV yX1_copies cX1_copies 2 none 1 1 := ⟨⟨aw_565, aw_6, ⟨by decide, by decide⟩, by decide +kernel⟩, aw_563, aw_564, rfl⟩
theorem mv_X1_addsStep : am_MV yX1_addsStep cX1_addsStep 2 none 1 1 := ⟨⟨aw_826, aw_6, ⟨by decide, by decide⟩, by decide +kernel⟩, aw_824, aw_825, rfl⟩
theorem mv_X1_addsLine : am_MV yX1_addsLine cX1_addsLine 4 none 3 1 := ⟨⟨aw_833, aw_6, ⟨by decide, by decide⟩, by decide +kernel⟩, aw_831, aw_832, rfl⟩
theorem ms_X1_part : am_MS yX1_part cX1_part 2 (some .int) 2 := ⟨⟨aw_458, aw_6, ⟨by decide, by decide⟩, by decide +kernel⟩, aw_457⟩
theorem mv_X1_holds : am_MV yX1_holds cX1_holds 9 (some .boolean) 3 1 := ⟨⟨aw_455, aw_6, ⟨by decide, by decide⟩, by decide +kernel⟩, aw_454, (am_in (List.mem_append_left _ (List.mem_map.mpr ⟨(yX1_holds, 8), (List.mem_append_left _ (List.mem_of_getElem? (i := 4) rfl)), rfl⟩)) rfl), rfl⟩
theorem mv_X1_pinch : am_MV yX1_pinch cX1_pinch 4 (some .int) 1 1 := ⟨⟨aw_448, aw_6, ⟨by decide, by decide⟩, by decide +kernel⟩, aw_446, aw_447, rfl⟩
theorem mv_X1_setsBy : am_MV yX1_setsBy cX1_setsBy 4 (some .int) 1 1 := ⟨⟨aw_930, aw_6, ⟨by decide, by decide⟩, by decide +kernel⟩, aw_928, aw_929, rfl⟩
theorem mv_X9_eats : am_MV yX9_eats cX9_eats 2 (some .boolean) 1 7 := ⟨⟨aw_674, aw_3, ⟨by decide, by decide⟩, by decide +kernel⟩, aw_672, aw_673, rfl⟩
theorem ms_X2_readsCondition : am_MS yX2_readsCondition cX2_readsCondition 4 (some .boolean) 3 := ⟨⟨aw_816, aw_23, ⟨by decide, by decide⟩, by decide +kernel⟩, aw_815⟩
theorem mv_X9_eatsNumber : am_MV yX9_eatsNumber cX9_eatsNumber 4 (some .int) 2 7 := ⟨⟨aw_681, aw_3, ⟨by decide, by decide⟩, by decide +kernel⟩, aw_679, aw_680, rfl⟩
theorem mv_X9_kind : am_MV yX9_kind cX9_kind 1 (some .int) 0 7 := ⟨⟨aw_667, aw_3, ⟨by decide, by decide⟩, by decide +kernel⟩, aw_665, aw_666, rfl⟩
theorem ms_X2_readsLine : am_MS yX2_readsLine cX2_readsLine 5 (some .boolean) 2 := ⟨⟨aw_811, aw_23, ⟨by decide, by decide⟩, by decide +kernel⟩, aw_810⟩
theorem ms_X2_reads : am_MS yX2_reads cX2_reads 3 (some .boolean) 2 := ⟨⟨aw_803, aw_23, ⟨by decide, by decide⟩, by decide +kernel⟩, aw_802⟩
theorem ms_X2_readsAll : am_MS yX2_readsAll cX2_readsAll 4 (some .boolean) 3 := ⟨⟨aw_819, aw_23, ⟨by decide, by decide⟩, by decide +kernel⟩, aw_818⟩
theorem ms_X2_readsSum : am_MS yX2_readsSum cX2_readsSum 4 (some .boolean) 2 := ⟨⟨aw_829, aw_23, ⟨by decide, by decide⟩, by decide +kernel⟩, aw_828⟩
theorem ms_X2_readsAtom : am_MS yX2_readsAtom cX2_readsAtom 5 (some .boolean) 3 := ⟨⟨aw_822, aw_23, ⟨by decide, by decide⟩, by decide +kernel⟩, aw_821⟩
theorem mv_X4_copies : am_MV yX4_copies cX4_copies 2 none 1 3 := ⟨⟨aw_552, aw_7, ⟨by decide, by decide⟩, by decide +kernel⟩, aw_550, aw_551, rfl⟩
theorem mv_X6_copies : am_MV yX6_copies cX6_copies 2 none 1 5 := ⟨⟨aw_400, aw_4, ⟨by decide, by decide⟩, by decide +kernel⟩, aw_398, aw_399, rfl⟩
theorem mv_X3_keeps : am_MV yX3_keeps cX3_keeps 3 none 2 2 := ⟨⟨aw_561, aw_10, ⟨by decide, by decide⟩, by decide +kernel⟩, aw_559, aw_560, rfl⟩
theorem mv_X3_returns : am_MV yX3_returns cX3_returns 3 none 2 2 := ⟨⟨aw_547, aw_10, ⟨by decide, by decide⟩, by decide +kernel⟩, aw_545, aw_546, rfl⟩
theorem mv_X4_adds : am_MV yX4_adds cX4_adds 5 none 4 3 := ⟨⟨aw_470, aw_7, ⟨by decide, by decide⟩, by decide +kernel⟩, aw_468, aw_469, rfl⟩
theorem mv_X4_tells : am_MV yX4_tells cX4_tells 4 (some .int) 2 3 := ⟨⟨aw_1208, aw_7, ⟨by decide, by decide⟩, by decide +kernel⟩, aw_1206, aw_1207, rfl⟩
theorem mv_X4_rowsOf : am_MV yX4_rowsOf cX4_rowsOf 4 (some .int) 1 3 := ⟨⟨aw_1212, aw_7, ⟨by decide, by decide⟩, by decide +kernel⟩, aw_1210, aw_1211, rfl⟩
theorem mv_X4_latestDinnerOf : am_MV yX4_latestDinnerOf cX4_latestDinnerOf 3 (some .int) 1 3 := ⟨⟨aw_1204, aw_7, ⟨by decide, by decide⟩, by decide +kernel⟩, aw_1202, aw_1203, rfl⟩
theorem ms_J7_fill_53178 : am_MS yJ7_fill_53178 cJ7_fill_53178 4 none 2 := ⟨⟨aw_84, aw_5, ⟨by decide, by decide⟩, by decide +kernel⟩, aw_83⟩
theorem mv_X5_opens : am_MV yX5_opens cX5_opens 2 none 1 4 := ⟨⟨aw_407, aw_8, ⟨by decide, by decide⟩, by decide +kernel⟩, aw_405, aw_406, rfl⟩
theorem mv_X6_gains : am_MV yX6_gains cX6_gains 5 none 3 5 := ⟨⟨aw_465, aw_4, ⟨by decide, by decide⟩, by decide +kernel⟩, aw_463, aw_464, rfl⟩
theorem mv_X5_pinchOf : am_MV yX5_pinchOf cX5_pinchOf 6 (some .int) 4 4 := ⟨⟨aw_432, aw_8, ⟨by decide, by decide⟩, by decide +kernel⟩, aw_431, (am_in (List.mem_append_left _ (List.mem_map.mpr ⟨(yX5_pinchOf, 3), (List.mem_append_left _ (List.mem_of_getElem? (i := 3) rfl)), rfl⟩)) rfl), rfl⟩
theorem mv_X6_dinerAt : am_MV yX6_dinerAt cX6_dinerAt 2 (some .int) 1 5 := ⟨⟨aw_428, aw_4, ⟨by decide, by decide⟩, by decide +kernel⟩, aw_426, aw_427, rfl⟩
theorem mv_X5_allTake : am_MV yX5_allTake cX5_allTake 8 (some .int) 3 4 := ⟨⟨aw_424, aw_8, ⟨by decide, by decide⟩, by decide +kernel⟩, aw_423, (am_in (List.mem_append_left _ (List.mem_map.mpr ⟨(yX5_allTake, 3), (List.mem_append_left _ (List.mem_of_getElem? (i := 2) rfl)), rfl⟩)) rfl), rfl⟩
theorem mv_X6_passesOn : am_MV yX6_passesOn cX6_passesOn 2 none 0 5 := ⟨⟨aw_475, aw_4, ⟨by decide, by decide⟩, by decide +kernel⟩, aw_473, aw_474, rfl⟩
theorem mv_X5_goesAhead : am_MV yX5_goesAhead cX5_goesAhead 4 (some .int) 2 4 := ⟨⟨aw_420, aw_8, ⟨by decide, by decide⟩, by decide +kernel⟩, aw_418, aw_419, rfl⟩
theorem mv_X6_draws : am_MV yX6_draws cX6_draws 1 (some .int) 0 5 := ⟨⟨aw_1016, aw_4, ⟨by decide, by decide⟩, by decide +kernel⟩, aw_1014, aw_1015, rfl⟩
theorem mv_X5_damps : am_MV yX5_damps cX5_damps 6 none 2 4 := ⟨⟨aw_1022, aw_8, ⟨by decide, by decide⟩, by decide +kernel⟩, aw_1021, (am_in (List.mem_append_left _ (List.mem_map.mpr ⟨(yX5_damps, 3), (List.mem_append_right _ (List.mem_append_left _ (List.mem_of_getElem? (i := 6) rfl))), rfl⟩)) rfl), rfl⟩
theorem mv_X5_spills : am_MV yX5_spills cX5_spills 3 none 1 4 := ⟨⟨aw_1012, aw_8, ⟨by decide, by decide⟩, by decide +kernel⟩, aw_1011, (am_in (List.mem_append_left _ (List.mem_map.mpr ⟨(yX5_spills, 3), (List.mem_append_right _ (List.mem_append_left _ (List.mem_of_getElem? (i := 5) rfl))), rfl⟩)) rfl), rfl⟩
theorem mv_X5_goesBy : am_MV yX5_goesBy cX5_goesBy 5 (some .int) 3 4 := ⟨⟨aw_1008, aw_8, ⟨by decide, by decide⟩, by decide +kernel⟩, aw_1006, aw_1007, rfl⟩
theorem mv_X6_sits : am_MV yX6_sits cX6_sits 4 none 3 5 := ⟨⟨aw_686, aw_4, ⟨by decide, by decide⟩, by decide +kernel⟩, aw_684, aw_685, rfl⟩
theorem mv_X6_stands : am_MV yX6_stands cX6_stands 6 none 5 5 := ⟨⟨aw_697, aw_4, ⟨by decide, by decide⟩, by decide +kernel⟩, aw_695, aw_696, rfl⟩
theorem mv_X6_serves : am_MV yX6_serves cX6_serves 3 none 2 5 := ⟨⟨aw_704, aw_4, ⟨by decide, by decide⟩, by decide +kernel⟩, aw_702, aw_703, rfl⟩
theorem mv_X6_changesAbout : am_MV yX6_changesAbout cX6_changesAbout 4 none 2 5 := ⟨⟨aw_488, aw_4, ⟨by decide, by decide⟩, by decide +kernel⟩, aw_486, aw_487, rfl⟩
theorem mv_X6_seatOf : am_MV yX6_seatOf cX6_seatOf 3 (some .int) 1 5 := ⟨⟨aw_886, aw_4, ⟨by decide, by decide⟩, by decide +kernel⟩, aw_884, aw_885, rfl⟩
theorem mv_X6_hasInAll : am_MV yX6_hasInAll cX6_hasInAll 4 (some .int) 1 5 := ⟨⟨aw_509, aw_4, ⟨by decide, by decide⟩, by decide +kernel⟩, aw_507, aw_508, rfl⟩
theorem mv_X6_mixed : am_MV yX6_mixed cX6_mixed 4 (some .int) 1 5 := ⟨⟨aw_891, aw_4, ⟨by decide, by decide⟩, by decide +kernel⟩, aw_889, aw_890, rfl⟩
theorem mv_X6_mainTrait : am_MV yX6_mainTrait cX6_mainTrait 5 (some .int) 1 5 := ⟨⟨aw_496, aw_4, ⟨by decide, by decide⟩, by decide +kernel⟩, aw_494, aw_495, rfl⟩
theorem mv_X6_grainsInAll : am_MV yX6_grainsInAll cX6_grainsInAll 3 (some .int) 0 5 := ⟨⟨aw_505, aw_4, ⟨by decide, by decide⟩, by decide +kernel⟩, aw_503, aw_504, rfl⟩
theorem mv_X6_heldCellars : am_MV yX6_heldCellars cX6_heldCellars 3 (some .int) 0 5 := ⟨⟨aw_412, aw_4, ⟨by decide, by decide⟩, by decide +kernel⟩, aw_410, aw_411, rfl⟩
theorem mv_X6_heldAt : am_MV yX6_heldAt cX6_heldAt 4 (some .int) 1 5 := ⟨⟨aw_525, aw_4, ⟨by decide, by decide⟩, by decide +kernel⟩, aw_523, aw_524, rfl⟩
theorem mv_X6_firstHeldAt : am_MV yX6_firstHeldAt cX6_firstHeldAt 3 (some .int) 1 5 := ⟨⟨aw_1153, aw_4, ⟨by decide, by decide⟩, by decide +kernel⟩, aw_1151, aw_1152, rfl⟩
theorem mv_X9_eatsLetter : am_MV yX9_eatsLetter cX9_eatsLetter 2 (some .int) 0 7 := ⟨⟨aw_693, aw_3, ⟨by decide, by decide⟩, by decide +kernel⟩, aw_691, aw_692, rfl⟩
theorem ms_X7_readsCellar : am_MS yX7_readsCellar cX7_readsCellar 7 (some .boolean) 2 := ⟨⟨aw_689, aw_17, ⟨by decide, by decide⟩, by decide +kernel⟩, aw_688⟩
theorem ms_X7_readsDiner : am_MS yX7_readsDiner cX7_readsDiner 5 (some .boolean) 2 := ⟨⟨aw_677, aw_17, ⟨by decide, by decide⟩, by decide +kernel⟩, aw_676⟩
theorem ms_X7_readsServed : am_MS yX7_readsServed cX7_readsServed 4 (some .boolean) 3 := ⟨⟨aw_700, aw_17, ⟨by decide, by decide⟩, by decide +kernel⟩, aw_699⟩
theorem ms_X7_readsLine : am_MS yX7_readsLine cX7_readsLine 2 (some .boolean) 2 := ⟨⟨aw_670, aw_17, ⟨by decide, by decide⟩, by decide +kernel⟩, aw_669⟩
theorem ms_X7_reads : am_MS yX7_reads cX7_reads 3 (some .boolean) 2 := ⟨⟨aw_663, aw_17, ⟨by decide, by decide⟩, by decide +kernel⟩, aw_662⟩
theorem mv_X8_adds : am_MV yX8_adds cX8_adds 3 none 1 6 := ⟨⟨aw_380, aw_2, ⟨by decide, by decide⟩, by decide +kernel⟩, aw_378, aw_379, rfl⟩
theorem mv_X8_byteAt : am_MV yX8_byteAt cX8_byteAt 2 (some .int) 1 6 := ⟨⟨aw_595, aw_2, ⟨by decide, by decide⟩, by decide +kernel⟩, aw_593, aw_594, rfl⟩
theorem mv_X9_adds : am_MV yX9_adds cX9_adds 4 none 3 7 := ⟨⟨aw_603, aw_3, ⟨by decide, by decide⟩, by decide +kernel⟩, aw_602, (am_in (List.mem_append_left _ (List.mem_map.mpr ⟨(yX9_adds, 5), (List.mem_append_left _ (List.mem_of_getElem? (i := 8) rfl)), rfl⟩)) rfl), rfl⟩
theorem mv_X9_cutsNumber : am_MV yX9_cutsNumber cX9_cutsNumber 5 (some .int) 2 7 := ⟨⟨aw_660, aw_3, ⟨by decide, by decide⟩, by decide +kernel⟩, aw_659, (am_in (List.mem_append_left _ (List.mem_map.mpr ⟨(yX9_cutsNumber, 5), (List.mem_append_left _ (List.mem_of_getElem? (i := 10) rfl)), rfl⟩)) rfl), rfl⟩
theorem mv_X9_wordOf : am_MV yX9_wordOf cX9_wordOf 8 (some .int) 3 7 := ⟨⟨aw_607, aw_3, ⟨by decide, by decide⟩, by decide +kernel⟩, aw_606, (am_in (List.mem_append_left _ (List.mem_map.mpr ⟨(yX9_wordOf, 5), (List.mem_append_left _ (List.mem_of_getElem? (i := 9) rfl)), rfl⟩)) rfl), rfl⟩
theorem mv_X9_cutsWord : am_MV yX9_cutsWord cX9_cutsWord 5 (some .int) 2 7 := ⟨⟨aw_599, aw_3, ⟨by decide, by decide⟩, by decide +kernel⟩, aw_598, (am_in (List.mem_append_left _ (List.mem_map.mpr ⟨(yX9_cutsWord, 5), (List.mem_append_left _ (List.mem_of_getElem? (i := 7) rfl)), rfl⟩)) rfl), rfl⟩
theorem mv_X9_cutsOne : am_MV yX9_cutsOne cX9_cutsOne 4 (some .int) 2 7 := ⟨⟨aw_591, aw_3, ⟨by decide, by decide⟩, by decide +kernel⟩, aw_590, (am_in (List.mem_append_left _ (List.mem_map.mpr ⟨(yX9_cutsOne, 5), (List.mem_append_left _ (List.mem_of_getElem? (i := 6) rfl)), rfl⟩)) rfl), rfl⟩
theorem mv_X9_cuts : am_MV yX9_cuts cX9_cuts 4 none 1 7 := ⟨⟨aw_587, aw_3, ⟨by decide, by decide⟩, by decide +kernel⟩, aw_585, aw_586, rfl⟩
theorem mv_X9_begin : am_MV yX9_begin cX9_begin 1 (some .int) 0 7 := ⟨⟨aw_708, aw_3, ⟨by decide, by decide⟩, by decide +kernel⟩, aw_706, aw_707, rfl⟩
theorem mv_X10_feed : am_MV yX10_feed cX10_feed 6 (some .int) 5 8 := ⟨⟨aw_376, aw_1, ⟨by decide, by decide⟩, by decide +kernel⟩, aw_374, aw_375, rfl⟩
theorem mv_X10_end : am_MV yX10_end cX10_end 2 (some .boolean) 1 8 := ⟨⟨aw_384, aw_1, ⟨by decide, by decide⟩, by decide +kernel⟩, aw_382, aw_383, rfl⟩
theorem mv_X10_table : am_MV yX10_table cX10_table 2 (some .int) 0 8 := ⟨⟨aw_583, aw_1, ⟨by decide, by decide⟩, by decide +kernel⟩, aw_581, aw_582, rfl⟩
theorem mv_X10_law : am_MV yX10_law cX10_law 2 (some .int) 0 8 := ⟨⟨aw_800, aw_1, ⟨by decide, by decide⟩, by decide +kernel⟩, aw_798, aw_799, rfl⟩
theorem mv_X10_fault : am_MV yX10_fault cX10_fault 1 (some .int) 0 8 := ⟨⟨aw_388, aw_1, ⟨by decide, by decide⟩, by decide +kernel⟩, aw_386, aw_387, rfl⟩
theorem mv_X10_needsDiner : am_MV yX10_needsDiner cX10_needsDiner 2 none 1 8 := ⟨⟨aw_846, aw_1, ⟨by decide, by decide⟩, by decide +kernel⟩, aw_845, (am_in (List.mem_append_left _ (List.mem_map.mpr ⟨(yX10_needsDiner, 19), (List.mem_append_left _ (List.mem_of_getElem? (i := 12) rfl)), rfl⟩)) rfl), rfl⟩
theorem mv_X10_needsWhat : am_MV yX10_needsWhat cX10_needsWhat 3 none 2 8 := ⟨⟨aw_866, aw_1, ⟨by decide, by decide⟩, by decide +kernel⟩, aw_865, (am_in (List.mem_append_left _ (List.mem_map.mpr ⟨(yX10_needsWhat, 19), (List.mem_append_left _ (List.mem_of_getElem? (i := 13) rfl)), rfl⟩)) rfl), rfl⟩
theorem mv_X10_diner : am_MV yX10_diner cX10_diner 3 (some .int) 2 8 := ⟨⟨aw_842, aw_1, ⟨by decide, by decide⟩, by decide +kernel⟩, aw_840, aw_841, rfl⟩
theorem mv_X10_needsTrait : am_MV yX10_needsTrait cX10_needsTrait 2 none 1 8 := ⟨⟨aw_902, aw_1, ⟨by decide, by decide⟩, by decide +kernel⟩, aw_901, (am_in (List.mem_append_left _ (List.mem_map.mpr ⟨(yX10_needsTrait, 19), (List.mem_append_left _ (List.mem_of_getElem? (i := 14) rfl)), rfl⟩)) rfl), rfl⟩
theorem mv_X10_has : am_MV yX10_has cX10_has 3 (some .int) 2 8 := ⟨⟨aw_898, aw_1, ⟨by decide, by decide⟩, by decide +kernel⟩, aw_896, aw_897, rfl⟩
theorem mv_X10_needsCellar : am_MV yX10_needsCellar cX10_needsCellar 2 none 1 8 := ⟨⟨aw_915, aw_1, ⟨by decide, by decide⟩, by decide +kernel⟩, aw_914, (am_in (List.mem_append_left _ (List.mem_map.mpr ⟨(yX10_needsCellar, 19), (List.mem_append_left _ (List.mem_of_getElem? (i := 15) rfl)), rfl⟩)) rfl), rfl⟩
theorem mv_X10_pinchNow : am_MV yX10_pinchNow cX10_pinchNow 3 (some .int) 1 8 := ⟨⟨aw_920, aw_1, ⟨by decide, by decide⟩, by decide +kernel⟩, aw_919, (am_in (List.mem_append_left _ (List.mem_map.mpr ⟨(yX10_pinchNow, 19), (List.mem_append_right _ (List.mem_append_left _ (List.mem_of_getElem? (i := 0) rfl))), rfl⟩)) rfl), rfl⟩
theorem mv_X10_setsByNow : am_MV yX10_setsByNow cX10_setsByNow 3 (some .int) 1 8 := ⟨⟨aw_926, aw_1, ⟨by decide, by decide⟩, by decide +kernel⟩, aw_925, (am_in (List.mem_append_left _ (List.mem_map.mpr ⟨(yX10_setsByNow, 19), (List.mem_append_right _ (List.mem_append_left _ (List.mem_of_getElem? (i := 1) rfl))), rfl⟩)) rfl), rfl⟩
theorem mv_X10_cellar : am_MV yX10_cellar cX10_cellar 3 (some .int) 2 8 := ⟨⟨aw_911, aw_1, ⟨by decide, by decide⟩, by decide +kernel⟩, aw_909, aw_910, rfl⟩
theorem mv_X10_needsSeat : am_MV yX10_needsSeat cX10_needsSeat 2 none 1 8 := ⟨⟨aw_941, aw_1, ⟨by decide, by decide⟩, by decide +kernel⟩, aw_940, (am_in (List.mem_append_left _ (List.mem_map.mpr ⟨(yX10_needsSeat, 19), (List.mem_append_right _ (List.mem_append_left _ (List.mem_of_getElem? (i := 2) rfl))), rfl⟩)) rfl), rfl⟩
theorem mv_X10_seat : am_MV yX10_seat cX10_seat 2 (some .int) 1 8 := ⟨⟨aw_937, aw_1, ⟨by decide, by decide⟩, by decide +kernel⟩, aw_935, aw_936, rfl⟩
theorem mv_X10_remember : am_MV yX10_remember cX10_remember 1 none 0 8 := ⟨⟨aw_953, aw_1, ⟨by decide, by decide⟩, by decide +kernel⟩, aw_952, (am_in (List.mem_append_left _ (List.mem_map.mpr ⟨(yX10_remember, 19), (List.mem_append_right _ (List.mem_append_left _ (List.mem_of_getElem? (i := 3) rfl))), rfl⟩)) rfl), rfl⟩
theorem mv_X10_pass : am_MV yX10_pass cX10_pass 4 (some .int) 2 8 := ⟨⟨aw_949, aw_1, ⟨by decide, by decide⟩, by decide +kernel⟩, aw_947, aw_948, rfl⟩
theorem mv_X10_knock : am_MV yX10_knock cX10_knock 3 (some .int) 1 8 := ⟨⟨aw_961, aw_1, ⟨by decide, by decide⟩, by decide +kernel⟩, aw_959, aw_960, rfl⟩
theorem mv_X10_needsWithin : am_MV yX10_needsWithin cX10_needsWithin 4 none 3 8 := ⟨⟨aw_972, aw_1, ⟨by decide, by decide⟩, by decide +kernel⟩, aw_971, (am_in (List.mem_append_left _ (List.mem_map.mpr ⟨(yX10_needsWithin, 19), (List.mem_append_right _ (List.mem_append_left _ (List.mem_of_getElem? (i := 4) rfl))), rfl⟩)) rfl), rfl⟩
theorem mv_X10_fill : am_MV yX10_fill cX10_fill 3 (some .int) 2 8 := ⟨⟨aw_968, aw_1, ⟨by decide, by decide⟩, by decide +kernel⟩, aw_966, aw_967, rfl⟩
theorem mv_X10_change : am_MV yX10_change cX10_change 3 (some .int) 2 8 := ⟨⟨aw_980, aw_1, ⟨by decide, by decide⟩, by decide +kernel⟩, aw_978, aw_979, rfl⟩
theorem mv_X10_diet : am_MV yX10_diet cX10_diet 4 (some .boolean) 2 8 := ⟨⟨aw_988, aw_1, ⟨by decide, by decide⟩, by decide +kernel⟩, aw_986, aw_987, rfl⟩
theorem mv_X10_sweet : am_MV yX10_sweet cX10_sweet 4 (some .boolean) 2 8 := ⟨⟨aw_995, aw_1, ⟨by decide, by decide⟩, by decide +kernel⟩, aw_993, aw_994, rfl⟩
theorem mv_X10_courses : am_MV yX10_courses cX10_courses 4 (some .int) 1 8 := ⟨⟨aw_1004, aw_1, ⟨by decide, by decide⟩, by decide +kernel⟩, aw_1002, aw_1003, rfl⟩
theorem mv_X10_looksAhead : am_MV yX10_looksAhead cX10_looksAhead 1 none 0 8 := ⟨⟨aw_396, aw_1, ⟨by decide, by decide⟩, by decide +kernel⟩, aw_395, (am_in (List.mem_append_left _ (List.mem_map.mpr ⟨(yX10_looksAhead, 19), (List.mem_append_left _ (List.mem_of_getElem? (i := 0) rfl)), rfl⟩)) rfl), rfl⟩
theorem mv_X10_untilFree : am_MV yX10_untilFree cX10_untilFree 5 (some .int) 2 8 := ⟨⟨aw_416, aw_1, ⟨by decide, by decide⟩, by decide +kernel⟩, aw_415, (am_in (List.mem_append_left _ (List.mem_map.mpr ⟨(yX10_untilFree, 19), (List.mem_append_left _ (List.mem_of_getElem? (i := 1) rfl)), rfl⟩)) rfl), rfl⟩
theorem mv_X10_frees : am_MV yX10_frees cX10_frees 2 (some .int) 1 8 := ⟨⟨aw_1030, aw_1, ⟨by decide, by decide⟩, by decide +kernel⟩, aw_1028, aw_1029, rfl⟩
theorem mv_X10_all : am_MV yX10_all cX10_all 1 (some .int) 0 8 := ⟨⟨aw_392, aw_1, ⟨by decide, by decide⟩, by decide +kernel⟩, aw_390, aw_391, rfl⟩
theorem mv_X10_held : am_MV yX10_held cX10_held 1 (some .int) 0 8 := ⟨⟨aw_479, aw_1, ⟨by decide, by decide⟩, by decide +kernel⟩, aw_477, aw_478, rfl⟩
theorem mv_X10_looksAheadBy : am_MV yX10_looksAheadBy cX10_looksAheadBy 3 none 1 8 := ⟨⟨aw_1041, aw_1, ⟨by decide, by decide⟩, by decide +kernel⟩, aw_1040, (am_in (List.mem_append_left _ (List.mem_map.mpr ⟨(yX10_looksAheadBy, 19), (List.mem_append_right _ (List.mem_append_left _ (List.mem_of_getElem? (i := 7) rfl))), rfl⟩)) rfl), rfl⟩
theorem mv_X10_takes : am_MV yX10_takes cX10_takes 3 (some .int) 2 8 := ⟨⟨aw_1037, aw_1, ⟨by decide, by decide⟩, by decide +kernel⟩, aw_1035, aw_1036, rfl⟩
theorem mv_X10_keenest : am_MV yX10_keenest cX10_keenest 5 (some .int) 1 8 := ⟨⟨aw_1048, aw_1, ⟨by decide, by decide⟩, by decide +kernel⟩, aw_1046, aw_1047, rfl⟩
theorem mv_X10_goes : am_MV yX10_goes cX10_goes 3 (some .int) 2 8 := ⟨⟨aw_1055, aw_1, ⟨by decide, by decide⟩, by decide +kernel⟩, aw_1053, aw_1054, rfl⟩
theorem mv_X10_ahead : am_MV yX10_ahead cX10_ahead 3 (some .int) 2 8 := ⟨⟨aw_1062, aw_1, ⟨by decide, by decide⟩, by decide +kernel⟩, aw_1060, aw_1061, rfl⟩
theorem mv_X10_swap : am_MV yX10_swap cX10_swap 7 (some .int) 0 8 := ⟨⟨aw_483, aw_1, ⟨by decide, by decide⟩, by decide +kernel⟩, aw_481, aw_482, rfl⟩
theorem ms_J6_bitCount_0f7a4 : am_MS yJ6_bitCount_0f7a4 cJ6_bitCount_0f7a4 1 (some .int) 1 := ⟨⟨aw_528, aw_27, ⟨by decide, by decide⟩, by decide +kernel⟩, aw_527⟩
theorem mv_X10_fewest : am_MV yX10_fewest cX10_fewest 6 (some .int) 2 8 := ⟨⟨aw_1069, aw_1, ⟨by decide, by decide⟩, by decide +kernel⟩, aw_1067, aw_1068, rfl⟩
theorem mv_X10_asTold : am_MV yX10_asTold cX10_asTold 4 (some .boolean) 1 8 := ⟨⟨aw_1098, aw_1, ⟨by decide, by decide⟩, by decide +kernel⟩, aw_1097, (am_in (List.mem_append_left _ (List.mem_map.mpr ⟨(yX10_asTold, 19), (List.mem_append_right _ (List.mem_append_left _ (List.mem_of_getElem? (i := 12) rfl))), rfl⟩)) rfl), rfl⟩
theorem mv_X10_keepsParted : am_MV yX10_keepsParted cX10_keepsParted 3 none 1 8 := ⟨⟨aw_1102, aw_1, ⟨by decide, by decide⟩, by decide +kernel⟩, aw_1101, (am_in (List.mem_append_left _ (List.mem_map.mpr ⟨(yX10_keepsParted, 19), (List.mem_append_right _ (List.mem_append_left _ (List.mem_of_getElem? (i := 13) rfl))), rfl⟩)) rfl), rfl⟩
theorem mv_X10_latestTold : am_MV yX10_latestTold cX10_latestTold 3 (some .int) 0 8 := ⟨⟨aw_1093, aw_1, ⟨by decide, by decide⟩, by decide +kernel⟩, aw_1092, (am_in (List.mem_append_left _ (List.mem_map.mpr ⟨(yX10_latestTold, 19), (List.mem_append_right _ (List.mem_append_left _ (List.mem_of_getElem? (i := 11) rfl))), rfl⟩)) rfl), rfl⟩
theorem mv_X10_fits : am_MV yX10_fits cX10_fits 6 (some .boolean) 3 8 := ⟨⟨aw_1089, aw_1, ⟨by decide, by decide⟩, by decide +kernel⟩, aw_1088, (am_in (List.mem_append_left _ (List.mem_map.mpr ⟨(yX10_fits, 19), (List.mem_append_right _ (List.mem_append_left _ (List.mem_of_getElem? (i := 10) rfl))), rfl⟩)) rfl), rfl⟩
theorem mv_X10_needsBribeRows : am_MV yX10_needsBribeRows cX10_needsBribeRows 2 none 1 8 := ⟨⟨aw_1084, aw_1, ⟨by decide, by decide⟩, by decide +kernel⟩, aw_1083, (am_in (List.mem_append_left _ (List.mem_map.mpr ⟨(yX10_needsBribeRows, 19), (List.mem_append_right _ (List.mem_append_left _ (List.mem_of_getElem? (i := 9) rfl))), rfl⟩)) rfl), rfl⟩
theorem mv_X10_takesBribeRows : am_MV yX10_takesBribeRows cX10_takesBribeRows 3 (some .boolean) 0 8 := ⟨⟨aw_1080, aw_1, ⟨by decide, by decide⟩, by decide +kernel⟩, aw_1079, (am_in (List.mem_append_left _ (List.mem_map.mpr ⟨(yX10_takesBribeRows, 19), (List.mem_append_right _ (List.mem_append_left _ (List.mem_of_getElem? (i := 8) rfl))), rfl⟩)) rfl), rfl⟩
theorem mv_X10_bribes : am_MV yX10_bribes cX10_bribes 5 (some .int) 1 8 := ⟨⟨aw_1076, aw_1, ⟨by decide, by decide⟩, by decide +kernel⟩, aw_1074, aw_1075, rfl⟩
theorem mv_X10_greatestPart : am_MV yX10_greatestPart cX10_greatestPart 6 (some .int) 2 8 := ⟨⟨aw_1113, aw_1, ⟨by decide, by decide⟩, by decide +kernel⟩, aw_1112, (am_in (List.mem_append_left _ (List.mem_map.mpr ⟨(yX10_greatestPart, 19), (List.mem_append_right _ (List.mem_append_left _ (List.mem_of_getElem? (i := 14) rfl))), rfl⟩)) rfl), rfl⟩
theorem mv_X10_ask : am_MV yX10_ask cX10_ask 7 (some .int) 1 8 := ⟨⟨aw_1109, aw_1, ⟨by decide, by decide⟩, by decide +kernel⟩, aw_1107, aw_1108, rfl⟩
theorem mv_X10_worst : am_MV yX10_worst cX10_worst 5 (some .int) 1 8 := ⟨⟨aw_1121, aw_1, ⟨by decide, by decide⟩, by decide +kernel⟩, aw_1119, aw_1120, rfl⟩
theorem mv_X10_alike : am_MV yX10_alike cX10_alike 5 (some .int) 0 8 := ⟨⟨aw_492, aw_1, ⟨by decide, by decide⟩, by decide +kernel⟩, aw_490, aw_491, rfl⟩
theorem mv_X10_share : am_MV yX10_share cX10_share 5 (some .int) 2 8 := ⟨⟨aw_1128, aw_1, ⟨by decide, by decide⟩, by decide +kernel⟩, aw_1126, aw_1127, rfl⟩
theorem mv_X10_whole : am_MV yX10_whole cX10_whole 3 (some .int) 0 8 := ⟨⟨aw_501, aw_1, ⟨by decide, by decide⟩, by decide +kernel⟩, aw_499, aw_500, rfl⟩
theorem mv_X10_takingsTillGone : am_MV yX10_takingsTillGone cX10_takingsTillGone 6 (some .int) 1 8 := ⟨⟨aw_517, aw_1, ⟨by decide, by decide⟩, by decide +kernel⟩, aw_516, (am_in (List.mem_append_left _ (List.mem_map.mpr ⟨(yX10_takingsTillGone, 19), (List.mem_append_left _ (List.mem_of_getElem? (i := 5) rfl)), rfl⟩)) rfl), rfl⟩
theorem mv_X10_sentence : am_MV yX10_sentence cX10_sentence 2 (some .int) 1 8 := ⟨⟨aw_1135, aw_1, ⟨by decide, by decide⟩, by decide +kernel⟩, aw_1133, aw_1134, rfl⟩
theorem mv_X10_alone : am_MV yX10_alone cX10_alone 6 (some .int) 2 8 := ⟨⟨aw_1142, aw_1, ⟨by decide, by decide⟩, by decide +kernel⟩, aw_1140, aw_1141, rfl⟩
theorem mv_X10_fair : am_MV yX10_fair cX10_fair 5 (some .boolean) 0 8 := ⟨⟨aw_513, aw_1, ⟨by decide, by decide⟩, by decide +kernel⟩, aw_511, aw_512, rfl⟩
theorem mv_X10_cookHas : am_MV yX10_cookHas cX10_cookHas 5 (some .int) 3 8 := ⟨⟨aw_1157, aw_1, ⟨by decide, by decide⟩, by decide +kernel⟩, aw_1156, (am_in (List.mem_append_left _ (List.mem_map.mpr ⟨(yX10_cookHas, 19), (List.mem_append_right _ (List.mem_append_left _ (List.mem_of_getElem? (i := 15) rfl))), rfl⟩)) rfl), rfl⟩
theorem mv_X10_dinerHas : am_MV yX10_dinerHas cX10_dinerHas 4 (some .int) 3 8 := ⟨⟨aw_1161, aw_1, ⟨by decide, by decide⟩, by decide +kernel⟩, aw_1160, (am_in (List.mem_append_left _ (List.mem_map.mpr ⟨(yX10_dinerHas, 19), (List.mem_append_right _ (List.mem_append_right _ (List.mem_append_left _ (List.mem_of_getElem? (i := 0) rfl)))), rfl⟩)) rfl), rfl⟩
theorem mv_X10_game : am_MV yX10_game cX10_game 7 (some .int) 1 8 := ⟨⟨aw_1149, aw_1, ⟨by decide, by decide⟩, by decide +kernel⟩, aw_1147, aw_1148, rfl⟩
theorem mv_X10_crowd : am_MV yX10_crowd cX10_crowd 5 (some .int) 0 8 := ⟨⟨aw_521, aw_1, ⟨by decide, by decide⟩, by decide +kernel⟩, aw_519, aw_520, rfl⟩
theorem mv_X10_gaps : am_MV yX10_gaps cX10_gaps 3 (some .int) 0 8 := ⟨⟨aw_535, aw_1, ⟨by decide, by decide⟩, by decide +kernel⟩, aw_533, aw_534, rfl⟩
theorem mv_X10_meets : am_MV yX10_meets cX10_meets 5 (some .int) 1 8 := ⟨⟨aw_1168, aw_1, ⟨by decide, by decide⟩, by decide +kernel⟩, aw_1166, aw_1167, rfl⟩
theorem mv_X10_least : am_MV yX10_least cX10_least 6 (some .int) 1 8 := ⟨⟨aw_1175, aw_1, ⟨by decide, by decide⟩, by decide +kernel⟩, aw_1173, aw_1174, rfl⟩
theorem mv_X10_tries : am_MV yX10_tries cX10_tries 4 none 2 8 := ⟨⟨aw_1186, aw_1, ⟨by decide, by decide⟩, by decide +kernel⟩, aw_1185, (am_in (List.mem_append_left _ (List.mem_map.mpr ⟨(yX10_tries, 19), (List.mem_append_right _ (List.mem_append_right _ (List.mem_append_left _ (List.mem_of_getElem? (i := 1) rfl)))), rfl⟩)) rfl), rfl⟩
theorem mv_X10_trial : am_MV yX10_trial cX10_trial 3 (some .int) 2 8 := ⟨⟨aw_1182, aw_1, ⟨by decide, by decide⟩, by decide +kernel⟩, aw_1180, aw_1181, rfl⟩
theorem mv_X10_span : am_MV yX10_span cX10_span 6 (some .int) 2 8 := ⟨⟨aw_1193, aw_1, ⟨by decide, by decide⟩, by decide +kernel⟩, aw_1191, aw_1192, rfl⟩
theorem mv_X10_led : am_MV yX10_led cX10_led 3 (some .int) 2 8 := ⟨⟨aw_1200, aw_1, ⟨by decide, by decide⟩, by decide +kernel⟩, aw_1198, aw_1199, rfl⟩
theorem mv_X10_log : am_MV yX10_log cX10_log 3 (some .int) 2 8 := ⟨⟨aw_1219, aw_1, ⟨by decide, by decide⟩, by decide +kernel⟩, aw_1217, aw_1218, rfl⟩
theorem mv_X10_seed : am_MV yX10_seed cX10_seed 3 (some .int) 1 8 := ⟨⟨aw_539, aw_1, ⟨by decide, by decide⟩, by decide +kernel⟩, aw_537, aw_538, rfl⟩
theorem mv_X10_undo : am_MV yX10_undo cX10_undo 2 (some .boolean) 0 8 := ⟨⟨aw_543, aw_1, ⟨by decide, by decide⟩, by decide +kernel⟩, aw_541, aw_542, rfl⟩
theorem mv_X10_image : am_MV yX10_image cX10_image 1 none 0 8 := ⟨⟨aw_557, aw_1, ⟨by decide, by decide⟩, by decide +kernel⟩, aw_555, aw_556, rfl⟩
theorem mv_X10_back : am_MV yX10_back cX10_back 1 (some .boolean) 0 8 := ⟨⟨aw_570, aw_1, ⟨by decide, by decide⟩, by decide +kernel⟩, aw_568, aw_569, rfl⟩
theorem mv_X10_count : am_MV yX10_count cX10_count 2 (some .int) 1 8 := ⟨⟨aw_574, aw_1, ⟨by decide, by decide⟩, by decide +kernel⟩, aw_572, aw_573, rfl⟩
theorem mv_X11_thrown : am_MV yX11_thrown cX11_thrown 1 (some .int) 0 9 := ⟨⟨aw_1224, aw_11, ⟨by decide, by decide⟩, by decide +kernel⟩, aw_1222, aw_1223, rfl⟩
theorem mv_X11_throwsIf : am_MV yX11_throwsIf cX11_throwsIf 3 (some .boolean) 2 9 := ⟨⟨aw_1473, aw_11, ⟨by decide, by decide⟩, by decide +kernel⟩, aw_1472, (am_in (List.mem_append_left _ (List.mem_map.mpr ⟨(yX11_throwsIf, 21), (List.mem_append_right _ (List.mem_append_right _ (List.mem_append_right _ (List.mem_append_left _ (List.mem_of_getElem? (i := 14) rfl))))), rfl⟩)) rfl), rfl⟩
theorem ms_X11_in : am_MS yX11_in cX11_in 3 (some .boolean) 3 := ⟨⟨aw_1406, aw_11, ⟨by decide, by decide⟩, by decide +kernel⟩, aw_1405⟩
theorem ms_X11_holds : am_MS yX11_holds cX11_holds 2 (some .boolean) 2 := ⟨⟨aw_1524, aw_11, ⟨by decide, by decide⟩, by decide +kernel⟩, aw_1523⟩
theorem mv_X11_image : am_MV yX11_image cX11_image 2 none 0 9 := ⟨⟨aw_1298, aw_11, ⟨by decide, by decide⟩, by decide +kernel⟩, aw_1296, aw_1297, rfl⟩
theorem mv_X11_back : am_MV yX11_back cX11_back 2 (some .boolean) 0 9 := ⟨⟨aw_1302, aw_11, ⟨by decide, by decide⟩, by decide +kernel⟩, aw_1300, aw_1301, rfl⟩
theorem mv_X11_remembers : am_MV yX11_remembers cX11_remembers 2 none 0 9 := ⟨⟨aw_1569, aw_11, ⟨by decide, by decide⟩, by decide +kernel⟩, aw_1568, (am_in (List.mem_append_left _ (List.mem_map.mpr ⟨(yX11_remembers, 21), (List.mem_append_right _ (List.mem_append_right _ (List.mem_append_right _ (List.mem_append_right _ (List.mem_append_left _ (List.mem_of_getElem? (i := 14) rfl)))))), rfl⟩)) rfl), rfl⟩
theorem mv_X11_undo : am_MV yX11_undo cX11_undo 2 (some .boolean) 0 9 := ⟨⟨aw_1306, aw_11, ⟨by decide, by decide⟩, by decide +kernel⟩, aw_1304, aw_1305, rfl⟩
theorem mv_X11_diners : am_MV yX11_diners cX11_diners 1 (some .int) 0 9 := ⟨⟨aw_1365, aw_11, ⟨by decide, by decide⟩, by decide +kernel⟩, aw_1364, (am_in (List.mem_append_left _ (List.mem_map.mpr ⟨(yX11_diners, 21), (List.mem_append_right _ (List.mem_append_right _ (List.mem_append_left _ (List.mem_of_getElem? (i := 11) rfl)))), rfl⟩)) rfl), rfl⟩
theorem mv_X11_cellars : am_MV yX11_cellars cX11_cellars 1 (some .int) 0 9 := ⟨⟨aw_1400, aw_11, ⟨by decide, by decide⟩, by decide +kernel⟩, aw_1399, (am_in (List.mem_append_left _ (List.mem_map.mpr ⟨(yX11_cellars, 21), (List.mem_append_right _ (List.mem_append_right _ (List.mem_append_right _ (List.mem_append_left _ (List.mem_of_getElem? (i := 2) rfl))))), rfl⟩)) rfl), rfl⟩
theorem ms_X11_dinerAt : am_MS yX11_dinerAt cX11_dinerAt 2 (some .int) 2 := ⟨⟨aw_1386, aw_11, ⟨by decide, by decide⟩, by decide +kernel⟩, aw_1385⟩
theorem mv_X11_of : am_MV yX11_of cX11_of 3 (some .int) 2 9 := ⟨⟨aw_1383, aw_11, ⟨by decide, by decide⟩, by decide +kernel⟩, aw_1382, (am_in (List.mem_append_left _ (List.mem_map.mpr ⟨(yX11_of, 21), (List.mem_append_right _ (List.mem_append_right _ (List.mem_append_left _ (List.mem_of_getElem? (i := 15) rfl)))), rfl⟩)) rfl), rfl⟩
theorem mv_X11_onDiet : am_MV yX11_onDiet cX11_onDiet 2 (some .boolean) 1 9 := ⟨⟨aw_1536, aw_11, ⟨by decide, by decide⟩, by decide +kernel⟩, aw_1535, (am_in (List.mem_append_left _ (List.mem_map.mpr ⟨(yX11_onDiet, 21), (List.mem_append_right _ (List.mem_append_right _ (List.mem_append_right _ (List.mem_append_right _ (List.mem_append_left _ (List.mem_of_getElem? (i := 9) rfl)))))), rfl⟩)) rfl), rfl⟩
theorem ms_X11_cellarAt : am_MS yX11_cellarAt cX11_cellarAt 2 (some .int) 2 := ⟨⟨aw_1412, aw_11, ⟨by decide, by decide⟩, by decide +kernel⟩, aw_1411⟩
theorem mv_X11_ofCellar : am_MV yX11_ofCellar cX11_ofCellar 3 (some .int) 2 9 := ⟨⟨aw_1513, aw_11, ⟨by decide, by decide⟩, by decide +kernel⟩, aw_1512, (am_in (List.mem_append_left _ (List.mem_map.mpr ⟨(yX11_ofCellar, 21), (List.mem_append_right _ (List.mem_append_right _ (List.mem_append_right _ (List.mem_append_right _ (List.mem_append_left _ (List.mem_of_getElem? (i := 4) rfl)))))), rfl⟩)) rfl), rfl⟩
theorem mv_X11_isFree : am_MV yX11_isFree cX11_isFree 2 (some .boolean) 1 9 := ⟨⟨aw_1528, aw_11, ⟨by decide, by decide⟩, by decide +kernel⟩, aw_1527, (am_in (List.mem_append_left _ (List.mem_map.mpr ⟨(yX11_isFree, 21), (List.mem_append_right _ (List.mem_append_right _ (List.mem_append_right _ (List.mem_append_right _ (List.mem_append_left _ (List.mem_of_getElem? (i := 7) rfl)))))), rfl⟩)) rfl), rfl⟩
theorem mv_X11_noDiner : am_MV yX11_noDiner cX11_noDiner 2 (some .boolean) 1 9 := ⟨⟨aw_1485, aw_11, ⟨by decide, by decide⟩, by decide +kernel⟩, aw_1484, (am_in (List.mem_append_left _ (List.mem_map.mpr ⟨(yX11_noDiner, 21), (List.mem_append_right _ (List.mem_append_right _ (List.mem_append_right _ (List.mem_append_left _ (List.mem_of_getElem? (i := 15) rfl))))), rfl⟩)) rfl), rfl⟩
theorem mv_X11_noCellar : am_MV yX11_noCellar cX11_noCellar 2 (some .boolean) 1 9 := ⟨⟨aw_1505, aw_11, ⟨by decide, by decide⟩, by decide +kernel⟩, aw_1504, (am_in (List.mem_append_left _ (List.mem_map.mpr ⟨(yX11_noCellar, 21), (List.mem_append_right _ (List.mem_append_right _ (List.mem_append_right _ (List.mem_append_right _ (List.mem_append_left _ (List.mem_of_getElem? (i := 2) rfl)))))), rfl⟩)) rfl), rfl⟩
theorem ms_X11_noSeat : am_MS yX11_noSeat cX11_noSeat 1 (some .boolean) 1 := ⟨⟨aw_1561, aw_11, ⟨by decide, by decide⟩, by decide +kernel⟩, aw_1560⟩
theorem ms_X11_noTrait : am_MS yX11_noTrait cX11_noTrait 1 (some .boolean) 1 := ⟨⟨aw_1403, aw_11, ⟨by decide, by decide⟩, by decide +kernel⟩, aw_1402⟩
theorem mv_X11_dinerIn : am_MV yX11_dinerIn cX11_dinerIn 3 (some .int) 1 9 := ⟨⟨aw_1379, aw_11, ⟨by decide, by decide⟩, by decide +kernel⟩, aw_1378, (am_in (List.mem_append_left _ (List.mem_map.mpr ⟨(yX11_dinerIn, 21), (List.mem_append_right _ (List.mem_append_right _ (List.mem_append_left _ (List.mem_of_getElem? (i := 14) rfl)))), rfl⟩)) rfl), rfl⟩
theorem mv_X11_eaterOf : am_MV yX11_eaterOf cX11_eaterOf 2 (some .int) 1 9 := ⟨⟨aw_1509, aw_11, ⟨by decide, by decide⟩, by decide +kernel⟩, aw_1508, (am_in (List.mem_append_left _ (List.mem_map.mpr ⟨(yX11_eaterOf, 21), (List.mem_append_right _ (List.mem_append_right _ (List.mem_append_right _ (List.mem_append_right _ (List.mem_append_left _ (List.mem_of_getElem? (i := 3) rfl)))))), rfl⟩)) rfl), rfl⟩
theorem mv_X11_isSweet : am_MV yX11_isSweet cX11_isSweet 1 (some .boolean) 0 9 := ⟨⟨aw_1521, aw_11, ⟨by decide, by decide⟩, by decide +kernel⟩, aw_1520, (am_in (List.mem_append_left _ (List.mem_map.mpr ⟨(yX11_isSweet, 21), (List.mem_append_right _ (List.mem_append_right _ (List.mem_append_right _ (List.mem_append_right _ (List.mem_append_left _ (List.mem_of_getElem? (i := 6) rfl)))))), rfl⟩)) rfl), rfl⟩
theorem mv_X11_drawn : am_MV yX11_drawn cX11_drawn 2 (some .int) 1 9 := ⟨⟨aw_1621, aw_11, ⟨by decide, by decide⟩, by decide +kernel⟩, aw_1620, (am_in (List.mem_append_left _ (List.mem_map.mpr ⟨(yX11_drawn, 21), (List.mem_append_right _ (List.mem_append_right _ (List.mem_append_right _ (List.mem_append_right _ (List.mem_append_right _ (List.mem_append_left _ (List.mem_of_getElem? (i := 5) rfl))))))), rfl⟩)) rfl), rfl⟩
theorem mv_X11_feed : am_MV yX11_feed cX11_feed 7 (some .int) 5 9 := ⟨⟨aw_1310, aw_11, ⟨by decide, by decide⟩, by decide +kernel⟩, aw_1308, aw_1309, rfl⟩
theorem mv_X11_end : am_MV yX11_end cX11_end 2 (some .boolean) 1 9 := ⟨⟨aw_1314, aw_11, ⟨by decide, by decide⟩, by decide +kernel⟩, aw_1312, aw_1313, rfl⟩
theorem mv_X11_isAt : am_MV yX11_isAt cX11_isAt 3 (some .boolean) 2 9 := ⟨⟨aw_1338, aw_11, ⟨by decide, by decide⟩, by decide +kernel⟩, aw_1337, (am_in (List.mem_append_left _ (List.mem_map.mpr ⟨(yX11_isAt, 21), (List.mem_append_right _ (List.mem_append_right _ (List.mem_append_left _ (List.mem_of_getElem? (i := 5) rfl)))), rfl⟩)) rfl), rfl⟩
theorem mv_X11_blanks : am_MV yX11_blanks cX11_blanks 1 none 0 9 := ⟨⟨aw_1334, aw_11, ⟨by decide, by decide⟩, by decide +kernel⟩, aw_1333, (am_in (List.mem_append_left _ (List.mem_map.mpr ⟨(yX11_blanks, 21), (List.mem_append_right _ (List.mem_append_right _ (List.mem_append_left _ (List.mem_of_getElem? (i := 4) rfl)))), rfl⟩)) rfl), rfl⟩
theorem mv_X11_letters : am_MV yX11_letters cX11_letters 1 none 0 9 := ⟨⟨aw_1346, aw_11, ⟨by decide, by decide⟩, by decide +kernel⟩, aw_1345, (am_in (List.mem_append_left _ (List.mem_map.mpr ⟨(yX11_letters, 21), (List.mem_append_right _ (List.mem_append_right _ (List.mem_append_left _ (List.mem_of_getElem? (i := 7) rfl)))), rfl⟩)) rfl), rfl⟩
theorem mv_X11_isWord : am_MV yX11_isWord cX11_isWord 4 (some .boolean) 1 9 := ⟨⟨aw_1355, aw_11, ⟨by decide, by decide⟩, by decide +kernel⟩, aw_1354, (am_in (List.mem_append_left _ (List.mem_map.mpr ⟨(yX11_isWord, 21), (List.mem_append_right _ (List.mem_append_right _ (List.mem_append_left _ (List.mem_of_getElem? (i := 9) rfl)))), rfl⟩)) rfl), rfl⟩
theorem mv_X11_passes : am_MV yX11_passes cX11_passes 2 (some .boolean) 1 9 := ⟨⟨aw_1391, aw_11, ⟨by decide, by decide⟩, by decide +kernel⟩, aw_1390, (am_in (List.mem_append_left _ (List.mem_map.mpr ⟨(yX11_passes, 21), (List.mem_append_right _ (List.mem_append_right _ (List.mem_append_right _ (List.mem_append_left _ (List.mem_of_getElem? (i := 0) rfl))))), rfl⟩)) rfl), rfl⟩
theorem mv_X11_sign : am_MV yX11_sign cX11_sign 2 (some .boolean) 1 9 := ⟨⟨aw_1448, aw_11, ⟨by decide, by decide⟩, by decide +kernel⟩, aw_1447, (am_in (List.mem_append_left _ (List.mem_map.mpr ⟨(yX11_sign, 21), (List.mem_append_right _ (List.mem_append_right _ (List.mem_append_right _ (List.mem_append_left _ (List.mem_of_getElem? (i := 9) rfl))))), rfl⟩)) rfl), rfl⟩
theorem mv_X11_number : am_MV yX11_number cX11_number 4 (some .int) 2 9 := ⟨⟨aw_1374, aw_11, ⟨by decide, by decide⟩, by decide +kernel⟩, aw_1373, (am_in (List.mem_append_left _ (List.mem_map.mpr ⟨(yX11_number, 21), (List.mem_append_right _ (List.mem_append_right _ (List.mem_append_left _ (List.mem_of_getElem? (i := 13) rfl)))), rfl⟩)) rfl), rfl⟩
theorem mv_X11_after : am_MV yX11_after cX11_after 4 (some .int) 3 9 := ⟨⟨aw_1370, aw_11, ⟨by decide, by decide⟩, by decide +kernel⟩, aw_1369, (am_in (List.mem_append_left _ (List.mem_map.mpr ⟨(yX11_after, 21), (List.mem_append_right _ (List.mem_append_right _ (List.mem_append_left _ (List.mem_of_getElem? (i := 12) rfl)))), rfl⟩)) rfl), rfl⟩
theorem mv_X11_fault : am_MV yX11_fault cX11_fault 1 (some .int) 0 9 := ⟨⟨aw_1318, aw_11, ⟨by decide, by decide⟩, by decide +kernel⟩, aw_1316, aw_1317, rfl⟩
theorem mv_X11_uses : am_MV yX11_uses cX11_uses 1 none 0 9 := ⟨⟨aw_1330, aw_11, ⟨by decide, by decide⟩, by decide +kernel⟩, aw_1329, (am_in (List.mem_append_left _ (List.mem_map.mpr ⟨(yX11_uses, 21), (List.mem_append_right _ (List.mem_append_right _ (List.mem_append_left _ (List.mem_of_getElem? (i := 3) rfl)))), rfl⟩)) rfl), rfl⟩
theorem mv_X11_readNumber : am_MV yX11_readNumber cX11_readNumber 5 (some .boolean) 3 9 := ⟨⟨aw_1423, aw_11, ⟨by decide, by decide⟩, by decide +kernel⟩, aw_1422, (am_in (List.mem_append_left _ (List.mem_map.mpr ⟨(yX11_readNumber, 21), (List.mem_append_right _ (List.mem_append_right _ (List.mem_append_right _ (List.mem_append_left _ (List.mem_of_getElem? (i := 4) rfl))))), rfl⟩)) rfl), rfl⟩
theorem mv_X11_readDiner : am_MV yX11_readDiner cX11_readDiner 5 (some .boolean) 0 9 := ⟨⟨aw_1361, aw_11, ⟨by decide, by decide⟩, by decide +kernel⟩, aw_1360, (am_in (List.mem_append_left _ (List.mem_map.mpr ⟨(yX11_readDiner, 21), (List.mem_append_right _ (List.mem_append_right _ (List.mem_append_left _ (List.mem_of_getElem? (i := 10) rfl)))), rfl⟩)) rfl), rfl⟩
theorem mv_X11_readCellar : am_MV yX11_readCellar cX11_readCellar 7 (some .boolean) 0 9 := ⟨⟨aw_1396, aw_11, ⟨by decide, by decide⟩, by decide +kernel⟩, aw_1395, (am_in (List.mem_append_left _ (List.mem_map.mpr ⟨(yX11_readCellar, 21), (List.mem_append_right _ (List.mem_append_right _ (List.mem_append_right _ (List.mem_append_left _ (List.mem_of_getElem? (i := 1) rfl))))), rfl⟩)) rfl), rfl⟩
theorem mv_X11_readMenu : am_MV yX11_readMenu cX11_readMenu 3 (some .boolean) 1 9 := ⟨⟨aw_1417, aw_11, ⟨by decide, by decide⟩, by decide +kernel⟩, aw_1416, (am_in (List.mem_append_left _ (List.mem_map.mpr ⟨(yX11_readMenu, 21), (List.mem_append_right _ (List.mem_append_right _ (List.mem_append_right _ (List.mem_append_left _ (List.mem_of_getElem? (i := 3) rfl))))), rfl⟩)) rfl), rfl⟩
theorem mv_X11_readTableLine : am_MV yX11_readTableLine cX11_readTableLine 1 (some .boolean) 0 9 := ⟨⟨aw_1350, aw_11, ⟨by decide, by decide⟩, by decide +kernel⟩, aw_1349, (am_in (List.mem_append_left _ (List.mem_map.mpr ⟨(yX11_readTableLine, 21), (List.mem_append_right _ (List.mem_append_right _ (List.mem_append_left _ (List.mem_of_getElem? (i := 8) rfl)))), rfl⟩)) rfl), rfl⟩
theorem mv_X11_emits : am_MV yX11_emits cX11_emits 3 none 2 9 := ⟨⟨aw_1453, aw_11, ⟨by decide, by decide⟩, by decide +kernel⟩, aw_1452, (am_in (List.mem_append_left _ (List.mem_map.mpr ⟨(yX11_emits, 21), (List.mem_append_right _ (List.mem_append_right _ (List.mem_append_right _ (List.mem_append_left _ (List.mem_of_getElem? (i := 10) rfl))))), rfl⟩)) rfl), rfl⟩
theorem mv_X11_readPart : am_MV yX11_readPart cX11_readPart 2 (some .boolean) 0 9 := ⟨⟨aw_1466, aw_11, ⟨by decide, by decide⟩, by decide +kernel⟩, aw_1465, (am_in (List.mem_append_left _ (List.mem_map.mpr ⟨(yX11_readPart, 21), (List.mem_append_right _ (List.mem_append_right _ (List.mem_append_right _ (List.mem_append_left _ (List.mem_of_getElem? (i := 13) rfl))))), rfl⟩)) rfl), rfl⟩
theorem mv_X11_readSum : am_MV yX11_readSum cX11_readSum 1 (some .boolean) 0 9 := ⟨⟨aw_1462, aw_11, ⟨by decide, by decide⟩, by decide +kernel⟩, aw_1461, (am_in (List.mem_append_left _ (List.mem_map.mpr ⟨(yX11_readSum, 21), (List.mem_append_right _ (List.mem_append_right _ (List.mem_append_right _ (List.mem_append_left _ (List.mem_of_getElem? (i := 12) rfl))))), rfl⟩)) rfl), rfl⟩
theorem mv_X11_readTag : am_MV yX11_readTag cX11_readTag 2 (some .boolean) 0 9 := ⟨⟨aw_1457, aw_11, ⟨by decide, by decide⟩, by decide +kernel⟩, aw_1456, (am_in (List.mem_append_left _ (List.mem_map.mpr ⟨(yX11_readTag, 21), (List.mem_append_right _ (List.mem_append_right _ (List.mem_append_right _ (List.mem_append_left _ (List.mem_of_getElem? (i := 11) rfl))))), rfl⟩)) rfl), rfl⟩
theorem mv_X11_readAtom : am_MV yX11_readAtom cX11_readAtom 2 (some .boolean) 0 9 := ⟨⟨aw_1444, aw_11, ⟨by decide, by decide⟩, by decide +kernel⟩, aw_1443, (am_in (List.mem_append_left _ (List.mem_map.mpr ⟨(yX11_readAtom, 21), (List.mem_append_right _ (List.mem_append_right _ (List.mem_append_right _ (List.mem_append_left _ (List.mem_of_getElem? (i := 8) rfl))))), rfl⟩)) rfl), rfl⟩
theorem mv_X11_readAllOf : am_MV yX11_readAllOf cX11_readAllOf 1 (some .boolean) 0 9 := ⟨⟨aw_1440, aw_11, ⟨by decide, by decide⟩, by decide +kernel⟩, aw_1439, (am_in (List.mem_append_left _ (List.mem_map.mpr ⟨(yX11_readAllOf, 21), (List.mem_append_right _ (List.mem_append_right _ (List.mem_append_right _ (List.mem_append_left _ (List.mem_of_getElem? (i := 7) rfl))))), rfl⟩)) rfl), rfl⟩
theorem mv_X11_readCond : am_MV yX11_readCond cX11_readCond 1 (some .boolean) 0 9 := ⟨⟨aw_1436, aw_11, ⟨by decide, by decide⟩, by decide +kernel⟩, aw_1435, (am_in (List.mem_append_left _ (List.mem_map.mpr ⟨(yX11_readCond, 21), (List.mem_append_right _ (List.mem_append_right _ (List.mem_append_right _ (List.mem_append_left _ (List.mem_of_getElem? (i := 6) rfl))))), rfl⟩)) rfl), rfl⟩
theorem mv_X11_readLawLine : am_MV yX11_readLawLine cX11_readLawLine 3 (some .boolean) 1 9 := ⟨⟨aw_1429, aw_11, ⟨by decide, by decide⟩, by decide +kernel⟩, aw_1428, (am_in (List.mem_append_left _ (List.mem_map.mpr ⟨(yX11_readLawLine, 21), (List.mem_append_right _ (List.mem_append_right _ (List.mem_append_right _ (List.mem_append_left _ (List.mem_of_getElem? (i := 5) rfl))))), rfl⟩)) rfl), rfl⟩
theorem mv_X11_readLine : am_MV yX11_readLine cX11_readLine 3 (some .boolean) 2 9 := ⟨⟨aw_1342, aw_11, ⟨by decide, by decide⟩, by decide +kernel⟩, aw_1341, (am_in (List.mem_append_left _ (List.mem_map.mpr ⟨(yX11_readLine, 21), (List.mem_append_right _ (List.mem_append_right _ (List.mem_append_left _ (List.mem_of_getElem? (i := 6) rfl)))), rfl⟩)) rfl), rfl⟩
theorem mv_X11_readAll : am_MV yX11_readAll cX11_readAll 3 (some .int) 1 9 := ⟨⟨aw_1326, aw_11, ⟨by decide, by decide⟩, by decide +kernel⟩, aw_1325, (am_in (List.mem_append_left _ (List.mem_map.mpr ⟨(yX11_readAll, 21), (List.mem_append_right _ (List.mem_append_right _ (List.mem_append_left _ (List.mem_of_getElem? (i := 2) rfl)))), rfl⟩)) rfl), rfl⟩
theorem mv_X11_table : am_MV yX11_table cX11_table 3 (some .int) 0 9 := ⟨⟨aw_1322, aw_11, ⟨by decide, by decide⟩, by decide +kernel⟩, aw_1320, aw_1321, rfl⟩
theorem mv_X11_law : am_MV yX11_law cX11_law 3 (some .int) 0 9 := ⟨⟨aw_1477, aw_11, ⟨by decide, by decide⟩, by decide +kernel⟩, aw_1475, aw_1476, rfl⟩
theorem mv_X11_factOf : am_MV yX11_factOf cX11_factOf 5 (some .int) 4 9 := ⟨⟨aw_1549, aw_11, ⟨by decide, by decide⟩, by decide +kernel⟩, aw_1548, (am_in (List.mem_append_left _ (List.mem_map.mpr ⟨(yX11_factOf, 21), (List.mem_append_right _ (List.mem_append_right _ (List.mem_append_right _ (List.mem_append_right _ (List.mem_append_left _ (List.mem_of_getElem? (i := 12) rfl)))))), rfl⟩)) rfl), rfl⟩
theorem mv_X11_holdsLine : am_MV yX11_holdsLine cX11_holdsLine 11 (some .boolean) 3 9 := ⟨⟨aw_1545, aw_11, ⟨by decide, by decide⟩, by decide +kernel⟩, aw_1544, (am_in (List.mem_append_left _ (List.mem_map.mpr ⟨(yX11_holdsLine, 21), (List.mem_append_right _ (List.mem_append_right _ (List.mem_append_right _ (List.mem_append_right _ (List.mem_append_left _ (List.mem_of_getElem? (i := 11) rfl)))))), rfl⟩)) rfl), rfl⟩
theorem mv_X11_sumOf : am_MV yX11_sumOf cX11_sumOf 6 (some .int) 3 9 := ⟨⟨aw_1541, aw_11, ⟨by decide, by decide⟩, by decide +kernel⟩, aw_1540, (am_in (List.mem_append_left _ (List.mem_map.mpr ⟨(yX11_sumOf, 21), (List.mem_append_right _ (List.mem_append_right _ (List.mem_append_right _ (List.mem_append_right _ (List.mem_append_left _ (List.mem_of_getElem? (i := 10) rfl)))))), rfl⟩)) rfl), rfl⟩
theorem mv_X11_takenBy : am_MV yX11_takenBy cX11_takenBy 4 (some .int) 2 9 := ⟨⟨aw_1532, aw_11, ⟨by decide, by decide⟩, by decide +kernel⟩, aw_1531, (am_in (List.mem_append_left _ (List.mem_map.mpr ⟨(yX11_takenBy, 21), (List.mem_append_right _ (List.mem_append_right _ (List.mem_append_right _ (List.mem_append_right _ (List.mem_append_left _ (List.mem_of_getElem? (i := 8) rfl)))))), rfl⟩)) rfl), rfl⟩
theorem mv_X11_pinchOf : am_MV yX11_pinchOf cX11_pinchOf 3 (some .int) 2 9 := ⟨⟨aw_1517, aw_11, ⟨by decide, by decide⟩, by decide +kernel⟩, aw_1516, (am_in (List.mem_append_left _ (List.mem_map.mpr ⟨(yX11_pinchOf, 21), (List.mem_append_right _ (List.mem_append_right _ (List.mem_append_right _ (List.mem_append_right _ (List.mem_append_left _ (List.mem_of_getElem? (i := 5) rfl)))))), rfl⟩)) rfl), rfl⟩
theorem mv_X11_setsBy : am_MV yX11_setsBy cX11_setsBy 3 (some .int) 2 9 := ⟨⟨aw_1554, aw_11, ⟨by decide, by decide⟩, by decide +kernel⟩, aw_1553, (am_in (List.mem_append_left _ (List.mem_map.mpr ⟨(yX11_setsBy, 21), (List.mem_append_right _ (List.mem_append_right _ (List.mem_append_right _ (List.mem_append_right _ (List.mem_append_left _ (List.mem_of_getElem? (i := 13) rfl)))))), rfl⟩)) rfl), rfl⟩
theorem mv_X11_mixedOf : am_MV yX11_mixedOf cX11_mixedOf 4 (some .int) 1 9 := ⟨⟨aw_1489, aw_11, ⟨by decide, by decide⟩, by decide +kernel⟩, aw_1488, (am_in (List.mem_append_left _ (List.mem_map.mpr ⟨(yX11_mixedOf, 21), (List.mem_append_right _ (List.mem_append_right _ (List.mem_append_right _ (List.mem_append_right _ (List.mem_append_left _ (List.mem_of_getElem? (i := 0) rfl)))))), rfl⟩)) rfl), rfl⟩
theorem mv_X11_allOf : am_MV yX11_allOf cX11_allOf 4 (some .int) 1 9 := ⟨⟨aw_1493, aw_11, ⟨by decide, by decide⟩, by decide +kernel⟩, aw_1492, (am_in (List.mem_append_left _ (List.mem_map.mpr ⟨(yX11_allOf, 21), (List.mem_append_right _ (List.mem_append_right _ (List.mem_append_right _ (List.mem_append_right _ (List.mem_append_left _ (List.mem_of_getElem? (i := 1) rfl)))))), rfl⟩)) rfl), rfl⟩
theorem mv_X11_diner : am_MV yX11_diner cX11_diner 3 (some .int) 2 9 := ⟨⟨aw_1481, aw_11, ⟨by decide, by decide⟩, by decide +kernel⟩, aw_1479, aw_1480, rfl⟩
theorem mv_X11_has : am_MV yX11_has cX11_has 3 (some .int) 2 9 := ⟨⟨aw_1497, aw_11, ⟨by decide, by decide⟩, by decide +kernel⟩, aw_1495, aw_1496, rfl⟩
theorem mv_X11_cellar : am_MV yX11_cellar cX11_cellar 4 (some .int) 2 9 := ⟨⟨aw_1501, aw_11, ⟨by decide, by decide⟩, by decide +kernel⟩, aw_1499, aw_1500, rfl⟩
theorem mv_X11_seat : am_MV yX11_seat cX11_seat 2 (some .int) 1 9 := ⟨⟨aw_1558, aw_11, ⟨by decide, by decide⟩, by decide +kernel⟩, aw_1556, aw_1557, rfl⟩
theorem mv_X11_pass : am_MV yX11_pass cX11_pass 4 (some .int) 2 9 := ⟨⟨aw_1565, aw_11, ⟨by decide, by decide⟩, by decide +kernel⟩, aw_1563, aw_1564, rfl⟩
theorem mv_X11_knock : am_MV yX11_knock cX11_knock 3 (some .int) 1 9 := ⟨⟨aw_1573, aw_11, ⟨by decide, by decide⟩, by decide +kernel⟩, aw_1571, aw_1572, rfl⟩
theorem mv_X11_fill : am_MV yX11_fill cX11_fill 3 (some .int) 2 9 := ⟨⟨aw_1577, aw_11, ⟨by decide, by decide⟩, by decide +kernel⟩, aw_1575, aw_1576, rfl⟩
theorem mv_X11_exchanges : am_MV yX11_exchanges cX11_exchanges 5 none 2 9 := ⟨⟨aw_1585, aw_11, ⟨by decide, by decide⟩, by decide +kernel⟩, aw_1584, (am_in (List.mem_append_left _ (List.mem_map.mpr ⟨(yX11_exchanges, 21), (List.mem_append_right _ (List.mem_append_right _ (List.mem_append_right _ (List.mem_append_right _ (List.mem_append_left _ (List.mem_of_getElem? (i := 15) rfl)))))), rfl⟩)) rfl), rfl⟩
theorem mv_X11_change : am_MV yX11_change cX11_change 3 (some .int) 2 9 := ⟨⟨aw_1581, aw_11, ⟨by decide, by decide⟩, by decide +kernel⟩, aw_1579, aw_1580, rfl⟩
theorem mv_X11_diet : am_MV yX11_diet cX11_diet 4 (some .boolean) 2 9 := ⟨⟨aw_1589, aw_11, ⟨by decide, by decide⟩, by decide +kernel⟩, aw_1587, aw_1588, rfl⟩
theorem mv_X11_sweet : am_MV yX11_sweet cX11_sweet 4 (some .boolean) 2 9 := ⟨⟨aw_1593, aw_11, ⟨by decide, by decide⟩, by decide +kernel⟩, aw_1591, aw_1592, rfl⟩
theorem mv_X11_tells : am_MV yX11_tells cX11_tells 5 none 3 9 := ⟨⟨aw_1613, aw_11, ⟨by decide, by decide⟩, by decide +kernel⟩, aw_1612, (am_in (List.mem_append_left _ (List.mem_map.mpr ⟨(yX11_tells, 21), (List.mem_append_right _ (List.mem_append_right _ (List.mem_append_right _ (List.mem_append_right _ (List.mem_append_right _ (List.mem_append_left _ (List.mem_of_getElem? (i := 3) rfl))))))), rfl⟩)) rfl), rfl⟩
theorem mv_X11_eats : am_MV yX11_eats cX11_eats 5 (some .int) 1 9 := ⟨⟨aw_1609, aw_11, ⟨by decide, by decide⟩, by decide +kernel⟩, aw_1608, (am_in (List.mem_append_left _ (List.mem_map.mpr ⟨(yX11_eats, 21), (List.mem_append_right _ (List.mem_append_right _ (List.mem_append_right _ (List.mem_append_right _ (List.mem_append_right _ (List.mem_append_left _ (List.mem_of_getElem? (i := 2) rfl))))))), rfl⟩)) rfl), rfl⟩
theorem mv_X11_spills : am_MV yX11_spills cX11_spills 2 none 1 9 := ⟨⟨aw_1617, aw_11, ⟨by decide, by decide⟩, by decide +kernel⟩, aw_1616, (am_in (List.mem_append_left _ (List.mem_map.mpr ⟨(yX11_spills, 21), (List.mem_append_right _ (List.mem_append_right _ (List.mem_append_right _ (List.mem_append_right _ (List.mem_append_right _ (List.mem_append_left _ (List.mem_of_getElem? (i := 4) rfl))))))), rfl⟩)) rfl), rfl⟩
theorem mv_X11_dampens : am_MV yX11_dampens cX11_dampens 3 none 1 9 := ⟨⟨aw_1626, aw_11, ⟨by decide, by decide⟩, by decide +kernel⟩, aw_1625, (am_in (List.mem_append_left _ (List.mem_map.mpr ⟨(yX11_dampens, 21), (List.mem_append_right _ (List.mem_append_right _ (List.mem_append_right _ (List.mem_append_right _ (List.mem_append_right _ (List.mem_append_left _ (List.mem_of_getElem? (i := 6) rfl))))))), rfl⟩)) rfl), rfl⟩
theorem mv_X11_passesOn : am_MV yX11_passesOn cX11_passesOn 2 none 0 9 := ⟨⟨aw_1630, aw_11, ⟨by decide, by decide⟩, by decide +kernel⟩, aw_1629, (am_in (List.mem_append_left _ (List.mem_map.mpr ⟨(yX11_passesOn, 21), (List.mem_append_right _ (List.mem_append_right _ (List.mem_append_right _ (List.mem_append_right _ (List.mem_append_right _ (List.mem_append_left _ (List.mem_of_getElem? (i := 7) rfl))))))), rfl⟩)) rfl), rfl⟩
theorem mv_X11_oneCourse : am_MV yX11_oneCourse cX11_oneCourse 5 (some .int) 1 9 := ⟨⟨aw_1605, aw_11, ⟨by decide, by decide⟩, by decide +kernel⟩, aw_1604, (am_in (List.mem_append_left _ (List.mem_map.mpr ⟨(yX11_oneCourse, 21), (List.mem_append_right _ (List.mem_append_right _ (List.mem_append_right _ (List.mem_append_right _ (List.mem_append_right _ (List.mem_append_left _ (List.mem_of_getElem? (i := 1) rfl))))))), rfl⟩)) rfl), rfl⟩
theorem mv_X11_keepsAll : am_MV yX11_keepsAll cX11_keepsAll 2 none 0 9 := ⟨⟨aw_1643, aw_11, ⟨by decide, by decide⟩, by decide +kernel⟩, aw_1642, (am_in (List.mem_append_left _ (List.mem_map.mpr ⟨(yX11_keepsAll, 21), (List.mem_append_right _ (List.mem_append_right _ (List.mem_append_right _ (List.mem_append_right _ (List.mem_append_right _ (List.mem_append_left _ (List.mem_of_getElem? (i := 9) rfl))))))), rfl⟩)) rfl), rfl⟩
theorem mv_X11_bringsBack : am_MV yX11_bringsBack cX11_bringsBack 2 none 0 9 := ⟨⟨aw_1651, aw_11, ⟨by decide, by decide⟩, by decide +kernel⟩, aw_1650, (am_in (List.mem_append_left _ (List.mem_map.mpr ⟨(yX11_bringsBack, 21), (List.mem_append_right _ (List.mem_append_right _ (List.mem_append_right _ (List.mem_append_right _ (List.mem_append_right _ (List.mem_append_left _ (List.mem_of_getElem? (i := 11) rfl))))))), rfl⟩)) rfl), rfl⟩
theorem mv_X11_goesOn : am_MV yX11_goesOn cX11_goesOn 5 (some .int) 2 9 := ⟨⟨aw_1601, aw_11, ⟨by decide, by decide⟩, by decide +kernel⟩, aw_1600, (am_in (List.mem_append_left _ (List.mem_map.mpr ⟨(yX11_goesOn, 21), (List.mem_append_right _ (List.mem_append_right _ (List.mem_append_right _ (List.mem_append_right _ (List.mem_append_right _ (List.mem_append_left _ (List.mem_of_getElem? (i := 0) rfl))))))), rfl⟩)) rfl), rfl⟩
theorem mv_X11_courses : am_MV yX11_courses cX11_courses 2 (some .int) 1 9 := ⟨⟨aw_1597, aw_11, ⟨by decide, by decide⟩, by decide +kernel⟩, aw_1595, aw_1596, rfl⟩
theorem mv_X11_heldOnes : am_MV yX11_heldOnes cX11_heldOnes 3 (some .int) 0 9 := ⟨⟨aw_1647, aw_11, ⟨by decide, by decide⟩, by decide +kernel⟩, aw_1646, (am_in (List.mem_append_left _ (List.mem_map.mpr ⟨(yX11_heldOnes, 21), (List.mem_append_right _ (List.mem_append_right _ (List.mem_append_right _ (List.mem_append_right _ (List.mem_append_right _ (List.mem_append_left _ (List.mem_of_getElem? (i := 10) rfl))))))), rfl⟩)) rfl), rfl⟩
theorem mv_X11_freedIn : am_MV yX11_freedIn cX11_freedIn 4 (some .int) 1 9 := ⟨⟨aw_1638, aw_11, ⟨by decide, by decide⟩, by decide +kernel⟩, aw_1637, (am_in (List.mem_append_left _ (List.mem_map.mpr ⟨(yX11_freedIn, 21), (List.mem_append_right _ (List.mem_append_right _ (List.mem_append_right _ (List.mem_append_right _ (List.mem_append_right _ (List.mem_append_left _ (List.mem_of_getElem? (i := 8) rfl))))))), rfl⟩)) rfl), rfl⟩
theorem ms_X11_orNone : am_MS yX11_orNone cX11_orNone 1 (some .int) 1 := ⟨⟨aw_1654, aw_11, ⟨by decide, by decide⟩, by decide +kernel⟩, aw_1653⟩
theorem mv_X11_frees : am_MV yX11_frees cX11_frees 2 (some .int) 1 9 := ⟨⟨aw_1634, aw_11, ⟨by decide, by decide⟩, by decide +kernel⟩, aw_1632, aw_1633, rfl⟩
theorem mv_X11_all : am_MV yX11_all cX11_all 1 (some .int) 0 9 := ⟨⟨aw_1658, aw_11, ⟨by decide, by decide⟩, by decide +kernel⟩, aw_1656, aw_1657, rfl⟩
theorem mv_X11_held : am_MV yX11_held cX11_held 1 (some .int) 0 9 := ⟨⟨aw_1662, aw_11, ⟨by decide, by decide⟩, by decide +kernel⟩, aw_1660, aw_1661, rfl⟩
theorem ms_X11_noAhead : am_MS yX11_noAhead cX11_noAhead 1 (some .boolean) 1 := ⟨⟨aw_1669, aw_11, ⟨by decide, by decide⟩, by decide +kernel⟩, aw_1668⟩
theorem mv_X11_laysTakes : am_MV yX11_laysTakes cX11_laysTakes 6 none 1 9 := ⟨⟨aw_1673, aw_11, ⟨by decide, by decide⟩, by decide +kernel⟩, aw_1672, (am_in (List.mem_append_left _ (List.mem_map.mpr ⟨(yX11_laysTakes, 21), (List.mem_append_right _ (List.mem_append_right _ (List.mem_append_right _ (List.mem_append_right _ (List.mem_append_right _ (List.mem_append_left _ (List.mem_of_getElem? (i := 12) rfl))))))), rfl⟩)) rfl), rfl⟩
theorem mv_X11_takes : am_MV yX11_takes cX11_takes 3 (some .int) 2 9 := ⟨⟨aw_1666, aw_11, ⟨by decide, by decide⟩, by decide +kernel⟩, aw_1664, aw_1665, rfl⟩
theorem mv_X11_keenest : am_MV yX11_keenest cX11_keenest 4 (some .int) 1 9 := ⟨⟨aw_1677, aw_11, ⟨by decide, by decide⟩, by decide +kernel⟩, aw_1675, aw_1676, rfl⟩
theorem mv_X11_goes : am_MV yX11_goes cX11_goes 3 (some .int) 2 9 := ⟨⟨aw_1681, aw_11, ⟨by decide, by decide⟩, by decide +kernel⟩, aw_1679, aw_1680, rfl⟩
theorem mv_X11_grainsIn : am_MV yX11_grainsIn cX11_grainsIn 4 (some .int) 2 9 := ⟨⟨aw_1689, aw_11, ⟨by decide, by decide⟩, by decide +kernel⟩, aw_1688, (am_in (List.mem_append_left _ (List.mem_map.mpr ⟨(yX11_grainsIn, 21), (List.mem_append_right _ (List.mem_append_right _ (List.mem_append_right _ (List.mem_append_right _ (List.mem_append_right _ (List.mem_append_left _ (List.mem_of_getElem? (i := 13) rfl))))))), rfl⟩)) rfl), rfl⟩
theorem mv_X11_ahead : am_MV yX11_ahead cX11_ahead 3 (some .int) 2 9 := ⟨⟨aw_1685, aw_11, ⟨by decide, by decide⟩, by decide +kernel⟩, aw_1683, aw_1684, rfl⟩
theorem mv_X11_least : am_MV yX11_least cX11_least 6 (some .int) 1 9 := ⟨⟨aw_1693, aw_11, ⟨by decide, by decide⟩, by decide +kernel⟩, aw_1691, aw_1692, rfl⟩
theorem mv_X11_swap : am_MV yX11_swap cX11_swap 6 (some .int) 0 9 := ⟨⟨aw_1697, aw_11, ⟨by decide, by decide⟩, by decide +kernel⟩, aw_1695, aw_1696, rfl⟩
theorem mv_X11_setsDiets : am_MV yX11_setsDiets cX11_setsDiets 3 none 1 9 := ⟨⟨aw_1710, aw_11, ⟨by decide, by decide⟩, by decide +kernel⟩, aw_1709, (am_in (List.mem_append_left _ (List.mem_map.mpr ⟨(yX11_setsDiets, 21), (List.mem_append_right _ (List.mem_append_right _ (List.mem_append_right _ (List.mem_append_right _ (List.mem_append_right _ (List.mem_append_left _ (List.mem_of_getElem? (i := 15) rfl))))))), rfl⟩)) rfl), rfl⟩
theorem mv_X11_dietOnes : am_MV yX11_dietOnes cX11_dietOnes 3 (some .int) 0 9 := ⟨⟨aw_1705, aw_11, ⟨by decide, by decide⟩, by decide +kernel⟩, aw_1704, (am_in (List.mem_append_left _ (List.mem_map.mpr ⟨(yX11_dietOnes, 21), (List.mem_append_right _ (List.mem_append_right _ (List.mem_append_right _ (List.mem_append_right _ (List.mem_append_right _ (List.mem_append_left _ (List.mem_of_getElem? (i := 14) rfl))))))), rfl⟩)) rfl), rfl⟩
theorem mv_X11_fewest : am_MV yX11_fewest cX11_fewest 8 (some .int) 2 9 := ⟨⟨aw_1701, aw_11, ⟨by decide, by decide⟩, by decide +kernel⟩, aw_1699, aw_1700, rfl⟩
theorem mv_X11_isTold : am_MV yX11_isTold cX11_isTold 3 (some .boolean) 0 9 := ⟨⟨aw_1718, aw_11, ⟨by decide, by decide⟩, by decide +kernel⟩, aw_1717, (am_in (List.mem_append_left _ (List.mem_map.mpr ⟨(yX11_isTold, 21), (List.mem_append_right _ (List.mem_append_right _ (List.mem_append_right _ (List.mem_append_right _ (List.mem_append_right _ (List.mem_append_right _ (List.mem_of_getElem? (i := 0) rfl))))))), rfl⟩)) rfl), rfl⟩
theorem mv_X11_fits : am_MV yX11_fits cX11_fits 4 (some .boolean) 1 9 := ⟨⟨aw_1722, aw_11, ⟨by decide, by decide⟩, by decide +kernel⟩, aw_1721, (am_in (List.mem_append_left _ (List.mem_map.mpr ⟨(yX11_fits, 21), (List.mem_append_right _ (List.mem_append_right _ (List.mem_append_right _ (List.mem_append_right _ (List.mem_append_right _ (List.mem_append_right _ (List.mem_of_getElem? (i := 1) rfl))))))), rfl⟩)) rfl), rfl⟩
theorem mv_X11_bribes : am_MV yX11_bribes cX11_bribes 5 (some .int) 1 9 := ⟨⟨aw_1714, aw_11, ⟨by decide, by decide⟩, by decide +kernel⟩, aw_1712, aw_1713, rfl⟩
theorem mv_X11_greatestPart : am_MV yX11_greatestPart cX11_greatestPart 6 (some .int) 2 9 := ⟨⟨aw_1734, aw_11, ⟨by decide, by decide⟩, by decide +kernel⟩, aw_1733, (am_in (List.mem_append_left _ (List.mem_map.mpr ⟨(yX11_greatestPart, 21), (List.mem_append_right _ (List.mem_append_right _ (List.mem_append_right _ (List.mem_append_right _ (List.mem_append_right _ (List.mem_append_right _ (List.mem_of_getElem? (i := 3) rfl))))))), rfl⟩)) rfl), rfl⟩
theorem mv_X11_howManyFit : am_MV yX11_howManyFit cX11_howManyFit 3 (some .int) 0 9 := ⟨⟨aw_1730, aw_11, ⟨by decide, by decide⟩, by decide +kernel⟩, aw_1729, (am_in (List.mem_append_left _ (List.mem_map.mpr ⟨(yX11_howManyFit, 21), (List.mem_append_right _ (List.mem_append_right _ (List.mem_append_right _ (List.mem_append_right _ (List.mem_append_right _ (List.mem_append_right _ (List.mem_of_getElem? (i := 2) rfl))))))), rfl⟩)) rfl), rfl⟩
theorem mv_X11_ask : am_MV yX11_ask cX11_ask 6 (some .int) 1 9 := ⟨⟨aw_1726, aw_11, ⟨by decide, by decide⟩, by decide +kernel⟩, aw_1724, aw_1725, rfl⟩
theorem mv_X11_worst : am_MV yX11_worst cX11_worst 6 (some .int) 1 9 := ⟨⟨aw_1738, aw_11, ⟨by decide, by decide⟩, by decide +kernel⟩, aw_1736, aw_1737, rfl⟩
theorem mv_X11_traitOf : am_MV yX11_traitOf cX11_traitOf 5 (some .int) 1 9 := ⟨⟨aw_1746, aw_11, ⟨by decide, by decide⟩, by decide +kernel⟩, aw_1745, (am_in (List.mem_append_left _ (List.mem_map.mpr ⟨(yX11_traitOf, 21), (List.mem_append_right _ (List.mem_append_right _ (List.mem_append_right _ (List.mem_append_right _ (List.mem_append_right _ (List.mem_append_right _ (List.mem_of_getElem? (i := 4) rfl))))))), rfl⟩)) rfl), rfl⟩
theorem mv_X11_alike : am_MV yX11_alike cX11_alike 4 (some .int) 0 9 := ⟨⟨aw_1742, aw_11, ⟨by decide, by decide⟩, by decide +kernel⟩, aw_1740, aw_1741, rfl⟩
theorem mv_X11_haveOf : am_MV yX11_haveOf cX11_haveOf 4 (some .int) 1 9 := ⟨⟨aw_1754, aw_11, ⟨by decide, by decide⟩, by decide +kernel⟩, aw_1753, (am_in (List.mem_append_left _ (List.mem_map.mpr ⟨(yX11_haveOf, 21), (List.mem_append_right _ (List.mem_append_right _ (List.mem_append_right _ (List.mem_append_right _ (List.mem_append_right _ (List.mem_append_right _ (List.mem_of_getElem? (i := 5) rfl))))))), rfl⟩)) rfl), rfl⟩
theorem mv_X11_share : am_MV yX11_share cX11_share 4 (some .int) 2 9 := ⟨⟨aw_1750, aw_11, ⟨by decide, by decide⟩, by decide +kernel⟩, aw_1748, aw_1749, rfl⟩
theorem mv_X11_grainsOfAll : am_MV yX11_grainsOfAll cX11_grainsOfAll 3 (some .int) 0 9 := ⟨⟨aw_1762, aw_11, ⟨by decide, by decide⟩, by decide +kernel⟩, aw_1761, (am_in (List.mem_append_left _ (List.mem_map.mpr ⟨(yX11_grainsOfAll, 21), (List.mem_append_right _ (List.mem_append_right _ (List.mem_append_right _ (List.mem_append_right _ (List.mem_append_right _ (List.mem_append_right _ (List.mem_of_getElem? (i := 6) rfl))))))), rfl⟩)) rfl), rfl⟩
theorem mv_X11_whole : am_MV yX11_whole cX11_whole 3 (some .int) 0 9 := ⟨⟨aw_1758, aw_11, ⟨by decide, by decide⟩, by decide +kernel⟩, aw_1756, aw_1757, rfl⟩
theorem mv_X11_sentenceOf : am_MV yX11_sentenceOf cX11_sentenceOf 5 (some .int) 1 9 := ⟨⟨aw_1770, aw_11, ⟨by decide, by decide⟩, by decide +kernel⟩, aw_1769, (am_in (List.mem_append_left _ (List.mem_map.mpr ⟨(yX11_sentenceOf, 21), (List.mem_append_right _ (List.mem_append_right _ (List.mem_append_right _ (List.mem_append_right _ (List.mem_append_right _ (List.mem_append_right _ (List.mem_of_getElem? (i := 7) rfl))))))), rfl⟩)) rfl), rfl⟩
theorem mv_X11_sentence : am_MV yX11_sentence cX11_sentence 2 (some .int) 1 9 := ⟨⟨aw_1766, aw_11, ⟨by decide, by decide⟩, by decide +kernel⟩, aw_1764, aw_1765, rfl⟩
theorem mv_X11_fair : am_MV yX11_fair cX11_fair 4 (some .boolean) 0 9 := ⟨⟨aw_1774, aw_11, ⟨by decide, by decide⟩, by decide +kernel⟩, aw_1772, aw_1773, rfl⟩
theorem mv_X11_alone : am_MV yX11_alone cX11_alone 8 (some .int) 2 9 := ⟨⟨aw_1778, aw_11, ⟨by decide, by decide⟩, by decide +kernel⟩, aw_1776, aw_1777, rfl⟩
theorem mv_X11_servedTo : am_MV yX11_servedTo cX11_servedTo 7 (some .int) 4 9 := ⟨⟨aw_1790, aw_11, ⟨by decide, by decide⟩, by decide +kernel⟩, aw_1789, (am_in (List.mem_append_left _ (List.mem_map.mpr ⟨(yX11_servedTo, 21), (List.mem_append_right _ (List.mem_append_right _ (List.mem_append_right _ (List.mem_append_right _ (List.mem_append_right _ (List.mem_append_right _ (List.mem_of_getElem? (i := 9) rfl))))))), rfl⟩)) rfl), rfl⟩
theorem mv_X11_dinerHas : am_MV yX11_dinerHas cX11_dinerHas 5 (some .int) 4 9 := ⟨⟨aw_1794, aw_11, ⟨by decide, by decide⟩, by decide +kernel⟩, aw_1793, (am_in (List.mem_append_left _ (List.mem_map.mpr ⟨(yX11_dinerHas, 21), (List.mem_append_right _ (List.mem_append_right _ (List.mem_append_right _ (List.mem_append_right _ (List.mem_append_right _ (List.mem_append_right _ (List.mem_of_getElem? (i := 10) rfl))))))), rfl⟩)) rfl), rfl⟩
theorem mv_X11_rests : am_MV yX11_rests cX11_rests 5 (some .boolean) 4 9 := ⟨⟨aw_1786, aw_11, ⟨by decide, by decide⟩, by decide +kernel⟩, aw_1785, (am_in (List.mem_append_left _ (List.mem_map.mpr ⟨(yX11_rests, 21), (List.mem_append_right _ (List.mem_append_right _ (List.mem_append_right _ (List.mem_append_right _ (List.mem_append_right _ (List.mem_append_right _ (List.mem_of_getElem? (i := 8) rfl))))))), rfl⟩)) rfl), rfl⟩
theorem mv_X11_game : am_MV yX11_game cX11_game 5 (some .int) 1 9 := ⟨⟨aw_1782, aw_11, ⟨by decide, by decide⟩, by decide +kernel⟩, aw_1780, aw_1781, rfl⟩
theorem mv_X11_crowd : am_MV yX11_crowd cX11_crowd 6 (some .int) 0 9 := ⟨⟨aw_1798, aw_11, ⟨by decide, by decide⟩, by decide +kernel⟩, aw_1796, aw_1797, rfl⟩
theorem mv_X11_gaps : am_MV yX11_gaps cX11_gaps 3 (some .int) 0 9 := ⟨⟨aw_1802, aw_11, ⟨by decide, by decide⟩, by decide +kernel⟩, aw_1800, aw_1801, rfl⟩
theorem mv_X11_meets : am_MV yX11_meets cX11_meets 5 (some .int) 1 9 := ⟨⟨aw_1806, aw_11, ⟨by decide, by decide⟩, by decide +kernel⟩, aw_1804, aw_1805, rfl⟩
theorem mv_X11_trial : am_MV yX11_trial cX11_trial 4 (some .int) 2 9 := ⟨⟨aw_1810, aw_11, ⟨by decide, by decide⟩, by decide +kernel⟩, aw_1808, aw_1809, rfl⟩
theorem mv_X11_span : am_MV yX11_span cX11_span 6 (some .int) 2 9 := ⟨⟨aw_1814, aw_11, ⟨by decide, by decide⟩, by decide +kernel⟩, aw_1812, aw_1813, rfl⟩
theorem mv_X11_ofLog : am_MV yX11_ofLog cX11_ofLog 3 (some .int) 2 9 := ⟨⟨aw_1822, aw_11, ⟨by decide, by decide⟩, by decide +kernel⟩, aw_1821, (am_in (List.mem_append_left _ (List.mem_map.mpr ⟨(yX11_ofLog, 21), (List.mem_append_right _ (List.mem_append_right _ (List.mem_append_right _ (List.mem_append_right _ (List.mem_append_right _ (List.mem_append_right _ (List.mem_of_getElem? (i := 11) rfl))))))), rfl⟩)) rfl), rfl⟩
theorem mv_X11_led : am_MV yX11_led cX11_led 6 (some .int) 2 9 := ⟨⟨aw_1818, aw_11, ⟨by decide, by decide⟩, by decide +kernel⟩, aw_1816, aw_1817, rfl⟩
theorem mv_X11_log : am_MV yX11_log cX11_log 3 (some .int) 2 9 := ⟨⟨aw_1826, aw_11, ⟨by decide, by decide⟩, by decide +kernel⟩, aw_1824, aw_1825, rfl⟩
theorem mv_X11_seed : am_MV yX11_seed cX11_seed 3 (some .int) 1 9 := ⟨⟨aw_1830, aw_11, ⟨by decide, by decide⟩, by decide +kernel⟩, aw_1828, aw_1829, rfl⟩
theorem mv_X11_count : am_MV yX11_count cX11_count 2 (some .int) 1 9 := ⟨⟨aw_1834, aw_11, ⟨by decide, by decide⟩, by decide +kernel⟩, aw_1832, aw_1833, rfl⟩
theorem wm_max : am_mth Lib.Math.max.name Lib.Math.max.code := ⟨aw_450, aw_26, aw_451⟩
theorem wm_min : am_mth Lib.Math.min.name Lib.Math.min.code := ⟨aw_460, aw_26, aw_461⟩
theorem st_0 : ("SaltTable$Text", 55, "diner taste at diet cellar grains set step sweet salty spill damp course take spare if or and not last has ", 0) ∈ am_strs := List.mem_of_getElem? (i := 0) rfl
theorem st_1 : ("SaltTable", 125, "the text is wrong", 1) ∈ am_strs := List.mem_of_getElem? (i := 1) rfl
theorem st_2 : ("SaltTable", 135, "there are 12 texts", 2) ∈ am_strs := List.mem_of_getElem? (i := 2) rfl
theorem st_3 : ("SaltTable", 410, "there is no such diner", 3) ∈ am_strs := List.mem_of_getElem? (i := 3) rfl
theorem st_4 : ("SaltTable", 420, "there is no such what", 4) ∈ am_strs := List.mem_of_getElem? (i := 4) rfl
theorem st_5 : ("SaltTable", 416, "there is no such trait", 5) ∈ am_strs := List.mem_of_getElem? (i := 5) rfl
theorem st_6 : ("SaltTable", 412, "there is no such cellar", 6) ∈ am_strs := List.mem_of_getElem? (i := 6) rfl
theorem st_7 : ("SaltTable", 414, "there is no such seat", 7) ∈ am_strs := List.mem_of_getElem? (i := 7) rfl
theorem st_8 : ("SaltTable", 423, "the number is none", 8) ∈ am_strs := List.mem_of_getElem? (i := 8) rfl
theorem st_9 : ("SaltTable", 239, "both seats are one", 9) ∈ am_strs := List.mem_of_getElem? (i := 9) rfl
theorem st_10 : ("SaltTable", 249, "there is no such course", 10) ∈ am_strs := List.mem_of_getElem? (i := 10) rfl
theorem st_11 : ("SaltTable", 310, "the tape is not of rows", 11) ∈ am_strs := List.mem_of_getElem? (i := 11) rfl
theorem st_12 : ("SaltTableModel", 148, "diner", 12) ∈ am_strs := List.mem_of_getElem? (i := 12) rfl
theorem st_13 : ("SaltTableModel", 125, "taste", 13) ∈ am_strs := List.mem_of_getElem? (i := 13) rfl
theorem st_14 : ("SaltTableModel", 131, "at", 14) ∈ am_strs := List.mem_of_getElem? (i := 14) rfl
theorem st_15 : ("SaltTableModel", 133, "diet", 15) ∈ am_strs := List.mem_of_getElem? (i := 15) rfl
theorem st_16 : ("SaltTableModel", 154, "cellar", 16) ∈ am_strs := List.mem_of_getElem? (i := 16) rfl
theorem st_17 : ("SaltTableModel", 142, "grains", 17) ∈ am_strs := List.mem_of_getElem? (i := 17) rfl
theorem st_18 : ("SaltTableModel", 144, "set", 18) ∈ am_strs := List.mem_of_getElem? (i := 18) rfl
theorem st_19 : ("SaltTableModel", 146, "step", 19) ∈ am_strs := List.mem_of_getElem? (i := 19) rfl
theorem st_20 : ("SaltTableModel", 159, "sweet", 20) ∈ am_strs := List.mem_of_getElem? (i := 20) rfl
theorem st_21 : ("SaltTableModel", 165, "salty", 21) ∈ am_strs := List.mem_of_getElem? (i := 21) rfl
theorem st_22 : ("SaltTableModel", 167, "spill", 22) ∈ am_strs := List.mem_of_getElem? (i := 22) rfl
theorem st_23 : ("SaltTableModel", 172, "damp", 23) ∈ am_strs := List.mem_of_getElem? (i := 23) rfl
theorem st_24 : ("SaltTableModel", 174, "course", 24) ∈ am_strs := List.mem_of_getElem? (i := 24) rfl
theorem st_25 : ("SaltTableModel", 217, "take", 25) ∈ am_strs := List.mem_of_getElem? (i := 25) rfl
theorem st_26 : ("SaltTableModel", 219, "spare", 26) ∈ am_strs := List.mem_of_getElem? (i := 26) rfl
theorem st_27 : ("SaltTableModel", 221, "if", 27) ∈ am_strs := List.mem_of_getElem? (i := 27) rfl
theorem st_28 : ("SaltTableModel", 199, "not", 28) ∈ am_strs := List.mem_of_getElem? (i := 28) rfl
theorem st_29 : ("SaltTableModel", 191, "last", 29) ∈ am_strs := List.mem_of_getElem? (i := 29) rfl
theorem st_30 : ("SaltTableModel", 183, "has", 30) ∈ am_strs := List.mem_of_getElem? (i := 30) rfl
theorem st_31 : ("SaltTableModel", 210, "and", 31) ∈ am_strs := List.mem_of_getElem? (i := 31) rfl
theorem st_32 : ("SaltTableModel", 215, "or", 32) ∈ am_strs := List.mem_of_getElem? (i := 32) rfl
theorem th1_UnsupportedOperationException_137 : ∀ w ∈ (vx_atS RX10 137 "java/lang/UnsupportedOperationException" ["java/lang/RuntimeException", "java/lang/Exception"]).filter goodWord, w ∈ am_T := by decide +kernel
theorem th2_UnsupportedOperationException_137 : ∀ w ∈ (vx_atS RX10 137 "java/lang/UnsupportedOperationException" ["java/lang/RuntimeException", "java/lang/Exception"]).filter (fun w => !goodWord w), w ∈ Cond.castable "java/lang/UnsupportedOperationException" "java/lang/UnsupportedOperationException" :: am_decls.map Cond.declares := by decide +kernel
theorem th4_UnsupportedOperationException_137 : ∀ w ∈ vx_atS RX10 137 "java/lang/UnsupportedOperationException" ["java/lang/RuntimeException", "java/lang/Exception"], vx_ot w = true := by decide +kernel
theorem th3_UnsupportedOperationException_137 (w0 : Cond) (h0 : vx_ot w0 = true) (h1 : vx_ot (Cond.initialized "java/lang/UnsupportedOperationException") = true) : ∀ w ∈ w0 :: Cond.initialized "java/lang/UnsupportedOperationException" :: vx_atS RX10 137 "java/lang/UnsupportedOperationException" ["java/lang/RuntimeException", "java/lang/Exception"], vx_ot w = true := fun w hw => (List.mem_cons.mp hw).elim (fun e => e ▸ h0) (fun hw => (List.mem_cons.mp hw).elim (fun e => e ▸ h1) (th4_UnsupportedOperationException_137 w))
theorem th1_IllegalArgumentException_127 : ∀ w ∈ (vx_atS RX10 127 "java/lang/IllegalArgumentException" ["java/lang/RuntimeException", "java/lang/Exception"]).filter goodWord, w ∈ am_T := by decide +kernel
theorem th2_IllegalArgumentException_127 : ∀ w ∈ (vx_atS RX10 127 "java/lang/IllegalArgumentException" ["java/lang/RuntimeException", "java/lang/Exception"]).filter (fun w => !goodWord w), w ∈ Cond.castable "java/lang/IllegalArgumentException" "java/lang/IllegalArgumentException" :: am_decls.map Cond.declares := by decide +kernel
theorem th4_IllegalArgumentException_127 : ∀ w ∈ vx_atS RX10 127 "java/lang/IllegalArgumentException" ["java/lang/RuntimeException", "java/lang/Exception"], vx_ot w = true := by decide +kernel
theorem th3_IllegalArgumentException_127 (w0 : Cond) (h0 : vx_ot w0 = true) (h1 : vx_ot (Cond.initialized "java/lang/IllegalArgumentException") = true) : ∀ w ∈ w0 :: Cond.initialized "java/lang/IllegalArgumentException" :: vx_atS RX10 127 "java/lang/IllegalArgumentException" ["java/lang/RuntimeException", "java/lang/Exception"], vx_ot w = true := fun w hw => (List.mem_cons.mp hw).elim (fun e => e ▸ h0) (fun hw => (List.mem_cons.mp hw).elim (fun e => e ▸ h1) (th4_IllegalArgumentException_127 w))
theorem th1_IndexOutOfBoundsException_251 : ∀ w ∈ (vx_atS RX10 251 "java/lang/IndexOutOfBoundsException" ["java/lang/RuntimeException", "java/lang/Exception"]).filter goodWord, w ∈ am_T := by decide +kernel
theorem th2_IndexOutOfBoundsException_251 : ∀ w ∈ (vx_atS RX10 251 "java/lang/IndexOutOfBoundsException" ["java/lang/RuntimeException", "java/lang/Exception"]).filter (fun w => !goodWord w), w ∈ Cond.castable "java/lang/IndexOutOfBoundsException" "java/lang/IndexOutOfBoundsException" :: am_decls.map Cond.declares := by decide +kernel
theorem th4_IndexOutOfBoundsException_251 : ∀ w ∈ vx_atS RX10 251 "java/lang/IndexOutOfBoundsException" ["java/lang/RuntimeException", "java/lang/Exception"], vx_ot w = true := by decide +kernel
theorem th3_IndexOutOfBoundsException_251 (w0 : Cond) (h0 : vx_ot w0 = true) (h1 : vx_ot (Cond.initialized "java/lang/IndexOutOfBoundsException") = true) : ∀ w ∈ w0 :: Cond.initialized "java/lang/IndexOutOfBoundsException" :: vx_atS RX10 251 "java/lang/IndexOutOfBoundsException" ["java/lang/RuntimeException", "java/lang/Exception"], vx_ot w = true := fun w hw => (List.mem_cons.mp hw).elim (fun e => e ▸ h0) (fun hw => (List.mem_cons.mp hw).elim (fun e => e ▸ h1) (th4_IndexOutOfBoundsException_251 w))
