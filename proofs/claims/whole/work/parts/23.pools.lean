/-! pool entries and methods, row by row (written by program) -/
theorem pl0_1 : am_pool 0 1 = (8, 0, 0) := by decide +kernel
theorem pl1_3 : am_pool 1 3 = (8, 0, 0) := by decide +kernel
theorem pl1_9 : am_pool 1 9 = (1, 1, 0) := by decide +kernel
theorem pl1_15 : am_pool 1 15 = (1, 1, 1) := by decide +kernel
theorem pl1_18 : am_pool 1 18 = (1, 1, 2) := by decide +kernel
theorem pl1_22 : am_pool 1 22 = (1, 1, 3) := by decide +kernel
theorem pl1_25 : am_pool 1 25 = (1, 1, 4) := by decide +kernel
theorem pl1_28 : am_pool 1 28 = (1, 1, 5) := by decide +kernel
theorem pl1_31 : am_pool 1 31 = (1, 5, 15) := by decide +kernel
theorem pl1_36 : am_pool 1 36 = (5, 72, 1) := by decide +kernel
theorem pl1_40 : am_pool 1 40 = (16, 0, 0) := by decide +kernel
theorem pl1_46 : am_pool 1 46 = (5, 73, 1) := by decide +kernel
theorem pl1_49 : am_pool 1 49 = (1, 5, 4) := by decide +kernel
theorem pl1_53 : am_pool 1 53 = (5, 71, 2) := by decide +kernel
theorem pl1_57 : am_pool 1 57 = (1, 5, 12) := by decide +kernel
theorem pl1_61 : am_pool 1 61 = (1, 0, 0) := by decide +kernel
theorem pl1_66 : am_pool 1 66 = (1, 0, 2) := by decide +kernel
theorem pl1_69 : am_pool 1 69 = (17, 0, 0) := by decide +kernel
theorem pl1_72 : am_pool 1 72 = (4, 70, 1) := by decide +kernel
theorem pl1_76 : am_pool 1 76 = (4, 74, 1) := by decide +kernel
theorem pl1_79 : am_pool 1 79 = (4, 75, 1) := by decide +kernel
theorem pl1_82 : am_pool 1 82 = (1, 0, 1) := by decide +kernel
theorem pl1_85 : am_pool 1 85 = (1, 0, 3) := by decide +kernel
theorem pl2_1 : am_pool 2 1 = (8, 0, 0) := by decide +kernel
theorem pl2_7 : am_pool 2 7 = (9, 1, 0) := by decide +kernel
theorem pl2_9 : am_pool 2 9 = (7, 7, 0) := by decide +kernel
theorem pl2_10 : am_pool 2 10 = (1, 2, 9) := by decide +kernel
theorem pl2_16 : am_pool 2 16 = (9, 4, 0) := by decide +kernel
theorem pl2_18 : am_pool 2 18 = (7, 8, 0) := by decide +kernel
theorem pl2_19 : am_pool 2 19 = (1, 2, 10) := by decide +kernel
theorem pl2_23 : am_pool 2 23 = (1, 2, 0) := by decide +kernel
theorem pl2_27 : am_pool 2 27 = (1, 5, 12) := by decide +kernel
theorem pl2_33 : am_pool 2 33 = (1, 0, 0) := by decide +kernel
theorem pl2_39 : am_pool 2 39 = (4, 53, 0) := by decide +kernel
theorem pl2_43 : am_pool 2 43 = (1, 2, 1) := by decide +kernel
theorem pl2_46 : am_pool 2 46 = (1, 0, 1) := by decide +kernel
theorem pl2_49 : am_pool 2 49 = (1, 2, 2) := by decide +kernel
theorem pl2_52 : am_pool 2 52 = (1, 0, 2) := by decide +kernel
theorem pl2_55 : am_pool 2 55 = (16, 0, 0) := by decide +kernel
theorem pl2_61 : am_pool 2 61 = (1, 2, 3) := by decide +kernel
theorem pl2_64 : am_pool 2 64 = (1, 2, 4) := by decide +kernel
theorem pl2_65 : am_pool 2 65 = (1, 2, 5) := by decide +kernel
theorem pl2_68 : am_pool 2 68 = (1, 2, 6) := by decide +kernel
theorem pl2_72 : am_pool 2 72 = (1, 2, 7) := by decide +kernel
theorem pl2_75 : am_pool 2 75 = (1, 2, 8) := by decide +kernel
theorem pl2_78 : am_pool 2 78 = (4, 54, 3) := by decide +kernel
theorem pl2_82 : am_pool 2 82 = (4, 55, 0) := by decide +kernel
theorem pl2_85 : am_pool 2 85 = (1, 5, 15) := by decide +kernel
theorem pl2_88 : am_pool 2 88 = (1, 1, 5) := by decide +kernel
theorem pl3_3 : am_pool 3 3 = (8, 0, 0) := by decide +kernel
theorem pl3_9 : am_pool 3 9 = (9, 10, 0) := by decide +kernel
theorem pl3_11 : am_pool 3 11 = (6, 2, 0) := by decide +kernel
theorem pl3_12 : am_pool 3 12 = (1, 3, 0) := by decide +kernel
theorem pl3_18 : am_pool 3 18 = (9, 2, 0) := by decide +kernel
theorem pl3_20 : am_pool 3 20 = (1, 3, 2) := by decide +kernel
theorem pl3_24 : am_pool 3 24 = (9, 6, 0) := by decide +kernel
theorem pl3_26 : am_pool 3 26 = (7, 5, 0) := by decide +kernel
theorem pl3_27 : am_pool 3 27 = (1, 3, 3) := by decide +kernel
theorem pl3_31 : am_pool 3 31 = (7, 6, 0) := by decide +kernel
theorem pl3_32 : am_pool 3 32 = (1, 3, 1) := by decide +kernel
theorem pl3_36 : am_pool 3 36 = (4, 35, 0) := by decide +kernel
theorem pl3_40 : am_pool 3 40 = (4, 46, 1) := by decide +kernel
theorem pl3_44 : am_pool 3 44 = (9, 7, 0) := by decide +kernel
theorem pl3_46 : am_pool 3 46 = (1, 5, 4) := by decide +kernel
theorem pl3_52 : am_pool 3 52 = (4, 30, 2) := by decide +kernel
theorem pl3_56 : am_pool 3 56 = (4, 51, 4) := by decide +kernel
theorem pl3_60 : am_pool 3 60 = (1, 5, 9) := by decide +kernel
theorem pl3_63 : am_pool 3 63 = (1, 5, 11) := by decide +kernel
theorem pl3_67 : am_pool 3 67 = (1, 5, 13) := by decide +kernel
theorem pl3_70 : am_pool 3 70 = (1, 5, 1) := by decide +kernel
theorem pl3_73 : am_pool 3 73 = (4, 31, 1) := by decide +kernel
theorem pl3_77 : am_pool 3 77 = (1, 5, 14) := by decide +kernel
theorem pl3_78 : am_pool 3 78 = (1, 5, 5) := by decide +kernel
theorem pl3_82 : am_pool 3 82 = (5, 50, 2) := by decide +kernel
theorem pl3_86 : am_pool 3 86 = (1, 5, 10) := by decide +kernel
theorem pl3_89 : am_pool 3 89 = (1, 5, 7) := by decide +kernel
theorem pl3_92 : am_pool 3 92 = (1, 5, 8) := by decide +kernel
theorem pl3_96 : am_pool 3 96 = (5, 32, 1) := by decide +kernel
theorem pl3_100 : am_pool 3 100 = (5, 33, 1) := by decide +kernel
theorem pl3_104 : am_pool 3 104 = (4, 34, 4) := by decide +kernel
theorem pl3_107 : am_pool 3 107 = (7, 36, 0) := by decide +kernel
theorem pl3_108 : am_pool 3 108 = (4, 37, 1) := by decide +kernel
theorem pl3_112 : am_pool 3 112 = (4, 45, 1) := by decide +kernel
theorem pl3_116 : am_pool 3 116 = (1, 5, 0) := by decide +kernel
theorem pl3_119 : am_pool 3 119 = (1, 7, 0) := by decide +kernel
theorem pl3_122 : am_pool 3 122 = (1, 7, 1) := by decide +kernel
theorem pl3_125 : am_pool 3 125 = (1, 7, 2) := by decide +kernel
theorem pl3_128 : am_pool 3 128 = (1, 7, 3) := by decide +kernel
theorem pl3_132 : am_pool 3 132 = (1, 0, 2) := by decide +kernel
theorem pl3_137 : am_pool 3 137 = (1, 0, 3) := by decide +kernel
theorem pl3_140 : am_pool 3 140 = (1, 5, 12) := by decide +kernel
theorem pl3_141 : am_pool 3 141 = (1, 0, 0) := by decide +kernel
theorem pl3_144 : am_pool 3 144 = (1, 0, 1) := by decide +kernel
theorem pl3_147 : am_pool 3 147 = (1, 5, 3) := by decide +kernel
theorem pl3_150 : am_pool 3 150 = (4, 52, 1) := by decide +kernel
theorem pl3_153 : am_pool 3 153 = (4, 56, 1) := by decide +kernel
theorem pl3_157 : am_pool 3 157 = (4, 64, 1) := by decide +kernel
theorem pl3_160 : am_pool 3 160 = (4, 98, 1) := by decide +kernel
theorem pl3_164 : am_pool 3 164 = (1, 2, 1) := by decide +kernel
theorem pl3_167 : am_pool 3 167 = (1, 2, 0) := by decide +kernel
theorem pl3_170 : am_pool 3 170 = (1, 2, 3) := by decide +kernel
theorem pl3_173 : am_pool 3 173 = (4, 57, 2) := by decide +kernel
theorem pl3_176 : am_pool 3 176 = (1, 2, 2) := by decide +kernel
theorem pl3_179 : am_pool 3 179 = (4, 59, 1) := by decide +kernel
theorem pl3_183 : am_pool 3 183 = (4, 63, 2) := by decide +kernel
theorem pl3_187 : am_pool 3 187 = (16, 0, 0) := by decide +kernel
theorem pl3_192 : am_pool 3 192 = (4, 65, 2) := by decide +kernel
theorem pl3_196 : am_pool 3 196 = (4, 78, 2) := by decide +kernel
theorem pl3_199 : am_pool 3 199 = (4, 89, 2) := by decide +kernel
theorem pl3_202 : am_pool 3 202 = (5, 96, 2) := by decide +kernel
theorem pl3_206 : am_pool 3 206 = (4, 83, 1) := by decide +kernel
theorem pl3_210 : am_pool 3 210 = (5, 90, 2) := by decide +kernel
theorem pl3_216 : am_pool 3 216 = (1, 2, 5) := by decide +kernel
theorem pl3_219 : am_pool 3 219 = (4, 97, 0) := by decide +kernel
theorem pl3_222 : am_pool 3 222 = (1, 5, 2) := by decide +kernel
theorem pl3_225 : am_pool 3 225 = (5, 95, 2) := by decide +kernel
theorem pl3_229 : am_pool 3 229 = (1, 2, 4) := by decide +kernel
theorem pl3_230 : am_pool 3 230 = (1, 2, 9) := by decide +kernel
theorem pl3_234 : am_pool 3 234 = (1, 1, 5) := by decide +kernel
theorem pl3_239 : am_pool 3 239 = (4, 66, 0) := by decide +kernel
theorem pl3_242 : am_pool 3 242 = (1, 2, 10) := by decide +kernel
theorem pl3_246 : am_pool 3 246 = (4, 67, 0) := by decide +kernel
theorem pl3_252 : am_pool 3 252 = (4, 68, 2) := by decide +kernel
theorem pl3_255 : am_pool 3 255 = (4, 77, 1) := by decide +kernel
theorem pl3_258 : am_pool 3 258 = (17, 0, 0) := by decide +kernel
theorem pl3_261 : am_pool 3 261 = (1, 1, 4) := by decide +kernel
theorem pl3_264 : am_pool 3 264 = (4, 69, 2) := by decide +kernel
theorem pl3_267 : am_pool 3 267 = (4, 75, 1) := by decide +kernel
theorem pl3_270 : am_pool 3 270 = (4, 74, 1) := by decide +kernel
theorem pl3_273 : am_pool 3 273 = (4, 76, 1) := by decide +kernel
theorem pl3_275 : am_pool 3 275 = (4, 60, 1) := by decide +kernel
theorem pl3_278 : am_pool 3 278 = (4, 53, 0) := by decide +kernel
theorem pl3_281 : am_pool 3 281 = (4, 79, 2) := by decide +kernel
theorem pl3_284 : am_pool 3 284 = (4, 80, 3) := by decide +kernel
theorem pl3_288 : am_pool 3 288 = (4, 88, 2) := by decide +kernel
theorem pl3_291 : am_pool 3 291 = (4, 58, 2) := by decide +kernel
theorem pl3_294 : am_pool 3 294 = (1, 2, 6) := by decide +kernel
theorem pl3_297 : am_pool 3 297 = (4, 81, 1) := by decide +kernel
theorem pl3_301 : am_pool 3 301 = (4, 82, 2) := by decide +kernel
theorem pl3_304 : am_pool 3 304 = (4, 87, 2) := by decide +kernel
theorem pl3_308 : am_pool 3 308 = (4, 84, 2) := by decide +kernel
theorem pl3_311 : am_pool 3 311 = (4, 55, 0) := by decide +kernel
theorem pl3_314 : am_pool 3 314 = (4, 86, 0) := by decide +kernel
theorem pl3_318 : am_pool 3 318 = (1, 5, 15) := by decide +kernel
theorem pl4_3 : am_pool 4 3 = (8, 0, 0) := by decide +kernel
theorem pl4_9 : am_pool 4 9 = (1, 4, 0) := by decide +kernel
theorem pl4_15 : am_pool 4 15 = (1, 4, 1) := by decide +kernel
theorem pl4_18 : am_pool 4 18 = (1, 4, 4) := by decide +kernel
theorem pl4_22 : am_pool 4 22 = (1, 4, 3) := by decide +kernel
theorem pl4_25 : am_pool 4 25 = (1, 4, 2) := by decide +kernel
theorem pl4_28 : am_pool 4 28 = (1, 0, 4) := by decide +kernel
theorem pl4_33 : am_pool 4 33 = (1, 0, 0) := by decide +kernel
theorem pl4_36 : am_pool 4 36 = (1, 0, 2) := by decide +kernel
theorem pl4_39 : am_pool 4 39 = (1, 0, 3) := by decide +kernel
theorem pl4_40 : am_pool 4 40 = (16, 0, 0) := by decide +kernel
theorem pl4_46 : am_pool 4 46 = (4, 85, 1) := by decide +kernel
theorem pl4_50 : am_pool 4 50 = (1, 0, 1) := by decide +kernel
theorem pl5_3 : am_pool 5 3 = (8, 0, 0) := by decide +kernel
theorem pl5_9 : am_pool 5 9 = (1, 5, 4) := by decide +kernel
theorem pl5_15 : am_pool 5 15 = (3, 1, 0) := by decide +kernel
theorem pl5_19 : am_pool 5 19 = (1, 5, 8) := by decide +kernel
theorem pl5_22 : am_pool 5 22 = (1, 5, 9) := by decide +kernel
theorem pl5_26 : am_pool 5 26 = (9, 0, 0) := by decide +kernel
theorem pl5_28 : am_pool 5 28 = (7, 11, 0) := by decide +kernel
theorem pl5_29 : am_pool 5 29 = (1, 5, 12) := by decide +kernel
theorem pl5_33 : am_pool 5 33 = (1, 5, 0) := by decide +kernel
theorem pl5_36 : am_pool 5 36 = (1, 5, 1) := by decide +kernel
theorem pl5_39 : am_pool 5 39 = (1, 5, 2) := by decide +kernel
theorem pl5_43 : am_pool 5 43 = (1, 5, 3) := by decide +kernel
theorem pl5_46 : am_pool 5 46 = (1, 5, 6) := by decide +kernel
theorem pl5_49 : am_pool 5 49 = (1, 5, 5) := by decide +kernel
theorem pl5_52 : am_pool 5 52 = (1, 5, 7) := by decide +kernel
theorem pl5_55 : am_pool 5 55 = (4, 58, 2) := by decide +kernel
theorem pl5_59 : am_pool 5 59 = (4, 53, 0) := by decide +kernel
theorem pl5_63 : am_pool 5 63 = (16, 0, 0) := by decide +kernel
theorem pl6_3 : am_pool 6 3 = (8, 0, 0) := by decide +kernel
theorem pl6_9 : am_pool 6 9 = (1, 6, 0) := by decide +kernel
theorem pl6_15 : am_pool 6 15 = (1, 6, 1) := by decide +kernel
theorem pl6_19 : am_pool 6 19 = (4, 61, 1) := by decide +kernel
theorem pl6_23 : am_pool 6 23 = (1, 5, 4) := by decide +kernel
theorem pl6_29 : am_pool 6 29 = (1, 5, 5) := by decide +kernel
theorem pl6_33 : am_pool 6 33 = (1, 5, 8) := by decide +kernel
theorem pl6_37 : am_pool 6 37 = (4, 62, 1) := by decide +kernel
theorem pl6_41 : am_pool 6 41 = (1, 5, 7) := by decide +kernel
theorem pl6_44 : am_pool 6 44 = (5, 32, 1) := by decide +kernel
theorem pl6_48 : am_pool 6 48 = (5, 33, 1) := by decide +kernel
theorem pl7_1 : am_pool 7 1 = (8, 0, 0) := by decide +kernel
theorem pl7_7 : am_pool 7 7 = (9, 0, 0) := by decide +kernel
theorem pl7_9 : am_pool 7 9 = (7, 11, 0) := by decide +kernel
theorem pl7_10 : am_pool 7 10 = (1, 7, 3) := by decide +kernel
theorem pl8_1 : am_pool 8 1 = (8, 0, 0) := by decide +kernel
theorem pl8_9 : am_pool 8 9 = (1, 8, 0) := by decide +kernel
theorem pl8_13 : am_pool 8 13 = (9, 5, 0) := by decide +kernel
theorem pl8_15 : am_pool 8 15 = (1, 8, 2) := by decide +kernel
theorem pl8_19 : am_pool 8 19 = (9, 3, 0) := by decide +kernel
theorem pl8_21 : am_pool 8 21 = (6, 1, 0) := by decide +kernel
theorem pl8_22 : am_pool 8 22 = (1, 8, 4) := by decide +kernel
theorem pl8_26 : am_pool 8 26 = (4, 9, 0) := by decide +kernel
theorem pl8_29 : am_pool 8 29 = (1, 8, 1) := by decide +kernel
theorem pl8_33 : am_pool 8 33 = (4, 13, 1) := by decide +kernel
theorem pl8_37 : am_pool 8 37 = (4, 16, 0) := by decide +kernel
theorem pl8_40 : am_pool 8 40 = (4, 18, 1) := by decide +kernel
theorem pl8_44 : am_pool 8 44 = (1, 8, 3) := by decide +kernel
theorem pl8_47 : am_pool 8 47 = (1, 5, 3) := by decide +kernel
theorem pl8_50 : am_pool 8 50 = (6, 10, 3) := by decide +kernel
theorem pl8_53 : am_pool 8 53 = (4, 20, 1) := by decide +kernel
theorem pl8_57 : am_pool 8 57 = (4, 19, 1) := by decide +kernel
theorem pl8_60 : am_pool 8 60 = (1, 5, 1) := by decide +kernel
theorem pl8_63 : am_pool 8 63 = (5, 22, 2) := by decide +kernel
theorem pl8_69 : am_pool 8 69 = (1, 5, 8) := by decide +kernel
theorem pl8_72 : am_pool 8 72 = (5, 24, 3) := by decide +kernel
theorem pl8_76 : am_pool 8 76 = (1, 5, 4) := by decide +kernel
theorem pl8_80 : am_pool 8 80 = (4, 29, 2) := by decide +kernel
theorem pl8_84 : am_pool 8 84 = (1, 5, 12) := by decide +kernel
theorem pl8_88 : am_pool 8 88 = (1, 0, 3) := by decide +kernel
theorem pl8_93 : am_pool 8 93 = (1, 5, 11) := by decide +kernel
theorem pl8_97 : am_pool 8 97 = (1, 0, 0) := by decide +kernel
theorem pl8_100 : am_pool 8 100 = (1, 0, 1) := by decide +kernel
theorem pl8_103 : am_pool 8 103 = (1, 0, 2) := by decide +kernel
theorem pl8_106 : am_pool 8 106 = (2, 3, 1) := by decide +kernel
theorem pl8_109 : am_pool 8 109 = (4, 45, 1) := by decide +kernel
theorem pl8_113 : am_pool 8 113 = (1, 7, 0) := by decide +kernel
theorem pl8_118 : am_pool 8 118 = (1, 7, 3) := by decide +kernel
theorem pl8_119 : am_pool 8 119 = (1, 7, 1) := by decide +kernel
theorem pl8_122 : am_pool 8 122 = (1, 7, 2) := by decide +kernel
theorem pl8_125 : am_pool 8 125 = (2, 3, 3) := by decide +kernel
theorem pl8_129 : am_pool 8 129 = (4, 60, 1) := by decide +kernel
theorem pl8_135 : am_pool 8 135 = (1, 5, 2) := by decide +kernel
theorem pl8_139 : am_pool 8 139 = (5, 92, 1) := by decide +kernel
theorem pl8_145 : am_pool 8 145 = (5, 95, 2) := by decide +kernel
theorem pl8_149 : am_pool 8 149 = (5, 25, 2) := by decide +kernel
theorem pl8_153 : am_pool 8 153 = (5, 27, 1) := by decide +kernel
theorem pl8_156 : am_pool 8 156 = (5, 26, 3) := by decide +kernel
theorem pl9_1 : am_pool 9 1 = (8, 0, 0) := by decide +kernel
theorem pl9_7 : am_pool 9 7 = (1, 9, 0) := by decide +kernel
theorem pl9_13 : am_pool 9 13 = (1, 9, 2) := by decide +kernel
theorem pl9_17 : am_pool 9 17 = (1, 9, 3) := by decide +kernel
theorem pl9_21 : am_pool 9 21 = (1, 9, 4) := by decide +kernel
theorem pl9_24 : am_pool 9 24 = (1, 9, 5) := by decide +kernel
theorem pl9_27 : am_pool 9 27 = (1, 9, 6) := by decide +kernel
theorem pl9_30 : am_pool 9 30 = (1, 9, 7) := by decide +kernel
theorem pl9_33 : am_pool 9 33 = (1, 9, 8) := by decide +kernel
theorem pl9_36 : am_pool 9 36 = (1, 9, 9) := by decide +kernel
theorem pl9_39 : am_pool 9 39 = (1, 9, 10) := by decide +kernel
theorem pl9_42 : am_pool 9 42 = (1, 9, 11) := by decide +kernel
theorem pl9_45 : am_pool 9 45 = (1, 9, 12) := by decide +kernel
theorem pl9_48 : am_pool 9 48 = (1, 9, 13) := by decide +kernel
theorem pl9_52 : am_pool 9 52 = (1, 9, 14) := by decide +kernel
theorem pl9_55 : am_pool 9 55 = (1, 9, 15) := by decide +kernel
theorem pl9_58 : am_pool 9 58 = (1, 9, 16) := by decide +kernel
theorem pl9_61 : am_pool 9 61 = (1, 9, 17) := by decide +kernel
theorem pl9_64 : am_pool 9 64 = (1, 9, 18) := by decide +kernel
theorem pl9_67 : am_pool 9 67 = (1, 9, 19) := by decide +kernel
theorem pl9_70 : am_pool 9 70 = (1, 9, 20) := by decide +kernel
theorem pl9_73 : am_pool 9 73 = (1, 9, 21) := by decide +kernel
theorem pl9_76 : am_pool 9 76 = (1, 9, 23) := by decide +kernel
theorem pl9_79 : am_pool 9 79 = (1, 9, 24) := by decide +kernel
theorem pl9_82 : am_pool 9 82 = (1, 9, 25) := by decide +kernel
theorem pl9_85 : am_pool 9 85 = (1, 9, 26) := by decide +kernel
theorem pl9_88 : am_pool 9 88 = (1, 9, 27) := by decide +kernel
theorem pl9_91 : am_pool 9 91 = (1, 9, 28) := by decide +kernel
theorem pl9_94 : am_pool 9 94 = (1, 9, 30) := by decide +kernel
theorem pl9_97 : am_pool 9 97 = (1, 9, 31) := by decide +kernel
theorem pl9_100 : am_pool 9 100 = (1, 9, 32) := by decide +kernel
theorem pl9_103 : am_pool 9 103 = (1, 9, 33) := by decide +kernel
theorem pl9_106 : am_pool 9 106 = (1, 9, 34) := by decide +kernel
theorem pl9_109 : am_pool 9 109 = (1, 9, 35) := by decide +kernel
theorem pl9_112 : am_pool 9 112 = (1, 9, 36) := by decide +kernel
theorem pl9_115 : am_pool 9 115 = (1, 9, 44) := by decide +kernel
theorem pl9_118 : am_pool 9 118 = (1, 9, 45) := by decide +kernel
theorem pl9_121 : am_pool 9 121 = (1, 9, 47) := by decide +kernel
theorem pl9_124 : am_pool 9 124 = (1, 9, 48) := by decide +kernel
theorem pl9_127 : am_pool 9 127 = (1, 9, 49) := by decide +kernel
theorem pl9_130 : am_pool 9 130 = (1, 9, 50) := by decide +kernel
theorem pl9_133 : am_pool 9 133 = (1, 9, 51) := by decide +kernel
theorem pl9_136 : am_pool 9 136 = (1, 9, 52) := by decide +kernel
theorem pl9_139 : am_pool 9 139 = (4, 105, 0) := by decide +kernel
theorem pl9_142 : am_pool 9 142 = (1, 9, 1) := by decide +kernel
theorem pl9_145 : am_pool 9 145 = (4, 108, 1) := by decide +kernel
theorem pl9_149 : am_pool 9 149 = (4, 106, 3) := by decide +kernel
theorem pl9_153 : am_pool 9 153 = (1, 9, 29) := by decide +kernel
theorem pl9_156 : am_pool 9 156 = (4, 111, 1) := by decide +kernel
theorem pl9_160 : am_pool 9 160 = (4, 114, 3) := by decide +kernel
theorem pl9_164 : am_pool 9 164 = (4, 121, 2) := by decide +kernel
theorem pl9_168 : am_pool 9 168 = (4, 118, 2) := by decide +kernel
theorem pl9_171 : am_pool 9 171 = (4, 125, 1) := by decide +kernel
theorem pl9_175 : am_pool 9 175 = (5, 126, 2) := by decide +kernel
theorem pl9_178 : am_pool 9 178 = (1, 9, 22) := by decide +kernel
theorem pl9_181 : am_pool 9 181 = (4, 117, 1) := by decide +kernel
theorem pl9_184 : am_pool 9 184 = (4, 119, 1) := by decide +kernel
theorem pl9_187 : am_pool 9 187 = (4, 120, 2) := by decide +kernel
theorem pl9_190 : am_pool 9 190 = (4, 122, 1) := by decide +kernel
theorem pl9_193 : am_pool 9 193 = (4, 123, 1) := by decide +kernel
theorem pl9_196 : am_pool 9 196 = (4, 124, 1) := by decide +kernel
theorem pl9_199 : am_pool 9 199 = (5, 131, 1) := by decide +kernel
theorem pl9_202 : am_pool 9 202 = (5, 132, 1) := by decide +kernel
theorem pl9_205 : am_pool 9 205 = (4, 128, 1) := by decide +kernel
theorem pl9_208 : am_pool 9 208 = (4, 129, 2) := by decide +kernel
theorem pl9_211 : am_pool 9 211 = (4, 130, 1) := by decide +kernel
theorem pl9_214 : am_pool 9 214 = (5, 133, 2) := by decide +kernel
theorem pl9_217 : am_pool 9 217 = (4, 116, 0) := by decide +kernel
theorem pl9_220 : am_pool 9 220 = (4, 127, 1) := by decide +kernel
theorem pl9_223 : am_pool 9 223 = (4, 134, 1) := by decide +kernel
theorem pl9_226 : am_pool 9 226 = (4, 135, 1) := by decide +kernel
theorem pl9_229 : am_pool 9 229 = (4, 146, 1) := by decide +kernel
theorem pl9_232 : am_pool 9 232 = (4, 145, 2) := by decide +kernel
theorem pl9_235 : am_pool 9 235 = (1, 9, 38) := by decide +kernel
theorem pl9_238 : am_pool 9 238 = (1, 9, 55) := by decide +kernel
theorem pl9_241 : am_pool 9 241 = (1, 9, 39) := by decide +kernel
theorem pl9_244 : am_pool 9 244 = (1, 9, 46) := by decide +kernel
theorem pl9_247 : am_pool 9 247 = (4, 139, 2) := by decide +kernel
theorem pl9_251 : am_pool 9 251 = (1, 9, 37) := by decide +kernel
theorem pl9_254 : am_pool 9 254 = (4, 138, 1) := by decide +kernel
theorem pl9_257 : am_pool 9 257 = (4, 140, 1) := by decide +kernel
theorem pl9_260 : am_pool 9 260 = (1, 9, 40) := by decide +kernel
theorem pl9_263 : am_pool 9 263 = (1, 9, 43) := by decide +kernel
theorem pl9_266 : am_pool 9 266 = (1, 9, 41) := by decide +kernel
theorem pl9_269 : am_pool 9 269 = (1, 9, 42) := by decide +kernel
theorem pl9_272 : am_pool 9 272 = (4, 142, 1) := by decide +kernel
theorem pl9_275 : am_pool 9 275 = (1, 9, 54) := by decide +kernel
theorem pl9_279 : am_pool 9 279 = (1, 9, 53) := by decide +kernel
theorem pl9_282 : am_pool 9 282 = (4, 137, 1) := by decide +kernel
theorem pl9_285 : am_pool 9 285 = (4, 143, 0) := by decide +kernel
theorem pl9_288 : am_pool 9 288 = (4, 141, 3) := by decide +kernel
theorem pl9_291 : am_pool 9 291 = (4, 144, 1) := by decide +kernel
theorem pl9_294 : am_pool 9 294 = (4, 136, 1) := by decide +kernel
theorem pl10_1 : am_pool 10 1 = (6, 3, 0) := by decide +kernel
theorem pl10_7 : am_pool 10 7 = (9, 20, 0) := by decide +kernel
theorem pl10_9 : am_pool 10 9 = (1, 10, 1) := by decide +kernel
theorem pl10_39 : am_pool 10 39 = (3, 2, 0) := by decide +kernel
theorem pl10_48 : am_pool 10 48 = (1, 10, 2) := by decide +kernel
theorem pl10_63 : am_pool 10 63 = (1, 10, 0) := by decide +kernel
theorem pl10_66 : am_pool 10 66 = (5, 43, 2) := by decide +kernel
theorem pl10_69 : am_pool 10 69 = (4, 40, 1) := by decide +kernel
theorem pl10_73 : am_pool 10 73 = (5, 41, 3) := by decide +kernel
theorem pl10_79 : am_pool 10 79 = (16, 0, 0) := by decide +kernel
theorem pl10_118 : am_pool 10 118 = (5, 47, 2) := by decide +kernel
theorem pl10_123 : am_pool 10 123 = (4, 49, 1) := by decide +kernel
theorem pl10_129 : am_pool 10 129 = (4, 39, 0) := by decide +kernel
theorem pl10_131 : am_pool 10 131 = (4, 38, 3) := by decide +kernel
theorem pl11_9 : am_pool 11 9 = (5, 90, 2) := by decide +kernel
theorem pl11_15 : am_pool 11 15 = (1, 5, 4) := by decide +kernel
theorem pl11_21 : am_pool 11 21 = (5, 95, 2) := by decide +kernel
theorem pl11_25 : am_pool 11 25 = (16, 0, 0) := by decide +kernel
theorem pl11_31 : am_pool 11 31 = (5, 91, 1) := by decide +kernel
theorem pl11_35 : am_pool 11 35 = (5, 93, 1) := by decide +kernel
theorem pl11_39 : am_pool 11 39 = (5, 94, 1) := by decide +kernel
theorem pl11_42 : am_pool 11 42 = (5, 92, 1) := by decide +kernel
theorem pl11_45 : am_pool 11 45 = (1, 5, 1) := by decide +kernel
theorem pl11_49 : am_pool 11 49 = (4, 53, 0) := by decide +kernel
theorem pl11_53 : am_pool 11 53 = (1, 5, 2) := by decide +kernel
theorem pl11_57 : am_pool 11 57 = (1, 5, 5) := by decide +kernel
theorem pl11_60 : am_pool 11 60 = (1, 5, 7) := by decide +kernel
theorem pl12_7 : am_pool 12 7 = (9, 8, 0) := by decide +kernel
theorem pl12_9 : am_pool 12 9 = (6, 0, 0) := by decide +kernel
theorem pl12_10 : am_pool 12 10 = (9, 9, 0) := by decide +kernel
theorem pl12_12 : am_pool 12 12 = (6, 104, 0) := by decide +kernel
theorem pl12_13 : am_pool 12 13 = (4, 12, 5) := by decide +kernel
theorem pl12_17 : am_pool 12 17 = (4, 107, 5) := by decide +kernel
theorem pl12_18 : am_pool 12 18 = (4, 14, 1) := by decide +kernel
theorem pl12_22 : am_pool 12 22 = (4, 109, 1) := by decide +kernel
theorem pl12_23 : am_pool 12 23 = (4, 15, 0) := by decide +kernel
theorem pl12_26 : am_pool 12 26 = (4, 105, 0) := by decide +kernel
theorem pl12_27 : am_pool 12 27 = (4, 17, 2) := by decide +kernel
theorem pl12_31 : am_pool 12 31 = (4, 110, 2) := by decide +kernel
theorem pl12_32 : am_pool 12 32 = (4, 21, 1) := by decide +kernel
theorem pl12_35 : am_pool 12 35 = (4, 112, 1) := by decide +kernel
theorem pl12_36 : am_pool 12 36 = (4, 23, 3) := by decide +kernel
theorem pl12_40 : am_pool 12 40 = (4, 113, 3) := by decide +kernel
theorem pl12_41 : am_pool 12 41 = (4, 28, 1) := by decide +kernel
theorem pl12_44 : am_pool 12 44 = (4, 115, 1) := by decide +kernel
theorem pl12_45 : am_pool 12 45 = (4, 99, 2) := by decide +kernel
theorem pl12_48 : am_pool 12 48 = (4, 147, 2) := by decide +kernel
theorem pl12_49 : am_pool 12 49 = (4, 100, 0) := by decide +kernel
theorem pl12_53 : am_pool 12 53 = (4, 148, 0) := by decide +kernel
theorem pl12_54 : am_pool 12 54 = (4, 101, 2) := by decide +kernel
theorem pl12_57 : am_pool 12 57 = (4, 149, 2) := by decide +kernel
theorem pl12_58 : am_pool 12 58 = (4, 102, 1) := by decide +kernel
theorem pl12_61 : am_pool 12 61 = (4, 150, 1) := by decide +kernel
theorem pl12_62 : am_pool 12 62 = (4, 103, 2) := by decide +kernel
theorem pl12_66 : am_pool 12 66 = (4, 151, 2) := by decide +kernel
theorem pl13_2 : am_pool 13 2 = (9, 20, 0) := by decide +kernel
theorem pl13_86 : am_pool 13 86 = (14, 0, 0) := by decide +kernel
theorem pl13_110 : am_pool 13 110 = (15, 0, 0) := by decide +kernel
theorem pl13_150 : am_pool 13 150 = (13, 0, 0) := by decide +kernel
theorem pl13_300 : am_pool 13 300 = (5, 44, 3) := by decide +kernel
theorem pl13_304 : am_pool 13 304 = (17, 0, 0) := by decide +kernel
theorem pl15_194 : am_pool 15 194 = (16, 0, 0) := by decide +kernel
theorem pl15_200 : am_pool 15 200 = (12, 2147483639, 0) := by decide +kernel
theorem pl15_201 : am_pool 15 201 = (5, 42, 2) := by decide +kernel
theorem pl16_105 : am_pool 16 105 = (5, 48, 3) := by decide +kernel
theorem pl18_1 : am_pool 18 1 = (6, 4, 0) := by decide +kernel
theorem pl18_7 : am_pool 18 7 = (1, 10, 0) := by decide +kernel
theorem pl19_1 : am_pool 19 1 = (8, 0, 0) := by decide +kernel
theorem ms0 (xs : List Int32) : (am_Bx xs).2.1 0 = some I0 := rfl
theorem ms1 (xs : List Int32) : (am_Bx xs).2.1 1 = some I1 := rfl
theorem ms2 (xs : List Int32) : (am_Bx xs).2.1 2 = some I2 := rfl
theorem ms3 (xs : List Int32) : (am_Bx xs).2.1 3 = some I3 := rfl
theorem ms4 (xs : List Int32) : (am_Bx xs).2.1 4 = some I4 := rfl
theorem ms5 (xs : List Int32) : (am_Bx xs).2.1 5 = some I5 := rfl
theorem ms6 (xs : List Int32) : (am_Bx xs).2.1 6 = some I6 := rfl
theorem ms7 (xs : List Int32) : (am_Bx xs).2.1 7 = some I7 := rfl
theorem ms8 (xs : List Int32) : (am_Bx xs).2.1 8 = some I8 := rfl
theorem ms9 (xs : List Int32) : (am_Bx xs).2.1 9 = some I9 := rfl
theorem ms10 (xs : List Int32) : (am_Bx xs).2.1 10 = some I10 := rfl
theorem ms11 (xs : List Int32) : (am_Bx xs).2.1 11 = some I11 := rfl
theorem ms12 (xs : List Int32) : (am_Bx xs).2.1 12 = some I12 := rfl
theorem ms13 (xs : List Int32) : (am_Bx xs).2.1 13 = some I13 := rfl
theorem ms14 (xs : List Int32) : (am_Bx xs).2.1 14 = some I14 := rfl
theorem ms15 (xs : List Int32) : (am_Bx xs).2.1 15 = some I15 := rfl
theorem ms16 (xs : List Int32) : (am_Bx xs).2.1 16 = some I16 := rfl
theorem ms17 (xs : List Int32) : (am_Bx xs).2.1 17 = some I17 := rfl
theorem ms18 (xs : List Int32) : (am_Bx xs).2.1 18 = some I18 := rfl
theorem ms19 (xs : List Int32) : (am_Bx xs).2.1 19 = some I19 := rfl
theorem ms20 (xs : List Int32) : (am_Bx xs).2.1 20 = some I20 := rfl
theorem ms21 (xs : List Int32) : (am_Bx xs).2.1 21 = some I21 := rfl
theorem ms22 (xs : List Int32) : (am_Bx xs).2.1 22 = some I22 := rfl
theorem ms23 (xs : List Int32) : (am_Bx xs).2.1 23 = some I23 := rfl
theorem ms24 (xs : List Int32) : (am_Bx xs).2.1 24 = some I24 := rfl
theorem ms25 (xs : List Int32) : (am_Bx xs).2.1 25 = some I25 := rfl
theorem ms26 (xs : List Int32) : (am_Bx xs).2.1 26 = some I26 := rfl
theorem ms27 (xs : List Int32) : (am_Bx xs).2.1 27 = some I27 := rfl
theorem ms28 (xs : List Int32) : (am_Bx xs).2.1 28 = some I28 := rfl
theorem ms29 (xs : List Int32) : (am_Bx xs).2.1 29 = some I29 := rfl
theorem ms30 (xs : List Int32) : (am_Bx xs).2.1 30 = some I30 := rfl
theorem ms31 (xs : List Int32) : (am_Bx xs).2.1 31 = some I31 := rfl
theorem ms32 (xs : List Int32) : (am_Bx xs).2.1 32 = some I32 := rfl
theorem ms33 (xs : List Int32) : (am_Bx xs).2.1 33 = some I33 := rfl
theorem ms34 (xs : List Int32) : (am_Bx xs).2.1 34 = some I34 := rfl
theorem ms35 (xs : List Int32) : (am_Bx xs).2.1 35 = some I35 := rfl
theorem ms36 (xs : List Int32) : (am_Bx xs).2.1 36 = some I36 := rfl
theorem ms37 (xs : List Int32) : (am_Bx xs).2.1 37 = some I37 := rfl
theorem ms38 (xs : List Int32) : (am_Bx xs).2.1 38 = some I38 := rfl
theorem ms39 (xs : List Int32) : (am_Bx xs).2.1 39 = some I39 := rfl
theorem ms40 (xs : List Int32) : (am_Bx xs).2.1 40 = some I40 := rfl
theorem ms41 (xs : List Int32) : (am_Bx xs).2.1 41 = some I41 := rfl
theorem ms42 (xs : List Int32) : (am_Bx xs).2.1 42 = some I42 := rfl
theorem ms43 (xs : List Int32) : (am_Bx xs).2.1 43 = some I43 := rfl
theorem ms44 (xs : List Int32) : (am_Bx xs).2.1 44 = some I44 := rfl
theorem ms45 (xs : List Int32) : (am_Bx xs).2.1 45 = some I45 := rfl
theorem ms46 (xs : List Int32) : (am_Bx xs).2.1 46 = some I46 := rfl
theorem ms47 (xs : List Int32) : (am_Bx xs).2.1 47 = some I47 := rfl
theorem ms48 (xs : List Int32) : (am_Bx xs).2.1 48 = some I48 := rfl
theorem ms49 (xs : List Int32) : (am_Bx xs).2.1 49 = some I49 := rfl
theorem ms50 (xs : List Int32) : (am_Bx xs).2.1 50 = some I50 := rfl
theorem ms51 (xs : List Int32) : (am_Bx xs).2.1 51 = some I51 := rfl
theorem ms52 (xs : List Int32) : (am_Bx xs).2.1 52 = some I52 := rfl
theorem ms53 (xs : List Int32) : (am_Bx xs).2.1 53 = some I53 := rfl
theorem ms54 (xs : List Int32) : (am_Bx xs).2.1 54 = some I54 := rfl
theorem ms55 (xs : List Int32) : (am_Bx xs).2.1 55 = some I55 := rfl
theorem ms56 (xs : List Int32) : (am_Bx xs).2.1 56 = some I56 := rfl
theorem ms57 (xs : List Int32) : (am_Bx xs).2.1 57 = some I57 := rfl
theorem ms58 (xs : List Int32) : (am_Bx xs).2.1 58 = some I58 := rfl
theorem ms59 (xs : List Int32) : (am_Bx xs).2.1 59 = some I59 := rfl
theorem ms60 (xs : List Int32) : (am_Bx xs).2.1 60 = some I60 := rfl
theorem ms61 (xs : List Int32) : (am_Bx xs).2.1 61 = some I61 := rfl
theorem ms62 (xs : List Int32) : (am_Bx xs).2.1 62 = some I62 := rfl
theorem ms63 (xs : List Int32) : (am_Bx xs).2.1 63 = some I63 := rfl
theorem ms64 (xs : List Int32) : (am_Bx xs).2.1 64 = some I64 := rfl
theorem ms65 (xs : List Int32) : (am_Bx xs).2.1 65 = some I65 := rfl
theorem ms66 (xs : List Int32) : (am_Bx xs).2.1 66 = some I66 := rfl
theorem ms67 (xs : List Int32) : (am_Bx xs).2.1 67 = some I67 := rfl
theorem ms68 (xs : List Int32) : (am_Bx xs).2.1 68 = some I68 := rfl
theorem ms69 (xs : List Int32) : (am_Bx xs).2.1 69 = some I69 := rfl
theorem ms70 (xs : List Int32) : (am_Bx xs).2.1 70 = some I70 := rfl
theorem ms71 (xs : List Int32) : (am_Bx xs).2.1 71 = some I71 := rfl
theorem ms72 (xs : List Int32) : (am_Bx xs).2.1 72 = some I72 := rfl
theorem ms73 (xs : List Int32) : (am_Bx xs).2.1 73 = some I73 := rfl
theorem ms74 (xs : List Int32) : (am_Bx xs).2.1 74 = some I74 := rfl
theorem ms75 (xs : List Int32) : (am_Bx xs).2.1 75 = some I75 := rfl
theorem ms76 (xs : List Int32) : (am_Bx xs).2.1 76 = some I76 := rfl
theorem ms77 (xs : List Int32) : (am_Bx xs).2.1 77 = some I77 := rfl
theorem ms78 (xs : List Int32) : (am_Bx xs).2.1 78 = some I78 := rfl
theorem ms79 (xs : List Int32) : (am_Bx xs).2.1 79 = some I79 := rfl
theorem ms80 (xs : List Int32) : (am_Bx xs).2.1 80 = some I80 := rfl
theorem ms81 (xs : List Int32) : (am_Bx xs).2.1 81 = some I81 := rfl
theorem ms82 (xs : List Int32) : (am_Bx xs).2.1 82 = some I82 := rfl
theorem ms83 (xs : List Int32) : (am_Bx xs).2.1 83 = some I83 := rfl
theorem ms84 (xs : List Int32) : (am_Bx xs).2.1 84 = some I84 := rfl
theorem ms85 (xs : List Int32) : (am_Bx xs).2.1 85 = some I85 := rfl
theorem ms86 (xs : List Int32) : (am_Bx xs).2.1 86 = some I86 := rfl
theorem ms87 (xs : List Int32) : (am_Bx xs).2.1 87 = some I87 := rfl
theorem ms88 (xs : List Int32) : (am_Bx xs).2.1 88 = some I88 := rfl
theorem ms89 (xs : List Int32) : (am_Bx xs).2.1 89 = some I89 := rfl
theorem ms90 (xs : List Int32) : (am_Bx xs).2.1 90 = some I90 := rfl
theorem ms91 (xs : List Int32) : (am_Bx xs).2.1 91 = some I91 := rfl
theorem ms92 (xs : List Int32) : (am_Bx xs).2.1 92 = some I92 := rfl
theorem ms93 (xs : List Int32) : (am_Bx xs).2.1 93 = some I93 := rfl
theorem ms94 (xs : List Int32) : (am_Bx xs).2.1 94 = some I94 := rfl
theorem ms95 (xs : List Int32) : (am_Bx xs).2.1 95 = some I95 := rfl
theorem ms96 (xs : List Int32) : (am_Bx xs).2.1 96 = some I96 := rfl
theorem ms97 (xs : List Int32) : (am_Bx xs).2.1 97 = some I97 := rfl
theorem ms98 (xs : List Int32) : (am_Bx xs).2.1 98 = some I98 := rfl
theorem ms99 (xs : List Int32) : (am_Bx xs).2.1 99 = some I99 := rfl
theorem ms100 (xs : List Int32) : (am_Bx xs).2.1 100 = some I100 := rfl
theorem ms101 (xs : List Int32) : (am_Bx xs).2.1 101 = some I101 := rfl
theorem ms102 (xs : List Int32) : (am_Bx xs).2.1 102 = some I102 := rfl
theorem ms103 (xs : List Int32) : (am_Bx xs).2.1 103 = some I103 := rfl
theorem ms104 (xs : List Int32) : (am_Bx xs).2.1 104 = some I104 := rfl
theorem ms105 (xs : List Int32) : (am_Bx xs).2.1 105 = some I105 := rfl
theorem ms106 (xs : List Int32) : (am_Bx xs).2.1 106 = some I106 := rfl
theorem ms107 (xs : List Int32) : (am_Bx xs).2.1 107 = some I107 := rfl
theorem ms108 (xs : List Int32) : (am_Bx xs).2.1 108 = some I108 := rfl
theorem ms109 (xs : List Int32) : (am_Bx xs).2.1 109 = some I109 := rfl
theorem ms110 (xs : List Int32) : (am_Bx xs).2.1 110 = some I110 := rfl
theorem ms111 (xs : List Int32) : (am_Bx xs).2.1 111 = some I111 := rfl
theorem ms112 (xs : List Int32) : (am_Bx xs).2.1 112 = some I112 := rfl
theorem ms113 (xs : List Int32) : (am_Bx xs).2.1 113 = some I113 := rfl
theorem ms114 (xs : List Int32) : (am_Bx xs).2.1 114 = some I114 := rfl
theorem ms115 (xs : List Int32) : (am_Bx xs).2.1 115 = some I115 := rfl
theorem ms116 (xs : List Int32) : (am_Bx xs).2.1 116 = some I116 := rfl
theorem ms117 (xs : List Int32) : (am_Bx xs).2.1 117 = some I117 := rfl
theorem ms118 (xs : List Int32) : (am_Bx xs).2.1 118 = some I118 := rfl
theorem ms119 (xs : List Int32) : (am_Bx xs).2.1 119 = some I119 := rfl
theorem ms120 (xs : List Int32) : (am_Bx xs).2.1 120 = some I120 := rfl
theorem ms121 (xs : List Int32) : (am_Bx xs).2.1 121 = some I121 := rfl
theorem ms122 (xs : List Int32) : (am_Bx xs).2.1 122 = some I122 := rfl
theorem ms123 (xs : List Int32) : (am_Bx xs).2.1 123 = some I123 := rfl
theorem ms124 (xs : List Int32) : (am_Bx xs).2.1 124 = some I124 := rfl
theorem ms125 (xs : List Int32) : (am_Bx xs).2.1 125 = some I125 := rfl
theorem ms126 (xs : List Int32) : (am_Bx xs).2.1 126 = some I126 := rfl
theorem ms127 (xs : List Int32) : (am_Bx xs).2.1 127 = some I127 := rfl
theorem ms128 (xs : List Int32) : (am_Bx xs).2.1 128 = some I128 := rfl
theorem ms129 (xs : List Int32) : (am_Bx xs).2.1 129 = some I129 := rfl
theorem ms130 (xs : List Int32) : (am_Bx xs).2.1 130 = some I130 := rfl
theorem ms131 (xs : List Int32) : (am_Bx xs).2.1 131 = some I131 := rfl
theorem ms132 (xs : List Int32) : (am_Bx xs).2.1 132 = some I132 := rfl
theorem ms133 (xs : List Int32) : (am_Bx xs).2.1 133 = some I133 := rfl
theorem ms134 (xs : List Int32) : (am_Bx xs).2.1 134 = some I134 := rfl
theorem ms135 (xs : List Int32) : (am_Bx xs).2.1 135 = some I135 := rfl
theorem ms136 (xs : List Int32) : (am_Bx xs).2.1 136 = some I136 := rfl
theorem ms137 (xs : List Int32) : (am_Bx xs).2.1 137 = some I137 := rfl
theorem ms138 (xs : List Int32) : (am_Bx xs).2.1 138 = some I138 := rfl
theorem ms139 (xs : List Int32) : (am_Bx xs).2.1 139 = some I139 := rfl
theorem ms140 (xs : List Int32) : (am_Bx xs).2.1 140 = some I140 := rfl
theorem ms141 (xs : List Int32) : (am_Bx xs).2.1 141 = some I141 := rfl
theorem ms142 (xs : List Int32) : (am_Bx xs).2.1 142 = some I142 := rfl
theorem ms143 (xs : List Int32) : (am_Bx xs).2.1 143 = some I143 := rfl
theorem ms144 (xs : List Int32) : (am_Bx xs).2.1 144 = some I144 := rfl
theorem ms145 (xs : List Int32) : (am_Bx xs).2.1 145 = some I145 := rfl
theorem ms146 (xs : List Int32) : (am_Bx xs).2.1 146 = some I146 := rfl
theorem ms147 (xs : List Int32) : (am_Bx xs).2.1 147 = some I147 := rfl
theorem ms148 (xs : List Int32) : (am_Bx xs).2.1 148 = some I148 := rfl
theorem ms149 (xs : List Int32) : (am_Bx xs).2.1 149 = some I149 := rfl
theorem ms150 (xs : List Int32) : (am_Bx xs).2.1 150 = some I150 := rfl
theorem ms151 (xs : List Int32) : (am_Bx xs).2.1 151 = some I151 := rfl
section MDX
variable {xs : List Int32} {mo : Nat} {ad : Nat → Nat} {h0 : am_H} {d : Nat} {Q : Option Value → md_S → Prop} {I : am_I} {pc : Nat} {ls : List (Option Value)} {st rest : List Value} {M M2 : md_S}
theorem md_nm (k : ∀ M1, M1 = M → md_wp xs mo ad h0 d Q I pc ls st M1) : md_wp xs mo ad h0 d Q I pc ls st M := k M rfl
theorem md_callI {idx mi n : Nat} {as : List Value} {v : Int32} {J : am_I} (hd : decode I.2.1 pc = .ok (.invokevirtual idx, 3)) (hb : am_pool I.1 idx = (4, mi, n)) (hn : as.length = n) (hrl : rest.length ≤ 8) (hJ : (am_Bx xs).2.1 mi = some J) (hJ9 : J.1 = 9) (hc : ∀ Q', Q' (some (.int v)) M → md_C xs mo ad d mi as M Q') (hst : st = as.reverse ++ .ref mo :: rest) (k : md_wp xs mo ad h0 d Q I (pc + 3) ls (.int v :: rest) M) : md_wp xs mo ad h0 d Q I pc ls st M :=
  md_call hd hb hn hrl hJ hJ9 (hc _ k) hst
theorem md_callV {idx mi n : Nat} {as : List Value} {J : am_I} (hd : decode I.2.1 pc = .ok (.invokevirtual idx, 3)) (hb : am_pool I.1 idx = (4, mi, n)) (hn : as.length = n) (hrl : rest.length ≤ 8) (hJ : (am_Bx xs).2.1 mi = some J) (hJ9 : J.1 = 9) (hc : ∀ Q', Q' none M2 → md_C xs mo ad d mi as M Q') (hst : st = as.reverse ++ .ref mo :: rest) (k : md_wp xs mo ad h0 d Q I (pc + 3) ls rest M2) : md_wp xs mo ad h0 d Q I pc ls st M :=
  md_call hd hb hn hrl hJ hJ9 (hc _ k) hst
theorem md_callS {idx mi n : Nat} {as : List Value} {v : Int32} (hd : decode I.2.1 pc = .ok (.invokestatic idx, 3)) (hb : am_pool I.1 idx = (5, mi, n)) (hn : as.length = n) (hrl : rest.length ≤ 8) (hc : ∀ Q', Q' (some (.int v)) → md_Cs xs d mi as Q') (hst : st = as.reverse ++ rest) (k : md_wp xs mo ad h0 d Q I (pc + 3) ls (.int v :: rest) M) : md_wp xs mo ad h0 d Q I pc ls st M :=
  md_calls hd hb hn hrl (hc _ k) hst
theorem md_callIM {idx mi n : Nat} {as : List Value} {v : Int32} {J : am_I} (hd : decode I.2.1 pc = .ok (.invokevirtual idx, 3)) (hb : am_pool I.1 idx = (4, mi, n)) (hn : as.length = n) (hrl : rest.length ≤ 8) (hJ : (am_Bx xs).2.1 mi = some J) (hJ9 : J.1 = 9) (hc : ∀ Q', Q' (some (.int v)) M2 → md_C xs mo ad d mi as M Q') (hst : st = as.reverse ++ .ref mo :: rest) (k : md_wp xs mo ad h0 d Q I (pc + 3) ls (.int v :: rest) M2) : md_wp xs mo ad h0 d Q I pc ls st M :=
  md_call hd hb hn hrl hJ hJ9 (hc _ k) hst
end MDX
