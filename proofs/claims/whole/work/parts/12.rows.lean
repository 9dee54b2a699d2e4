theorem F1_9 : im_fld 1 9 = some (1, 0, 0, 33) := by decide +kernel
theorem F2_152 : im_fld 2 152 = some (1, 0, 0, 34) := by decide +kernel
theorem F9_434 : im_fld 9 434 = some (1, 0, 0, 35) := by decide +kernel
theorem F1_15 : im_fld 1 15 = some (1, 1, 0, 36) := by decide +kernel
theorem F2_155 : im_fld 2 155 = some (1, 1, 0, 37) := by decide +kernel
theorem F9_437 : im_fld 9 437 = some (1, 1, 0, 38) := by decide +kernel
theorem F1_18 : im_fld 1 18 = some (1, 2, 0, 39) := by decide +kernel
theorem F3_37 : im_fld 3 37 = some (1, 2, 0, 40) := by decide +kernel
theorem F7_40 : im_fld 7 40 = some (1, 2, 0, 41) := by decide +kernel
theorem F2_158 : im_fld 2 158 = some (1, 2, 0, 42) := by decide +kernel
theorem F9_227 : im_fld 9 227 = some (1, 2, 0, 43) := by decide +kernel
theorem F1_21 : im_fld 1 21 = some (1, 3, 0, 44) := by decide +kernel
theorem F9_125 : im_fld 9 125 = some (1, 3, 0, 45) := by decide +kernel
theorem F1_24 : im_fld 1 24 = some (1, 4, 0, 46) := by decide +kernel
theorem F6_25 : im_fld 6 25 = some (1, 4, 0, 47) := by decide +kernel
theorem F7_90 : im_fld 7 90 = some (1, 4, 0, 48) := by decide +kernel
theorem F9_263 : im_fld 9 263 = some (1, 4, 0, 49) := by decide +kernel
theorem F1_27 : im_fld 1 27 = some (1, 5, 0, 50) := by decide +kernel
theorem F7_93 : im_fld 7 93 = some (1, 5, 0, 51) := by decide +kernel
theorem F1_30 : im_fld 1 30 = some (1, 6, 1, 52) := by decide +kernel
theorem F9_189 : im_fld 9 189 = some (1, 6, 1, 53) := by decide +kernel
theorem F1_34 : im_fld 1 34 = some (1, 7, 1, 54) := by decide +kernel
theorem F9_192 : im_fld 9 192 = some (1, 7, 1, 55) := by decide +kernel
theorem F1_37 : im_fld 1 37 = some (1, 8, 1, 56) := by decide +kernel
theorem F9_195 : im_fld 9 195 = some (1, 8, 1, 57) := by decide +kernel
theorem F1_40 : im_fld 1 40 = some (1, 9, 1, 58) := by decide +kernel
theorem F9_198 : im_fld 9 198 = some (1, 9, 1, 59) := by decide +kernel
theorem F1_43 : im_fld 1 43 = some (1, 10, 1, 60) := by decide +kernel
theorem F9_207 : im_fld 9 207 = some (1, 10, 1, 61) := by decide +kernel
theorem F1_46 : im_fld 1 46 = some (1, 11, 1, 62) := by decide +kernel
theorem F3_26 : im_fld 3 26 = some (1, 11, 1, 63) := by decide +kernel
theorem F1_49 : im_fld 1 49 = some (1, 12, 1, 64) := by decide +kernel
theorem F7_49 : im_fld 7 49 = some (1, 12, 1, 65) := by decide +kernel
theorem F9_210 : im_fld 9 210 = some (1, 12, 1, 66) := by decide +kernel
theorem F1_52 : im_fld 1 52 = some (1, 13, 1, 67) := by decide +kernel
theorem F9_213 : im_fld 9 213 = some (1, 13, 1, 68) := by decide +kernel
theorem F1_55 : im_fld 1 55 = some (1, 14, 1, 69) := by decide +kernel
theorem F5_9 : im_fld 5 9 = some (5, 0, 0, 108) := by decide +kernel
theorem F2_192 : im_fld 2 192 = some (5, 0, 0, 109) := by decide +kernel
theorem F9_428 : im_fld 9 428 = some (5, 0, 0, 110) := by decide +kernel
theorem F5_15 : im_fld 5 15 = some (5, 1, 0, 111) := by decide +kernel
theorem F6_35 : im_fld 6 35 = some (5, 1, 0, 112) := by decide +kernel
theorem F2_203 : im_fld 2 203 = some (5, 1, 0, 113) := by decide +kernel
theorem F9_321 : im_fld 9 321 = some (5, 1, 0, 114) := by decide +kernel
theorem F5_18 : im_fld 5 18 = some (5, 2, 0, 115) := by decide +kernel
theorem F2_209 : im_fld 2 209 = some (5, 2, 0, 116) := by decide +kernel
theorem F9_310 : im_fld 9 310 = some (5, 2, 0, 117) := by decide +kernel
theorem F5_21 : im_fld 5 21 = some (5, 3, 0, 118) := by decide +kernel
theorem F2_218 : im_fld 2 218 = some (5, 3, 0, 119) := by decide +kernel
theorem F9_431 : im_fld 9 431 = some (5, 3, 0, 120) := by decide +kernel
theorem F5_24 : im_fld 5 24 = some (5, 4, 1, 121) := by decide +kernel
theorem F9_327 : im_fld 9 327 = some (5, 4, 1, 122) := by decide +kernel
theorem F5_28 : im_fld 5 28 = some (5, 5, 1, 123) := by decide +kernel
theorem F9_330 : im_fld 9 330 = some (5, 5, 1, 124) := by decide +kernel
theorem F5_31 : im_fld 5 31 = some (5, 6, 1, 125) := by decide +kernel
theorem F9_156 : im_fld 9 156 = some (5, 6, 1, 126) := by decide +kernel
theorem F5_34 : im_fld 5 34 = some (5, 7, 1, 127) := by decide +kernel
theorem F6_40 : im_fld 6 40 = some (5, 7, 1, 128) := by decide +kernel
theorem F9_348 : im_fld 9 348 = some (5, 7, 1, 129) := by decide +kernel
theorem F5_37 : im_fld 5 37 = some (5, 8, 1, 130) := by decide +kernel
theorem F6_43 : im_fld 6 43 = some (5, 8, 1, 131) := by decide +kernel
theorem F9_351 : im_fld 9 351 = some (5, 8, 1, 132) := by decide +kernel
theorem F5_40 : im_fld 5 40 = some (5, 9, 1, 133) := by decide +kernel
theorem F6_53 : im_fld 6 53 = some (5, 9, 1, 134) := by decide +kernel
theorem F5_43 : im_fld 5 43 = some (5, 10, 1, 135) := by decide +kernel
theorem F2_215 : im_fld 2 215 = some (5, 10, 1, 136) := by decide +kernel
theorem F9_378 : im_fld 9 378 = some (5, 10, 1, 137) := by decide +kernel
theorem F5_46 : im_fld 5 46 = some (5, 11, 1, 138) := by decide +kernel
theorem F2_212 : im_fld 2 212 = some (5, 11, 1, 139) := by decide +kernel
theorem F5_49 : im_fld 5 49 = some (5, 12, 1, 140) := by decide +kernel
theorem F9_375 : im_fld 9 375 = some (5, 12, 1, 141) := by decide +kernel
theorem F5_52 : im_fld 5 52 = some (5, 13, 1, 142) := by decide +kernel
theorem F8_9 : im_fld 8 9 = some (8, 0, 0, 178) := by decide +kernel
theorem F9_78 : im_fld 9 78 = some (8, 0, 0, 179) := by decide +kernel
theorem F8_15 : im_fld 8 15 = some (8, 1, 1, 180) := by decide +kernel
theorem F2_73 : im_fld 2 73 = some (8, 1, 1, 181) := by decide +kernel
theorem F3_9 : im_fld 3 9 = some (3, 0, 0, 193) := by decide +kernel
theorem F9_223 : im_fld 9 223 = some (3, 0, 0, 194) := by decide +kernel
theorem F3_15 : im_fld 3 15 = some (3, 1, 1, 195) := by decide +kernel
theorem F9_224 : im_fld 9 224 = some (3, 1, 1, 196) := by decide +kernel
theorem F3_19 : im_fld 3 19 = some (3, 2, 1, 197) := by decide +kernel
theorem F0_9 : im_fld 0 9 = some (0, 0, 0, 211) := by decide +kernel
theorem F9_105 : im_fld 9 105 = some (0, 0, 0, 212) := by decide +kernel
theorem F0_15 : im_fld 0 15 = some (0, 1, 0, 213) := by decide +kernel
theorem F0_18 : im_fld 0 18 = some (0, 2, 1, 214) := by decide +kernel
theorem F9_164 : im_fld 9 164 = some (0, 2, 1, 215) := by decide +kernel
theorem F0_22 : im_fld 0 22 = some (0, 3, 1, 216) := by decide +kernel
theorem F9_167 : im_fld 9 167 = some (0, 3, 1, 217) := by decide +kernel
theorem F0_25 : im_fld 0 25 = some (0, 4, 1, 218) := by decide +kernel
theorem F9_170 : im_fld 9 170 = some (0, 4, 1, 219) := by decide +kernel
theorem F7_9 : im_fld 7 9 = some (7, 0, 0, 237) := by decide +kernel
theorem F9_185 : im_fld 9 185 = some (7, 0, 0, 238) := by decide +kernel
theorem F7_15 : im_fld 7 15 = some (7, 1, 0, 239) := by decide +kernel
theorem F9_186 : im_fld 9 186 = some (7, 1, 0, 240) := by decide +kernel
theorem F7_18 : im_fld 7 18 = some (7, 2, 0, 241) := by decide +kernel
theorem F9_236 : im_fld 9 236 = some (7, 2, 0, 242) := by decide +kernel
theorem F7_22 : im_fld 7 22 = some (7, 3, 1, 243) := by decide +kernel
theorem F7_26 : im_fld 7 26 = some (7, 4, 1, 244) := by decide +kernel
theorem F7_29 : im_fld 7 29 = some (7, 5, 1, 245) := by decide +kernel
theorem F7_32 : im_fld 7 32 = some (7, 6, 1, 246) := by decide +kernel
theorem F6_9 : im_fld 6 9 = some (6, 0, 0, 269) := by decide +kernel
theorem F9_149 : im_fld 9 149 = some (6, 0, 0, 270) := by decide +kernel
theorem F6_15 : im_fld 6 15 = some (6, 1, 1, 271) := by decide +kernel
theorem F9_278 : im_fld 9 278 = some (6, 1, 1, 272) := by decide +kernel
theorem F6_19 : im_fld 6 19 = some (6, 2, 1, 273) := by decide +kernel
theorem F9_290 : im_fld 9 290 = some (6, 2, 1, 274) := by decide +kernel
theorem F6_22 : im_fld 6 22 = some (6, 3, 1, 275) := by decide +kernel
theorem F9_293 : im_fld 9 293 = some (6, 3, 1, 276) := by decide +kernel
theorem F4_9 : im_fld 4 9 = some (4, 0, 0, 293) := by decide +kernel
theorem F9_394 : im_fld 9 394 = some (4, 0, 0, 294) := by decide +kernel
theorem F4_15 : im_fld 4 15 = some (4, 1, 0, 295) := by decide +kernel
theorem F9_404 : im_fld 9 404 = some (4, 1, 0, 296) := by decide +kernel
theorem F4_19 : im_fld 4 19 = some (4, 2, 0, 297) := by decide +kernel
theorem F9_397 : im_fld 9 397 = some (4, 2, 0, 298) := by decide +kernel
theorem F4_22 : im_fld 4 22 = some (4, 3, 1, 299) := by decide +kernel
theorem F9_398 : im_fld 9 398 = some (4, 3, 1, 300) := by decide +kernel
theorem F9_10 : im_fld 9 10 = some (9, 0, 0, 310) := by decide +kernel
theorem F9_16 : im_fld 9 16 = some (9, 1, 0, 311) := by decide +kernel
theorem F9_22 : im_fld 9 22 = some (9, 2, 0, 312) := by decide +kernel
theorem F9_26 : im_fld 9 26 = some (9, 3, 0, 313) := by decide +kernel
theorem F9_32 : im_fld 9 32 = some (9, 4, 1, 314) := by decide +kernel
theorem F9_39 : im_fld 9 39 = some (9, 5, 1, 315) := by decide +kernel
theorem F9_46 : im_fld 9 46 = some (9, 6, 1, 316) := by decide +kernel
theorem F9_53 : im_fld 9 53 = some (9, 7, 1, 317) := by decide +kernel
theorem F9_60 : im_fld 9 60 = some (9, 8, 1, 318) := by decide +kernel
theorem F9_66 : im_fld 9 66 = some (9, 9, 1, 319) := by decide +kernel
theorem F9_71 : im_fld 9 71 = some (9, 10, 0, 320) := by decide +kernel
theorem F9_75 : im_fld 9 75 = some (9, 11, 0, 321) := by decide +kernel
theorem F2_9 : im_fld 2 9 = some (2, 0, 0, 365) := by decide +kernel
theorem F9_93 : im_fld 9 93 = some (2, 0, 0, 366) := by decide +kernel
theorem F2_15 : im_fld 2 15 = some (2, 1, 0, 367) := by decide +kernel
theorem F9_96 : im_fld 9 96 = some (2, 1, 0, 368) := by decide +kernel
theorem F2_18 : im_fld 2 18 = some (2, 2, 0, 369) := by decide +kernel
theorem F9_102 : im_fld 9 102 = some (2, 2, 0, 370) := by decide +kernel
theorem F2_36 : im_fld 2 36 = some (2, 3, 1, 371) := by decide +kernel
theorem F2_40 : im_fld 2 40 = some (2, 4, 1, 372) := by decide +kernel
theorem F2_43 : im_fld 2 43 = some (2, 5, 1, 373) := by decide +kernel
theorem F2_47 : im_fld 2 47 = some (2, 6, 1, 374) := by decide +kernel
theorem F2_51 : im_fld 2 51 = some (2, 7, 1, 375) := by decide +kernel
theorem F2_21 : im_fld 2 21 = some (2, 8, 0, 376) := by decide +kernel
theorem F2_24 : im_fld 2 24 = some (2, 9, 0, 377) := by decide +kernel
theorem F2_27 : im_fld 2 27 = some (2, 10, 0, 378) := by decide +kernel
theorem F2_30 : im_fld 2 30 = some (2, 11, 0, 379) := by decide +kernel
theorem F2_33 : im_fld 2 33 = some (2, 12, 0, 380) := by decide +kernel
theorem F10_13 : im_fld 10 13 = some (10, 0, 1, 1099) := by decide +kernel
theorem F10_17 : im_fld 10 17 = some (10, 1, 1, 1100) := by decide +kernel
theorem F10_20 : im_fld 10 20 = some (10, 2, 1, 1101) := by decide +kernel
theorem F10_193 : im_fld 10 193 = some (10, 3, 0, 1102) := by decide +kernel
theorem F10_1 : im_fld 10 1 = some (10, 4, 0, 1103) := by decide +kernel
theorem F10_23 : im_fld 10 23 = some (10, 5, 1, 1104) := by decide +kernel
theorem F10_67 : im_fld 10 67 = some (10, 6, 0, 1105) := by decide +kernel
theorem F10_73 : im_fld 10 73 = some (10, 7, 0, 1106) := by decide +kernel
theorem F10_70 : im_fld 10 70 = some (10, 8, 0, 1107) := by decide +kernel
theorem F10_76 : im_fld 10 76 = some (10, 9, 0, 1108) := by decide +kernel
theorem F10_27 : im_fld 10 27 = some (10, 10, 0, 1109) := by decide +kernel
theorem F10_120 : im_fld 10 120 = some (10, 11, 0, 1110) := by decide +kernel
theorem F10_126 : im_fld 10 126 = some (10, 12, 0, 1111) := by decide +kernel
theorem F10_30 : im_fld 10 30 = some (10, 13, 1, 1112) := by decide +kernel
theorem F10_33 : im_fld 10 33 = some (10, 14, 1, 1113) := by decide +kernel
theorem F10_212 : im_fld 10 212 = some (10, 15, 0, 1114) := by decide +kernel
theorem F10_36 : im_fld 10 36 = some (10, 16, 1, 1115) := by decide +kernel
theorem F10_39 : im_fld 10 39 = some (10, 17, 1, 1116) := by decide +kernel
theorem F10_218 : im_fld 10 218 = some (10, 18, 0, 1117) := by decide +kernel
theorem F10_42 : im_fld 10 42 = some (10, 19, 1, 1118) := by decide +kernel
theorem F10_273 : im_fld 10 273 = some (10, 20, 0, 1119) := by decide +kernel
theorem F10_46 : im_fld 10 46 = some (10, 21, 1, 1120) := by decide +kernel
theorem F10_328 : im_fld 10 328 = some (10, 22, 0, 1121) := by decide +kernel
theorem F10_331 : im_fld 10 331 = some (10, 23, 0, 1122) := by decide +kernel
theorem F10_49 : im_fld 10 49 = some (10, 24, 1, 1123) := by decide +kernel
theorem F10_52 : im_fld 10 52 = some (10, 25, 1, 1124) := by decide +kernel
theorem F10_55 : im_fld 10 55 = some (10, 26, 1, 1125) := by decide +kernel
theorem F10_58 : im_fld 10 58 = some (10, 27, 1, 1126) := by decide +kernel
theorem F10_61 : im_fld 10 61 = some (10, 28, 1, 1127) := by decide +kernel
theorem F12_9 : im_fld 12 9 = some (12, 0, 1, 1616) := by decide +kernel
theorem F12_15 : im_fld 12 15 = some (12, 1, 1, 1617) := by decide +kernel
theorem S12_38 : im_sta 12 38 = some (2, 0, 455) := by decide +kernel
theorem S12_1053 : im_sta 12 1053 = some (3, 0, 471) := by decide +kernel
theorem S2_161 : im_sta 2 161 = some (0, 1, 512) := by decide +kernel
theorem S1_66 : im_sta 1 66 = some (0, 1, 518) := by decide +kernel
theorem S1_69 : im_sta 1 69 = some (1, 1, 519) := by decide +kernel
theorem K15_264 : im_cst 15 264 = some (.inl (.int 65536), 585) := by decide +kernel
theorem K9_239 : im_cst 9 239 = some (.inl (.long (-2)), 774) := by decide +kernel
theorem K15_265 : im_cst 15 265 = some (.inl (.int 1431655765), 787) := by decide +kernel
theorem K15_266 : im_cst 15 266 = some (.inl (.int 858993459), 788) := by decide +kernel
theorem K15_267 : im_cst 15 267 = some (.inl (.int 252645135), 789) := by decide +kernel
theorem K9_336 : im_cst 9 336 = some (.inl (.float 1258291200), 905) := by decide +kernel
theorem K9_340 : im_cst 9 340 = some (.inl (.long (-1)), 965) := by decide +kernel
theorem K7_88 : im_cst 7 88 = some (.inl (.long 1000), 994) := by decide +kernel
theorem K9_384 : im_cst 9 384 = some (.inl (.int 100000), 1016) := by decide +kernel
theorem K9_416 : im_cst 9 416 = some (.inl (.long (-6)), 1055) := by decide +kernel
theorem K10_79 : im_cst 10 79 = some (.inl (.long 97), 1213) := by decide +kernel
theorem K10_81 : im_cst 10 81 = some (.inl (.long 122), 1214) := by decide +kernel
theorem K10_87 : im_cst 10 87 = some (.inl (.long 48), 1241) := by decide +kernel
theorem K10_89 : im_cst 10 89 = some (.inl (.long 57), 1242) := by decide +kernel
theorem K10_238 : im_cst 10 238 = some (.inl (.long (-1)), 1361) := by decide +kernel
theorem K10_243 : im_cst 10 243 = some (.inl (.long 99), 1370) := by decide +kernel
theorem K10_248 : im_cst 10 248 = some (.inl (.long 9), 1379) := by decide +kernel
theorem K10_267 : im_cst 10 267 = some (.inl (.long (-2)), 1424) := by decide +kernel
theorem K10_269 : im_cst 10 269 = some (.inl (.long 2), 1437) := by decide +kernel
theorem K10_271 : im_cst 10 271 = some (.inl (.long 1000), 1438) := by decide +kernel
theorem K10_316 : im_cst 10 316 = some (.inl (.int 1065353216), 1530) := by decide +kernel
theorem K10_311 : im_cst 10 311 = some (.inl (.int 8388607), 1534) := by decide +kernel
theorem K10_312 : im_cst 10 312 = some (.inl (.int 8388608), 1535) := by decide +kernel
theorem K10_326 : im_cst 10 326 = some (.inl (.long 3), 1549) := by decide +kernel
theorem K10_343 : im_cst 10 343 = some (.inl (.int 100000), 1582) := by decide +kernel
theorem K10_347 : im_cst 10 347 = some (.inl (.long 12), 1590) := by decide +kernel
theorem K10_349 : im_cst 10 349 = some (.inl (.long (-6)), 1607) := by decide +kernel
theorem K2_102 : im_cst 2 102 = some (.inr 4, 442) := by decide +kernel
theorem K2_110 : im_cst 2 110 = some (.inr 5, 507) := by decide +kernel
theorem K2_115 : im_cst 2 115 = some (.inr 6, 529) := by decide +kernel
theorem K2_120 : im_cst 2 120 = some (.inr 7, 542) := by decide +kernel
theorem K2_125 : im_cst 2 125 = some (.inr 8, 594) := by decide +kernel
theorem K2_130 : im_cst 2 130 = some (.inr 9, 607) := by decide +kernel
theorem K2_135 : im_cst 2 135 = some (.inr 10, 616) := by decide +kernel
theorem K2_140 : im_cst 2 140 = some (.inr 11, 621) := by decide +kernel
theorem K10_102 : im_cst 10 102 = some (.inr 12, 1219) := by decide +kernel
theorem N11_7 : im_new 11 7 = some (9, 19, 20, 1) := by decide +kernel
theorem N9_7 : im_new 9 7 = some (1, 27, 28, 2) := by decide +kernel
theorem N9_19 : im_new 9 19 = some (5, 102, 103, 3) := by decide +kernel
theorem N9_29 : im_new 9 29 = some (8, 172, 173, 4) := by decide +kernel
theorem N9_36 : im_new 9 36 = some (3, 187, 188, 5) := by decide +kernel
theorem N9_43 : im_new 9 43 = some (0, 205, 206, 6) := by decide +kernel
theorem N9_50 : im_new 9 50 = some (7, 231, 232, 7) := by decide +kernel
theorem N9_57 : im_new 9 57 = some (6, 263, 264, 8) := by decide +kernel
theorem N9_64 : im_new 9 64 = some (4, 286, 288, 9) := by decide +kernel
theorem N9_85 : im_new 9 85 = some (2, 359, 360, 11) := by decide +kernel
theorem N11_10 : im_new 11 10 = some (10, 1089, 1090, 10) := by decide +kernel
theorem M11_9 : im_mtd 11 9 = some (2, 99, 1, 21, 22, 0) := by decide +kernel
theorem M9_1 : im_mtd 9 1 = some (5, 0, 1, 24, 25, 26) := by decide +kernel
theorem M9_9 : im_mtd 9 9 = some (3, 3, 1, 29, 30, 0) := by decide +kernel
theorem M1_3 : im_mtd 1 3 = some (5, 0, 1, 32, 25, 26) := by decide +kernel
theorem M9_21 : im_mtd 9 21 = some (3, 62, 1, 104, 105, 0) := by decide +kernel
theorem M5_3 : im_mtd 5 3 = some (5, 0, 1, 107, 25, 26) := by decide +kernel
theorem M9_31 : im_mtd 9 31 = some (3, 97, 1, 174, 175, 0) := by decide +kernel
theorem M8_3 : im_mtd 8 3 = some (5, 0, 1, 177, 25, 26) := by decide +kernel
theorem M9_38 : im_mtd 9 38 = some (3, 55, 1, 189, 190, 0) := by decide +kernel
theorem M3_3 : im_mtd 3 3 = some (5, 0, 1, 192, 25, 26) := by decide +kernel
theorem M9_45 : im_mtd 9 45 = some (3, 0, 1, 207, 208, 0) := by decide +kernel
theorem M0_3 : im_mtd 0 3 = some (5, 0, 1, 210, 25, 26) := by decide +kernel
theorem M9_52 : im_mtd 9 52 = some (3, 84, 1, 233, 234, 0) := by decide +kernel
theorem M7_3 : im_mtd 7 3 = some (5, 0, 1, 236, 25, 26) := by decide +kernel
theorem M9_59 : im_mtd 9 59 = some (3, 81, 1, 265, 266, 0) := by decide +kernel
theorem M6_3 : im_mtd 6 3 = some (5, 0, 1, 268, 25, 26) := by decide +kernel
theorem M9_70 : im_mtd 9 70 = some (3, 58, 1, 289, 290, 0) := by decide +kernel
theorem M4_3 : im_mtd 4 3 = some (5, 0, 1, 292, 25, 26) := by decide +kernel
theorem M11_13 : im_mtd 11 13 = some (0, 100, 6, 347, 348, 434) := by decide +kernel
theorem M9_81 : im_mtd 9 81 = some (0, 98, 2, 351, 352, 438) := by decide +kernel
theorem M11_18 : im_mtd 11 18 = some (0, 101, 2, 355, 356, 442) := by decide +kernel
theorem M9_87 : im_mtd 9 87 = some (2, 35, 6, 361, 362, 0) := by decide +kernel
theorem M2_3 : im_mtd 2 3 = some (5, 0, 1, 364, 25, 26) := by decide +kernel
theorem M9_90 : im_mtd 9 90 = some (0, 36, 1, 408, 409, 495) := by decide +kernel
theorem M2_55 : im_mtd 2 55 = some (0, 4, 1, 412, 413, 499) := by decide +kernel
theorem M2_60 : im_mtd 2 60 = some (0, 63, 1, 416, 417, 503) := by decide +kernel
theorem M2_63 : im_mtd 2 63 = some (0, 37, 1, 420, 422, 0) := by decide +kernel
theorem M2_79 : im_mtd 2 79 = some (1, 40, 1, 424, 425, 0) := by decide +kernel
theorem M2_83 : im_mtd 2 83 = some (0, 38, 1, 427, 429, 1) := by decide +kernel
theorem M2_86 : im_mtd 2 86 = some (1, 41, 1, 431, 432, 0) := by decide +kernel
theorem M2_89 : im_mtd 2 89 = some (0, 39, 1, 434, 436, 2) := by decide +kernel
theorem M2_66 : im_mtd 2 66 = some (0, 44, 1, 438, 440, 3) := by decide +kernel
theorem M2_103 : im_mtd 2 103 = some (0, 42, 2, 443, 445, 4) := by decide +kernel
theorem M2_92 : im_mtd 2 92 = some (0, 264, 1, 447, 448, 534) := by decide +kernel
theorem M12_335 : im_mtd 12 335 = some (0, 266, 1, 451, 452, 538) := by decide +kernel
theorem M2_98 : im_mtd 2 98 = some (0, 265, 2, 457, 458, 544) := by decide +kernel
theorem M12_492 : im_mtd 12 492 = some (0, 267, 1, 461, 462, 548) := by decide +kernel
theorem M12_495 : im_mtd 12 495 = some (1, 269, 2, 465, 466, 0) := by decide +kernel
theorem M13_9 : im_mtd 13 9 = some (1, 268, 2, 468, 469, 0) := by decide +kernel
theorem M12_1059 : im_mtd 12 1059 = some (1, 270, 3, 473, 474, 0) := by decide +kernel
theorem M2_107 : im_mtd 2 107 = some (0, 47, 1, 495, 497, 5) := by decide +kernel
theorem M2_145 : im_mtd 2 145 = some (0, 43, 3, 499, 501, 6) := by decide +kernel
theorem M2_149 : im_mtd 2 149 = some (0, 46, 3, 503, 505, 7) := by decide +kernel
theorem M2_112 : im_mtd 2 112 = some (0, 48, 1, 508, 510, 8) := by decide +kernel
theorem M2_164 : im_mtd 2 164 = some (0, 10, 5, 514, 515, 601) := by decide +kernel
theorem M1_62 : im_mtd 1 62 = some (0, 8, 3, 521, 522, 608) := by decide +kernel
theorem M2_168 : im_mtd 2 168 = some (0, 11, 5, 525, 526, 612) := by decide +kernel
theorem M2_117 : im_mtd 2 117 = some (0, 49, 1, 530, 532, 9) := by decide +kernel
theorem M2_172 : im_mtd 2 172 = some (0, 25, 3, 534, 535, 621) := by decide +kernel
theorem M2_175 : im_mtd 2 175 = some (0, 24, 3, 538, 539, 625) := by decide +kernel
theorem M2_122 : im_mtd 2 122 = some (0, 50, 1, 543, 545, 10) := by decide +kernel
theorem M2_179 : im_mtd 2 179 = some (4, 110, 3, 547, 548, 0) := by decide +kernel
theorem M9_128 : im_mtd 9 128 = some (0, 6, 2, 550, 551, 637) := by decide +kernel
theorem M9_176 : im_mtd 9 176 = some (0, 17, 3, 554, 555, 641) := by decide +kernel
theorem M1_82 : im_mtd 1 82 = some (0, 14, 3, 558, 559, 645) := by decide +kernel
theorem M1_85 : im_mtd 1 85 = some (0, 15, 3, 562, 563, 649) := by decide +kernel
theorem M9_179 : im_mtd 9 179 = some (0, 16, 3, 566, 567, 653) := by decide +kernel
theorem M9_182 : im_mtd 9 182 = some (0, 18, 3, 570, 571, 657) := by decide +kernel
theorem M2_183 : im_mtd 2 183 = some (0, 56, 4, 574, 575, 661) := by decide +kernel
theorem M3_22 : im_mtd 3 22 = some (0, 57, 4, 578, 580, 11) := by decide +kernel
theorem M3_31 : im_mtd 3 31 = some (1, 262, 1, 582, 583, 0) := by decide +kernel
theorem M2_189 : im_mtd 2 189 = some (0, 19, 3, 586, 587, 673) := by decide +kernel
theorem M1_88 : im_mtd 1 88 = some (0, 21, 3, 590, 592, 12) := by decide +kernel
theorem M2_127 : im_mtd 2 127 = some (0, 51, 1, 595, 597, 13) := by decide +kernel
theorem M2_195 : im_mtd 2 195 = some (0, 68, 2, 599, 600, 686) := by decide +kernel
theorem M2_199 : im_mtd 2 199 = some (0, 69, 4, 603, 604, 690) := by decide +kernel
theorem M2_132 : im_mtd 2 132 = some (0, 52, 1, 608, 610, 14) := by decide +kernel
theorem M2_206 : im_mtd 2 206 = some (0, 70, 3, 612, 613, 699) := by decide +kernel
theorem M2_137 : im_mtd 2 137 = some (0, 53, 1, 617, 619, 15) := by decide +kernel
theorem M2_142 : im_mtd 2 142 = some (0, 54, 1, 622, 624, 16) := by decide +kernel
theorem M2_221 : im_mtd 2 221 = some (8, 0, 2, 626, 627, 628) := by decide +kernel
theorem M2_227 : im_mtd 2 227 = some (0, 71, 3, 629, 630, 716) := by decide +kernel
theorem M2_230 : im_mtd 2 230 = some (0, 72, 3, 633, 634, 720) := by decide +kernel
theorem M2_70 : im_mtd 2 70 = some (0, 45, 1, 637, 639, 17) := by decide +kernel
theorem M9_99 : im_mtd 9 99 = some (0, 102, 1, 641, 643, 18) := by decide +kernel
theorem M9_106 : im_mtd 9 106 = some (0, 111, 1, 645, 647, 19) := by decide +kernel
theorem M11_23 : im_mtd 11 23 = some (0, 103, 2, 650, 651, 737) := by decide +kernel
theorem M11_27 : im_mtd 11 27 = some (0, 104, 3, 654, 655, 741) := by decide +kernel
theorem M9_109 : im_mtd 9 109 = some (1, 110, 3, 658, 548, 0) := by decide +kernel
theorem M9_113 : im_mtd 9 113 = some (0, 56, 4, 659, 575, 661) := by decide +kernel
theorem M9_117 : im_mtd 9 117 = some (0, 19, 3, 660, 587, 673) := by decide +kernel
theorem M9_121 : im_mtd 9 121 = some (0, 1, 4, 661, 662, 748) := by decide +kernel
theorem M0_28 : im_mtd 0 28 = some (8, 0, 2, 665, 627, 628) := by decide +kernel
theorem M11_32 : im_mtd 11 32 = some (0, 105, 3, 666, 667, 753) := by decide +kernel
theorem M9_132 : im_mtd 9 132 = some (0, 15, 3, 670, 563, 649) := by decide +kernel
theorem M9_136 : im_mtd 9 136 = some (0, 20, 3, 671, 672, 758) := by decide +kernel
theorem M11_36 : im_mtd 11 36 = some (0, 106, 3, 675, 676, 762) := by decide +kernel
theorem M9_139 : im_mtd 9 139 = some (0, 25, 3, 679, 535, 621) := by decide +kernel
theorem M9_142 : im_mtd 9 142 = some (0, 23, 2, 680, 681, 767) := by decide +kernel
theorem M9_146 : im_mtd 9 146 = some (0, 24, 3, 684, 539, 625) := by decide +kernel
theorem M11_40 : im_mtd 11 40 = some (0, 107, 3, 685, 686, 772) := by decide +kernel
theorem M9_153 : im_mtd 9 153 = some (0, 64, 2, 689, 690, 776) := by decide +kernel
theorem M11_44 : im_mtd 11 44 = some (0, 108, 1, 693, 694, 780) := by decide +kernel
theorem M9_160 : im_mtd 9 160 = some (0, 2, 1, 697, 698, 784) := by decide +kernel
theorem M9_173 : im_mtd 9 173 = some (0, 109, 4, 701, 703, 20) := by decide +kernel
theorem M11_49 : im_mtd 11 49 = some (0, 112, 3, 705, 706, 792) := by decide +kernel
theorem M9_201 : im_mtd 9 201 = some (0, 27, 2, 709, 710, 796) := by decide +kernel
theorem M9_204 : im_mtd 9 204 = some (0, 30, 2, 713, 714, 800) := by decide +kernel
theorem M1_92 : im_mtd 1 92 = some (0, 28, 2, 717, 718, 804) := by decide +kernel
theorem M11_53 : im_mtd 11 53 = some (0, 113, 3, 721, 722, 808) := by decide +kernel
theorem M9_216 : im_mtd 9 216 = some (0, 7, 3, 725, 726, 812) := by decide +kernel
theorem M1_58 : im_mtd 1 58 = some (0, 6, 2, 729, 551, 637) := by decide +kernel
theorem M9_219 : im_mtd 9 219 = some (0, 12, 3, 730, 731, 817) := by decide +kernel
theorem M1_72 : im_mtd 1 72 = some (0, 9, 3, 734, 735, 821) := by decide +kernel
theorem M11_57 : im_mtd 11 57 = some (0, 114, 2, 738, 739, 825) := by decide +kernel
theorem M11_61 : im_mtd 11 61 = some (0, 115, 2, 742, 743, 829) := by decide +kernel
theorem M9_229 : im_mtd 9 229 = some (0, 29, 2, 746, 747, 833) := by decide +kernel
theorem M1_95 : im_mtd 1 95 = some (1, 261, 1, 750, 751, 0) := by decide +kernel
theorem M1_98 : im_mtd 1 98 = some (1, 262, 1, 753, 583, 0) := by decide +kernel
theorem M11_65 : im_mtd 11 65 = some (0, 116, 1, 754, 755, 841) := by decide +kernel
theorem M9_232 : im_mtd 9 232 = some (0, 85, 2, 758, 759, 845) := by decide +kernel
theorem M7_36 : im_mtd 7 36 = some (0, 87, 2, 762, 764, 21) := by decide +kernel
theorem M7_45 : im_mtd 7 45 = some (0, 88, 3, 766, 768, 22) := by decide +kernel
theorem M11_70 : im_mtd 11 70 = some (0, 117, 3, 770, 771, 857) := by decide +kernel
theorem M9_241 : im_mtd 9 241 = some (0, 89, 2, 775, 776, 862) := by decide +kernel
theorem M7_52 : im_mtd 7 52 = some (0, 85, 2, 779, 759, 845) := by decide +kernel
theorem M7_56 : im_mtd 7 56 = some (0, 90, 3, 780, 782, 23) := by decide +kernel
theorem M7_59 : im_mtd 7 59 = some (1, 263, 1, 784, 785, 0) := by decide +kernel
theorem M7_65 : im_mtd 7 65 = some (0, 91, 4, 790, 792, 24) := by decide +kernel
theorem M9_244 : im_mtd 9 244 = some (0, 92, 3, 794, 795, 881) := by decide +kernel
theorem M11_75 : im_mtd 11 75 = some (0, 118, 1, 798, 799, 885) := by decide +kernel
theorem M9_247 : im_mtd 9 247 = some (0, 96, 2, 802, 803, 889) := by decide +kernel
theorem M11_79 : im_mtd 11 79 = some (0, 119, 1, 806, 807, 893) := by decide +kernel
theorem M9_251 : im_mtd 9 251 = some (0, 31, 1, 810, 811, 897) := by decide +kernel
theorem M1_101 : im_mtd 1 101 = some (0, 30, 2, 814, 714, 800) := by decide +kernel
theorem M1_104 : im_mtd 1 104 = some (7, 0, 2, 815, 816, 817) := by decide +kernel
theorem M11_83 : im_mtd 11 83 = some (0, 120, 3, 818, 819, 905) := by decide +kernel
theorem M9_254 : im_mtd 9 254 = some (0, 8, 3, 822, 522, 608) := by decide +kernel
theorem M9_257 : im_mtd 9 257 = some (0, 9, 3, 823, 735, 821) := by decide +kernel
theorem M9_260 : im_mtd 9 260 = some (0, 32, 2, 824, 825, 911) := by decide +kernel
theorem M11_87 : im_mtd 11 87 = some (0, 121, 3, 828, 829, 915) := by decide +kernel
theorem M9_266 : im_mtd 9 266 = some (0, 26, 2, 832, 833, 919) := by decide +kernel
theorem M9_269 : im_mtd 9 269 = some (0, 33, 3, 836, 837, 923) := by decide +kernel
theorem M1_109 : im_mtd 1 109 = some (0, 32, 2, 840, 825, 911) := by decide +kernel
theorem M11_91 : im_mtd 11 91 = some (0, 122, 3, 841, 842, 928) := by decide +kernel
theorem M9_272 : im_mtd 9 272 = some (0, 65, 2, 845, 846, 932) := by decide +kernel
theorem M9_275 : im_mtd 9 275 = some (0, 82, 3, 849, 850, 936) := by decide +kernel
theorem M6_31 : im_mtd 6 31 = some (0, 26, 2, 853, 833, 919) := by decide +kernel
theorem M6_46 : im_mtd 6 46 = some (0, 34, 5, 854, 855, 941) := by decide +kernel
theorem M1_112 : im_mtd 1 112 = some (0, 33, 3, 858, 837, 923) := by decide +kernel
theorem M6_50 : im_mtd 6 50 = some (0, 74, 2, 859, 860, 946) := by decide +kernel
theorem M5_55 : im_mtd 5 55 = some (4, 131, 1, 863, 864, 0) := by decide +kernel
theorem M5_59 : im_mtd 5 59 = some (4, 132, 1, 866, 867, 0) := by decide +kernel
theorem M6_56 : im_mtd 6 56 = some (0, 76, 3, 869, 870, 956) := by decide +kernel
theorem M5_66 : im_mtd 5 66 = some (0, 75, 4, 873, 874, 960) := by decide +kernel
theorem M5_62 : im_mtd 5 62 = some (0, 73, 3, 877, 878, 964) := by decide +kernel
theorem M9_281 : im_mtd 9 281 = some (1, 131, 1, 881, 864, 0) := by decide +kernel
theorem M9_284 : im_mtd 9 284 = some (1, 132, 1, 882, 867, 0) := by decide +kernel
theorem M9_287 : im_mtd 9 287 = some (1, 133, 1, 883, 884, 0) := by decide +kernel
theorem M11_95 : im_mtd 11 95 = some (0, 123, 2, 886, 887, 973) := by decide +kernel
theorem M11_99 : im_mtd 11 99 = some (0, 124, 2, 890, 891, 977) := by decide +kernel
theorem M11_103 : im_mtd 11 103 = some (0, 125, 3, 894, 895, 981) := by decide +kernel
theorem M9_296 : im_mtd 9 296 = some (0, 79, 3, 898, 899, 985) := by decide +kernel
theorem M9_300 : im_mtd 9 300 = some (1, 134, 1, 902, 903, 0) := by decide +kernel
theorem M11_107 : im_mtd 11 107 = some (0, 126, 2, 906, 907, 993) := by decide +kernel
theorem M9_304 : im_mtd 9 304 = some (0, 78, 2, 910, 911, 997) := by decide +kernel
theorem M11_111 : im_mtd 11 111 = some (0, 127, 3, 914, 915, 1001) := by decide +kernel
theorem M9_307 : im_mtd 9 307 = some (0, 67, 2, 918, 919, 1005) := by decide +kernel
theorem M9_313 : im_mtd 9 313 = some (0, 75, 4, 922, 874, 960) := by decide +kernel
theorem M11_115 : im_mtd 11 115 = some (0, 128, 2, 923, 924, 1010) := by decide +kernel
theorem M9_317 : im_mtd 9 317 = some (0, 77, 2, 927, 928, 1014) := by decide +kernel
theorem M11_119 : im_mtd 11 119 = some (0, 129, 2, 931, 932, 1018) := by decide +kernel
theorem M9_324 : im_mtd 9 324 = some (0, 80, 2, 935, 936, 1022) := by decide +kernel
theorem M5_70 : im_mtd 5 70 = some (1, 263, 1, 939, 785, 0) := by decide +kernel
theorem M5_75 : im_mtd 5 75 = some (1, 262, 1, 940, 583, 0) := by decide +kernel
theorem M11_123 : im_mtd 11 123 = some (0, 130, 3, 941, 942, 1028) := by decide +kernel
theorem M9_333 : im_mtd 9 333 = some (0, 83, 3, 945, 946, 1032) := by decide +kernel
theorem M11_127 : im_mtd 11 127 = some (0, 135, 2, 949, 950, 1036) := by decide +kernel
theorem M9_337 : im_mtd 9 337 = some (0, 94, 2, 953, 954, 1040) := by decide +kernel
theorem M7_78 : im_mtd 7 78 = some (0, 14, 3, 957, 559, 645) := by decide +kernel
theorem M7_82 : im_mtd 7 82 = some (0, 16, 3, 958, 567, 653) := by decide +kernel
theorem M7_85 : im_mtd 7 85 = some (0, 93, 3, 959, 960, 1046) := by decide +kernel
theorem M7_69 : im_mtd 7 69 = some (0, 92, 3, 963, 795, 881) := by decide +kernel
theorem M7_73 : im_mtd 7 73 = some (7, 0, 2, 964, 816, 817) := by decide +kernel
theorem M9_342 : im_mtd 9 342 = some (0, 93, 3, 966, 960, 1046) := by decide +kernel
theorem M11_132 : im_mtd 11 132 = some (0, 136, 2, 967, 968, 1054) := by decide +kernel
theorem M9_345 : im_mtd 9 345 = some (0, 137, 2, 971, 973, 25) := by decide +kernel
theorem M9_354 : im_mtd 9 354 = some (0, 34, 5, 975, 855, 941) := by decide +kernel
theorem M9_358 : im_mtd 9 358 = some (1, 263, 1, 976, 785, 0) := by decide +kernel
theorem M11_136 : im_mtd 11 136 = some (0, 138, 1, 977, 978, 1064) := by decide +kernel
theorem M11_140 : im_mtd 11 140 = some (0, 139, 3, 981, 982, 1068) := by decide +kernel
theorem M9_363 : im_mtd 9 363 = some (0, 74, 2, 985, 860, 946) := by decide +kernel
theorem M11_144 : im_mtd 11 144 = some (0, 140, 3, 986, 987, 1073) := by decide +kernel
theorem M9_366 : im_mtd 9 366 = some (0, 95, 2, 990, 991, 1077) := by decide +kernel
theorem M11_148 : im_mtd 11 148 = some (0, 141, 3, 995, 996, 1082) := by decide +kernel
theorem M9_369 : im_mtd 9 369 = some (0, 22, 3, 999, 1000, 1086) := by decide +kernel
theorem M11_152 : im_mtd 11 152 = some (0, 142, 3, 1003, 1004, 1090) := by decide +kernel
theorem M9_372 : im_mtd 9 372 = some (0, 66, 2, 1007, 1008, 1094) := by decide +kernel
theorem M9_381 : im_mtd 9 381 = some (0, 73, 3, 1011, 878, 964) := by decide +kernel
theorem M11_156 : im_mtd 11 156 = some (0, 143, 3, 1012, 1013, 1099) := by decide +kernel
theorem M9_385 : im_mtd 9 385 = some (0, 144, 2, 1017, 1019, 26) := by decide +kernel
theorem M11_160 : im_mtd 11 160 = some (0, 145, 4, 1021, 1022, 1108) := by decide +kernel
theorem M9_388 : im_mtd 9 388 = some (1, 154, 1, 1025, 1026, 0) := by decide +kernel
theorem M9_391 : im_mtd 9 391 = some (0, 59, 3, 1028, 1029, 1115) := by decide +kernel
theorem M11_165 : im_mtd 11 165 = some (0, 146, 4, 1032, 1033, 1119) := by decide +kernel
theorem M9_401 : im_mtd 9 401 = some (0, 60, 2, 1036, 1037, 1123) := by decide +kernel
theorem M11_169 : im_mtd 11 169 = some (0, 147, 6, 1040, 1041, 1127) := by decide +kernel
theorem M9_407 : im_mtd 9 407 = some (0, 61, 3, 1044, 1045, 1131) := by decide +kernel
theorem M9_410 : im_mtd 9 410 = some (6, 0, 5, 1048, 1050, 1049) := by decide +kernel
theorem M11_173 : im_mtd 11 173 = some (0, 148, 3, 1051, 1052, 1138) := by decide +kernel
theorem M9_418 : im_mtd 9 418 = some (0, 149, 2, 1056, 1058, 27) := by decide +kernel
theorem M9_425 : im_mtd 9 425 = some (0, 5, 2, 1060, 1061, 1147) := by decide +kernel
theorem M9_422 : im_mtd 9 422 = some (0, 86, 2, 1064, 1065, 1151) := by decide +kernel
theorem M11_177 : im_mtd 11 177 = some (0, 150, 2, 1068, 1069, 1155) := by decide +kernel
theorem M11_181 : im_mtd 11 181 = some (0, 151, 2, 1072, 1073, 1159) := by decide +kernel
theorem M9_440 : im_mtd 9 440 = some (0, 152, 1, 1076, 1078, 28) := by decide +kernel
theorem M9_443 : im_mtd 9 443 = some (0, 13, 1, 1080, 1081, 1167) := by decide +kernel
theorem M1_76 : im_mtd 1 76 = some (1, 263, 1, 1084, 785, 0) := by decide +kernel
theorem M9_446 : im_mtd 9 446 = some (0, 153, 1, 1085, 1087, 29) := by decide +kernel
theorem M11_12 : im_mtd 11 12 = some (2, 157, 1, 1091, 1092, 0) := by decide +kernel
theorem M10_7 : im_mtd 10 7 = some (5, 0, 1, 1094, 25, 26) := by decide +kernel
theorem M10_64 : im_mtd 10 64 = some (0, 158, 1, 1095, 1097, 30) := by decide +kernel
theorem M11_17 : im_mtd 11 17 = some (0, 159, 6, 1187, 1188, 1274) := by decide +kernel
theorem M11_22 : im_mtd 11 22 = some (0, 180, 2, 1191, 1192, 1278) := by decide +kernel
theorem M10_83 : im_mtd 10 83 = some (1, 155, 3, 1195, 1196, 0) := by decide +kernel
theorem M10_95 : im_mtd 10 95 = some (0, 160, 1, 1198, 1200, 31) := by decide +kernel
theorem M10_190 : im_mtd 10 190 = some (0, 168, 1, 1202, 1204, 32) := by decide +kernel
theorem M10_123 : im_mtd 10 123 = some (0, 165, 1, 1206, 1208, 33) := by decide +kernel
theorem M10_91 : im_mtd 10 91 = some (1, 162, 1, 1210, 1211, 0) := by decide +kernel
theorem M10_99 : im_mtd 10 99 = some (0, 164, 1, 1215, 1217, 34) := by decide +kernel
theorem M10_104 : im_mtd 10 104 = some (0, 264, 1, 1220, 448, 534) := by decide +kernel
theorem M10_109 : im_mtd 10 109 = some (0, 265, 2, 1221, 458, 544) := by decide +kernel
theorem M10_116 : im_mtd 10 116 = some (0, 161, 3, 1222, 1224, 35) := by decide +kernel
theorem M10_129 : im_mtd 10 129 = some (0, 167, 2, 1226, 1228, 36) := by decide +kernel
theorem M10_132 : im_mtd 10 132 = some (0, 169, 3, 1230, 1232, 37) := by decide +kernel
theorem M10_135 : im_mtd 10 135 = some (0, 166, 3, 1234, 1236, 38) := by decide +kernel
theorem M10_113 : im_mtd 10 113 = some (1, 163, 1, 1238, 1239, 0) := by decide +kernel
theorem M10_139 : im_mtd 10 139 = some (0, 173, 2, 1243, 1245, 39) := by decide +kernel
theorem M10_158 : im_mtd 10 158 = some (1, 170, 1, 1247, 1248, 0) := by decide +kernel
theorem M10_162 : im_mtd 10 162 = some (1, 171, 1, 1250, 1251, 0) := by decide +kernel
theorem M10_165 : im_mtd 10 165 = some (0, 172, 3, 1253, 1255, 40) := by decide +kernel
theorem M10_143 : im_mtd 10 143 = some (0, 174, 2, 1257, 1259, 41) := by decide +kernel
theorem M10_169 : im_mtd 10 169 = some (0, 189, 1, 1261, 1263, 42) := by decide +kernel
theorem M10_178 : im_mtd 10 178 = some (1, 156, 2, 1265, 1266, 0) := by decide +kernel
theorem M10_172 : im_mtd 10 172 = some (0, 190, 1, 1268, 1270, 43) := by decide +kernel
theorem M10_146 : im_mtd 10 146 = some (0, 175, 2, 1272, 1274, 44) := by decide +kernel
theorem M10_175 : im_mtd 10 175 = some (0, 188, 3, 1276, 1278, 45) := by decide +kernel
theorem M10_209 : im_mtd 10 209 = some (0, 187, 3, 1280, 1282, 46) := by decide +kernel
theorem M10_196 : im_mtd 10 196 = some (0, 185, 2, 1284, 1286, 47) := by decide +kernel
theorem M10_199 : im_mtd 10 199 = some (0, 183, 3, 1288, 1290, 48) := by decide +kernel
theorem M10_202 : im_mtd 10 202 = some (0, 184, 3, 1292, 1294, 49) := by decide +kernel
theorem M10_205 : im_mtd 10 205 = some (0, 186, 4, 1296, 1298, 50) := by decide +kernel
theorem M10_181 : im_mtd 10 181 = some (0, 194, 3, 1300, 1302, 51) := by decide +kernel
theorem M10_215 : im_mtd 10 215 = some (0, 193, 4, 1304, 1306, 52) := by decide +kernel
theorem M10_221 : im_mtd 10 221 = some (0, 191, 1, 1308, 1310, 53) := by decide +kernel
theorem M10_149 : im_mtd 10 149 = some (0, 177, 2, 1312, 1314, 54) := by decide +kernel
theorem M10_184 : im_mtd 10 184 = some (0, 176, 2, 1316, 1318, 55) := by decide +kernel
theorem M10_152 : im_mtd 10 152 = some (0, 178, 2, 1320, 1322, 56) := by decide +kernel
theorem M10_155 : im_mtd 10 155 = some (0, 179, 2, 1324, 1326, 57) := by decide +kernel
theorem M10_187 : im_mtd 10 187 = some (0, 226, 2, 1328, 1330, 58) := by decide +kernel
theorem M11_26 : im_mtd 11 26 = some (0, 181, 2, 1332, 1333, 1419) := by decide +kernel
theorem M11_31 : im_mtd 11 31 = some (0, 197, 3, 1336, 1337, 1423) := by decide +kernel
theorem M10_229 : im_mtd 10 229 = some (0, 182, 2, 1340, 1342, 59) := by decide +kernel
theorem M10_232 : im_mtd 10 232 = some (0, 195, 1, 1344, 1346, 60) := by decide +kernel
theorem M10_235 : im_mtd 10 235 = some (0, 196, 1, 1348, 1350, 61) := by decide +kernel
theorem M10_224 : im_mtd 10 224 = some (1, 263, 1, 1352, 785, 0) := by decide +kernel
theorem M11_35 : im_mtd 11 35 = some (0, 198, 3, 1353, 1354, 1440) := by decide +kernel
theorem M11_39 : im_mtd 11 39 = some (0, 199, 3, 1357, 1358, 1444) := by decide +kernel
theorem M11_43 : im_mtd 11 43 = some (0, 200, 3, 1362, 1363, 1449) := by decide +kernel
theorem M10_240 : im_mtd 10 240 = some (0, 231, 2, 1366, 1368, 62) := by decide +kernel
theorem M11_48 : im_mtd 11 48 = some (0, 201, 1, 1371, 1372, 1458) := by decide +kernel
theorem M11_52 : im_mtd 11 52 = some (0, 205, 3, 1375, 1376, 1462) := by decide +kernel
theorem M10_250 : im_mtd 10 250 = some (0, 192, 2, 1380, 1382, 63) := by decide +kernel
theorem M10_245 : im_mtd 10 245 = some (0, 204, 2, 1384, 1386, 64) := by decide +kernel
theorem M10_253 : im_mtd 10 253 = some (0, 202, 2, 1388, 1390, 65) := by decide +kernel
theorem M10_256 : im_mtd 10 256 = some (0, 203, 2, 1392, 1394, 66) := by decide +kernel
theorem M11_56 : im_mtd 11 56 = some (0, 206, 3, 1396, 1397, 1483) := by decide +kernel
theorem M11_60 : im_mtd 11 60 = some (0, 207, 2, 1400, 1401, 1487) := by decide +kernel
theorem M11_64 : im_mtd 11 64 = some (0, 208, 2, 1404, 1405, 1491) := by decide +kernel
theorem M11_69 : im_mtd 11 69 = some (0, 210, 1, 1408, 1409, 1495) := by decide +kernel
theorem M10_259 : im_mtd 10 259 = some (0, 209, 1, 1412, 1414, 67) := by decide +kernel
theorem M11_74 : im_mtd 11 74 = some (0, 212, 3, 1416, 1417, 1503) := by decide +kernel
theorem M10_263 : im_mtd 10 263 = some (0, 211, 3, 1420, 1422, 68) := by decide +kernel
theorem M11_78 : im_mtd 11 78 = some (0, 213, 1, 1425, 1426, 1512) := by decide +kernel
theorem M11_82 : im_mtd 11 82 = some (0, 214, 1, 1429, 1430, 1516) := by decide +kernel
theorem M11_147 : im_mtd 11 147 = some (0, 215, 3, 1433, 1434, 1520) := by decide +kernel
theorem M11_151 : im_mtd 11 151 = some (0, 216, 3, 1439, 1440, 1526) := by decide +kernel
theorem M11_86 : im_mtd 11 86 = some (0, 219, 3, 1443, 1444, 1530) := by decide +kernel
theorem M10_276 : im_mtd 10 276 = some (0, 217, 4, 1447, 1449, 69) := by decide +kernel
theorem M11_90 : im_mtd 11 90 = some (0, 220, 3, 1451, 1452, 1538) := by decide +kernel
theorem M10_280 : im_mtd 10 280 = some (0, 218, 4, 1455, 1457, 70) := by decide +kernel
theorem M11_94 : im_mtd 11 94 = some (0, 223, 3, 1459, 1460, 1546) := by decide +kernel
theorem M10_283 : im_mtd 10 283 = some (0, 221, 2, 1463, 1465, 71) := by decide +kernel
theorem M10_286 : im_mtd 10 286 = some (0, 222, 4, 1467, 1469, 72) := by decide +kernel
theorem M11_98 : im_mtd 11 98 = some (0, 225, 2, 1471, 1472, 1558) := by decide +kernel
theorem M10_289 : im_mtd 10 289 = some (0, 224, 3, 1475, 1477, 73) := by decide +kernel
theorem M11_102 : im_mtd 11 102 = some (0, 230, 2, 1479, 1480, 1566) := by decide +kernel
theorem M10_295 : im_mtd 10 295 = some (0, 227, 1, 1483, 1485, 74) := by decide +kernel
theorem M10_298 : im_mtd 10 298 = some (0, 229, 2, 1487, 1489, 75) := by decide +kernel
theorem M10_292 : im_mtd 10 292 = some (0, 228, 3, 1491, 1493, 76) := by decide +kernel
theorem M11_106 : im_mtd 11 106 = some (0, 233, 3, 1495, 1496, 1582) := by decide +kernel
theorem M10_301 : im_mtd 10 301 = some (0, 240, 3, 1499, 1501, 77) := by decide +kernel
theorem M10_313 : im_mtd 10 313 = some (1, 232, 2, 1503, 1504, 0) := by decide +kernel
theorem M11_110 : im_mtd 11 110 = some (0, 234, 2, 1506, 1507, 1593) := by decide +kernel
theorem M11_114 : im_mtd 11 114 = some (0, 236, 3, 1510, 1511, 1597) := by decide +kernel
theorem M10_304 : im_mtd 10 304 = some (0, 235, 2, 1514, 1516, 78) := by decide +kernel
theorem M11_118 : im_mtd 11 118 = some (0, 238, 2, 1518, 1519, 1605) := by decide +kernel
theorem M10_307 : im_mtd 10 307 = some (0, 237, 2, 1522, 1524, 79) := by decide +kernel
theorem M11_155 : im_mtd 11 155 = some (0, 241, 3, 1526, 1527, 1613) := by decide +kernel
theorem M10_317 : im_mtd 10 317 = some (1, 239, 2, 1531, 1532, 0) := by decide +kernel
theorem M11_122 : im_mtd 11 122 = some (0, 243, 2, 1536, 1537, 1623) := by decide +kernel
theorem M10_323 : im_mtd 10 323 = some (0, 242, 2, 1540, 1542, 80) := by decide +kernel
theorem M10_320 : im_mtd 10 320 = some (1, 262, 1, 1544, 583, 0) := by decide +kernel
theorem M11_126 : im_mtd 11 126 = some (0, 244, 3, 1545, 1546, 1632) := by decide +kernel
theorem M11_131 : im_mtd 11 131 = some (0, 246, 2, 1550, 1551, 1637) := by decide +kernel
theorem M10_334 : im_mtd 10 334 = some (0, 245, 1, 1554, 1556, 81) := by decide +kernel
theorem M11_135 : im_mtd 11 135 = some (0, 248, 2, 1558, 1559, 1645) := by decide +kernel
theorem M10_337 : im_mtd 10 337 = some (0, 247, 2, 1562, 1564, 82) := by decide +kernel
theorem M11_139 : im_mtd 11 139 = some (0, 249, 1, 1566, 1567, 1653) := by decide +kernel
theorem M11_143 : im_mtd 11 143 = some (0, 250, 3, 1570, 1571, 1657) := by decide +kernel
theorem M11_159 : im_mtd 11 159 = some (0, 252, 3, 1574, 1575, 1661) := by decide +kernel
theorem M10_340 : im_mtd 10 340 = some (0, 251, 1, 1578, 1580, 83) := by decide +kernel
theorem M11_164 : im_mtd 11 164 = some (0, 254, 4, 1583, 1584, 1670) := by decide +kernel
theorem M10_344 : im_mtd 10 344 = some (1, 253, 1, 1587, 1588, 0) := by decide +kernel
theorem M11_168 : im_mtd 11 168 = some (0, 255, 4, 1591, 1592, 1678) := by decide +kernel
theorem M11_172 : im_mtd 11 172 = some (0, 256, 6, 1595, 1596, 1682) := by decide +kernel
theorem M11_180 : im_mtd 11 180 = some (0, 257, 2, 1599, 1600, 1686) := by decide +kernel
theorem M11_176 : im_mtd 11 176 = some (0, 258, 3, 1603, 1604, 1690) := by decide +kernel
theorem M11_184 : im_mtd 11 184 = some (0, 260, 2, 1608, 1609, 1695) := by decide +kernel
theorem M10_351 : im_mtd 10 351 = some (0, 259, 1, 1612, 1614, 84) := by decide +kernel
set_option maxRecDepth 100000 in
theorem Y0 : im_mth 0 = some (0, yX0_init, cX0_init, 1, none, 3, 36) := rfl
theorem O0 : im_rok 0 0 := by unfold im_rok; decide +kernel
set_option maxRecDepth 100000 in
theorem Y1 : im_mth 1 = some (0, yX0_add, cX0_add, 4, none, 0, 0) := rfl
theorem O1 : im_rok 0 1 := by unfold im_rok; decide +kernel
set_option maxRecDepth 100000 in
theorem Y2 : im_mth 2 = some (0, yX0_takeLatest, cX0_takeLatest, 1, (some .int), 0, 0) := rfl
theorem O2 : im_rok 0 2 := by unfold im_rok; decide +kernel
set_option maxRecDepth 100000 in
theorem Y3 : im_mth 3 = some (1, yX1_init, cX1_init, 1, none, 9, 384) := rfl
theorem O3 : im_rok 1 3 := by unfold im_rok; decide +kernel
set_option maxRecDepth 100000 in
theorem Y4 : im_mth 4 = some (1, yX1_clear, cX1_clear, 2, none, 0, 0) := rfl
theorem O4 : im_rok 1 4 := by unfold im_rok; decide +kernel
set_option maxRecDepth 100000 in
theorem Y5 : im_mth 5 = some (1, yX1_copyLinksOf, cX1_copyLinksOf, 3, none, 0, 0) := rfl
theorem O5 : im_rok 1 5 := by unfold im_rok; decide +kernel
set_option maxRecDepth 100000 in
theorem Y6 : im_mth 6 = some (1, yX1_has, cX1_has, 2, (some .boolean), 0, 0) := rfl
theorem O6 : im_rok 1 6 := by unfold im_rok; decide +kernel
set_option maxRecDepth 100000 in
theorem Y7 : im_mth 7 = some (1, yX1_hasTwo, cX1_hasTwo, 3, (some .boolean), 0, 0) := rfl
theorem O7 : im_rok 1 7 := by unfold im_rok; decide +kernel
set_option maxRecDepth 100000 in
theorem Y8 : im_mth 8 = some (1, yX1_hasCell, cX1_hasCell, 3, (some .boolean), 0, 0) := rfl
theorem O8 : im_rok 1 8 := by unfold im_rok; decide +kernel
set_option maxRecDepth 100000 in
theorem Y9 : im_mth 9 = some (1, yX1_strokesAt, cX1_strokesAt, 3, (some .int), 0, 0) := rfl
theorem O9 : im_rok 1 9 := by unfold im_rok; decide +kernel
set_option maxRecDepth 100000 in
theorem Y10 : im_mth 10 = some (1, yX1_hasRoomFor, cX1_hasRoomFor, 5, (some .boolean), 0, 0) := rfl
theorem O10 : im_rok 1 10 := by unfold im_rok; decide +kernel
set_option maxRecDepth 100000 in
theorem Y11 : im_mth 11 = some (1, yX1_addStroke, cX1_addStroke, 9, none, 0, 0) := rfl
theorem O11 : im_rok 1 11 := by unfold im_rok; decide +kernel
set_option maxRecDepth 100000 in
theorem Y12 : im_mth 12 = some (1, yX1_firstCommonCell, cX1_firstCommonCell, 6, (some .int), 0, 0) := rfl
theorem O12 : im_rok 1 12 := by unfold im_rok; decide +kernel
set_option maxRecDepth 100000 in
theorem Y13 : im_mth 13 = some (1, yX1_countCrossings, cX1_countCrossings, 3, (some .int), 0, 0) := rfl
theorem O13 : im_rok 1 13 := by unfold im_rok; decide +kernel
set_option maxRecDepth 100000 in
theorem Y14 : im_mth 14 = some (1, yX1_isCrossing, cX1_isCrossing, 3, (some .boolean), 0, 0) := rfl
theorem O14 : im_rok 1 14 := by unfold im_rok; decide +kernel
set_option maxRecDepth 100000 in
theorem Y15 : im_mth 15 = some (1, yX1_isTold, cX1_isTold, 3, (some .boolean), 0, 0) := rfl
theorem O15 : im_rok 1 15 := by unfold im_rok; decide +kernel
set_option maxRecDepth 100000 in
theorem Y16 : im_mth 16 = some (1, yX1_isOver, cX1_isOver, 3, (some .boolean), 0, 0) := rfl
theorem O16 : im_rok 1 16 := by unfold im_rok; decide +kernel
set_option maxRecDepth 100000 in
theorem Y17 : im_mth 17 = some (1, yX1_canBeTold, cX1_canBeTold, 3, (some .boolean), 0, 0) := rfl
theorem O17 : im_rok 1 17 := by unfold im_rok; decide +kernel
set_option maxRecDepth 100000 in
theorem Y18 : im_mth 18 = some (1, yX1_linkLeavesNoWay, cX1_linkLeavesNoWay, 3, (some .boolean), 0, 0) := rfl
theorem O18 : im_rok 1 18 := by unfold im_rok; decide +kernel
set_option maxRecDepth 100000 in
theorem Y19 : im_mth 19 = some (1, yX1_link, cX1_link, 3, none, 0, 0) := rfl
theorem O19 : im_rok 1 19 := by unfold im_rok; decide +kernel
set_option maxRecDepth 100000 in
theorem Y20 : im_mth 20 = some (1, yX1_unlink, cX1_unlink, 5, none, 0, 0) := rfl
theorem O20 : im_rok 1 20 := by unfold im_rok; decide +kernel
set_option maxRecDepth 100000 in
theorem Y21 : im_mth 21 = some (1, yX1_addChains, cX1_addChains, 6, none, 0, 0) := rfl
theorem O21 : im_rok 1 21 := by unfold im_rok; decide +kernel
set_option maxRecDepth 100000 in
theorem Y22 : im_mth 22 = some (1, yX1_hasBetween, cX1_hasBetween, 3, (some .boolean), 0, 0) := rfl
theorem O22 : im_rok 1 22 := by unfold im_rok; decide +kernel
set_option maxRecDepth 100000 in
theorem Y23 : im_mth 23 = some (1, yX1_toldHand, cX1_toldHand, 2, (some .int), 0, 0) := rfl
theorem O23 : im_rok 1 23 := by unfold im_rok; decide +kernel
set_option maxRecDepth 100000 in
theorem Y24 : im_mth 24 = some (1, yX1_setHand, cX1_setHand, 4, none, 0, 0) := rfl
theorem O24 : im_rok 1 24 := by unfold im_rok; decide +kernel
set_option maxRecDepth 100000 in
theorem Y25 : im_mth 25 = some (1, yX1_handLeavesNoWay, cX1_handLeavesNoWay, 3, (some .boolean), 0, 0) := rfl
theorem O25 : im_rok 1 25 := by unfold im_rok; decide +kernel
set_option maxRecDepth 100000 in
theorem Y26 : im_mth 26 = some (1, yX1_mustBeLower, cX1_mustBeLower, 4, (some .int), 0, 0) := rfl
theorem O26 : im_rok 1 26 := by unfold im_rok; decide +kernel
set_option maxRecDepth 100000 in
theorem Y27 : im_mth 27 = some (1, yX1_mustOf, cX1_mustOf, 2, (some .int), 0, 0) := rfl
theorem O27 : im_rok 1 27 := by unfold im_rok; decide +kernel
set_option maxRecDepth 100000 in
theorem Y28 : im_mth 28 = some (1, yX1_readyAfter, cX1_readyAfter, 4, (some .int), 0, 0) := rfl
theorem O28 : im_rok 1 28 := by unfold im_rok; decide +kernel
set_option maxRecDepth 100000 in
theorem Y29 : im_mth 29 = some (1, yX1_strokeInOrder, cX1_strokeInOrder, 4, (some .int), 0, 0) := rfl
theorem O29 : im_rok 1 29 := by unfold im_rok; decide +kernel
set_option maxRecDepth 100000 in
theorem Y30 : im_mth 30 = some (1, yX1_layerOf, cX1_layerOf, 5, (some .int), 0, 0) := rfl
theorem O30 : im_rok 1 30 := by unfold im_rok; decide +kernel
set_option maxRecDepth 100000 in
theorem Y31 : im_mth 31 = some (1, yX1_countLayers, cX1_countLayers, 3, (some .int), 0, 0) := rfl
theorem O31 : im_rok 1 31 := by unfold im_rok; decide +kernel
set_option maxRecDepth 100000 in
theorem Y32 : im_mth 32 = some (1, yX1_topOf, cX1_topOf, 4, (some .int), 0, 0) := rfl
theorem O32 : im_rok 1 32 := by unfold im_rok; decide +kernel
set_option maxRecDepth 100000 in
theorem Y33 : im_mth 33 = some (1, yX1_seenOf, cX1_seenOf, 4, (some .int), 0, 0) := rfl
theorem O33 : im_rok 1 33 := by unfold im_rok; decide +kernel
set_option maxRecDepth 100000 in
theorem Y34 : im_mth 34 = some (1, yX1_lookAt, cX1_lookAt, 9, (some .int), 0, 0) := rfl
theorem O34 : im_rok 1 34 := by unfold im_rok; decide +kernel
set_option maxRecDepth 100000 in
theorem Y35 : im_mth 35 = some (2, yX2_init, cX2_init, 6, none, 0, 0) := rfl
theorem O35 : im_rok 2 35 := by unfold im_rok; decide +kernel
set_option maxRecDepth 100000 in
theorem Y36 : im_mth 36 = some (2, yX2_readText, cX2_readText, 2, none, 0, 0) := rfl
theorem O36 : im_rok 2 36 := by unfold im_rok; decide +kernel
set_option maxRecDepth 100000 in
theorem Y37 : im_mth 37 = some (2, yX2_readPiece, cX2_readPiece, 1, none, 0, 0) := rfl
theorem O37 : im_rok 2 37 := by unfold im_rok; decide +kernel
set_option maxRecDepth 100000 in
theorem Y38 : im_mth 38 = some (2, yX2_readDigits, cX2_readDigits, 2, none, 0, 0) := rfl
theorem O38 : im_rok 2 38 := by unfold im_rok; decide +kernel
set_option maxRecDepth 100000 in
theorem Y39 : im_mth 39 = some (2, yX2_readSmall, cX2_readSmall, 1, none, 0, 0) := rfl
theorem O39 : im_rok 2 39 := by unfold im_rok; decide +kernel
set_option maxRecDepth 100000 in
theorem Y40 : im_mth 40 = some (2, yX2_isDigit, cX2_isDigit, 1, (some .boolean), 0, 0) := rfl
theorem O40 : im_rok 2 40 := by unfold im_rok; decide +kernel
set_option maxRecDepth 100000 in
theorem Y41 : im_mth 41 = some (2, yX2_isSmall, cX2_isSmall, 1, (some .boolean), 0, 0) := rfl
theorem O41 : im_rok 2 41 := by unfold im_rok; decide +kernel
set_option maxRecDepth 100000 in
theorem Y42 : im_mth 42 = some (2, yX2_isNamed, cX2_isNamed, 3, (some .boolean), 0, 0) := rfl
theorem O42 : im_rok 2 42 := by unfold im_rok; decide +kernel
set_option maxRecDepth 100000 in
theorem Y43 : im_mth 43 = some (2, yX2_refuse, cX2_refuse, 3, (some .boolean), 0, 0) := rfl
theorem O43 : im_rok 2 43 := by unfold im_rok; decide +kernel
set_option maxRecDepth 100000 in
theorem Y44 : im_mth 44 = some (2, yX2_readLine, cX2_readLine, 1, (some .boolean), 0, 0) := rfl
theorem O44 : im_rok 2 44 := by unfold im_rok; decide +kernel
set_option maxRecDepth 100000 in
theorem Y45 : im_mth 45 = some (2, yX2_readSemicolon, cX2_readSemicolon, 2, (some .boolean), 0, 0) := rfl
theorem O45 : im_rok 2 45 := by unfold im_rok; decide +kernel
set_option maxRecDepth 100000 in
theorem Y46 : im_mth 46 = some (2, yX2_readNumber, cX2_readNumber, 4, (some .boolean), 0, 0) := rfl
theorem O46 : im_rok 2 46 := by unfold im_rok; decide +kernel
set_option maxRecDepth 100000 in
theorem Y47 : im_mth 47 = some (2, yX2_readPage, cX2_readPage, 1, (some .boolean), 0, 0) := rfl
theorem O47 : im_rok 2 47 := by unfold im_rok; decide +kernel
set_option maxRecDepth 100000 in
theorem Y48 : im_mth 48 = some (2, yX2_readStroke, cX2_readStroke, 4, (some .boolean), 0, 0) := rfl
theorem O48 : im_rok 2 48 := by unfold im_rok; decide +kernel
set_option maxRecDepth 100000 in
theorem Y49 : im_mth 49 = some (2, yX2_readHand, cX2_readHand, 3, (some .boolean), 0, 0) := rfl
theorem O49 : im_rok 2 49 := by unfold im_rok; decide +kernel
set_option maxRecDepth 100000 in
theorem Y50 : im_mth 50 = some (2, yX2_readOver, cX2_readOver, 4, (some .boolean), 0, 0) := rfl
theorem O50 : im_rok 2 50 := by unfold im_rok; decide +kernel
set_option maxRecDepth 100000 in
theorem Y51 : im_mth 51 = some (2, yX2_readLetter, cX2_readLetter, 3, (some .boolean), 0, 0) := rfl
theorem O51 : im_rok 2 51 := by unfold im_rok; decide +kernel
set_option maxRecDepth 100000 in
theorem Y52 : im_mth 52 = some (2, yX2_readPlace, cX2_readPlace, 2, (some .boolean), 0, 0) := rfl
theorem O52 : im_rok 2 52 := by unfold im_rok; decide +kernel
set_option maxRecDepth 100000 in
theorem Y53 : im_mth 53 = some (2, yX2_readWord, cX2_readWord, 4, (some .boolean), 0, 0) := rfl
theorem O53 : im_rok 2 53 := by unfold im_rok; decide +kernel
set_option maxRecDepth 100000 in
theorem Y54 : im_mth 54 = some (2, yX2_readRun, cX2_readRun, 2, (some .boolean), 0, 0) := rfl
theorem O54 : im_rok 2 54 := by unfold im_rok; decide +kernel
set_option maxRecDepth 100000 in
theorem Y55 : im_mth 55 = some (3, yX3_init, cX3_init, 1, none, 2, 24) := rfl
theorem O55 : im_rok 3 55 := by unfold im_rok; decide +kernel
set_option maxRecDepth 100000 in
theorem Y56 : im_mth 56 = some (3, yX3_show, cX3_show, 7, none, 0, 0) := rfl
theorem O56 : im_rok 3 56 := by unfold im_rok; decide +kernel
set_option maxRecDepth 100000 in
theorem Y57 : im_mth 57 = some (3, yX3_countSteps, cX3_countSteps, 8, (some .int), 0, 0) := rfl
theorem O57 : im_rok 3 57 := by unfold im_rok; decide +kernel
set_option maxRecDepth 100000 in
theorem Y58 : im_mth 58 = some (4, yX4_init, cX4_init, 1, none, 1, 12) := rfl
theorem O58 : im_rok 4 58 := by unfold im_rok; decide +kernel
set_option maxRecDepth 100000 in
theorem Y59 : im_mth 59 = some (4, yX4_start, cX4_start, 4, none, 0, 0) := rfl
theorem O59 : im_rok 4 59 := by unfold im_rok; decide +kernel
set_option maxRecDepth 100000 in
theorem Y60 : im_mth 60 = some (4, yX4_cut, cX4_cut, 2, (some .int), 0, 0) := rfl
theorem O60 : im_rok 4 60 := by unfold im_rok; decide +kernel
set_option maxRecDepth 100000 in
theorem Y61 : im_mth 61 = some (4, yX4_hasPart, cX4_hasPart, 3, (some .boolean), 0, 0) := rfl
theorem O61 : im_rok 4 61 := by unfold im_rok; decide +kernel
set_option maxRecDepth 100000 in
theorem Y62 : im_mth 62 = some (5, yX5_init, cX5_init, 1, none, 10, 146) := rfl
theorem O62 : im_rok 5 62 := by unfold im_rok; decide +kernel
set_option maxRecDepth 100000 in
theorem Y63 : im_mth 63 = some (5, yX5_clear, cX5_clear, 1, none, 0, 0) := rfl
theorem O63 : im_rok 5 63 := by unfold im_rok; decide +kernel
set_option maxRecDepth 100000 in
theorem Y64 : im_mth 64 = some (5, yX5_hasLetter, cX5_hasLetter, 2, (some .boolean), 0, 0) := rfl
theorem O64 : im_rok 5 64 := by unfold im_rok; decide +kernel
set_option maxRecDepth 100000 in
theorem Y65 : im_mth 65 = some (5, yX5_hasPlace, cX5_hasPlace, 2, (some .boolean), 0, 0) := rfl
theorem O65 : im_rok 5 65 := by unfold im_rok; decide +kernel
set_option maxRecDepth 100000 in
theorem Y66 : im_mth 66 = some (5, yX5_hasWord, cX5_hasWord, 2, (some .boolean), 0, 0) := rfl
theorem O66 : im_rok 5 66 := by unfold im_rok; decide +kernel
set_option maxRecDepth 100000 in
theorem Y67 : im_mth 67 = some (5, yX5_hasRun, cX5_hasRun, 2, (some .boolean), 0, 0) := rfl
theorem O67 : im_rok 5 67 := by unfold im_rok; decide +kernel
set_option maxRecDepth 100000 in
theorem Y68 : im_mth 68 = some (5, yX5_letterNamed, cX5_letterNamed, 3, (some .int), 0, 0) := rfl
theorem O68 : im_rok 5 68 := by unfold im_rok; decide +kernel
set_option maxRecDepth 100000 in
theorem Y69 : im_mth 69 = some (5, yX5_addLetter, cX5_addLetter, 4, none, 0, 0) := rfl
theorem O69 : im_rok 5 69 := by unfold im_rok; decide +kernel
set_option maxRecDepth 100000 in
theorem Y70 : im_mth 70 = some (5, yX5_addPlace, cX5_addPlace, 3, none, 0, 0) := rfl
theorem O70 : im_rok 5 70 := by unfold im_rok; decide +kernel
set_option maxRecDepth 100000 in
theorem Y71 : im_mth 71 = some (5, yX5_isFree, cX5_isFree, 4, (some .boolean), 0, 0) := rfl
theorem O71 : im_rok 5 71 := by unfold im_rok; decide +kernel
set_option maxRecDepth 100000 in
theorem Y72 : im_mth 72 = some (5, yX5_addRun, cX5_addRun, 4, none, 0, 0) := rfl
theorem O72 : im_rok 5 72 := by unfold im_rok; decide +kernel
set_option maxRecDepth 100000 in
theorem Y73 : im_mth 73 = some (5, yX5_letterOf, cX5_letterOf, 3, (some .int), 0, 0) := rfl
theorem O73 : im_rok 5 73 := by unfold im_rok; decide +kernel
set_option maxRecDepth 100000 in
theorem Y74 : im_mth 74 = some (5, yX5_lettersThatFit, cX5_lettersThatFit, 6, (some .int), 0, 0) := rfl
theorem O74 : im_rok 5 74 := by unfold im_rok; decide +kernel
set_option maxRecDepth 100000 in
theorem Y75 : im_mth 75 = some (5, yX5_wordFits, cX5_wordFits, 5, (some .boolean), 0, 0) := rfl
theorem O75 : im_rok 5 75 := by unfold im_rok; decide +kernel
set_option maxRecDepth 100000 in
theorem Y76 : im_mth 76 = some (5, yX5_lettersOfWords, cX5_lettersOfWords, 6, (some .int), 0, 0) := rfl
theorem O76 : im_rok 5 76 := by unfold im_rok; decide +kernel
set_option maxRecDepth 100000 in
theorem Y77 : im_mth 77 = some (5, yX5_weightOfWord, cX5_weightOfWord, 5, (some .long), 0, 0) := rfl
theorem O77 : im_rok 5 77 := by unfold im_rok; decide +kernel
set_option maxRecDepth 100000 in
theorem Y78 : im_mth 78 = some (5, yX5_heaviestOf, cX5_heaviestOf, 5, (some .int), 0, 0) := rfl
theorem O78 : im_rok 5 78 := by unfold im_rok; decide +kernel
set_option maxRecDepth 100000 in
theorem Y79 : im_mth 79 = some (5, yX5_share, cX5_share, 5, (some .float), 0, 0) := rfl
theorem O79 : im_rok 5 79 := by unfold im_rok; decide +kernel
set_option maxRecDepth 100000 in
theorem Y80 : im_mth 80 = some (5, yX5_signFor, cX5_signFor, 2, (some .int), 0, 0) := rfl
theorem O80 : im_rok 5 80 := by unfold im_rok; decide +kernel
set_option maxRecDepth 100000 in
theorem Y81 : im_mth 81 = some (6, yX6_init, cX6_init, 1, none, 3, 24) := rfl
theorem O81 : im_rok 6 81 := by unfold im_rok; decide +kernel
set_option maxRecDepth 100000 in
theorem Y82 : im_mth 82 = some (6, yX6_refresh, cX6_refresh, 6, none, 0, 0) := rfl
theorem O82 : im_rok 6 82 := by unfold im_rok; decide +kernel
set_option maxRecDepth 100000 in
theorem Y83 : im_mth 83 = some (6, yX6_placesThatFit, cX6_placesThatFit, 5, (some .int), 0, 0) := rfl
theorem O83 : im_rok 6 83 := by unfold im_rok; decide +kernel
set_option maxRecDepth 100000 in
theorem Y84 : im_mth 84 = some (7, yX7_init, cX7_init, 1, none, 4, 8348) := rfl
theorem O84 : im_rok 7 84 := by unfold im_rok; decide +kernel
set_option maxRecDepth 100000 in
theorem Y85 : im_mth 85 = some (7, yX7_refresh, cX7_refresh, 2, none, 0, 0) := rfl
theorem O85 : im_rok 7 85 := by unfold im_rok; decide +kernel
set_option maxRecDepth 100000 in
theorem Y86 : im_mth 86 = some (7, yX7_countOnceFor, cX7_countOnceFor, 2, (some .int), 0, 0) := rfl
theorem O86 : im_rok 7 86 := by unfold im_rok; decide +kernel
set_option maxRecDepth 100000 in
theorem Y87 : im_mth 87 = some (7, yX7_countRowsTo, cX7_countRowsTo, 4, (some .int), 0, 0) := rfl
theorem O87 : im_rok 7 87 := by unfold im_rok; decide +kernel
set_option maxRecDepth 100000 in
theorem Y88 : im_mth 88 = some (7, yX7_addOneStroke, cX7_addOneStroke, 4, none, 0, 0) := rfl
theorem O88 : im_rok 7 88 := by unfold im_rok; decide +kernel
set_option maxRecDepth 100000 in
theorem Y89 : im_mth 89 = some (7, yX7_refreshDetail, cX7_refreshDetail, 4, none, 0, 0) := rfl
theorem O89 : im_rok 7 89 := by unfold im_rok; decide +kernel
set_option maxRecDepth 100000 in
theorem Y90 : im_mth 90 = some (7, yX7_countFrom, cX7_countFrom, 6, none, 0, 0) := rfl
theorem O90 : im_rok 7 90 := by unfold im_rok; decide +kernel
set_option maxRecDepth 100000 in
theorem Y91 : im_mth 91 = some (7, yX7_addEarlier, cX7_addEarlier, 5, none, 0, 0) := rfl
theorem O91 : im_rok 7 91 := by unfold im_rok; decide +kernel
set_option maxRecDepth 100000 in
theorem Y92 : im_mth 92 = some (7, yX7_comesAhead, cX7_comesAhead, 3, (some .int), 0, 0) := rfl
theorem O92 : im_rok 7 92 := by unfold im_rok; decide +kernel
set_option maxRecDepth 100000 in
theorem Y93 : im_mth 93 = some (7, yX7_asked, cX7_asked, 3, (some .int), 0, 0) := rfl
theorem O93 : im_rok 7 93 := by unfold im_rok; decide +kernel
set_option maxRecDepth 100000 in
theorem Y94 : im_mth 94 = some (7, yX7_bestToAsk, cX7_bestToAsk, 7, (some .int), 0, 0) := rfl
theorem O94 : im_rok 7 94 := by unfold im_rok; decide +kernel
set_option maxRecDepth 100000 in
theorem Y95 : im_mth 95 = some (7, yX7_meanPlace, cX7_meanPlace, 2, (some .long), 0, 0) := rfl
theorem O95 : im_rok 7 95 := by unfold im_rok; decide +kernel
set_option maxRecDepth 100000 in
theorem Y96 : im_mth 96 = some (7, yX7_countWays, cX7_countWays, 5, (some .int), 0, 0) := rfl
theorem O96 : im_rok 7 96 := by unfold im_rok; decide +kernel
set_option maxRecDepth 100000 in
theorem Y97 : im_mth 97 = some (8, yX8_init, cX8_init, 1, none, 1, 900) := rfl
theorem O97 : im_rok 8 97 := by unfold im_rok; decide +kernel
set_option maxRecDepth 100000 in
theorem Y98 : im_mth 98 = some (8, yX8_addInt, cX8_addInt, 3, none, 0, 0) := rfl
theorem O98 : im_rok 8 98 := by unfold im_rok; decide +kernel
set_option maxRecDepth 100000 in
theorem Y99 : im_mth 99 = some (9, yX9_init, cX9_init, 2, none, 69, 10539) := rfl
theorem O99 : im_rok 9 99 := by unfold im_rok; decide +kernel
set_option maxRecDepth 100000 in
theorem Y100 : im_mth 100 = some (9, yX9_feed, cX9_feed, 6, (some .int), 0, 0) := rfl
theorem O100 : im_rok 9 100 := by unfold im_rok; decide +kernel
set_option maxRecDepth 100000 in
theorem Y101 : im_mth 101 = some (9, yX9_tell, cX9_tell, 3, (some .int), 1, 13) := rfl
theorem O101 : im_rok 9 101 := by unfold im_rok; decide +kernel
set_option maxRecDepth 100000 in
theorem Y102 : im_mth 102 = some (9, yX9_takeSpareLeaf, cX9_takeSpareLeaf, 3, none, 0, 0) := rfl
theorem O102 : im_rok 9 102 := by unfold im_rok; decide +kernel
set_option maxRecDepth 100000 in
theorem Y103 : im_mth 103 = some (9, yX9_fault, cX9_fault, 2, (some .int), 0, 0) := rfl
theorem O103 : im_rok 9 103 := by unfold im_rok; decide +kernel
set_option maxRecDepth 100000 in
theorem Y104 : im_mth 104 = some (9, yX9_over, cX9_over, 4, (some .int), 0, 0) := rfl
theorem O104 : im_rok 9 104 := by unfold im_rok; decide +kernel
set_option maxRecDepth 100000 in
theorem Y105 : im_mth 105 = some (9, yX9_takes, cX9_takes, 3, (some .int), 0, 0) := rfl
theorem O105 : im_rok 9 105 := by unfold im_rok; decide +kernel
set_option maxRecDepth 100000 in
theorem Y106 : im_mth 106 = some (9, yX9_hand, cX9_hand, 4, (some .int), 0, 0) := rfl
theorem O106 : im_rok 9 106 := by unfold im_rok; decide +kernel
set_option maxRecDepth 100000 in
theorem Y107 : im_mth 107 = some (9, yX9_weigh, cX9_weigh, 4, (some .int), 0, 0) := rfl
theorem O107 : im_rok 9 107 := by unfold im_rok; decide +kernel
set_option maxRecDepth 100000 in
theorem Y108 : im_mth 108 = some (9, yX9_undo, cX9_undo, 2, (some .int), 0, 0) := rfl
theorem O108 : im_rok 9 108 := by unfold im_rok; decide +kernel
set_option maxRecDepth 100000 in
theorem Y109 : im_mth 109 = some (9, yX9_takeBack, cX9_takeBack, 4, none, 0, 0) := rfl
theorem O109 : im_rok 9 109 := by unfold im_rok; decide +kernel
set_option maxRecDepth 100000 in
theorem Y110 : im_mth 110 = some (9, yX9_refusalOf, cX9_refusalOf, 3, (some .int), 0, 0) := rfl
theorem O110 : im_rok 9 110 := by unfold im_rok; decide +kernel
set_option maxRecDepth 100000 in
theorem Y111 : im_mth 111 = some (9, yX9_linksChanged, cX9_linksChanged, 1, none, 0, 0) := rfl
theorem O111 : im_rok 9 111 := by unfold im_rok; decide +kernel
set_option maxRecDepth 100000 in
theorem Y112 : im_mth 112 = some (9, yX9_stroke, cX9_stroke, 3, (some .int), 0, 0) := rfl
theorem O112 : im_rok 9 112 := by unfold im_rok; decide +kernel
set_option maxRecDepth 100000 in
theorem Y113 : im_mth 113 = some (9, yX9_crossing, cX9_crossing, 3, (some .int), 0, 0) := rfl
theorem O113 : im_rok 9 113 := by unfold im_rok; decide +kernel
set_option maxRecDepth 100000 in
theorem Y114 : im_mth 114 = some (9, yX9_ring, cX9_ring, 2, (some .int), 0, 0) := rfl
theorem O114 : im_rok 9 114 := by unfold im_rok; decide +kernel
set_option maxRecDepth 100000 in
theorem Y115 : im_mth 115 = some (9, yX9_order, cX9_order, 2, (some .int), 0, 0) := rfl
theorem O115 : im_rok 9 115 := by unfold im_rok; decide +kernel
set_option maxRecDepth 100000 in
theorem Y116 : im_mth 116 = some (9, yX9_orders, cX9_orders, 1, (some .long), 0, 0) := rfl
theorem O116 : im_rok 9 116 := by unfold im_rok; decide +kernel
set_option maxRecDepth 100000 in
theorem Y117 : im_mth 117 = some (9, yX9_ahead, cX9_ahead, 3, (some .long), 0, 0) := rfl
theorem O117 : im_rok 9 117 := by unfold im_rok; decide +kernel
set_option maxRecDepth 100000 in
theorem Y118 : im_mth 118 = some (9, yX9_ways, cX9_ways, 1, (some .int), 0, 0) := rfl
theorem O118 : im_rok 9 118 := by unfold im_rok; decide +kernel
set_option maxRecDepth 100000 in
theorem Y119 : im_mth 119 = some (9, yX9_layers, cX9_layers, 1, (some .int), 0, 0) := rfl
theorem O119 : im_rok 9 119 := by unfold im_rok; decide +kernel
set_option maxRecDepth 100000 in
theorem Y120 : im_mth 120 = some (9, yX9_top, cX9_top, 3, (some .int), 0, 0) := rfl
theorem O120 : im_rok 9 120 := by unfold im_rok; decide +kernel
set_option maxRecDepth 100000 in
theorem Y121 : im_mth 121 = some (9, yX9_seen, cX9_seen, 3, (some .int), 0, 0) := rfl
theorem O121 : im_rok 9 121 := by unfold im_rok; decide +kernel
set_option maxRecDepth 100000 in
theorem Y122 : im_mth 122 = some (9, yX9_shows, cX9_shows, 4, (some .int), 0, 0) := rfl
theorem O122 : im_rok 9 122 := by unfold im_rok; decide +kernel
set_option maxRecDepth 100000 in
theorem Y123 : im_mth 123 = some (9, yX9_fits, cX9_fits, 2, (some .int), 0, 0) := rfl
theorem O123 : im_rok 9 123 := by unfold im_rok; decide +kernel
set_option maxRecDepth 100000 in
theorem Y124 : im_mth 124 = some (9, yX9_sure, cX9_sure, 2, (some .int), 0, 0) := rfl
theorem O124 : im_rok 9 124 := by unfold im_rok; decide +kernel
set_option maxRecDepth 100000 in
theorem Y125 : im_mth 125 = some (9, yX9_odds, cX9_odds, 3, (some .int), 0, 0) := rfl
theorem O125 : im_rok 9 125 := by unfold im_rok; decide +kernel
set_option maxRecDepth 100000 in
theorem Y126 : im_mth 126 = some (9, yX9_guess, cX9_guess, 2, (some .int), 0, 0) := rfl
theorem O126 : im_rok 9 126 := by unfold im_rok; decide +kernel
set_option maxRecDepth 100000 in
theorem Y127 : im_mth 127 = some (9, yX9_words, cX9_words, 5, (some .int), 0, 0) := rfl
theorem O127 : im_rok 9 127 := by unfold im_rok; decide +kernel
set_option maxRecDepth 100000 in
theorem Y128 : im_mth 128 = some (9, yX9_likely, cX9_likely, 6, (some .int), 0, 0) := rfl
theorem O128 : im_rok 9 128 := by unfold im_rok; decide +kernel
set_option maxRecDepth 100000 in
theorem Y129 : im_mth 129 = some (9, yX9_reads, cX9_reads, 2, (some .int), 0, 0) := rfl
theorem O129 : im_rok 9 129 := by unfold im_rok; decide +kernel
set_option maxRecDepth 100000 in
theorem Y130 : im_mth 130 = some (9, yX9_letter, cX9_letter, 3, (some .int), 0, 0) := rfl
theorem O130 : im_rok 9 130 := by unfold im_rok; decide +kernel
set_option maxRecDepth 100000 in
theorem Y131 : im_mth 131 = some (9, yX9_emptyCells, cX9_emptyCells, 1, (some .int), 0, 0) := rfl
theorem O131 : im_rok 9 131 := by unfold im_rok; decide +kernel
set_option maxRecDepth 100000 in
theorem Y132 : im_mth 132 = some (9, yX9_shownCells, cX9_shownCells, 1, (some .int), 0, 0) := rfl
theorem O132 : im_rok 9 132 := by unfold im_rok; decide +kernel
set_option maxRecDepth 100000 in
theorem Y133 : im_mth 133 = some (9, yX9_hiddenCells, cX9_hiddenCells, 1, (some .int), 0, 0) := rfl
theorem O133 : im_rok 9 133 := by unfold im_rok; decide +kernel
set_option maxRecDepth 100000 in
theorem Y134 : im_mth 134 = some (9, yX9_bitsOf, cX9_bitsOf, 4, (some .int), 0, 0) := rfl
theorem O134 : im_rok 9 134 := by unfold im_rok; decide +kernel
set_option maxRecDepth 100000 in
theorem Y135 : im_mth 135 = some (9, yX9_asking, cX9_asking, 5, (some .long), 0, 0) := rfl
theorem O135 : im_rok 9 135 := by unfold im_rok; decide +kernel
set_option maxRecDepth 100000 in
theorem Y136 : im_mth 136 = some (9, yX9_loose, cX9_loose, 2, (some .int), 0, 0) := rfl
theorem O136 : im_rok 9 136 := by unfold im_rok; decide +kernel
set_option maxRecDepth 100000 in
theorem Y137 : im_mth 137 = some (9, yX9_countLoose, cX9_countLoose, 6, (some .int), 0, 0) := rfl
theorem O137 : im_rok 9 137 := by unfold im_rok; decide +kernel
set_option maxRecDepth 100000 in
theorem Y138 : im_mth 138 = some (9, yX9_scrape, cX9_scrape, 5, (some .int), 0, 0) := rfl
theorem O138 : im_rok 9 138 := by unfold im_rok; decide +kernel
set_option maxRecDepth 100000 in
theorem Y139 : im_mth 139 = some (9, yX9_clearer, cX9_clearer, 5, (some .int), 0, 0) := rfl
theorem O139 : im_rok 9 139 := by unfold im_rok; decide +kernel
set_option maxRecDepth 100000 in
theorem Y140 : im_mth 140 = some (9, yX9_span, cX9_span, 3, (some .long), 0, 0) := rfl
theorem O140 : im_rok 9 140 := by unfold im_rok; decide +kernel
set_option maxRecDepth 100000 in
theorem Y141 : im_mth 141 = some (9, yX9_paired, cX9_paired, 3, (some .int), 0, 0) := rfl
theorem O141 : im_rok 9 141 := by unfold im_rok; decide +kernel
set_option maxRecDepth 100000 in
theorem Y142 : im_mth 142 = some (9, yX9_likelihood, cX9_likelihood, 6, (some .int), 0, 0) := rfl
theorem O142 : im_rok 9 142 := by unfold im_rok; decide +kernel
set_option maxRecDepth 100000 in
theorem Y143 : im_mth 143 = some (9, yX9_spoilt, cX9_spoilt, 6, (some .int), 0, 0) := rfl
theorem O143 : im_rok 9 143 := by unfold im_rok; decide +kernel
set_option maxRecDepth 100000 in
theorem Y144 : im_mth 144 = some (9, yX9_countFitting, cX9_countFitting, 5, (some .int), 0, 0) := rfl
theorem O144 : im_rok 9 144 := by unfold im_rok; decide +kernel
set_option maxRecDepth 100000 in
theorem Y145 : im_mth 145 = some (9, yX9_row, cX9_row, 4, (some .int), 0, 0) := rfl
theorem O145 : im_rok 9 145 := by unfold im_rok; decide +kernel
set_option maxRecDepth 100000 in
theorem Y146 : im_mth 146 = some (9, yX9_write, cX9_write, 5, (some .int), 0, 0) := rfl
theorem O146 : im_rok 9 146 := by unfold im_rok; decide +kernel
set_option maxRecDepth 100000 in
theorem Y147 : im_mth 147 = some (9, yX9_paste, cX9_paste, 8, (some .int), 0, 0) := rfl
theorem O147 : im_rok 9 147 := by unfold im_rok; decide +kernel
set_option maxRecDepth 100000 in
theorem Y148 : im_mth 148 = some (9, yX9_mending, cX9_mending, 4, (some .long), 0, 0) := rfl
theorem O148 : im_rok 9 148 := by unfold im_rok; decide +kernel
set_option maxRecDepth 100000 in
theorem Y149 : im_mth 149 = some (9, yX9_mendSparePage, cX9_mendSparePage, 6, (some .int), 0, 0) := rfl
theorem O149 : im_rok 9 149 := by unfold im_rok; decide +kernel
set_option maxRecDepth 100000 in
theorem Y150 : im_mth 150 = some (9, yX9_judge, cX9_judge, 6, (some .int), 0, 0) := rfl
theorem O150 : im_rok 9 150 := by unfold im_rok; decide +kernel
set_option maxRecDepth 100000 in
theorem Y151 : im_mth 151 = some (9, yX9_count, cX9_count, 2, (some .int), 0, 0) := rfl
theorem O151 : im_rok 9 151 := by unfold im_rok; decide +kernel
set_option maxRecDepth 100000 in
theorem Y152 : im_mth 152 = some (9, yX9_countHidden, cX9_countHidden, 3, (some .int), 0, 0) := rfl
theorem O152 : im_rok 9 152 := by unfold im_rok; decide +kernel
set_option maxRecDepth 100000 in
theorem Y153 : im_mth 153 = some (9, yX9_countRows, cX9_countRows, 3, (some .int), 0, 0) := rfl
theorem O153 : im_rok 9 153 := by unfold im_rok; decide +kernel
set_option maxRecDepth 100000 in
theorem Y154 : im_mth 154 = some (9, yX9_isRow, cX9_isRow, 1, (some .boolean), 0, 0) := rfl
theorem O154 : im_rok 9 154 := by unfold im_rok; decide +kernel
set_option maxRecDepth 100000 in
theorem Y155 : im_mth 155 = some (10, yX10_isIn, cX10_isIn, 6, (some .boolean), 0, 0) := rfl
theorem O155 : im_rok 10 155 := by unfold im_rok; decide +kernel
set_option maxRecDepth 100000 in
theorem Y156 : im_mth 156 = some (10, yX10_has, cX10_has, 2, (some .boolean), 0, 0) := rfl
theorem O156 : im_rok 10 156 := by unfold im_rok; decide +kernel
set_option maxRecDepth 100000 in
theorem Y157 : im_mth 157 = some (10, yX10_init, cX10_init, 1, none, 40, 20000) := rfl
theorem O157 : im_rok 10 157 := by unfold im_rok; decide +kernel
set_option maxRecDepth 100000 in
theorem Y158 : im_mth 158 = some (10, yX10_plain, cX10_plain, 2, none, 0, 0) := rfl
theorem O158 : im_rok 10 158 := by unfold im_rok; decide +kernel
set_option maxRecDepth 100000 in
theorem Y159 : im_mth 159 = some (10, yX10_feed, cX10_feed, 8, (some .int), 0, 0) := rfl
theorem O159 : im_rok 10 159 := by unfold im_rok; decide +kernel
set_option maxRecDepth 100000 in
theorem Y160 : im_mth 160 = some (10, yX10_peek, cX10_peek, 1, (some .int), 0, 0) := rfl
theorem O160 : im_rok 10 160 := by unfold im_rok; decide +kernel
set_option maxRecDepth 100000 in
theorem Y161 : im_mth 161 = some (10, yX10_fails, cX10_fails, 3, none, 0, 0) := rfl
theorem O161 : im_rok 10 161 := by unfold im_rok; decide +kernel
set_option maxRecDepth 100000 in
theorem Y162 : im_mth 162 = some (10, yX10_isLetter, cX10_isLetter, 1, (some .boolean), 0, 0) := rfl
theorem O162 : im_rok 10 162 := by unfold im_rok; decide +kernel
set_option maxRecDepth 100000 in
theorem Y163 : im_mth 163 = some (10, yX10_isDigit, cX10_isDigit, 1, (some .boolean), 0, 0) := rfl
theorem O163 : im_rok 10 163 := by unfold im_rok; decide +kernel
set_option maxRecDepth 100000 in
theorem Y164 : im_mth 164 = some (10, yX10_lettersHere, cX10_lettersHere, 2, (some .int), 0, 0) := rfl
theorem O164 : im_rok 10 164 := by unfold im_rok; decide +kernel
set_option maxRecDepth 100000 in
theorem Y165 : im_mth 165 = some (10, yX10_wordHere, cX10_wordHere, 7, (some .int), 0, 0) := rfl
theorem O165 : im_rok 10 165 := by unfold im_rok; decide +kernel
set_option maxRecDepth 100000 in
theorem Y166 : im_mth 166 = some (10, yX10_numeral, cX10_numeral, 4, (some .int), 0, 0) := rfl
theorem O166 : im_rok 10 166 := by unfold im_rok; decide +kernel
set_option maxRecDepth 100000 in
theorem Y167 : im_mth 167 = some (10, yX10_isFull, cX10_isFull, 2, (some .boolean), 0, 0) := rfl
theorem O167 : im_rok 10 167 := by unfold im_rok; decide +kernel
set_option maxRecDepth 100000 in
theorem Y168 : im_mth 168 = some (10, yX10_lineRead, cX10_lineRead, 3, none, 0, 0) := rfl
theorem O168 : im_rok 10 168 := by unfold im_rok; decide +kernel
set_option maxRecDepth 100000 in
theorem Y169 : im_mth 169 = some (10, yX10_behind, cX10_behind, 3, none, 0, 0) := rfl
theorem O169 : im_rok 10 169 := by unfold im_rok; decide +kernel
set_option maxRecDepth 100000 in
theorem Y170 : im_mth 170 = some (10, yX10_stepX, cX10_stepX, 1, (some .int), 0, 0) := rfl
theorem O170 : im_rok 10 170 := by unfold im_rok; decide +kernel
set_option maxRecDepth 100000 in
theorem Y171 : im_mth 171 = some (10, yX10_stepY, cX10_stepY, 1, (some .int), 0, 0) := rfl
theorem O171 : im_rok 10 171 := by unfold im_rok; decide +kernel
set_option maxRecDepth 100000 in
theorem Y172 : im_mth 172 = some (10, yX10_isOnPage, cX10_isOnPage, 3, (some .boolean), 0, 0) := rfl
theorem O172 : im_rok 10 172 := by unfold im_rok; decide +kernel
set_option maxRecDepth 100000 in
theorem Y173 : im_mth 173 = some (10, yX10_strokeRead, cX10_strokeRead, 3, none, 0, 0) := rfl
theorem O173 : im_rok 10 173 := by unfold im_rok; decide +kernel
set_option maxRecDepth 100000 in
theorem Y174 : im_mth 174 = some (10, yX10_handRead, cX10_handRead, 4, none, 0, 0) := rfl
theorem O174 : im_rok 10 174 := by unfold im_rok; decide +kernel
set_option maxRecDepth 100000 in
theorem Y175 : im_mth 175 = some (10, yX10_overRead, cX10_overRead, 5, none, 0, 0) := rfl
theorem O175 : im_rok 10 175 := by unfold im_rok; decide +kernel
set_option maxRecDepth 100000 in
theorem Y176 : im_mth 176 = some (10, yX10_letterNamed, cX10_letterNamed, 3, (some .int), 0, 0) := rfl
theorem O176 : im_rok 10 176 := by unfold im_rok; decide +kernel
set_option maxRecDepth 100000 in
theorem Y177 : im_mth 177 = some (10, yX10_letterRead, cX10_letterRead, 6, none, 0, 0) := rfl
theorem O177 : im_rok 10 177 := by unfold im_rok; decide +kernel
set_option maxRecDepth 100000 in
theorem Y178 : im_mth 178 = some (10, yX10_wordRead, cX10_wordRead, 5, none, 0, 0) := rfl
theorem O178 : im_rok 10 178 := by unfold im_rok; decide +kernel
set_option maxRecDepth 100000 in
theorem Y179 : im_mth 179 = some (10, yX10_runRead, cX10_runRead, 6, none, 0, 0) := rfl
theorem O179 : im_rok 10 179 := by unfold im_rok; decide +kernel
set_option maxRecDepth 100000 in
theorem Y180 : im_mth 180 = some (10, yX10_tell, cX10_tell, 3, (some .int), 0, 0) := rfl
theorem O180 : im_rok 10 180 := by unfold im_rok; decide +kernel
set_option maxRecDepth 100000 in
theorem Y181 : im_mth 181 = some (10, yX10_fault, cX10_fault, 2, (some .int), 0, 0) := rfl
theorem O181 : im_rok 10 181 := by unfold im_rok; decide +kernel
set_option maxRecDepth 100000 in
theorem Y182 : im_mth 182 = some (10, yX10_isStroke, cX10_isStroke, 2, (some .boolean), 0, 0) := rfl
theorem O182 : im_rok 10 182 := by unfold im_rok; decide +kernel
set_option maxRecDepth 100000 in
theorem Y183 : im_mth 183 = some (10, yX10_xOf, cX10_xOf, 3, (some .int), 0, 0) := rfl
theorem O183 : im_rok 10 183 := by unfold im_rok; decide +kernel
set_option maxRecDepth 100000 in
theorem Y184 : im_mth 184 = some (10, yX10_yOf, cX10_yOf, 3, (some .int), 0, 0) := rfl
theorem O184 : im_rok 10 184 := by unfold im_rok; decide +kernel
set_option maxRecDepth 100000 in
theorem Y185 : im_mth 185 = some (10, yX10_longOf, cX10_longOf, 2, (some .int), 0, 0) := rfl
theorem O185 : im_rok 10 185 := by unfold im_rok; decide +kernel
set_option maxRecDepth 100000 in
theorem Y186 : im_mth 186 = some (10, yX10_covers, cX10_covers, 5, (some .boolean), 0, 0) := rfl
theorem O186 : im_rok 10 186 := by unfold im_rok; decide +kernel
set_option maxRecDepth 100000 in
theorem Y187 : im_mth 187 = some (10, yX10_commonOf, cX10_commonOf, 4, (some .int), 0, 0) := rfl
theorem O187 : im_rok 10 187 := by unfold im_rok; decide +kernel
set_option maxRecDepth 100000 in
theorem Y188 : im_mth 188 = some (10, yX10_cross, cX10_cross, 3, (some .boolean), 0, 0) := rfl
theorem O188 : im_rok 10 188 := by unfold im_rok; decide +kernel
set_option maxRecDepth 100000 in
theorem Y189 : im_mth 189 = some (10, yX10_laysOver, cX10_laysOver, 3, none, 0, 0) := rfl
theorem O189 : im_rok 10 189 := by unfold im_rok; decide +kernel
set_option maxRecDepth 100000 in
theorem Y190 : im_mth 190 = some (10, yX10_laysWays, cX10_laysWays, 5, (some .int), 0, 0) := rfl
theorem O190 : im_rok 10 190 := by unfold im_rok; decide +kernel
set_option maxRecDepth 100000 in
theorem Y191 : im_mth 191 = some (10, yX10_lays, cX10_lays, 1, none, 0, 0) := rfl
theorem O191 : im_rok 10 191 := by unfold im_rok; decide +kernel
set_option maxRecDepth 100000 in
theorem Y192 : im_mth 192 = some (10, yX10_mustOf, cX10_mustOf, 2, (some .int), 0, 0) := rfl
theorem O192 : im_rok 10 192 := by unfold im_rok; decide +kernel
set_option maxRecDepth 100000 in
theorem Y193 : im_mth 193 = some (10, yX10_leads, cX10_leads, 8, (some .boolean), 0, 0) := rfl
theorem O193 : im_rok 10 193 := by unfold im_rok; decide +kernel
set_option maxRecDepth 100000 in
theorem Y194 : im_mth 194 = some (10, yX10_whyOver, cX10_whyOver, 4, (some .int), 0, 0) := rfl
theorem O194 : im_rok 10 194 := by unfold im_rok; decide +kernel
set_option maxRecDepth 100000 in
theorem Y195 : im_mth 195 = some (10, yX10_remembers, cX10_remembers, 2, none, 0, 0) := rfl
theorem O195 : im_rok 10 195 := by unfold im_rok; decide +kernel
set_option maxRecDepth 100000 in
theorem Y196 : im_mth 196 = some (10, yX10_twos, cX10_twos, 3, (some .int), 0, 0) := rfl
theorem O196 : im_rok 10 196 := by unfold im_rok; decide +kernel
set_option maxRecDepth 100000 in
theorem Y197 : im_mth 197 = some (10, yX10_over, cX10_over, 4, (some .int), 0, 0) := rfl
theorem O197 : im_rok 10 197 := by unfold im_rok; decide +kernel
set_option maxRecDepth 100000 in
theorem Y198 : im_mth 198 = some (10, yX10_takes, cX10_takes, 3, (some .int), 0, 0) := rfl
theorem O198 : im_rok 10 198 := by unfold im_rok; decide +kernel
set_option maxRecDepth 100000 in
theorem Y199 : im_mth 199 = some (10, yX10_hand, cX10_hand, 4, (some .int), 0, 0) := rfl
theorem O199 : im_rok 10 199 := by unfold im_rok; decide +kernel
set_option maxRecDepth 100000 in
theorem Y200 : im_mth 200 = some (10, yX10_weigh, cX10_weigh, 4, (some .int), 0, 0) := rfl
theorem O200 : im_rok 10 200 := by unfold im_rok; decide +kernel
set_option maxRecDepth 100000 in
theorem Y201 : im_mth 201 = some (10, yX10_undo, cX10_undo, 2, (some .int), 0, 0) := rfl
theorem O201 : im_rok 10 201 := by unfold im_rok; decide +kernel
set_option maxRecDepth 100000 in
theorem Y202 : im_mth 202 = some (10, yX10_crossings, cX10_crossings, 4, (some .int), 0, 0) := rfl
theorem O202 : im_rok 10 202 := by unfold im_rok; decide +kernel
set_option maxRecDepth 100000 in
theorem Y203 : im_mth 203 = some (10, yX10_underOf, cX10_underOf, 4, (some .int), 0, 0) := rfl
theorem O203 : im_rok 10 203 := by unfold im_rok; decide +kernel
set_option maxRecDepth 100000 in
theorem Y204 : im_mth 204 = some (10, yX10_layerOf, cX10_layerOf, 5, (some .int), 0, 0) := rfl
theorem O204 : im_rok 10 204 := by unfold im_rok; decide +kernel
set_option maxRecDepth 100000 in
theorem Y205 : im_mth 205 = some (10, yX10_stroke, cX10_stroke, 3, (some .int), 0, 0) := rfl
theorem O205 : im_rok 10 205 := by unfold im_rok; decide +kernel
set_option maxRecDepth 100000 in
theorem Y206 : im_mth 206 = some (10, yX10_crossing, cX10_crossing, 3, (some .int), 0, 0) := rfl
theorem O206 : im_rok 10 206 := by unfold im_rok; decide +kernel
set_option maxRecDepth 100000 in
theorem Y207 : im_mth 207 = some (10, yX10_ring, cX10_ring, 2, (some .int), 0, 0) := rfl
theorem O207 : im_rok 10 207 := by unfold im_rok; decide +kernel
set_option maxRecDepth 100000 in
theorem Y208 : im_mth 208 = some (10, yX10_order, cX10_order, 5, (some .int), 0, 0) := rfl
theorem O208 : im_rok 10 208 := by unfold im_rok; decide +kernel
set_option maxRecDepth 100000 in
theorem Y209 : im_mth 209 = some (10, yX10_ordersNow, cX10_ordersNow, 4, (some .long), 0, 0) := rfl
theorem O209 : im_rok 10 209 := by unfold im_rok; decide +kernel
set_option maxRecDepth 100000 in
theorem Y210 : im_mth 210 = some (10, yX10_orders, cX10_orders, 1, (some .long), 0, 0) := rfl
theorem O210 : im_rok 10 210 := by unfold im_rok; decide +kernel
set_option maxRecDepth 100000 in
theorem Y211 : im_mth 211 = some (10, yX10_ordersWith, cX10_ordersWith, 3, (some .long), 0, 0) := rfl
theorem O211 : im_rok 10 211 := by unfold im_rok; decide +kernel
set_option maxRecDepth 100000 in
theorem Y212 : im_mth 212 = some (10, yX10_ahead, cX10_ahead, 3, (some .long), 0, 0) := rfl
theorem O212 : im_rok 10 212 := by unfold im_rok; decide +kernel
set_option maxRecDepth 100000 in
theorem Y213 : im_mth 213 = some (10, yX10_ways, cX10_ways, 1, (some .int), 0, 0) := rfl
theorem O213 : im_rok 10 213 := by unfold im_rok; decide +kernel
set_option maxRecDepth 100000 in
theorem Y214 : im_mth 214 = some (10, yX10_layers, cX10_layers, 3, (some .int), 0, 0) := rfl
theorem O214 : im_rok 10 214 := by unfold im_rok; decide +kernel
set_option maxRecDepth 100000 in
theorem Y215 : im_mth 215 = some (10, yX10_span, cX10_span, 8, (some .long), 0, 0) := rfl
theorem O215 : im_rok 10 215 := by unfold im_rok; decide +kernel
set_option maxRecDepth 100000 in
theorem Y216 : im_mth 216 = some (10, yX10_paired, cX10_paired, 4, (some .int), 0, 0) := rfl
theorem O216 : im_rok 10 216 := by unfold im_rok; decide +kernel
set_option maxRecDepth 100000 in
theorem Y217 : im_mth 217 = some (10, yX10_topOf, cX10_topOf, 6, (some .int), 0, 0) := rfl
theorem O217 : im_rok 10 217 := by unfold im_rok; decide +kernel
set_option maxRecDepth 100000 in
theorem Y218 : im_mth 218 = some (10, yX10_seenOf, cX10_seenOf, 5, (some .int), 0, 0) := rfl
theorem O218 : im_rok 10 218 := by unfold im_rok; decide +kernel
set_option maxRecDepth 100000 in
theorem Y219 : im_mth 219 = some (10, yX10_top, cX10_top, 3, (some .int), 0, 0) := rfl
theorem O219 : im_rok 10 219 := by unfold im_rok; decide +kernel
set_option maxRecDepth 100000 in
theorem Y220 : im_mth 220 = some (10, yX10_seen, cX10_seen, 3, (some .int), 0, 0) := rfl
theorem O220 : im_rok 10 220 := by unfold im_rok; decide +kernel
set_option maxRecDepth 100000 in
theorem Y221 : im_mth 221 = some (10, yX10_isPlace, cX10_isPlace, 2, (some .boolean), 0, 0) := rfl
theorem O221 : im_rok 10 221 := by unfold im_rok; decide +kernel
set_option maxRecDepth 100000 in
theorem Y222 : im_mth 222 = some (10, yX10_showsOf, cX10_showsOf, 6, (some .int), 0, 0) := rfl
theorem O222 : im_rok 10 222 := by unfold im_rok; decide +kernel
set_option maxRecDepth 100000 in
theorem Y223 : im_mth 223 = some (10, yX10_shows, cX10_shows, 3, (some .int), 0, 0) := rfl
theorem O223 : im_rok 10 223 := by unfold im_rok; decide +kernel
set_option maxRecDepth 100000 in
theorem Y224 : im_mth 224 = some (10, yX10_fitsOf, cX10_fitsOf, 8, (some .int), 0, 0) := rfl
theorem O224 : im_rok 10 224 := by unfold im_rok; decide +kernel
set_option maxRecDepth 100000 in
theorem Y225 : im_mth 225 = some (10, yX10_fits, cX10_fits, 2, (some .int), 0, 0) := rfl
theorem O225 : im_rok 10 225 := by unfold im_rok; decide +kernel
set_option maxRecDepth 100000 in
theorem Y226 : im_mth 226 = some (10, yX10_runOf, cX10_runOf, 3, (some .int), 0, 0) := rfl
theorem O226 : im_rok 10 226 := by unfold im_rok; decide +kernel
set_option maxRecDepth 100000 in
theorem Y227 : im_mth 227 = some (10, yX10_laysFits, cX10_laysFits, 2, none, 0, 0) := rfl
theorem O227 : im_rok 10 227 := by unfold im_rok; decide +kernel
set_option maxRecDepth 100000 in
theorem Y228 : im_mth 228 = some (10, yX10_fitsRun, cX10_fitsRun, 5, (some .boolean), 0, 0) := rfl
theorem O228 : im_rok 10 228 := by unfold im_rok; decide +kernel
set_option maxRecDepth 100000 in
theorem Y229 : im_mth 229 = some (10, yX10_sureOf, cX10_sureOf, 5, (some .int), 0, 0) := rfl
theorem O229 : im_rok 10 229 := by unfold im_rok; decide +kernel
set_option maxRecDepth 100000 in
theorem Y230 : im_mth 230 = some (10, yX10_sure, cX10_sure, 2, (some .int), 0, 0) := rfl
theorem O230 : im_rok 10 230 := by unfold im_rok; decide +kernel
set_option maxRecDepth 100000 in
theorem Y231 : im_mth 231 = some (10, yX10_isLetterAt, cX10_isLetterAt, 2, (some .boolean), 0, 0) := rfl
theorem O231 : im_rok 10 231 := by unfold im_rok; decide +kernel
set_option maxRecDepth 100000 in
theorem Y232 : im_mth 232 = some (10, yX10_nearest, cX10_nearest, 9, (some .int), 0, 0) := rfl
theorem O232 : im_rok 10 232 := by unfold im_rok; decide +kernel
set_option maxRecDepth 100000 in
theorem Y233 : im_mth 233 = some (10, yX10_odds, cX10_odds, 3, (some .int), 0, 0) := rfl
theorem O233 : im_rok 10 233 := by unfold im_rok; decide +kernel
set_option maxRecDepth 100000 in
theorem Y234 : im_mth 234 = some (10, yX10_guess, cX10_guess, 5, (some .int), 0, 0) := rfl
theorem O234 : im_rok 10 234 := by unfold im_rok; decide +kernel
set_option maxRecDepth 100000 in
theorem Y235 : im_mth 235 = some (10, yX10_isRun, cX10_isRun, 2, (some .boolean), 0, 0) := rfl
theorem O235 : im_rok 10 235 := by unfold im_rok; decide +kernel
set_option maxRecDepth 100000 in
theorem Y236 : im_mth 236 = some (10, yX10_words, cX10_words, 5, (some .int), 0, 0) := rfl
theorem O236 : im_rok 10 236 := by unfold im_rok; decide +kernel
set_option maxRecDepth 100000 in
theorem Y237 : im_mth 237 = some (10, yX10_productOf, cX10_productOf, 5, (some .long), 0, 0) := rfl
theorem O237 : im_rok 10 237 := by unfold im_rok; decide +kernel
set_option maxRecDepth 100000 in
theorem Y238 : im_mth 238 = some (10, yX10_likely, cX10_likely, 4, (some .int), 0, 0) := rfl
theorem O238 : im_rok 10 238 := by unfold im_rok; decide +kernel
set_option maxRecDepth 100000 in
theorem Y239 : im_mth 239 = some (10, yX10_timesOf, cX10_timesOf, 12, (some .int), 0, 0) := rfl
theorem O239 : im_rok 10 239 := by unfold im_rok; decide +kernel
set_option maxRecDepth 100000 in
theorem Y240 : im_mth 240 = some (10, yX10_oddsOf, cX10_oddsOf, 6, (some .int), 0, 0) := rfl
theorem O240 : im_rok 10 240 := by unfold im_rok; decide +kernel
set_option maxRecDepth 100000 in
theorem Y241 : im_mth 241 = some (10, yX10_likelihood, cX10_likelihood, 5, (some .int), 0, 0) := rfl
theorem O241 : im_rok 10 241 := by unfold im_rok; decide +kernel
set_option maxRecDepth 100000 in
theorem Y242 : im_mth 242 = some (10, yX10_readOf, cX10_readOf, 3, (some .int), 0, 0) := rfl
theorem O242 : im_rok 10 242 := by unfold im_rok; decide +kernel
set_option maxRecDepth 100000 in
theorem Y243 : im_mth 243 = some (10, yX10_reads, cX10_reads, 2, (some .int), 0, 0) := rfl
theorem O243 : im_rok 10 243 := by unfold im_rok; decide +kernel
set_option maxRecDepth 100000 in
theorem Y244 : im_mth 244 = some (10, yX10_letter, cX10_letter, 5, (some .int), 0, 0) := rfl
theorem O244 : im_rok 10 244 := by unfold im_rok; decide +kernel
set_option maxRecDepth 100000 in
theorem Y245 : im_mth 245 = some (10, yX10_asks, cX10_asks, 11, (some .long), 0, 0) := rfl
theorem O245 : im_rok 10 245 := by unfold im_rok; decide +kernel
set_option maxRecDepth 100000 in
theorem Y246 : im_mth 246 = some (10, yX10_asking, cX10_asking, 4, (some .long), 0, 0) := rfl
theorem O246 : im_rok 10 246 := by unfold im_rok; decide +kernel
set_option maxRecDepth 100000 in
theorem Y247 : im_mth 247 = some (10, yX10_looseOf, cX10_looseOf, 4, (some .int), 0, 0) := rfl
theorem O247 : im_rok 10 247 := by unfold im_rok; decide +kernel
set_option maxRecDepth 100000 in
theorem Y248 : im_mth 248 = some (10, yX10_loose, cX10_loose, 2, (some .int), 0, 0) := rfl
theorem O248 : im_rok 10 248 := by unfold im_rok; decide +kernel
set_option maxRecDepth 100000 in
theorem Y249 : im_mth 249 = some (10, yX10_scrape, cX10_scrape, 5, (some .int), 0, 0) := rfl
theorem O249 : im_rok 10 249 := by unfold im_rok; decide +kernel
set_option maxRecDepth 100000 in
theorem Y250 : im_mth 250 = some (10, yX10_clearer, cX10_clearer, 3, (some .int), 0, 0) := rfl
theorem O250 : im_rok 10 250 := by unfold im_rok; decide +kernel
set_option maxRecDepth 100000 in
theorem Y251 : im_mth 251 = some (10, yX10_fitMany, cX10_fitMany, 3, (some .int), 0, 0) := rfl
theorem O251 : im_rok 10 251 := by unfold im_rok; decide +kernel
set_option maxRecDepth 100000 in
theorem Y252 : im_mth 252 = some (10, yX10_spoilt, cX10_spoilt, 7, (some .int), 0, 0) := rfl
theorem O252 : im_rok 10 252 := by unfold im_rok; decide +kernel
set_option maxRecDepth 100000 in
theorem Y253 : im_mth 253 = some (10, yX10_isRowAt, cX10_isRowAt, 1, (some .boolean), 0, 0) := rfl
theorem O253 : im_rok 10 253 := by unfold im_rok; decide +kernel
set_option maxRecDepth 100000 in
theorem Y254 : im_mth 254 = some (10, yX10_row, cX10_row, 5, (some .int), 0, 0) := rfl
theorem O254 : im_rok 10 254 := by unfold im_rok; decide +kernel
set_option maxRecDepth 100000 in
theorem Y255 : im_mth 255 = some (10, yX10_write, cX10_write, 4, (some .int), 0, 0) := rfl
theorem O255 : im_rok 10 255 := by unfold im_rok; decide +kernel
set_option maxRecDepth 100000 in
theorem Y256 : im_mth 256 = some (10, yX10_paste, cX10_paste, 8, (some .int), 0, 0) := rfl
theorem O256 : im_rok 10 256 := by unfold im_rok; decide +kernel
set_option maxRecDepth 100000 in
theorem Y257 : im_mth 257 = some (10, yX10_judge, cX10_judge, 4, (some .int), 0, 0) := rfl
theorem O257 : im_rok 10 257 := by unfold im_rok; decide +kernel
set_option maxRecDepth 100000 in
theorem Y258 : im_mth 258 = some (10, yX10_mending, cX10_mending, 9, (some .long), 0, 0) := rfl
theorem O258 : im_rok 10 258 := by unfold im_rok; decide +kernel
set_option maxRecDepth 100000 in
theorem Y259 : im_mth 259 = some (10, yX10_hiddenMany, cX10_hiddenMany, 3, (some .int), 0, 0) := rfl
theorem O259 : im_rok 10 259 := by unfold im_rok; decide +kernel
set_option maxRecDepth 100000 in
theorem Y260 : im_mth 260 = some (10, yX10_count, cX10_count, 4, (some .int), 0, 0) := rfl
theorem O260 : im_rok 10 260 := by unfold im_rok; decide +kernel
set_option maxRecDepth 100000 in
theorem Y261 : im_mth 261 = some (15, yJ6_lowestOneBit_0f7a4, cJ6_lowestOneBit_0f7a4, 1, (some .int), 0, 0) := rfl
set_option maxRecDepth 100000 in
theorem Y262 : im_mth 262 = some (15, yJ6_numberOfTrailingZeros_0f7a4, cJ6_numberOfTrailingZeros_0f7a4, 2, (some .int), 0, 0) := rfl
set_option maxRecDepth 100000 in
theorem Y263 : im_mth 263 = some (15, yJ6_bitCount_0f7a4, cJ6_bitCount_0f7a4, 1, (some .int), 0, 0) := rfl
set_option maxRecDepth 100000 in
theorem Y264 : im_mth 264 = some (12, yJ0_length_8abf5, cJ0_length_8abf5, 1, (some .int), 0, 0) := rfl
theorem O264 : im_rok 12 264 := by unfold im_rok; decide +kernel
set_option maxRecDepth 100000 in
theorem Y265 : im_mth 265 = some (12, yJ0_charAt_5068e, cJ0_charAt_5068e, 2, (some .char), 0, 0) := rfl
theorem O265 : im_rok 12 265 := by unfold im_rok; decide +kernel
set_option maxRecDepth 100000 in
theorem Y266 : im_mth 266 = some (12, yJ0_coder_7d493, cJ0_coder_7d493, 1, (some .byte), 0, 0) := rfl
theorem O266 : im_rok 12 266 := by unfold im_rok; decide +kernel
set_option maxRecDepth 100000 in
theorem Y267 : im_mth 267 = some (12, yJ0_isLatin1_aae02, cJ0_isLatin1_aae02, 1, (some .boolean), 0, 0) := rfl
theorem O267 : im_rok 12 267 := by unfold im_rok; decide +kernel
set_option maxRecDepth 100000 in
theorem Y268 : im_mth 268 = some (12, yJ0_checkIndex_df160, cJ0_checkIndex_df160, 2, none, 0, 0) := rfl
theorem O268 : im_rok 12 268 := by unfold im_rok; decide +kernel
set_option maxRecDepth 100000 in
theorem Y269 : im_mth 269 = some (13, yJ1_charAt_3b067, cJ1_charAt_3b067, 2, (some .char), 0, 0) := rfl
set_option maxRecDepth 100000 in
theorem Y270 : im_mth 270 = some (14, yJ3_checkIndex_8e157, cJ3_checkIndex_8e157, 3, (some .int), 0, 0) := rfl
theorem kim1 : Int32.ofInt (-1) = (-1) := by decide +kernel
theorem ki0 : Int32.ofInt (0) = 0 := by decide +kernel
theorem ki1 : Int32.ofInt (1) = 1 := by decide +kernel
theorem ki2 : Int32.ofInt (2) = 2 := by decide +kernel
theorem ki3 : Int32.ofInt (3) = 3 := by decide +kernel
theorem ki4 : Int32.ofInt (4) = 4 := by decide +kernel
theorem ki5 : Int32.ofInt (5) = 5 := by decide +kernel
theorem kbm105 : (Int8.ofInt (-105)).toInt32 = (-105) := by decide +kernel
theorem kbm30 : (Int8.ofInt (-30)).toInt32 = (-30) := by decide +kernel
theorem kbm9 : (Int8.ofInt (-9)).toInt32 = (-9) := by decide +kernel
theorem kbm8 : (Int8.ofInt (-8)).toInt32 = (-8) := by decide +kernel
theorem kbm7 : (Int8.ofInt (-7)).toInt32 = (-7) := by decide +kernel
theorem kbm6 : (Int8.ofInt (-6)).toInt32 = (-6) := by decide +kernel
theorem kbm5 : (Int8.ofInt (-5)).toInt32 = (-5) := by decide +kernel
theorem kbm3 : (Int8.ofInt (-3)).toInt32 = (-3) := by decide +kernel
theorem kbm2 : (Int8.ofInt (-2)).toInt32 = (-2) := by decide +kernel
theorem kb6 : (Int8.ofInt (6)).toInt32 = 6 := by decide +kernel
theorem kb7 : (Int8.ofInt (7)).toInt32 = 7 := by decide +kernel
theorem kb8 : (Int8.ofInt (8)).toInt32 = 8 := by decide +kernel
theorem kb9 : (Int8.ofInt (9)).toInt32 = 9 := by decide +kernel
theorem kb10 : (Int8.ofInt (10)).toInt32 = 10 := by decide +kernel
theorem kb12 : (Int8.ofInt (12)).toInt32 = 12 := by decide +kernel
theorem kb16 : (Int8.ofInt (16)).toInt32 = 16 := by decide +kernel
theorem kb20 : (Int8.ofInt (20)).toInt32 = 20 := by decide +kernel
theorem kb23 : (Int8.ofInt (23)).toInt32 = 23 := by decide +kernel
theorem kb24 : (Int8.ofInt (24)).toInt32 = 24 := by decide +kernel
theorem kb32 : (Int8.ofInt (32)).toInt32 = 32 := by decide +kernel
theorem kb34 : (Int8.ofInt (34)).toInt32 = 34 := by decide +kernel
theorem kb46 : (Int8.ofInt (46)).toInt32 = 46 := by decide +kernel
theorem kb47 : (Int8.ofInt (47)).toInt32 = 47 := by decide +kernel
theorem kb48 : (Int8.ofInt (48)).toInt32 = 48 := by decide +kernel
theorem kb55 : (Int8.ofInt (55)).toInt32 = 55 := by decide +kernel
theorem kb57 : (Int8.ofInt (57)).toInt32 = 57 := by decide +kernel
theorem kb59 : (Int8.ofInt (59)).toInt32 = 59 := by decide +kernel
theorem kb63 : (Int8.ofInt (63)).toInt32 = 63 := by decide +kernel
theorem kb72 : (Int8.ofInt (72)).toInt32 = 72 := by decide +kernel
theorem kb75 : (Int8.ofInt (75)).toInt32 = 75 := by decide +kernel
theorem kb91 : (Int8.ofInt (91)).toInt32 = 91 := by decide +kernel
theorem kb96 : (Int8.ofInt (96)).toInt32 = 96 := by decide +kernel
theorem kb97 : (Int8.ofInt (97)).toInt32 = 97 := by decide +kernel
theorem kb99 : (Int8.ofInt (99)).toInt32 = 99 := by decide +kernel
theorem kb100 : (Int8.ofInt (100)).toInt32 = 100 := by decide +kernel
theorem kb122 : (Int8.ofInt (122)).toInt32 = 122 := by decide +kernel
theorem kb126 : (Int8.ofInt (126)).toInt32 = 126 := by decide +kernel
theorem kb127 : (Int8.ofInt (127)).toInt32 = 127 := by decide +kernel
theorem ks144 : (Int16.ofInt (144)).toInt32 = 144 := by decide +kernel
theorem ks175 : (Int16.ofInt (175)).toInt32 = 175 := by decide +kernel
theorem ks183 : (Int16.ofInt (183)).toInt32 = 183 := by decide +kernel
theorem ks195 : (Int16.ofInt (195)).toInt32 = 195 := by decide +kernel
theorem ks207 : (Int16.ofInt (207)).toInt32 = 207 := by decide +kernel
theorem ks217 : (Int16.ofInt (217)).toInt32 = 217 := by decide +kernel
theorem ks255 : (Int16.ofInt (255)).toInt32 = 255 := by decide +kernel
theorem ks256 : (Int16.ofInt (256)).toInt32 = 256 := by decide +kernel
theorem ks288 : (Int16.ofInt (288)).toInt32 = 288 := by decide +kernel
theorem ks374 : (Int16.ofInt (374)).toInt32 = 374 := by decide +kernel
theorem ks408 : (Int16.ofInt (408)).toInt32 = 408 := by decide +kernel
theorem ks511 : (Int16.ofInt (511)).toInt32 = 511 := by decide +kernel
theorem ks900 : (Int16.ofInt (900)).toInt32 = 900 := by decide +kernel
theorem ks1000 : (Int16.ofInt (1000)).toInt32 = 1000 := by decide +kernel
theorem ks4096 : (Int16.ofInt (4096)).toInt32 = 4096 := by decide +kernel
theorem knm8 : Int32.ofInt (-8) = (-8) := by decide +kernel
theorem knm1 : Int32.ofInt (-1) = (-1) := by decide +kernel
theorem kn1 : Int32.ofInt (1) = 1 := by decide +kernel
theorem kn2 : Int32.ofInt (2) = 2 := by decide +kernel
theorem kn4 : Int32.ofInt (4) = 4 := by decide +kernel
theorem kn6 : Int32.ofInt (6) = 6 := by decide +kernel
theorem kn8 : Int32.ofInt (8) = 8 := by decide +kernel
theorem kn16 : Int32.ofInt (16) = 16 := by decide +kernel
theorem kl0 : Int64.ofNat ((0 : Fin 2) : Nat) = 0 := by decide +kernel
theorem kl1 : Int64.ofNat ((1 : Fin 2) : Nat) = 1 := by decide +kernel
theorem I0 : (yX0_init.name == "<init>") = true := by decide +kernel
theorem I1 : (yX0_add.name == "<init>") = false := by decide +kernel
theorem I2 : (yX0_takeLatest.name == "<init>") = false := by decide +kernel
theorem I3 : (yX1_init.name == "<init>") = true := by decide +kernel
theorem I4 : (yX1_clear.name == "<init>") = false := by decide +kernel
theorem I5 : (yX1_copyLinksOf.name == "<init>") = false := by decide +kernel
theorem I6 : (yX1_has.name == "<init>") = false := by decide +kernel
theorem I7 : (yX1_hasTwo.name == "<init>") = false := by decide +kernel
theorem I8 : (yX1_hasCell.name == "<init>") = false := by decide +kernel
theorem I9 : (yX1_strokesAt.name == "<init>") = false := by decide +kernel
theorem I10 : (yX1_hasRoomFor.name == "<init>") = false := by decide +kernel
theorem I11 : (yX1_addStroke.name == "<init>") = false := by decide +kernel
theorem I12 : (yX1_firstCommonCell.name == "<init>") = false := by decide +kernel
theorem I13 : (yX1_countCrossings.name == "<init>") = false := by decide +kernel
theorem I14 : (yX1_isCrossing.name == "<init>") = false := by decide +kernel
theorem I15 : (yX1_isTold.name == "<init>") = false := by decide +kernel
theorem I16 : (yX1_isOver.name == "<init>") = false := by decide +kernel
theorem I17 : (yX1_canBeTold.name == "<init>") = false := by decide +kernel
theorem I18 : (yX1_linkLeavesNoWay.name == "<init>") = false := by decide +kernel
theorem I19 : (yX1_link.name == "<init>") = false := by decide +kernel
theorem I20 : (yX1_unlink.name == "<init>") = false := by decide +kernel
theorem I21 : (yX1_addChains.name == "<init>") = false := by decide +kernel
theorem I22 : (yX1_hasBetween.name == "<init>") = false := by decide +kernel
theorem I23 : (yX1_toldHand.name == "<init>") = false := by decide +kernel
theorem I24 : (yX1_setHand.name == "<init>") = false := by decide +kernel
theorem I25 : (yX1_handLeavesNoWay.name == "<init>") = false := by decide +kernel
theorem I26 : (yX1_mustBeLower.name == "<init>") = false := by decide +kernel
theorem I27 : (yX1_mustOf.name == "<init>") = false := by decide +kernel
theorem I28 : (yX1_readyAfter.name == "<init>") = false := by decide +kernel
theorem I29 : (yX1_strokeInOrder.name == "<init>") = false := by decide +kernel
theorem I30 : (yX1_layerOf.name == "<init>") = false := by decide +kernel
theorem I31 : (yX1_countLayers.name == "<init>") = false := by decide +kernel
theorem I32 : (yX1_topOf.name == "<init>") = false := by decide +kernel
theorem I33 : (yX1_seenOf.name == "<init>") = false := by decide +kernel
theorem I34 : (yX1_lookAt.name == "<init>") = false := by decide +kernel
theorem I35 : (yX2_init.name == "<init>") = true := by decide +kernel
theorem I36 : (yX2_readText.name == "<init>") = false := by decide +kernel
theorem I37 : (yX2_readPiece.name == "<init>") = false := by decide +kernel
theorem I38 : (yX2_readDigits.name == "<init>") = false := by decide +kernel
theorem I39 : (yX2_readSmall.name == "<init>") = false := by decide +kernel
theorem I40 : (yX2_isDigit.name == "<init>") = false := by decide +kernel
theorem I41 : (yX2_isSmall.name == "<init>") = false := by decide +kernel
theorem I42 : (yX2_isNamed.name == "<init>") = false := by decide +kernel
theorem I43 : (yX2_refuse.name == "<init>") = false := by decide +kernel
theorem I44 : (yX2_readLine.name == "<init>") = false := by decide +kernel
theorem I45 : (yX2_readSemicolon.name == "<init>") = false := by decide +kernel
theorem I46 : (yX2_readNumber.name == "<init>") = false := by decide +kernel
theorem I47 : (yX2_readPage.name == "<init>") = false := by decide +kernel
theorem I48 : (yX2_readStroke.name == "<init>") = false := by decide +kernel
theorem I49 : (yX2_readHand.name == "<init>") = false := by decide +kernel
theorem I50 : (yX2_readOver.name == "<init>") = false := by decide +kernel
theorem I51 : (yX2_readLetter.name == "<init>") = false := by decide +kernel
theorem I52 : (yX2_readPlace.name == "<init>") = false := by decide +kernel
theorem I53 : (yX2_readWord.name == "<init>") = false := by decide +kernel
theorem I54 : (yX2_readRun.name == "<init>") = false := by decide +kernel
theorem I55 : (yX3_init.name == "<init>") = true := by decide +kernel
theorem I56 : (yX3_show.name == "<init>") = false := by decide +kernel
theorem I57 : (yX3_countSteps.name == "<init>") = false := by decide +kernel
theorem I58 : (yX4_init.name == "<init>") = true := by decide +kernel
theorem I59 : (yX4_start.name == "<init>") = false := by decide +kernel
theorem I60 : (yX4_cut.name == "<init>") = false := by decide +kernel
theorem I61 : (yX4_hasPart.name == "<init>") = false := by decide +kernel
theorem I62 : (yX5_init.name == "<init>") = true := by decide +kernel
theorem I63 : (yX5_clear.name == "<init>") = false := by decide +kernel
theorem I64 : (yX5_hasLetter.name == "<init>") = false := by decide +kernel
theorem I65 : (yX5_hasPlace.name == "<init>") = false := by decide +kernel
theorem I66 : (yX5_hasWord.name == "<init>") = false := by decide +kernel
theorem I67 : (yX5_hasRun.name == "<init>") = false := by decide +kernel
theorem I68 : (yX5_letterNamed.name == "<init>") = false := by decide +kernel
theorem I69 : (yX5_addLetter.name == "<init>") = false := by decide +kernel
theorem I70 : (yX5_addPlace.name == "<init>") = false := by decide +kernel
theorem I71 : (yX5_isFree.name == "<init>") = false := by decide +kernel
theorem I72 : (yX5_addRun.name == "<init>") = false := by decide +kernel
theorem I73 : (yX5_letterOf.name == "<init>") = false := by decide +kernel
theorem I74 : (yX5_lettersThatFit.name == "<init>") = false := by decide +kernel
theorem I75 : (yX5_wordFits.name == "<init>") = false := by decide +kernel
theorem I76 : (yX5_lettersOfWords.name == "<init>") = false := by decide +kernel
theorem I77 : (yX5_weightOfWord.name == "<init>") = false := by decide +kernel
theorem I78 : (yX5_heaviestOf.name == "<init>") = false := by decide +kernel
theorem I79 : (yX5_share.name == "<init>") = false := by decide +kernel
theorem I80 : (yX5_signFor.name == "<init>") = false := by decide +kernel
theorem I81 : (yX6_init.name == "<init>") = true := by decide +kernel
theorem I82 : (yX6_refresh.name == "<init>") = false := by decide +kernel
theorem I83 : (yX6_placesThatFit.name == "<init>") = false := by decide +kernel
theorem I84 : (yX7_init.name == "<init>") = true := by decide +kernel
theorem I85 : (yX7_refresh.name == "<init>") = false := by decide +kernel
theorem I86 : (yX7_countOnceFor.name == "<init>") = false := by decide +kernel
theorem I87 : (yX7_countRowsTo.name == "<init>") = false := by decide +kernel
theorem I88 : (yX7_addOneStroke.name == "<init>") = false := by decide +kernel
theorem I89 : (yX7_refreshDetail.name == "<init>") = false := by decide +kernel
theorem I90 : (yX7_countFrom.name == "<init>") = false := by decide +kernel
theorem I91 : (yX7_addEarlier.name == "<init>") = false := by decide +kernel
theorem I92 : (yX7_comesAhead.name == "<init>") = false := by decide +kernel
theorem I93 : (yX7_asked.name == "<init>") = false := by decide +kernel
theorem I94 : (yX7_bestToAsk.name == "<init>") = false := by decide +kernel
theorem I95 : (yX7_meanPlace.name == "<init>") = false := by decide +kernel
theorem I96 : (yX7_countWays.name == "<init>") = false := by decide +kernel
theorem I97 : (yX8_init.name == "<init>") = true := by decide +kernel
theorem I98 : (yX8_addInt.name == "<init>") = false := by decide +kernel
theorem I99 : (yX9_init.name == "<init>") = true := by decide +kernel
theorem I100 : (yX9_feed.name == "<init>") = false := by decide +kernel
theorem I101 : (yX9_tell.name == "<init>") = false := by decide +kernel
theorem I102 : (yX9_takeSpareLeaf.name == "<init>") = false := by decide +kernel
theorem I103 : (yX9_fault.name == "<init>") = false := by decide +kernel
theorem I104 : (yX9_over.name == "<init>") = false := by decide +kernel
theorem I105 : (yX9_takes.name == "<init>") = false := by decide +kernel
theorem I106 : (yX9_hand.name == "<init>") = false := by decide +kernel
theorem I107 : (yX9_weigh.name == "<init>") = false := by decide +kernel
theorem I108 : (yX9_undo.name == "<init>") = false := by decide +kernel
theorem I109 : (yX9_takeBack.name == "<init>") = false := by decide +kernel
theorem I110 : (yX9_refusalOf.name == "<init>") = false := by decide +kernel
theorem I111 : (yX9_linksChanged.name == "<init>") = false := by decide +kernel
theorem I112 : (yX9_stroke.name == "<init>") = false := by decide +kernel
theorem I113 : (yX9_crossing.name == "<init>") = false := by decide +kernel
theorem I114 : (yX9_ring.name == "<init>") = false := by decide +kernel
theorem I115 : (yX9_order.name == "<init>") = false := by decide +kernel
theorem I116 : (yX9_orders.name == "<init>") = false := by decide +kernel
theorem I117 : (yX9_ahead.name == "<init>") = false := by decide +kernel
theorem I118 : (yX9_ways.name == "<init>") = false := by decide +kernel
theorem I119 : (yX9_layers.name == "<init>") = false := by decide +kernel
theorem I120 : (yX9_top.name == "<init>") = false := by decide +kernel
theorem I121 : (yX9_seen.name == "<init>") = false := by decide +kernel
theorem I122 : (yX9_shows.name == "<init>") = false := by decide +kernel
theorem I123 : (yX9_fits.name == "<init>") = false := by decide +kernel
theorem I124 : (yX9_sure.name == "<init>") = false := by decide +kernel
theorem I125 : (yX9_odds.name == "<init>") = false := by decide +kernel
theorem I126 : (yX9_guess.name == "<init>") = false := by decide +kernel
theorem I127 : (yX9_words.name == "<init>") = false := by decide +kernel
theorem I128 : (yX9_likely.name == "<init>") = false := by decide +kernel
theorem I129 : (yX9_reads.name == "<init>") = false := by decide +kernel
theorem I130 : (yX9_letter.name == "<init>") = false := by decide +kernel
theorem I131 : (yX9_emptyCells.name == "<init>") = false := by decide +kernel
theorem I132 : (yX9_shownCells.name == "<init>") = false := by decide +kernel
theorem I133 : (yX9_hiddenCells.name == "<init>") = false := by decide +kernel
theorem I134 : (yX9_bitsOf.name == "<init>") = false := by decide +kernel
theorem I135 : (yX9_asking.name == "<init>") = false := by decide +kernel
theorem I136 : (yX9_loose.name == "<init>") = false := by decide +kernel
theorem I137 : (yX9_countLoose.name == "<init>") = false := by decide +kernel
theorem I138 : (yX9_scrape.name == "<init>") = false := by decide +kernel
theorem I139 : (yX9_clearer.name == "<init>") = false := by decide +kernel
theorem I140 : (yX9_span.name == "<init>") = false := by decide +kernel
theorem I141 : (yX9_paired.name == "<init>") = false := by decide +kernel
theorem I142 : (yX9_likelihood.name == "<init>") = false := by decide +kernel
theorem I143 : (yX9_spoilt.name == "<init>") = false := by decide +kernel
theorem I144 : (yX9_countFitting.name == "<init>") = false := by decide +kernel
theorem I145 : (yX9_row.name == "<init>") = false := by decide +kernel
theorem I146 : (yX9_write.name == "<init>") = false := by decide +kernel
theorem I147 : (yX9_paste.name == "<init>") = false := by decide +kernel
theorem I148 : (yX9_mending.name == "<init>") = false := by decide +kernel
theorem I149 : (yX9_mendSparePage.name == "<init>") = false := by decide +kernel
theorem I150 : (yX9_judge.name == "<init>") = false := by decide +kernel
theorem I151 : (yX9_count.name == "<init>") = false := by decide +kernel
theorem I152 : (yX9_countHidden.name == "<init>") = false := by decide +kernel
theorem I153 : (yX9_countRows.name == "<init>") = false := by decide +kernel
theorem I154 : (yX9_isRow.name == "<init>") = false := by decide +kernel
theorem I155 : (yX10_isIn.name == "<init>") = false := by decide +kernel
theorem I156 : (yX10_has.name == "<init>") = false := by decide +kernel
theorem I157 : (yX10_init.name == "<init>") = true := by decide +kernel
theorem I158 : (yX10_plain.name == "<init>") = false := by decide +kernel
theorem I159 : (yX10_feed.name == "<init>") = false := by decide +kernel
theorem I160 : (yX10_peek.name == "<init>") = false := by decide +kernel
theorem I161 : (yX10_fails.name == "<init>") = false := by decide +kernel
theorem I162 : (yX10_isLetter.name == "<init>") = false := by decide +kernel
theorem I163 : (yX10_isDigit.name == "<init>") = false := by decide +kernel
theorem I164 : (yX10_lettersHere.name == "<init>") = false := by decide +kernel
theorem I165 : (yX10_wordHere.name == "<init>") = false := by decide +kernel
theorem I166 : (yX10_numeral.name == "<init>") = false := by decide +kernel
theorem I167 : (yX10_isFull.name == "<init>") = false := by decide +kernel
theorem I168 : (yX10_lineRead.name == "<init>") = false := by decide +kernel
theorem I169 : (yX10_behind.name == "<init>") = false := by decide +kernel
theorem I170 : (yX10_stepX.name == "<init>") = false := by decide +kernel
theorem I171 : (yX10_stepY.name == "<init>") = false := by decide +kernel
theorem I172 : (yX10_isOnPage.name == "<init>") = false := by decide +kernel
theorem I173 : (yX10_strokeRead.name == "<init>") = false := by decide +kernel
theorem I174 : (yX10_handRead.name == "<init>") = false := by decide +kernel
theorem I175 : (yX10_overRead.name == "<init>") = false := by decide +kernel
theorem I176 : (yX10_letterNamed.name == "<init>") = false := by decide +kernel
theorem I177 : (yX10_letterRead.name == "<init>") = false := by decide +kernel
theorem I178 : (yX10_wordRead.name == "<init>") = false := by decide +kernel
theorem I179 : (yX10_runRead.name == "<init>") = false := by decide +kernel
theorem I180 : (yX10_tell.name == "<init>") = false := by decide +kernel
theorem I181 : (yX10_fault.name == "<init>") = false := by decide +kernel
theorem I182 : (yX10_isStroke.name == "<init>") = false := by decide +kernel
theorem I183 : (yX10_xOf.name == "<init>") = false := by decide +kernel
theorem I184 : (yX10_yOf.name == "<init>") = false := by decide +kernel
theorem I185 : (yX10_longOf.name == "<init>") = false := by decide +kernel
theorem I186 : (yX10_covers.name == "<init>") = false := by decide +kernel
theorem I187 : (yX10_commonOf.name == "<init>") = false := by decide +kernel
theorem I188 : (yX10_cross.name == "<init>") = false := by decide +kernel
theorem I189 : (yX10_laysOver.name == "<init>") = false := by decide +kernel
theorem I190 : (yX10_laysWays.name == "<init>") = false := by decide +kernel
theorem I191 : (yX10_lays.name == "<init>") = false := by decide +kernel
theorem I192 : (yX10_mustOf.name == "<init>") = false := by decide +kernel
theorem I193 : (yX10_leads.name == "<init>") = false := by decide +kernel
theorem I194 : (yX10_whyOver.name == "<init>") = false := by decide +kernel
theorem I195 : (yX10_remembers.name == "<init>") = false := by decide +kernel
theorem I196 : (yX10_twos.name == "<init>") = false := by decide +kernel
theorem I197 : (yX10_over.name == "<init>") = false := by decide +kernel
theorem I198 : (yX10_takes.name == "<init>") = false := by decide +kernel
theorem I199 : (yX10_hand.name == "<init>") = false := by decide +kernel
theorem I200 : (yX10_weigh.name == "<init>") = false := by decide +kernel
theorem I201 : (yX10_undo.name == "<init>") = false := by decide +kernel
theorem I202 : (yX10_crossings.name == "<init>") = false := by decide +kernel
theorem I203 : (yX10_underOf.name == "<init>") = false := by decide +kernel
theorem I204 : (yX10_layerOf.name == "<init>") = false := by decide +kernel
theorem I205 : (yX10_stroke.name == "<init>") = false := by decide +kernel
theorem I206 : (yX10_crossing.name == "<init>") = false := by decide +kernel
theorem I207 : (yX10_ring.name == "<init>") = false := by decide +kernel
theorem I208 : (yX10_order.name == "<init>") = false := by decide +kernel
theorem I209 : (yX10_ordersNow.name == "<init>") = false := by decide +kernel
theorem I210 : (yX10_orders.name == "<init>") = false := by decide +kernel
theorem I211 : (yX10_ordersWith.name == "<init>") = false := by decide +kernel
theorem I212 : (yX10_ahead.name == "<init>") = false := by decide +kernel
theorem I213 : (yX10_ways.name == "<init>") = false := by decide +kernel
theorem I214 : (yX10_layers.name == "<init>") = false := by decide +kernel
theorem I215 : (yX10_span.name == "<init>") = false := by decide +kernel
theorem I216 : (yX10_paired.name == "<init>") = false := by decide +kernel
theorem I217 : (yX10_topOf.name == "<init>") = false := by decide +kernel
theorem I218 : (yX10_seenOf.name == "<init>") = false := by decide +kernel
theorem I219 : (yX10_top.name == "<init>") = false := by decide +kernel
theorem I220 : (yX10_seen.name == "<init>") = false := by decide +kernel
theorem I221 : (yX10_isPlace.name == "<init>") = false := by decide +kernel
theorem I222 : (yX10_showsOf.name == "<init>") = false := by decide +kernel
theorem I223 : (yX10_shows.name == "<init>") = false := by decide +kernel
theorem I224 : (yX10_fitsOf.name == "<init>") = false := by decide +kernel
theorem I225 : (yX10_fits.name == "<init>") = false := by decide +kernel
theorem I226 : (yX10_runOf.name == "<init>") = false := by decide +kernel
theorem I227 : (yX10_laysFits.name == "<init>") = false := by decide +kernel
theorem I228 : (yX10_fitsRun.name == "<init>") = false := by decide +kernel
theorem I229 : (yX10_sureOf.name == "<init>") = false := by decide +kernel
theorem I230 : (yX10_sure.name == "<init>") = false := by decide +kernel
theorem I231 : (yX10_isLetterAt.name == "<init>") = false := by decide +kernel
theorem I232 : (yX10_nearest.name == "<init>") = false := by decide +kernel
theorem I233 : (yX10_odds.name == "<init>") = false := by decide +kernel
theorem I234 : (yX10_guess.name == "<init>") = false := by decide +kernel
theorem I235 : (yX10_isRun.name == "<init>") = false := by decide +kernel
theorem I236 : (yX10_words.name == "<init>") = false := by decide +kernel
theorem I237 : (yX10_productOf.name == "<init>") = false := by decide +kernel
theorem I238 : (yX10_likely.name == "<init>") = false := by decide +kernel
theorem I239 : (yX10_timesOf.name == "<init>") = false := by decide +kernel
theorem I240 : (yX10_oddsOf.name == "<init>") = false := by decide +kernel
theorem I241 : (yX10_likelihood.name == "<init>") = false := by decide +kernel
theorem I242 : (yX10_readOf.name == "<init>") = false := by decide +kernel
theorem I243 : (yX10_reads.name == "<init>") = false := by decide +kernel
theorem I244 : (yX10_letter.name == "<init>") = false := by decide +kernel
theorem I245 : (yX10_asks.name == "<init>") = false := by decide +kernel
theorem I246 : (yX10_asking.name == "<init>") = false := by decide +kernel
theorem I247 : (yX10_looseOf.name == "<init>") = false := by decide +kernel
theorem I248 : (yX10_loose.name == "<init>") = false := by decide +kernel
theorem I249 : (yX10_scrape.name == "<init>") = false := by decide +kernel
theorem I250 : (yX10_clearer.name == "<init>") = false := by decide +kernel
theorem I251 : (yX10_fitMany.name == "<init>") = false := by decide +kernel
theorem I252 : (yX10_spoilt.name == "<init>") = false := by decide +kernel
theorem I253 : (yX10_isRowAt.name == "<init>") = false := by decide +kernel
theorem I254 : (yX10_row.name == "<init>") = false := by decide +kernel
theorem I255 : (yX10_write.name == "<init>") = false := by decide +kernel
theorem I256 : (yX10_paste.name == "<init>") = false := by decide +kernel
theorem I257 : (yX10_judge.name == "<init>") = false := by decide +kernel
theorem I258 : (yX10_mending.name == "<init>") = false := by decide +kernel
theorem I259 : (yX10_hiddenMany.name == "<init>") = false := by decide +kernel
theorem I260 : (yX10_count.name == "<init>") = false := by decide +kernel
theorem I261 : (yJ6_lowestOneBit_0f7a4.name == "<init>") = false := by decide +kernel
theorem I262 : (yJ6_numberOfTrailingZeros_0f7a4.name == "<init>") = false := by decide +kernel
theorem I263 : (yJ6_bitCount_0f7a4.name == "<init>") = false := by decide +kernel
theorem I264 : (yJ0_length_8abf5.name == "<init>") = false := by decide +kernel
theorem I265 : (yJ0_charAt_5068e.name == "<init>") = false := by decide +kernel
theorem I266 : (yJ0_coder_7d493.name == "<init>") = false := by decide +kernel
theorem I267 : (yJ0_isLatin1_aae02.name == "<init>") = false := by decide +kernel
theorem I268 : (yJ0_checkIndex_df160.name == "<init>") = false := by decide +kernel
theorem I269 : (yJ1_charAt_3b067.name == "<init>") = false := by decide +kernel
theorem I270 : (yJ3_checkIndex_8e157.name == "<init>") = false := by decide +kernel
theorem ft0_0 : im_ty 0 0 = .int := rfl
theorem ft0_1 : im_ty 0 1 = .int := rfl
theorem ft0_2 : im_ty 0 2 = .array .int := rfl
theorem ft0_3 : im_ty 0 3 = .array .int := rfl
theorem ft0_4 : im_ty 0 4 = .array .int := rfl
theorem ft1_0 : im_ty 1 0 = .int := rfl
theorem ft1_1 : im_ty 1 1 = .int := rfl
theorem ft1_2 : im_ty 1 2 = .int := rfl
theorem ft1_3 : im_ty 1 3 = .int := rfl
theorem ft1_4 : im_ty 1 4 = .int := rfl
theorem ft1_5 : im_ty 1 5 = .int := rfl
theorem ft1_6 : im_ty 1 6 = .array .int := rfl
theorem ft1_7 : im_ty 1 7 = .array .int := rfl
theorem ft1_8 : im_ty 1 8 = .array .int := rfl
theorem ft1_9 : im_ty 1 9 = .array .int := rfl
theorem ft1_10 : im_ty 1 10 = .array .int := rfl
theorem ft1_11 : im_ty 1 11 = .array .int := rfl
theorem ft1_12 : im_ty 1 12 = .array .int := rfl
theorem ft1_13 : im_ty 1 13 = .array .int := rfl
theorem ft1_14 : im_ty 1 14 = .array .int := rfl
theorem ft2_0 : im_ty 2 0 = .int := rfl
theorem ft2_1 : im_ty 2 1 = .int := rfl
theorem ft2_2 : im_ty 2 2 = .int := rfl
theorem ft2_3 : im_ty 2 3 = .object "TwoHands$Tape" := rfl
theorem ft2_4 : im_ty 2 4 = .int := rfl
theorem ft2_5 : im_ty 2 5 = .object "TwoHands$Page" := rfl
theorem ft2_6 : im_ty 2 6 = .object "TwoHands$Script" := rfl
theorem ft2_7 : im_ty 2 7 = .object "TwoHands$RingShown" := rfl
theorem ft2_8 : im_ty 2 8 = .int := rfl
theorem ft2_9 : im_ty 2 9 = .int := rfl
theorem ft2_10 : im_ty 2 10 = .int := rfl
theorem ft2_11 : im_ty 2 11 = .int := rfl
theorem ft2_12 : im_ty 2 12 = .int := rfl
theorem ft3_0 : im_ty 3 0 = .int := rfl
theorem ft3_1 : im_ty 3 1 = .array .int := rfl
theorem ft3_2 : im_ty 3 2 = .array .int := rfl
theorem ft4_0 : im_ty 4 0 = .boolean := rfl
theorem ft4_1 : im_ty 4 1 = .int := rfl
theorem ft4_2 : im_ty 4 2 = .int := rfl
theorem ft4_3 : im_ty 4 3 = .array .int := rfl
theorem ft5_0 : im_ty 5 0 = .int := rfl
theorem ft5_1 : im_ty 5 1 = .int := rfl
theorem ft5_2 : im_ty 5 2 = .int := rfl
theorem ft5_3 : im_ty 5 3 = .int := rfl
theorem ft5_4 : im_ty 5 4 = .array .int := rfl
theorem ft5_5 : im_ty 5 5 = .array .int := rfl
theorem ft5_6 : im_ty 5 6 = .array .int := rfl
theorem ft5_7 : im_ty 5 7 = .array .int := rfl
theorem ft5_8 : im_ty 5 8 = .array .int := rfl
theorem ft5_9 : im_ty 5 9 = .array .int := rfl
theorem ft5_10 : im_ty 5 10 = .array .int := rfl
theorem ft5_11 : im_ty 5 11 = .array .int := rfl
theorem ft5_12 : im_ty 5 12 = .array .int := rfl
theorem ft5_13 : im_ty 5 13 = .array .int := rfl
theorem ft6_0 : im_ty 6 0 = .boolean := rfl
theorem ft6_1 : im_ty 6 1 = .array .int := rfl
theorem ft6_2 : im_ty 6 2 = .array .int := rfl
theorem ft6_3 : im_ty 6 3 = .array .int := rfl
theorem ft7_0 : im_ty 7 0 = .boolean := rfl
theorem ft7_1 : im_ty 7 1 = .boolean := rfl
theorem ft7_2 : im_ty 7 2 = .int := rfl
theorem ft7_3 : im_ty 7 3 = .array .int := rfl
theorem ft7_4 : im_ty 7 4 = .array .int := rfl
theorem ft7_5 : im_ty 7 5 = .array .int := rfl
theorem ft7_6 : im_ty 7 6 = .array .long := rfl
theorem ft8_0 : im_ty 8 0 = .int := rfl
theorem ft8_1 : im_ty 8 1 = .array .int := rfl
theorem ft9_0 : im_ty 9 0 = .object "TwoHands$Page" := rfl
theorem ft9_1 : im_ty 9 1 = .object "TwoHands$Page" := rfl
theorem ft9_2 : im_ty 9 2 = .object "TwoHands$Script" := rfl
theorem ft9_3 : im_ty 9 3 = .object "TwoHands$Script" := rfl
theorem ft9_4 : im_ty 9 4 = .object "TwoHands$Tape" := rfl
theorem ft9_5 : im_ty 9 5 = .object "TwoHands$RingShown" := rfl
theorem ft9_6 : im_ty 9 6 = .object "TwoHands$Acts" := rfl
theorem ft9_7 : im_ty 9 7 = .object "TwoHands$Tally" := rfl
theorem ft9_8 : im_ty 9 8 = .object "TwoHands$Sight" := rfl
theorem ft9_9 : im_ty 9 9 = .array (.object "TwoHands$Row") := rfl
theorem ft9_10 : im_ty 9 10 = .int := rfl
theorem ft9_11 : im_ty 9 11 = .int := rfl
theorem ft10_0 : im_ty 10 0 = .array .int := rfl
theorem ft10_1 : im_ty 10 1 = .array .int := rfl
theorem ft10_2 : im_ty 10 2 = .array .int := rfl
theorem ft10_3 : im_ty 10 3 = .int := rfl
theorem ft10_4 : im_ty 10 4 = .int := rfl
theorem ft10_5 : im_ty 10 5 = .array .byte := rfl
theorem ft10_6 : im_ty 10 6 = .int := rfl
theorem ft10_7 : im_ty 10 7 = .int := rfl
theorem ft10_8 : im_ty 10 8 = .int := rfl
theorem ft10_9 : im_ty 10 9 = .int := rfl
theorem ft10_10 : im_ty 10 10 = .int := rfl
theorem ft10_11 : im_ty 10 11 = .int := rfl
theorem ft10_12 : im_ty 10 12 = .int := rfl
theorem ft10_13 : im_ty 10 13 = .array .int := rfl
theorem ft10_14 : im_ty 10 14 = .array .int := rfl
theorem ft10_15 : im_ty 10 15 = .int := rfl
theorem ft10_16 : im_ty 10 16 = .array .int := rfl
theorem ft10_17 : im_ty 10 17 = .array .int := rfl
theorem ft10_18 : im_ty 10 18 = .int := rfl
theorem ft10_19 : im_ty 10 19 = .array .long := rfl
theorem ft10_20 : im_ty 10 20 = .int := rfl
theorem ft10_21 : im_ty 10 21 = .array .int := rfl
theorem ft10_22 : im_ty 10 22 = .int := rfl
theorem ft10_23 : im_ty 10 23 = .int := rfl
theorem ft10_24 : im_ty 10 24 = .array .int := rfl
theorem ft10_25 : im_ty 10 25 = .array .int := rfl
theorem ft10_26 : im_ty 10 26 = .array .int := rfl
theorem ft10_27 : im_ty 10 27 = .array .int := rfl
theorem ft10_28 : im_ty 10 28 = .array .int := rfl
theorem rcv_own {X hm : HM} {a cj : Nat} {fs : List Value} (h : hm a = some (.inr (cj, fs))) : rcv (im_rd X hm a) cj := by rw [rd_own h]; exact rfl
