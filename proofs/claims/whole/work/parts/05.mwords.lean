theorem inX10 : ∀ w ∈ u_ws RX10 TX10 54, w ∈ GT := gt_all (by decide +kernel)
theorem ini_X10 : Cond.initialized RX10 ∈ GT := gt_of 208 (by decide +kernel) rfl
theorem lkX10_0 : Cond.fieldLink RX10 83 RX10 (TX10 0).2.1 (TX10 0).2.2.1 ∈ GT := gt_of 1284 (by decide +kernel) rfl
theorem lkX10_1 : Cond.fieldLink RX10 7 RX10 (TX10 1).2.1 (TX10 1).2.2.1 ∈ GT := gt_of 1285 (by decide +kernel) rfl
theorem lkX10_2 : Cond.fieldLink RX10 13 RX10 (TX10 2).2.1 (TX10 2).2.2.1 ∈ GT := gt_of 1286 (by decide +kernel) rfl
theorem lkX10_3 : Cond.fieldLink RX10 86 RX10 (TX10 3).2.1 (TX10 3).2.2.1 ∈ GT := gt_of 1287 (by decide +kernel) rfl
theorem lkX10_4 : Cond.fieldLink RX10 16 RX10 (TX10 4).2.1 (TX10 4).2.2.1 ∈ GT := gt_of 1288 (by decide +kernel) rfl
theorem lkX10_5 : Cond.fieldLink RX10 89 RX10 (TX10 5).2.1 (TX10 5).2.2.1 ∈ GT := gt_of 1289 (by decide +kernel) rfl
theorem lkX10_6 : Cond.fieldLink RX10 98 RX10 (TX10 6).2.1 (TX10 6).2.2.1 ∈ GT := gt_of 1290 (by decide +kernel) rfl
theorem lkX10_7 : Cond.fieldLink RX10 101 RX10 (TX10 7).2.1 (TX10 7).2.2.1 ∈ GT := gt_of 1291 (by decide +kernel) rfl
theorem lkX10_8 : Cond.fieldLink RX10 115 RX10 (TX10 8).2.1 (TX10 8).2.2.1 ∈ GT := gt_of 1292 (by decide +kernel) rfl
theorem lkX10_9 : Cond.fieldLink RX10 19 RX10 (TX10 9).2.1 (TX10 9).2.2.1 ∈ GT := gt_of 1293 (by decide +kernel) rfl
theorem lkX10_10 : Cond.fieldLink RX10 22 RX10 (TX10 10).2.1 (TX10 10).2.2.1 ∈ GT := gt_of 1294 (by decide +kernel) rfl
theorem lkX10_11 : Cond.fieldLink RX10 25 RX10 (TX10 11).2.1 (TX10 11).2.2.1 ∈ GT := gt_of 1295 (by decide +kernel) rfl
theorem lkX10_12 : Cond.fieldLink RX10 141 RX10 (TX10 12).2.1 (TX10 12).2.2.1 ∈ GT := gt_of 1296 (by decide +kernel) rfl
theorem lkX10_13 : Cond.fieldLink RX10 148 RX10 (TX10 13).2.1 (TX10 13).2.2.1 ∈ GT := gt_of 1297 (by decide +kernel) rfl
theorem lkX10_14 : Cond.fieldLink RX10 154 RX10 (TX10 14).2.1 (TX10 14).2.2.1 ∈ GT := gt_of 1298 (by decide +kernel) rfl
theorem lkX10_15 : Cond.fieldLink RX10 157 RX10 (TX10 15).2.1 (TX10 15).2.2.1 ∈ GT := gt_of 1299 (by decide +kernel) rfl
theorem lkX10_16 : Cond.fieldLink RX10 160 RX10 (TX10 16).2.1 (TX10 16).2.2.1 ∈ GT := gt_of 1300 (by decide +kernel) rfl
theorem lkX10_17 : Cond.fieldLink RX10 28 RX10 (TX10 17).2.1 (TX10 17).2.2.1 ∈ GT := gt_of 1301 (by decide +kernel) rfl
theorem lkX10_18 : Cond.fieldLink RX10 31 RX10 (TX10 18).2.1 (TX10 18).2.2.1 ∈ GT := gt_of 1302 (by decide +kernel) rfl
theorem lkX10_19 : Cond.fieldLink RX10 34 RX10 (TX10 19).2.1 (TX10 19).2.2.1 ∈ GT := gt_of 1303 (by decide +kernel) rfl
theorem lkX10_20 : Cond.fieldLink RX10 37 RX10 (TX10 20).2.1 (TX10 20).2.2.1 ∈ GT := gt_of 1304 (by decide +kernel) rfl
theorem lkX10_21 : Cond.fieldLink RX10 40 RX10 (TX10 21).2.1 (TX10 21).2.2.1 ∈ GT := gt_of 1305 (by decide +kernel) rfl
theorem lkX10_22 : Cond.fieldLink RX10 43 RX10 (TX10 22).2.1 (TX10 22).2.2.1 ∈ GT := gt_of 1306 (by decide +kernel) rfl
theorem lkX10_23 : Cond.fieldLink RX10 46 RX10 (TX10 23).2.1 (TX10 23).2.2.1 ∈ GT := gt_of 1307 (by decide +kernel) rfl
theorem lkX10_24 : Cond.fieldLink RX10 49 RX10 (TX10 24).2.1 (TX10 24).2.2.1 ∈ GT := gt_of 1308 (by decide +kernel) rfl
theorem lkX10_25 : Cond.fieldLink RX10 235 RX10 (TX10 25).2.1 (TX10 25).2.2.1 ∈ GT := gt_of 1309 (by decide +kernel) rfl
theorem lkX10_26 : Cond.fieldLink RX10 182 RX10 (TX10 26).2.1 (TX10 26).2.2.1 ∈ GT := gt_of 1310 (by decide +kernel) rfl
theorem lkX10_27 : Cond.fieldLink RX10 213 RX10 (TX10 27).2.1 (TX10 27).2.2.1 ∈ GT := gt_of 1311 (by decide +kernel) rfl
theorem lkX10_28 : Cond.fieldLink RX10 52 RX10 (TX10 28).2.1 (TX10 28).2.2.1 ∈ GT := gt_of 1312 (by decide +kernel) rfl
theorem lkX10_29 : Cond.fieldLink RX10 210 RX10 (TX10 29).2.1 (TX10 29).2.2.1 ∈ GT := gt_of 1313 (by decide +kernel) rfl
theorem lkX10_30 : Cond.fieldLink RX10 176 RX10 (TX10 30).2.1 (TX10 30).2.2.1 ∈ GT := gt_of 1314 (by decide +kernel) rfl
theorem lkX10_31 : Cond.fieldLink RX10 179 RX10 (TX10 31).2.1 (TX10 31).2.2.1 ∈ GT := gt_of 1315 (by decide +kernel) rfl
theorem lkX10_32 : Cond.fieldLink RX10 287 RX10 (TX10 32).2.1 (TX10 32).2.2.1 ∈ GT := gt_of 1316 (by decide +kernel) rfl
theorem lkX10_33 : Cond.fieldLink RX10 55 RX10 (TX10 33).2.1 (TX10 33).2.2.1 ∈ GT := gt_of 1317 (by decide +kernel) rfl
theorem lkX10_34 : Cond.fieldLink RX10 118 RX10 (TX10 34).2.1 (TX10 34).2.2.1 ∈ GT := gt_of 1318 (by decide +kernel) rfl
theorem lkX10_35 : Cond.fieldLink RX10 59 RX10 (TX10 35).2.1 (TX10 35).2.2.1 ∈ GT := gt_of 1319 (by decide +kernel) rfl
theorem lkX10_36 : Cond.fieldLink RX10 121 RX10 (TX10 36).2.1 (TX10 36).2.2.1 ∈ GT := gt_of 1320 (by decide +kernel) rfl
theorem lkX10_37 : Cond.fieldLink RX10 62 RX10 (TX10 37).2.1 (TX10 37).2.2.1 ∈ GT := gt_of 1321 (by decide +kernel) rfl
theorem lkX10_38 : Cond.fieldLink RX10 244 RX10 (TX10 38).2.1 (TX10 38).2.2.1 ∈ GT := gt_of 1322 (by decide +kernel) rfl
theorem lkX10_39 : Cond.fieldLink RX10 254 RX10 (TX10 39).2.1 (TX10 39).2.2.1 ∈ GT := gt_of 1323 (by decide +kernel) rfl
theorem lkX10_40 : Cond.fieldLink RX10 124 RX10 (TX10 40).2.1 (TX10 40).2.2.1 ∈ GT := gt_of 1324 (by decide +kernel) rfl
theorem lkX10_41 : Cond.fieldLink RX10 65 RX10 (TX10 41).2.1 (TX10 41).2.2.1 ∈ GT := gt_of 1325 (by decide +kernel) rfl
theorem lkX10_42 : Cond.fieldLink RX10 127 RX10 (TX10 42).2.1 (TX10 42).2.2.1 ∈ GT := gt_of 1326 (by decide +kernel) rfl
theorem lkX10_43 : Cond.fieldLink RX10 68 RX10 (TX10 43).2.1 (TX10 43).2.2.1 ∈ GT := gt_of 1327 (by decide +kernel) rfl
theorem lkX10_44 : Cond.fieldLink RX10 71 RX10 (TX10 44).2.1 (TX10 44).2.2.1 ∈ GT := gt_of 1328 (by decide +kernel) rfl
theorem lkX10_45 : Cond.fieldLink RX10 74 RX10 (TX10 45).2.1 (TX10 45).2.2.1 ∈ GT := gt_of 1329 (by decide +kernel) rfl
theorem lkX10_46 : Cond.fieldLink RX10 434 RX10 (TX10 46).2.1 (TX10 46).2.2.1 ∈ GT := gt_of 1330 (by decide +kernel) rfl
theorem lkX10_47 : Cond.fieldLink RX10 77 RX10 (TX10 47).2.1 (TX10 47).2.2.1 ∈ GT := gt_of 1331 (by decide +kernel) rfl
theorem lkX10_48 : Cond.fieldLink RX10 458 RX10 (TX10 48).2.1 (TX10 48).2.2.1 ∈ GT := gt_of 1332 (by decide +kernel) rfl
theorem lkX10_49 : Cond.fieldLink RX10 461 RX10 (TX10 49).2.1 (TX10 49).2.2.1 ∈ GT := gt_of 1333 (by decide +kernel) rfl
theorem lkX10_50 : Cond.fieldLink RX10 481 RX10 (TX10 50).2.1 (TX10 50).2.2.1 ∈ GT := gt_of 1334 (by decide +kernel) rfl
theorem lkX10_51 : Cond.fieldLink RX10 487 RX10 (TX10 51).2.1 (TX10 51).2.2.1 ∈ GT := gt_of 1335 (by decide +kernel) rfl
theorem lkX10_52 : Cond.fieldLink RX10 478 RX10 (TX10 52).2.1 (TX10 52).2.2.1 ∈ GT := gt_of 1336 (by decide +kernel) rfl
theorem lkX10_53 : Cond.fieldLink RX10 80 RX10 (TX10 53).2.1 (TX10 53).2.2.1 ∈ GT := gt_of 1337 (by decide +kernel) rfl
theorem kc_X10_96 : Cond.constant RX10 96 (1664525 : Int32) ∈ GT := gt_of 1803 (by decide +kernel) rfl
theorem kc_X10_97 : Cond.constant RX10 97 (1013904223 : Int32) ∈ GT := gt_of 1804 (by decide +kernel) rfl
theorem kc_X10_410 : Cond.constantLong RX10 410 (-1 : Int64) ∈ GT := gt_of 1833 (by decide +kernel) rfl
theorem kc_X10_467 : Cond.constant RX10 467 (1000000 : Int32) ∈ GT := gt_of 1942 (by decide +kernel) rfl
theorem kc_X10_468 : Cond.constantLong RX10 468 (1000 : Int64) ∈ GT := gt_of 1943 (by decide +kernel) rfl
theorem kc_X10_473 : Cond.constantLong RX10 473 (100 : Int64) ∈ GT := gt_of 1948 (by decide +kernel) rfl
theorem kc_X10_496 : Cond.constant RX10 496 (-1000000 : Int32) ∈ GT := gt_of 1977 (by decide +kernel) rfl
theorem li_bm2 : (Int8.ofInt (-2)).toInt32 = (-2 : Int32) := by decide
theorem li_b6 : (Int8.ofInt (6)).toInt32 = (6 : Int32) := by decide
theorem li_b7 : (Int8.ofInt (7)).toInt32 = (7 : Int32) := by decide
theorem li_b8 : (Int8.ofInt (8)).toInt32 = (8 : Int32) := by decide
theorem li_b9 : (Int8.ofInt (9)).toInt32 = (9 : Int32) := by decide
theorem li_b10 : (Int8.ofInt (10)).toInt32 = (10 : Int32) := by decide
theorem li_b11 : (Int8.ofInt (11)).toInt32 = (11 : Int32) := by decide
theorem li_b12 : (Int8.ofInt (12)).toInt32 = (12 : Int32) := by decide
theorem li_b13 : (Int8.ofInt (13)).toInt32 = (13 : Int32) := by decide
theorem li_b14 : (Int8.ofInt (14)).toInt32 = (14 : Int32) := by decide
theorem li_b15 : (Int8.ofInt (15)).toInt32 = (15 : Int32) := by decide
theorem li_b16 : (Int8.ofInt (16)).toInt32 = (16 : Int32) := by decide
theorem li_b17 : (Int8.ofInt (17)).toInt32 = (17 : Int32) := by decide
theorem li_b18 : (Int8.ofInt (18)).toInt32 = (18 : Int32) := by decide
theorem li_b19 : (Int8.ofInt (19)).toInt32 = (19 : Int32) := by decide
theorem li_b20 : (Int8.ofInt (20)).toInt32 = (20 : Int32) := by decide
theorem li_b21 : (Int8.ofInt (21)).toInt32 = (21 : Int32) := by decide
theorem li_b22 : (Int8.ofInt (22)).toInt32 = (22 : Int32) := by decide
theorem li_b23 : (Int8.ofInt (23)).toInt32 = (23 : Int32) := by decide
theorem li_b24 : (Int8.ofInt (24)).toInt32 = (24 : Int32) := by decide
theorem li_b25 : (Int8.ofInt (25)).toInt32 = (25 : Int32) := by decide
theorem li_b26 : (Int8.ofInt (26)).toInt32 = (26 : Int32) := by decide
theorem li_b29 : (Int8.ofInt (29)).toInt32 = (29 : Int32) := by decide
theorem li_b30 : (Int8.ofInt (30)).toInt32 = (30 : Int32) := by decide
theorem li_b32 : (Int8.ofInt (32)).toInt32 = (32 : Int32) := by decide
theorem li_b40 : (Int8.ofInt (40)).toInt32 = (40 : Int32) := by decide
theorem li_b41 : (Int8.ofInt (41)).toInt32 = (41 : Int32) := by decide
theorem li_b42 : (Int8.ofInt (42)).toInt32 = (42 : Int32) := by decide
theorem li_b43 : (Int8.ofInt (43)).toInt32 = (43 : Int32) := by decide
theorem li_b45 : (Int8.ofInt (45)).toInt32 = (45 : Int32) := by decide
theorem li_b47 : (Int8.ofInt (47)).toInt32 = (47 : Int32) := by decide
theorem li_b48 : (Int8.ofInt (48)).toInt32 = (48 : Int32) := by decide
theorem li_b57 : (Int8.ofInt (57)).toInt32 = (57 : Int32) := by decide
theorem li_b59 : (Int8.ofInt (59)).toInt32 = (59 : Int32) := by decide
theorem li_b60 : (Int8.ofInt (60)).toInt32 = (60 : Int32) := by decide
theorem li_b61 : (Int8.ofInt (61)).toInt32 = (61 : Int32) := by decide
theorem li_b62 : (Int8.ofInt (62)).toInt32 = (62 : Int32) := by decide
theorem li_b64 : (Int8.ofInt (64)).toInt32 = (64 : Int32) := by decide
theorem li_b65 : (Int8.ofInt (65)).toInt32 = (65 : Int32) := by decide
theorem li_b69 : (Int8.ofInt (69)).toInt32 = (69 : Int32) := by decide
theorem li_b90 : (Int8.ofInt (90)).toInt32 = (90 : Int32) := by decide
theorem li_b97 : (Int8.ofInt (97)).toInt32 = (97 : Int32) := by decide
theorem li_b99 : (Int8.ofInt (99)).toInt32 = (99 : Int32) := by decide
theorem li_b100 : (Int8.ofInt (100)).toInt32 = (100 : Int32) := by decide
theorem li_b122 : (Int8.ofInt (122)).toInt32 = (122 : Int32) := by decide
theorem li_im8 : Int32.ofInt (-8) = (-8 : Int32) := by decide
theorem li_im1 : Int32.ofInt (-1) = (-1 : Int32) := by decide
theorem li_i0 : Int32.ofInt (0) = (0 : Int32) := by decide
theorem li_i1 : Int32.ofInt (1) = (1 : Int32) := by decide
theorem li_i2 : Int32.ofInt (2) = (2 : Int32) := by decide
theorem li_i3 : Int32.ofInt (3) = (3 : Int32) := by decide
theorem li_i4 : Int32.ofInt (4) = (4 : Int32) := by decide
theorem li_i5 : Int32.ofInt (5) = (5 : Int32) := by decide
theorem li_l0 : Int64.ofNat (((0) : Fin 2) : Nat) = (0 : Int64) := by decide
theorem li_l1 : Int64.ofNat (((1) : Fin 2) : Nat) = (1 : Int64) := by decide
theorem li_s133 : (Int16.ofInt (133)).toInt32 = (133 : Int32) := by decide
theorem li_s149 : (Int16.ofInt (149)).toInt32 = (149 : Int32) := by decide
theorem li_s150 : (Int16.ofInt (150)).toInt32 = (150 : Int32) := by decide
theorem li_s197 : (Int16.ofInt (197)).toInt32 = (197 : Int32) := by decide
theorem li_s255 : (Int16.ofInt (255)).toInt32 = (255 : Int32) := by decide
theorem li_s261 : (Int16.ofInt (261)).toInt32 = (261 : Int32) := by decide
theorem li_s325 : (Int16.ofInt (325)).toInt32 = (325 : Int32) := by decide
theorem li_s380 : (Int16.ofInt (380)).toInt32 = (380 : Int32) := by decide
theorem li_s389 : (Int16.ofInt (389)).toInt32 = (389 : Int32) := by decide
theorem li_s400 : (Int16.ofInt (400)).toInt32 = (400 : Int32) := by decide
theorem li_s600 : (Int16.ofInt (600)).toInt32 = (600 : Int32) := by decide
theorem li_s800 : (Int16.ofInt (800)).toInt32 = (800 : Int32) := by decide
theorem li_s999 : (Int16.ofInt (999)).toInt32 = (999 : Int32) := by decide
theorem li_s1000 : (Int16.ofInt (1000)).toInt32 = (1000 : Int32) := by decide
theorem li_s10000 : (Int16.ofInt (10000)).toInt32 = (10000 : Int32) := by decide
theorem wc_X10_isIn : Cond.code yX10_isIn cX10_isIn 4 (some .boolean) ∈ GT := gt_of 1462 (by decide +kernel) rfl
theorem gv_X10_isIn : GoodIn GT (wsV RX10 111 RX10 yX10_isIn (.code yX10_isIn cX10_isIn 4 (some .boolean) :: GT)) := gt_V (gt_of 1459 (by decide +kernel) rfl) (gt_of 1461 (by decide +kernel) rfl) (gt_of 96 (by decide +kernel) rfl) ini_X10 wc_X10_isIn
theorem wc_X10_held : Cond.code yX10_held cX10_held 4 (some .int) ∈ GT := gt_of 1762 (by decide +kernel) rfl
theorem gv_X10_held : GoodIn GT (wsV RX10 327 RX10 yX10_held (.code yX10_held cX10_held 4 (some .int) :: GT)) := gt_V (gt_of 1759 (by decide +kernel) rfl) (gt_of 1761 (by decide +kernel) rfl) (gt_of 162 (by decide +kernel) rfl) ini_X10 wc_X10_held
theorem wc_X10_greater : Cond.code yX10_greater cX10_greater 3 (some .int) ∈ GT := gt_of 1770 (by decide +kernel) rfl
theorem gv_X10_greater : GoodIn GT (wsV RX10 363 RX10 yX10_greater (.code yX10_greater cX10_greater 3 (some .int) :: GT)) := gt_V (gt_of 1767 (by decide +kernel) rfl) (gt_of 1769 (by decide +kernel) rfl) (gt_of 164 (by decide +kernel) rfl) ini_X10 wc_X10_greater
theorem wc_X10_onesOf : Cond.code yX10_onesOf cX10_onesOf 4 (some .int) ∈ GT := gt_of 1901 (by decide +kernel) rfl
theorem gv_X10_onesOf : GoodIn GT (wsV RX10 444 RX10 yX10_onesOf (.code yX10_onesOf cX10_onesOf 4 (some .int) :: GT)) := gt_V (gt_of 1898 (by decide +kernel) rfl) (gt_of 1900 (by decide +kernel) rfl) (gt_of 185 (by decide +kernel) rfl) ini_X10 wc_X10_onesOf
theorem wc_X10_bit : Cond.code yX10_bit cX10_bit 2 (some .long) ∈ GT := gt_of 1849 (by decide +kernel) rfl
theorem gv_X10_bit : GoodIn GT (wsV RX10 406 RX10 yX10_bit (.code yX10_bit cX10_bit 2 (some .long) :: GT)) := gt_V (gt_of 1846 (by decide +kernel) rfl) (gt_of 1848 (by decide +kernel) rfl) (gt_of 177 (by decide +kernel) rfl) ini_X10 wc_X10_bit
theorem wc_X10_keepsAhead : Cond.code yX10_keepsAhead cX10_keepsAhead 2 none ∈ GT := gt_of 1662 (by decide +kernel) rfl
theorem gv_X10_keepsAhead : GoodIn GT (wsV RX10 336 RX10 yX10_keepsAhead (.code yX10_keepsAhead cX10_keepsAhead 2 none :: GT)) := gt_V (gt_of 1659 (by decide +kernel) rfl) (gt_of 1661 (by decide +kernel) rfl) (gt_of 140 (by decide +kernel) rfl) ini_X10 wc_X10_keepsAhead
theorem wc_X10_undo : Cond.code yX10_undo cX10_undo 2 (some .boolean) ∈ GT := gt_of 1450 (by decide +kernel) rfl
theorem wc_X10_thinks : Cond.code yX10_thinks cX10_thinks 2 none ∈ GT := gt_of 1837 (by decide +kernel) rfl
theorem gv_X10_thinks : GoodIn GT (wsV RX10 412 RX10 yX10_thinks (.code yX10_thinks cX10_thinks 2 none :: GT)) := gt_V (gt_of 1834 (by decide +kernel) rfl) (gt_of 1836 (by decide +kernel) rfl) (gt_of 174 (by decide +kernel) rfl) ini_X10 wc_X10_thinks
theorem wc_X10_thinksAnew : Cond.code yX10_thinksAnew cX10_thinksAnew 2 none ∈ GT := gt_of 1857 (by decide +kernel) rfl
theorem gv_X10_thinksAnew : GoodIn GT (wsV RX10 93 RX10 yX10_thinksAnew (.code yX10_thinksAnew cX10_thinksAnew 2 none :: GT)) := gt_V (gt_of 1854 (by decide +kernel) rfl) (gt_of 1856 (by decide +kernel) rfl) (gt_of 179 (by decide +kernel) rfl) ini_X10 wc_X10_thinksAnew
theorem wc_X10_endsThought : Cond.code yX10_endsThought cX10_endsThought 1 none ∈ GT := gt_of 1853 (by decide +kernel) rfl
theorem gv_X10_endsThought : GoodIn GT (wsV RX10 422 RX10 yX10_endsThought (.code yX10_endsThought cX10_endsThought 1 none :: GT)) := gt_V (gt_of 1850 (by decide +kernel) rfl) (gt_of 1852 (by decide +kernel) rfl) (gt_of 178 (by decide +kernel) rfl) ini_X10 wc_X10_endsThought
theorem wc_X10_state : Cond.code yX10_state cX10_state 3 (some .int) ∈ GT := gt_of 1454 (by decide +kernel) rfl
theorem wc_X10_draw : Cond.code yX10_draw cX10_draw 2 (some .int) ∈ GT := gt_of 1802 (by decide +kernel) rfl
theorem gv_X10_draw : GoodIn GT (wsV RX10 378 RX10 yX10_draw (.code yX10_draw cX10_draw 2 (some .int) :: GT)) := gt_V (gt_of 1799 (by decide +kernel) rfl) (gt_of 1801 (by decide +kernel) rfl) (gt_of 172 (by decide +kernel) rfl) ini_X10 wc_X10_draw
theorem wc_X10_wide : Cond.code yX10_wide cX10_wide 1 (some .int) ∈ GT := gt_of 1478 (by decide +kernel) rfl
theorem gv_X10_wide : GoodIn GT (wsV RX10 104 RX10 yX10_wide (.code yX10_wide cX10_wide 1 (some .int) :: GT)) := gt_V (gt_of 1475 (by decide +kernel) rfl) (gt_of 1477 (by decide +kernel) rfl) (gt_of 99 (by decide +kernel) rfl) ini_X10 wc_X10_wide
theorem wc_X10_high : Cond.code yX10_high cX10_high 1 (some .int) ∈ GT := gt_of 1482 (by decide +kernel) rfl
theorem gv_X10_high : GoodIn GT (wsV RX10 108 RX10 yX10_high (.code yX10_high cX10_high 1 (some .int) :: GT)) := gt_V (gt_of 1479 (by decide +kernel) rfl) (gt_of 1481 (by decide +kernel) rfl) (gt_of 100 (by decide +kernel) rfl) ini_X10 wc_X10_high
theorem wc_X10_isCell : Cond.code yX10_isCell cX10_isCell 2 (some .boolean) ∈ GT := gt_of 1474 (by decide +kernel) rfl
theorem gv_X10_isCell : GoodIn GT (wsV RX10 130 RX10 yX10_isCell (.code yX10_isCell cX10_isCell 2 (some .boolean) :: GT)) := gt_V (gt_of 1471 (by decide +kernel) rfl) (gt_of 1473 (by decide +kernel) rfl) (gt_of 98 (by decide +kernel) rfl) ini_X10 wc_X10_isCell
theorem wc_X10_wetOf : Cond.code yX10_wetOf cX10_wetOf 2 (some .int) ∈ GT := gt_of 1730 (by decide +kernel) rfl
theorem gv_X10_wetOf : GoodIn GT (wsV RX10 311 RX10 yX10_wetOf (.code yX10_wetOf cX10_wetOf 2 (some .int) :: GT)) := gt_V (gt_of 1727 (by decide +kernel) rfl) (gt_of 1729 (by decide +kernel) rfl) (gt_of 154 (by decide +kernel) rfl) ini_X10 wc_X10_wetOf
theorem wc_X10_seedOf : Cond.code yX10_seedOf cX10_seedOf 2 (some .int) ∈ GT := gt_of 1486 (by decide +kernel) rfl
theorem gv_X10_seedOf : GoodIn GT (wsV RX10 134 RX10 yX10_seedOf (.code yX10_seedOf cX10_seedOf 2 (some .int) :: GT)) := gt_V (gt_of 1483 (by decide +kernel) rfl) (gt_of 1485 (by decide +kernel) rfl) (gt_of 101 (by decide +kernel) rfl) ini_X10 wc_X10_seedOf
theorem wc_X10_stormOf : Cond.code yX10_stormOf cX10_stormOf 2 (some .int) ∈ GT := gt_of 1742 (by decide +kernel) rfl
theorem gv_X10_stormOf : GoodIn GT (wsV RX10 308 RX10 yX10_stormOf (.code yX10_stormOf cX10_stormOf 2 (some .int) :: GT)) := gt_V (gt_of 1739 (by decide +kernel) rfl) (gt_of 1741 (by decide +kernel) rfl) (gt_of 157 (by decide +kernel) rfl) ini_X10 wc_X10_stormOf
theorem wc_X10_wind : Cond.code yX10_wind cX10_wind 1 (some .int) ∈ GT := gt_of 1690 (by decide +kernel) rfl
theorem gv_X10_wind : GoodIn GT (wsV RX10 348 RX10 yX10_wind (.code yX10_wind cX10_wind 1 (some .int) :: GT)) := gt_V (gt_of 1687 (by decide +kernel) rfl) (gt_of 1689 (by decide +kernel) rfl) (gt_of 145 (by decide +kernel) rfl) ini_X10 wc_X10_wind
theorem wc_X10_turnsTo : Cond.code yX10_turnsTo cX10_turnsTo 2 none ∈ GT := gt_of 1694 (by decide +kernel) rfl
theorem gv_X10_turnsTo : GoodIn GT (wsV RX10 351 RX10 yX10_turnsTo (.code yX10_turnsTo cX10_turnsTo 2 none :: GT)) := gt_V (gt_of 1691 (by decide +kernel) rfl) (gt_of 1693 (by decide +kernel) rfl) (gt_of 146 (by decide +kernel) rfl) ini_X10 wc_X10_turnsTo
theorem wc_X10_land : Cond.code yX10_land cX10_land 5 (some .boolean) ∈ GT := gt_of 1458 (by decide +kernel) rfl
theorem wc_X10_canSet : Cond.code yX10_canSet cX10_canSet 4 (some .boolean) ∈ GT := gt_of 1470 (by decide +kernel) rfl
theorem gv_X10_canSet : GoodIn GT (wsV RX10 138 RX10 yX10_canSet (.code yX10_canSet cX10_canSet 4 (some .boolean) :: GT)) := gt_V (gt_of 1467 (by decide +kernel) rfl) (gt_of 1469 (by decide +kernel) rfl) (gt_of 97 (by decide +kernel) rfl) ini_X10 wc_X10_canSet
theorem wc_X10_set : Cond.code yX10_set cX10_set 4 (some .boolean) ∈ GT := gt_of 1466 (by decide +kernel) rfl
theorem wc_X10_types : Cond.code yX10_types cX10_types 3 none ∈ GT := gt_of 1494 (by decide +kernel) rfl
theorem gv_X10_types : GoodIn GT (wsV RX10 144 RX10 yX10_types (.code yX10_types cX10_types 3 none :: GT)) := gt_V (gt_of 1491 (by decide +kernel) rfl) (gt_of 1493 (by decide +kernel) rfl) (gt_of 102 (by decide +kernel) rfl) ini_X10 wc_X10_types
theorem wc_X10_feed : Cond.code yX10_feed cX10_feed 6 (some .int) ∈ GT := gt_of 1490 (by decide +kernel) rfl
theorem wc_X10_end : Cond.code yX10_end cX10_end 2 (some .boolean) ∈ GT := gt_of 1498 (by decide +kernel) rfl
theorem wc_X10_raw : Cond.code yX10_raw cX10_raw 2 (some .int) ∈ GT := gt_of 1514 (by decide +kernel) rfl
theorem gv_X10_raw : GoodIn GT (wsV RX10 151 RX10 yX10_raw (.code yX10_raw cX10_raw 2 (some .int) :: GT)) := gt_V (gt_of 1511 (by decide +kernel) rfl) (gt_of 1513 (by decide +kernel) rfl) (gt_of 105 (by decide +kernel) rfl) ini_X10 wc_X10_raw
theorem wc_X10_isLetter : Cond.code yX10_isLetter cX10_isLetter 2 (some .boolean) ∈ GT := gt_of 1518 (by decide +kernel) rfl
theorem gv_X10_isLetter : GoodIn GT (wsV RX10 163 RX10 yX10_isLetter (.code yX10_isLetter cX10_isLetter 2 (some .boolean) :: GT)) := gt_V (gt_of 1515 (by decide +kernel) rfl) (gt_of 1517 (by decide +kernel) rfl) (gt_of 106 (by decide +kernel) rfl) ini_X10 wc_X10_isLetter
theorem wc_X10_isDigit : Cond.code yX10_isDigit cX10_isDigit 2 (some .boolean) ∈ GT := gt_of 1526 (by decide +kernel) rfl
theorem gv_X10_isDigit : GoodIn GT (wsV RX10 170 RX10 yX10_isDigit (.code yX10_isDigit cX10_isDigit 2 (some .boolean) :: GT)) := gt_V (gt_of 1523 (by decide +kernel) rfl) (gt_of 1525 (by decide +kernel) rfl) (gt_of 108 (by decide +kernel) rfl) ini_X10 wc_X10_isDigit
theorem wc_X10_isMarkSign : Cond.code yX10_isMarkSign cX10_isMarkSign 2 (some .boolean) ∈ GT := gt_of 1530 (by decide +kernel) rfl
theorem gv_X10_isMarkSign : GoodIn GT (wsV RX10 173 RX10 yX10_isMarkSign (.code yX10_isMarkSign cX10_isMarkSign 2 (some .boolean) :: GT)) := gt_V (gt_of 1527 (by decide +kernel) rfl) (gt_of 1529 (by decide +kernel) rfl) (gt_of 109 (by decide +kernel) rfl) ini_X10 wc_X10_isMarkSign
theorem wc_X10_wordAt : Cond.code yX10_wordAt cX10_wordAt 6 (some .int) ∈ GT := gt_of 1522 (by decide +kernel) rfl
theorem gv_X10_wordAt : GoodIn GT (wsV RX10 166 RX10 yX10_wordAt (.code yX10_wordAt cX10_wordAt 6 (some .int) :: GT)) := gt_V (gt_of 1519 (by decide +kernel) rfl) (gt_of 1521 (by decide +kernel) rfl) (gt_of 107 (by decide +kernel) rfl) ini_X10 wc_X10_wordAt
theorem wc_X10_reads : Cond.code yX10_reads cX10_reads 2 none ∈ GT := gt_of 1510 (by decide +kernel) rfl
theorem gv_X10_reads : GoodIn GT (wsV RX10 195 RX10 yX10_reads (.code yX10_reads cX10_reads 2 none :: GT)) := gt_V (gt_of 1507 (by decide +kernel) rfl) (gt_of 1509 (by decide +kernel) rfl) (gt_of 104 (by decide +kernel) rfl) ini_X10 wc_X10_reads
theorem wc_X10_errs : Cond.code yX10_errs cX10_errs 2 (some .int) ∈ GT := gt_of 1546 (by decide +kernel) rfl
theorem gv_X10_errs : GoodIn GT (wsV RX10 188 RX10 yX10_errs (.code yX10_errs cX10_errs 2 (some .int) :: GT)) := gt_V (gt_of 1543 (by decide +kernel) rfl) (gt_of 1545 (by decide +kernel) rfl) (gt_of 113 (by decide +kernel) rfl) ini_X10 wc_X10_errs
theorem wc_X10_isWord : Cond.code yX10_isWord cX10_isWord 2 (some .boolean) ∈ GT := gt_of 1538 (by decide +kernel) rfl
theorem gv_X10_isWord : GoodIn GT (wsV RX10 216 RX10 yX10_isWord (.code yX10_isWord cX10_isWord 2 (some .boolean) :: GT)) := gt_V (gt_of 1535 (by decide +kernel) rfl) (gt_of 1537 (by decide +kernel) rfl) (gt_of 111 (by decide +kernel) rfl) ini_X10 wc_X10_isWord
theorem wc_X10_isSign : Cond.code yX10_isSign cX10_isSign 2 (some .boolean) ∈ GT := gt_of 1566 (by decide +kernel) rfl
theorem gv_X10_isSign : GoodIn GT (wsV RX10 201 RX10 yX10_isSign (.code yX10_isSign cX10_isSign 2 (some .boolean) :: GT)) := gt_V (gt_of 1563 (by decide +kernel) rfl) (gt_of 1565 (by decide +kernel) rfl) (gt_of 118 (by decide +kernel) rfl) ini_X10 wc_X10_isSign
theorem wc_X10_emits : Cond.code yX10_emits cX10_emits 3 none ∈ GT := gt_of 1618 (by decide +kernel) rfl
theorem gv_X10_emits : GoodIn GT (wsV RX10 191 RX10 yX10_emits (.code yX10_emits cX10_emits 3 none :: GT)) := gt_V (gt_of 1615 (by decide +kernel) rfl) (gt_of 1617 (by decide +kernel) rfl) (gt_of 131 (by decide +kernel) rfl) ini_X10 wc_X10_emits
theorem wc_X10_canAsk : Cond.code yX10_canAsk cX10_canAsk 2 (some .boolean) ∈ GT := gt_of 1614 (by decide +kernel) rfl
theorem gv_X10_canAsk : GoodIn GT (wsV RX10 185 RX10 yX10_canAsk (.code yX10_canAsk cX10_canAsk 2 (some .boolean) :: GT)) := gt_V (gt_of 1611 (by decide +kernel) rfl) (gt_of 1613 (by decide +kernel) rfl) (gt_of 130 (by decide +kernel) rfl) ini_X10 wc_X10_canAsk
theorem wc_X10_readUnit : Cond.code yX10_readUnit cX10_readUnit 2 (some .int) ∈ GT := gt_of 1610 (by decide +kernel) rfl
theorem gv_X10_readUnit : GoodIn GT (wsV RX10 198 RX10 yX10_readUnit (.code yX10_readUnit cX10_readUnit 2 (some .int) :: GT)) := gt_V (gt_of 1607 (by decide +kernel) rfl) (gt_of 1609 (by decide +kernel) rfl) (gt_of 129 (by decide +kernel) rfl) ini_X10 wc_X10_readUnit
theorem wc_X10_readProduct : Cond.code yX10_readProduct cX10_readProduct 2 (some .int) ∈ GT := gt_of 1606 (by decide +kernel) rfl
theorem gv_X10_readProduct : GoodIn GT (wsV RX10 204 RX10 yX10_readProduct (.code yX10_readProduct cX10_readProduct 2 (some .int) :: GT)) := gt_V (gt_of 1603 (by decide +kernel) rfl) (gt_of 1605 (by decide +kernel) rfl) (gt_of 128 (by decide +kernel) rfl) ini_X10 wc_X10_readProduct
theorem wc_X10_readSum : Cond.code yX10_readSum cX10_readSum 2 (some .int) ∈ GT := gt_of 1602 (by decide +kernel) rfl
theorem gv_X10_readSum : GoodIn GT (wsV RX10 207 RX10 yX10_readSum (.code yX10_readSum cX10_readSum 2 (some .int) :: GT)) := gt_V (gt_of 1599 (by decide +kernel) rfl) (gt_of 1601 (by decide +kernel) rfl) (gt_of 127 (by decide +kernel) rfl) ini_X10 wc_X10_readSum
theorem wc_X10_readCompared : Cond.code yX10_readCompared cX10_readCompared 2 (some .int) ∈ GT := gt_of 1630 (by decide +kernel) rfl
theorem gv_X10_readCompared : GoodIn GT (wsV RX10 222 RX10 yX10_readCompared (.code yX10_readCompared cX10_readCompared 2 (some .int) :: GT)) := gt_V (gt_of 1627 (by decide +kernel) rfl) (gt_of 1629 (by decide +kernel) rfl) (gt_of 134 (by decide +kernel) rfl) ini_X10 wc_X10_readCompared
theorem wc_X10_waits : Cond.code yX10_waits cX10_waits 2 none ∈ GT := gt_of 1626 (by decide +kernel) rfl
theorem gv_X10_waits : GoodIn GT (wsV RX10 219 RX10 yX10_waits (.code yX10_waits cX10_waits 2 none :: GT)) := gt_V (gt_of 1623 (by decide +kernel) rfl) (gt_of 1625 (by decide +kernel) rfl) (gt_of 133 (by decide +kernel) rfl) ini_X10 wc_X10_waits
theorem wc_X10_settles : Cond.code yX10_settles cX10_settles 2 none ∈ GT := gt_of 1634 (by decide +kernel) rfl
theorem gv_X10_settles : GoodIn GT (wsV RX10 225 RX10 yX10_settles (.code yX10_settles cX10_settles 2 none :: GT)) := gt_V (gt_of 1631 (by decide +kernel) rfl) (gt_of 1633 (by decide +kernel) rfl) (gt_of 135 (by decide +kernel) rfl) ini_X10 wc_X10_settles
theorem wc_X10_readAny : Cond.code yX10_readAny cX10_readAny 4 (some .int) ∈ GT := gt_of 1622 (by decide +kernel) rfl
theorem gv_X10_readAny : GoodIn GT (wsV RX10 232 RX10 yX10_readAny (.code yX10_readAny cX10_readAny 4 (some .int) :: GT)) := gt_V (gt_of 1619 (by decide +kernel) rfl) (gt_of 1621 (by decide +kernel) rfl) (gt_of 132 (by decide +kernel) rfl) ini_X10 wc_X10_readAny
theorem wc_X10_isLineWord : Cond.code yX10_isLineWord cX10_isLineWord 1 (some .boolean) ∈ GT := gt_of 1598 (by decide +kernel) rfl
theorem gv_X10_isLineWord : GoodIn GT (wsV RX10 228 RX10 yX10_isLineWord (.code yX10_isLineWord cX10_isLineWord 1 (some .boolean) :: GT)) := gt_V (gt_of 1595 (by decide +kernel) rfl) (gt_of 1597 (by decide +kernel) rfl) (gt_of 126 (by decide +kernel) rfl) ini_X10 wc_X10_isLineWord
theorem wc_X10_readLaw : Cond.code yX10_readLaw cX10_readLaw 3 (some .int) ∈ GT := gt_of 1594 (by decide +kernel) rfl
theorem gv_X10_readLaw : GoodIn GT (wsV RX10 281 RX10 yX10_readLaw (.code yX10_readLaw cX10_readLaw 3 (some .int) :: GT)) := gt_V (gt_of 1591 (by decide +kernel) rfl) (gt_of 1593 (by decide +kernel) rfl) (gt_of 125 (by decide +kernel) rfl) ini_X10 wc_X10_readLaw
theorem wc_X10_takesLaw : Cond.code yX10_takesLaw cX10_takesLaw 3 none ∈ GT := gt_of 1638 (by decide +kernel) rfl
theorem gv_X10_takesLaw : GoodIn GT (wsV RX10 293 RX10 yX10_takesLaw (.code yX10_takesLaw cX10_takesLaw 3 none :: GT)) := gt_V (gt_of 1635 (by decide +kernel) rfl) (gt_of 1637 (by decide +kernel) rfl) (gt_of 136 (by decide +kernel) rfl) ini_X10 wc_X10_takesLaw
theorem wc_X10_readNumber : Cond.code yX10_readNumber cX10_readNumber 4 (some .int) ∈ GT := gt_of 1558 (by decide +kernel) rfl
theorem gv_X10_readNumber : GoodIn GT (wsV RX10 241 RX10 yX10_readNumber (.code yX10_readNumber cX10_readNumber 4 (some .int) :: GT)) := gt_V (gt_of 1555 (by decide +kernel) rfl) (gt_of 1557 (by decide +kernel) rfl) (gt_of 116 (by decide +kernel) rfl) ini_X10 wc_X10_readNumber
theorem wc_X10_readWord : Cond.code yX10_readWord cX10_readWord 2 (some .int) ∈ GT := gt_of 1554 (by decide +kernel) rfl
theorem gv_X10_readWord : GoodIn GT (wsV RX10 238 RX10 yX10_readWord (.code yX10_readWord cX10_readWord 2 (some .int) :: GT)) := gt_V (gt_of 1551 (by decide +kernel) rfl) (gt_of 1553 (by decide +kernel) rfl) (gt_of 115 (by decide +kernel) rfl) ini_X10 wc_X10_readWord
theorem wc_X10_readMark : Cond.code yX10_readMark cX10_readMark 2 (some .int) ∈ GT := gt_of 1562 (by decide +kernel) rfl
theorem gv_X10_readMark : GoodIn GT (wsV RX10 251 RX10 yX10_readMark (.code yX10_readMark cX10_readMark 2 (some .int) :: GT)) := gt_V (gt_of 1559 (by decide +kernel) rfl) (gt_of 1561 (by decide +kernel) rfl) (gt_of 117 (by decide +kernel) rfl) ini_X10 wc_X10_readMark
theorem wc_X10_readTold : Cond.code yX10_readTold cX10_readTold 4 (some .int) ∈ GT := gt_of 1550 (by decide +kernel) rfl
theorem gv_X10_readTold : GoodIn GT (wsV RX10 247 RX10 yX10_readTold (.code yX10_readTold cX10_readTold 4 (some .int) :: GT)) := gt_V (gt_of 1547 (by decide +kernel) rfl) (gt_of 1549 (by decide +kernel) rfl) (gt_of 114 (by decide +kernel) rfl) ini_X10 wc_X10_readTold
theorem wc_X10_readCell : Cond.code yX10_readCell cX10_readCell 3 (some .int) ∈ GT := gt_of 1582 (by decide +kernel) rfl
theorem gv_X10_readCell : GoodIn GT (wsV RX10 263 RX10 yX10_readCell (.code yX10_readCell cX10_readCell 3 (some .int) :: GT)) := gt_V (gt_of 1579 (by decide +kernel) rfl) (gt_of 1581 (by decide +kernel) rfl) (gt_of 122 (by decide +kernel) rfl) ini_X10 wc_X10_readCell
theorem wc_X10_readKind : Cond.code yX10_readKind cX10_readKind 2 (some .int) ∈ GT := gt_of 1542 (by decide +kernel) rfl
theorem gv_X10_readKind : GoodIn GT (wsV RX10 257 RX10 yX10_readKind (.code yX10_readKind cX10_readKind 2 (some .int) :: GT)) := gt_V (gt_of 1539 (by decide +kernel) rfl) (gt_of 1541 (by decide +kernel) rfl) (gt_of 112 (by decide +kernel) rfl) ini_X10 wc_X10_readKind
theorem wc_X10_readCrossing : Cond.code yX10_readCrossing cX10_readCrossing 3 (some .int) ∈ GT := gt_of 1570 (by decide +kernel) rfl
theorem gv_X10_readCrossing : GoodIn GT (wsV RX10 260 RX10 yX10_readCrossing (.code yX10_readCrossing cX10_readCrossing 3 (some .int) :: GT)) := gt_V (gt_of 1567 (by decide +kernel) rfl) (gt_of 1569 (by decide +kernel) rfl) (gt_of 119 (by decide +kernel) rfl) ini_X10 wc_X10_readCrossing
theorem wc_X10_readAllKinds : Cond.code yX10_readAllKinds cX10_readAllKinds 2 (some .int) ∈ GT := gt_of 1534 (by decide +kernel) rfl
theorem gv_X10_readAllKinds : GoodIn GT (wsV RX10 272 RX10 yX10_readAllKinds (.code yX10_readAllKinds cX10_readAllKinds 2 (some .int) :: GT)) := gt_V (gt_of 1531 (by decide +kernel) rfl) (gt_of 1533 (by decide +kernel) rfl) (gt_of 110 (by decide +kernel) rfl) ini_X10 wc_X10_readAllKinds
theorem wc_X10_readWant : Cond.code yX10_readWant cX10_readWant 2 (some .int) ∈ GT := gt_of 1578 (by decide +kernel) rfl
theorem gv_X10_readWant : GoodIn GT (wsV RX10 266 RX10 yX10_readWant (.code yX10_readWant cX10_readWant 2 (some .int) :: GT)) := gt_V (gt_of 1575 (by decide +kernel) rfl) (gt_of 1577 (by decide +kernel) rfl) (gt_of 121 (by decide +kernel) rfl) ini_X10 wc_X10_readWant
theorem wc_X10_readWants : Cond.code yX10_readWants cX10_readWants 2 (some .int) ∈ GT := gt_of 1574 (by decide +kernel) rfl
theorem gv_X10_readWants : GoodIn GT (wsV RX10 275 RX10 yX10_readWants (.code yX10_readWants cX10_readWants 2 (some .int) :: GT)) := gt_V (gt_of 1571 (by decide +kernel) rfl) (gt_of 1573 (by decide +kernel) rfl) (gt_of 120 (by decide +kernel) rfl) ini_X10 wc_X10_readWants
theorem wc_X10_readPlanLine : Cond.code yX10_readPlanLine cX10_readPlanLine 2 (some .int) ∈ GT := gt_of 1590 (by decide +kernel) rfl
theorem gv_X10_readPlanLine : GoodIn GT (wsV RX10 269 RX10 yX10_readPlanLine (.code yX10_readPlanLine cX10_readPlanLine 2 (some .int) :: GT)) := gt_V (gt_of 1587 (by decide +kernel) rfl) (gt_of 1589 (by decide +kernel) rfl) (gt_of 124 (by decide +kernel) rfl) ini_X10 wc_X10_readPlanLine
theorem wc_X10_readPlan : Cond.code yX10_readPlan cX10_readPlan 2 (some .int) ∈ GT := gt_of 1586 (by decide +kernel) rfl
theorem gv_X10_readPlan : GoodIn GT (wsV RX10 278 RX10 yX10_readPlan (.code yX10_readPlan cX10_readPlan 2 (some .int) :: GT)) := gt_V (gt_of 1583 (by decide +kernel) rfl) (gt_of 1585 (by decide +kernel) rfl) (gt_of 123 (by decide +kernel) rfl) ini_X10 wc_X10_readPlan
theorem wc_X10_readsText : Cond.code yX10_readsText cX10_readsText 2 (some .int) ∈ GT := gt_of 1506 (by decide +kernel) rfl
theorem gv_X10_readsText : GoodIn GT (wsV RX10 290 RX10 yX10_readsText (.code yX10_readsText cX10_readsText 2 (some .int) :: GT)) := gt_V (gt_of 1503 (by decide +kernel) rfl) (gt_of 1505 (by decide +kernel) rfl) (gt_of 103 (by decide +kernel) rfl) ini_X10 wc_X10_readsText
theorem wc_X10_takesKinds : Cond.code yX10_takesKinds cX10_takesKinds 2 none ∈ GT := gt_of 1646 (by decide +kernel) rfl
theorem gv_X10_takesKinds : GoodIn GT (wsV RX10 284 RX10 yX10_takesKinds (.code yX10_takesKinds cX10_takesKinds 2 none :: GT)) := gt_V (gt_of 1643 (by decide +kernel) rfl) (gt_of 1645 (by decide +kernel) rfl) (gt_of 138 (by decide +kernel) rfl) ini_X10 wc_X10_takesKinds
theorem wc_X10_takesOther : Cond.code yX10_takesOther cX10_takesOther 4 none ∈ GT := gt_of 1642 (by decide +kernel) rfl
theorem gv_X10_takesOther : GoodIn GT (wsV RX10 296 RX10 yX10_takesOther (.code yX10_takesOther cX10_takesOther 4 none :: GT)) := gt_V (gt_of 1639 (by decide +kernel) rfl) (gt_of 1641 (by decide +kernel) rfl) (gt_of 137 (by decide +kernel) rfl) ini_X10 wc_X10_takesOther
theorem wc_X10_text : Cond.code yX10_text cX10_text 3 (some .int) ∈ GT := gt_of 1502 (by decide +kernel) rfl
theorem wc_X10_fault : Cond.code yX10_fault cX10_fault 2 (some .int) ∈ GT := gt_of 1650 (by decide +kernel) rfl
theorem wc_X10_twoOf : Cond.code yX10_twoOf cX10_twoOf 4 (some .int) ∈ GT := gt_of 1758 (by decide +kernel) rfl
theorem gv_X10_twoOf : GoodIn GT (wsV RX10 299 RX10 yX10_twoOf (.code yX10_twoOf cX10_twoOf 4 (some .int) :: GT)) := gt_V (gt_of 1755 (by decide +kernel) rfl) (gt_of 1757 (by decide +kernel) rfl) (gt_of 161 (by decide +kernel) rfl) ini_X10 wc_X10_twoOf
theorem wc_X10_runs : Cond.code yX10_runs cX10_runs 6 (some .int) ∈ GT := gt_of 1754 (by decide +kernel) rfl
theorem gv_X10_runs : GoodIn GT (wsV RX10 302 RX10 yX10_runs (.code yX10_runs cX10_runs 6 (some .int) :: GT)) := gt_V (gt_of 1751 (by decide +kernel) rfl) (gt_of 1753 (by decide +kernel) rfl) (gt_of 160 (by decide +kernel) rfl) ini_X10 wc_X10_runs
theorem wc_X10_lineOf : Cond.code yX10_lineOf cX10_lineOf 4 (some .int) ∈ GT := gt_of 1750 (by decide +kernel) rfl
theorem gv_X10_lineOf : GoodIn GT (wsV RX10 324 RX10 yX10_lineOf (.code yX10_lineOf cX10_lineOf 4 (some .int) :: GT)) := gt_V (gt_of 1747 (by decide +kernel) rfl) (gt_of 1749 (by decide +kernel) rfl) (gt_of 159 (by decide +kernel) rfl) ini_X10 wc_X10_lineOf
theorem wc_X10_cellBy : Cond.code yX10_cellBy cX10_cellBy 5 (some .int) ∈ GT := gt_of 1738 (by decide +kernel) rfl
theorem gv_X10_cellBy : GoodIn GT (wsV RX10 305 RX10 yX10_cellBy (.code yX10_cellBy cX10_cellBy 5 (some .int) :: GT)) := gt_V (gt_of 1735 (by decide +kernel) rfl) (gt_of 1737 (by decide +kernel) rfl) (gt_of 156 (by decide +kernel) rfl) ini_X10 wc_X10_cellBy
theorem wc_X10_besideOf : Cond.code yX10_besideOf cX10_besideOf 4 (some .int) ∈ GT := gt_of 1734 (by decide +kernel) rfl
theorem gv_X10_besideOf : GoodIn GT (wsV RX10 314 RX10 yX10_besideOf (.code yX10_besideOf cX10_besideOf 4 (some .int) :: GT)) := gt_V (gt_of 1731 (by decide +kernel) rfl) (gt_of 1733 (by decide +kernel) rfl) (gt_of 155 (by decide +kernel) rfl) ini_X10 wc_X10_besideOf
theorem wc_X10_hedgesOf : Cond.code yX10_hedgesOf cX10_hedgesOf 4 (some .int) ∈ GT := gt_of 1746 (by decide +kernel) rfl
theorem gv_X10_hedgesOf : GoodIn GT (wsV RX10 317 RX10 yX10_hedgesOf (.code yX10_hedgesOf cX10_hedgesOf 4 (some .int) :: GT)) := gt_V (gt_of 1743 (by decide +kernel) rfl) (gt_of 1745 (by decide +kernel) rfl) (gt_of 158 (by decide +kernel) rfl) ini_X10 wc_X10_hedgesOf
theorem wc_X10_asks : Cond.code yX10_asks cX10_asks 6 none ∈ GT := gt_of 1726 (by decide +kernel) rfl
theorem gv_X10_asks : GoodIn GT (wsV RX10 320 RX10 yX10_asks (.code yX10_asks cX10_asks 6 none :: GT)) := gt_V (gt_of 1723 (by decide +kernel) rfl) (gt_of 1725 (by decide +kernel) rfl) (gt_of 153 (by decide +kernel) rfl) ini_X10 wc_X10_asks
theorem wc_X10_gustOf : Cond.code yX10_gustOf cX10_gustOf 5 (some .int) ∈ GT := gt_of 1722 (by decide +kernel) rfl
theorem gv_X10_gustOf : GoodIn GT (wsV RX10 357 RX10 yX10_gustOf (.code yX10_gustOf cX10_gustOf 5 (some .int) :: GT)) := gt_V (gt_of 1719 (by decide +kernel) rfl) (gt_of 1721 (by decide +kernel) rfl) (gt_of 152 (by decide +kernel) rfl) ini_X10 wc_X10_gustOf
theorem wc_X10_harmOf : Cond.code yX10_harmOf cX10_harmOf 3 (some .int) ∈ GT := gt_of 1782 (by decide +kernel) rfl
theorem gv_X10_harmOf : GoodIn GT (wsV RX10 372 RX10 yX10_harmOf (.code yX10_harmOf cX10_harmOf 3 (some .int) :: GT)) := gt_V (gt_of 1779 (by decide +kernel) rfl) (gt_of 1781 (by decide +kernel) rfl) (gt_of 167 (by decide +kernel) rfl) ini_X10 wc_X10_harmOf
theorem wc_X10_ofKind : Cond.code yX10_ofKind cX10_ofKind 3 (some .int) ∈ GT := gt_of 1714 (by decide +kernel) rfl
theorem gv_X10_ofKind : GoodIn GT (wsV RX10 354 RX10 yX10_ofKind (.code yX10_ofKind cX10_ofKind 3 (some .int) :: GT)) := gt_V (gt_of 1711 (by decide +kernel) rfl) (gt_of 1713 (by decide +kernel) rfl) (gt_of 150 (by decide +kernel) rfl) ini_X10 wc_X10_ofKind
theorem wc_X10_crossOf : Cond.code yX10_crossOf cX10_crossOf 6 (some .int) ∈ GT := gt_of 1766 (by decide +kernel) rfl
theorem gv_X10_crossOf : GoodIn GT (wsV RX10 360 RX10 yX10_crossOf (.code yX10_crossOf cX10_crossOf 6 (some .int) :: GT)) := gt_V (gt_of 1763 (by decide +kernel) rfl) (gt_of 1765 (by decide +kernel) rfl) (gt_of 163 (by decide +kernel) rfl) ini_X10 wc_X10_crossOf
theorem wc_X10_notes : Cond.code yX10_notes cX10_notes 5 none ∈ GT := gt_of 1670 (by decide +kernel) rfl
theorem gv_X10_notes : GoodIn GT (wsV RX10 330 RX10 yX10_notes (.code yX10_notes cX10_notes 5 none :: GT)) := gt_V (gt_of 1667 (by decide +kernel) rfl) (gt_of 1669 (by decide +kernel) rfl) (gt_of 142 (by decide +kernel) rfl) ini_X10 wc_X10_notes
theorem wc_X10_canSow : Cond.code yX10_canSow cX10_canSow 2 (some .boolean) ∈ GT := gt_of 1658 (by decide +kernel) rfl
theorem gv_X10_canSow : GoodIn GT (wsV RX10 333 RX10 yX10_canSow (.code yX10_canSow cX10_canSow 2 (some .boolean) :: GT)) := gt_V (gt_of 1655 (by decide +kernel) rfl) (gt_of 1657 (by decide +kernel) rfl) (gt_of 139 (by decide +kernel) rfl) ini_X10 wc_X10_canSow
theorem wc_X10_falls : Cond.code yX10_falls cX10_falls 4 none ∈ GT := gt_of 1666 (by decide +kernel) rfl
theorem gv_X10_falls : GoodIn GT (wsV RX10 339 RX10 yX10_falls (.code yX10_falls cX10_falls 4 none :: GT)) := gt_V (gt_of 1663 (by decide +kernel) rfl) (gt_of 1665 (by decide +kernel) rfl) (gt_of 141 (by decide +kernel) rfl) ini_X10 wc_X10_falls
theorem wc_X10_canWeed : Cond.code yX10_canWeed cX10_canWeed 2 (some .boolean) ∈ GT := gt_of 1678 (by decide +kernel) rfl
theorem gv_X10_canWeed : GoodIn GT (wsV RX10 342 RX10 yX10_canWeed (.code yX10_canWeed cX10_canWeed 2 (some .boolean) :: GT)) := gt_V (gt_of 1675 (by decide +kernel) rfl) (gt_of 1677 (by decide +kernel) rfl) (gt_of 143 (by decide +kernel) rfl) ini_X10 wc_X10_canWeed
theorem wc_X10_takesOut : Cond.code yX10_takesOut cX10_takesOut 2 none ∈ GT := gt_of 1682 (by decide +kernel) rfl
theorem gv_X10_takesOut : GoodIn GT (wsV RX10 345 RX10 yX10_takesOut (.code yX10_takesOut cX10_takesOut 2 none :: GT)) := gt_V (gt_of 1679 (by decide +kernel) rfl) (gt_of 1681 (by decide +kernel) rfl) (gt_of 144 (by decide +kernel) rfl) ini_X10 wc_X10_takesOut
theorem wc_X10_sow : Cond.code yX10_sow cX10_sow 3 (some .boolean) ∈ GT := gt_of 1654 (by decide +kernel) rfl
theorem wc_X10_weed : Cond.code yX10_weed cX10_weed 2 (some .boolean) ∈ GT := gt_of 1674 (by decide +kernel) rfl
theorem wc_X10_turn : Cond.code yX10_turn cX10_turn 2 (some .boolean) ∈ GT := gt_of 1686 (by decide +kernel) rfl
theorem wc_X10_does : Cond.code yX10_does cX10_does 3 none ∈ GT := gt_of 1706 (by decide +kernel) rfl
theorem gv_X10_does : GoodIn GT (wsV RX10 381 RX10 yX10_does (.code yX10_does cX10_does 3 none :: GT)) := gt_V (gt_of 1703 (by decide +kernel) rfl) (gt_of 1705 (by decide +kernel) rfl) (gt_of 148 (by decide +kernel) rfl) ini_X10 wc_X10_does
theorem wc_X10_storms : Cond.code yX10_storms cX10_storms 4 none ∈ GT := gt_of 1774 (by decide +kernel) rfl
theorem gv_X10_storms : GoodIn GT (wsV RX10 366 RX10 yX10_storms (.code yX10_storms cX10_storms 4 none :: GT)) := gt_V (gt_of 1771 (by decide +kernel) rfl) (gt_of 1773 (by decide +kernel) rfl) (gt_of 165 (by decide +kernel) rfl) ini_X10 wc_X10_storms
theorem wc_X10_comesUp : Cond.code yX10_comesUp cX10_comesUp 6 (some .int) ∈ GT := gt_of 1718 (by decide +kernel) rfl
theorem gv_X10_comesUp : GoodIn GT (wsV RX10 369 RX10 yX10_comesUp (.code yX10_comesUp cX10_comesUp 6 (some .int) :: GT)) := gt_V (gt_of 1715 (by decide +kernel) rfl) (gt_of 1717 (by decide +kernel) rfl) (gt_of 151 (by decide +kernel) rfl) ini_X10 wc_X10_comesUp
theorem wc_X10_comeUp : Cond.code yX10_comeUp cX10_comeUp 3 (some .int) ∈ GT := gt_of 1710 (by decide +kernel) rfl
theorem gv_X10_comeUp : GoodIn GT (wsV RX10 384 RX10 yX10_comeUp (.code yX10_comeUp cX10_comeUp 3 (some .int) :: GT)) := gt_V (gt_of 1707 (by decide +kernel) rfl) (gt_of 1709 (by decide +kernel) rfl) (gt_of 149 (by decide +kernel) rfl) ini_X10 wc_X10_comeUp
theorem wc_X10_doesHarm : Cond.code yX10_doesHarm cX10_doesHarm 4 none ∈ GT := gt_of 1778 (by decide +kernel) rfl
theorem gv_X10_doesHarm : GoodIn GT (wsV RX10 387 RX10 yX10_doesHarm (.code yX10_doesHarm cX10_doesHarm 4 none :: GT)) := gt_V (gt_of 1775 (by decide +kernel) rfl) (gt_of 1777 (by decide +kernel) rfl) (gt_of 166 (by decide +kernel) rfl) ini_X10 wc_X10_doesHarm
theorem wc_X10_spreads : Cond.code yX10_spreads cX10_spreads 5 none ∈ GT := gt_of 1794 (by decide +kernel) rfl
theorem gv_X10_spreads : GoodIn GT (wsV RX10 375 RX10 yX10_spreads (.code yX10_spreads cX10_spreads 5 none :: GT)) := gt_V (gt_of 1791 (by decide +kernel) rfl) (gt_of 1793 (by decide +kernel) rfl) (gt_of 170 (by decide +kernel) rfl) ini_X10 wc_X10_spreads
theorem wc_X10_goAway : Cond.code yX10_goAway cX10_goAway 3 none ∈ GT := gt_of 1790 (by decide +kernel) rfl
theorem gv_X10_goAway : GoodIn GT (wsV RX10 390 RX10 yX10_goAway (.code yX10_goAway cX10_goAway 3 none :: GT)) := gt_V (gt_of 1787 (by decide +kernel) rfl) (gt_of 1789 (by decide +kernel) rfl) (gt_of 169 (by decide +kernel) rfl) ini_X10 wc_X10_goAway
theorem wc_X10_bringsBirds : Cond.code yX10_bringsBirds cX10_bringsBirds 4 none ∈ GT := gt_of 1798 (by decide +kernel) rfl
theorem gv_X10_bringsBirds : GoodIn GT (wsV RX10 393 RX10 yX10_bringsBirds (.code yX10_bringsBirds cX10_bringsBirds 4 none :: GT)) := gt_V (gt_of 1795 (by decide +kernel) rfl) (gt_of 1797 (by decide +kernel) rfl) (gt_of 171 (by decide +kernel) rfl) ini_X10 wc_X10_bringsBirds
theorem wc_X10_goesIn : Cond.code yX10_goesIn cX10_goesIn 3 (some .int) ∈ GT := gt_of 1702 (by decide +kernel) rfl
theorem gv_X10_goesIn : GoodIn GT (wsV RX10 396 RX10 yX10_goesIn (.code yX10_goesIn cX10_goesIn 3 (some .int) :: GT)) := gt_V (gt_of 1699 (by decide +kernel) rfl) (gt_of 1701 (by decide +kernel) rfl) (gt_of 147 (by decide +kernel) rfl) ini_X10 wc_X10_goesIn
theorem wc_X10_goesOut : Cond.code yX10_goesOut cX10_goesOut 1 none ∈ GT := gt_of 1786 (by decide +kernel) rfl
theorem gv_X10_goesOut : GoodIn GT (wsV RX10 400 RX10 yX10_goesOut (.code yX10_goesOut cX10_goesOut 1 none :: GT)) := gt_V (gt_of 1783 (by decide +kernel) rfl) (gt_of 1785 (by decide +kernel) rfl) (gt_of 168 (by decide +kernel) rfl) ini_X10 wc_X10_goesOut
theorem wc_X10_days : Cond.code yX10_days cX10_days 4 (some .int) ∈ GT := gt_of 1698 (by decide +kernel) rfl
theorem wc_X10_at : Cond.code yX10_at cX10_at 3 (some .int) ∈ GT := gt_of 1808 (by decide +kernel) rfl
theorem wc_X10_manyOf : Cond.code yX10_manyOf cX10_manyOf 5 (some .int) ∈ GT := gt_of 1816 (by decide +kernel) rfl
theorem gv_X10_manyOf : GoodIn GT (wsV RX10 403 RX10 yX10_manyOf (.code yX10_manyOf cX10_manyOf 5 (some .int) :: GT)) := gt_V (gt_of 1813 (by decide +kernel) rfl) (gt_of 1815 (by decide +kernel) rfl) (gt_of 173 (by decide +kernel) rfl) ini_X10 wc_X10_manyOf
theorem wc_X10_kind : Cond.code yX10_kind cX10_kind 3 (some .int) ∈ GT := gt_of 1812 (by decide +kernel) rfl
theorem wc_X10_cross : Cond.code yX10_cross cX10_cross 3 (some .int) ∈ GT := gt_of 1820 (by decide +kernel) rfl
theorem wc_X10_gust : Cond.code yX10_gust cX10_gust 4 (some .int) ∈ GT := gt_of 1824 (by decide +kernel) rfl
theorem wc_X10_book : Cond.code yX10_book cX10_book 3 (some .int) ∈ GT := gt_of 1828 (by decide +kernel) rfl
theorem wc_X10_stormSet : Cond.code yX10_stormSet cX10_stormSet 4 (some .long) ∈ GT := gt_of 1845 (by decide +kernel) rfl
theorem gv_X10_stormSet : GoodIn GT (wsV RX10 418 RX10 yX10_stormSet (.code yX10_stormSet cX10_stormSet 4 (some .long) :: GT)) := gt_V (gt_of 1842 (by decide +kernel) rfl) (gt_of 1844 (by decide +kernel) rfl) (gt_of 176 (by decide +kernel) rfl) ini_X10 wc_X10_stormSet
theorem wc_X10_goesTo : Cond.code yX10_goesTo cX10_goesTo 3 none ∈ GT := gt_of 1841 (by decide +kernel) rfl
theorem gv_X10_goesTo : GoodIn GT (wsV RX10 415 RX10 yX10_goesTo (.code yX10_goesTo cX10_goesTo 3 none :: GT)) := gt_V (gt_of 1838 (by decide +kernel) rfl) (gt_of 1840 (by decide +kernel) rfl) (gt_of 175 (by decide +kernel) rfl) ini_X10 wc_X10_goesTo
theorem wc_X10_blows : Cond.code yX10_blows cX10_blows 4 (some .long) ∈ GT := gt_of 1832 (by decide +kernel) rfl
theorem wc_X10_harms : Cond.code yX10_harms cX10_harms 3 (some .int) ∈ GT := gt_of 1861 (by decide +kernel) rfl
theorem wc_X10_ofWant : Cond.code yX10_ofWant cX10_ofWant 3 (some .int) ∈ GT := gt_of 1873 (by decide +kernel) rfl
theorem gv_X10_ofWant : GoodIn GT (wsV RX10 425 RX10 yX10_ofWant (.code yX10_ofWant cX10_ofWant 3 (some .int) :: GT)) := gt_V (gt_of 1870 (by decide +kernel) rfl) (gt_of 1872 (by decide +kernel) rfl) (gt_of 181 (by decide +kernel) rfl) ini_X10 wc_X10_ofWant
theorem wc_X10_isMet : Cond.code yX10_isMet cX10_isMet 2 (some .boolean) ∈ GT := gt_of 1877 (by decide +kernel) rfl
theorem gv_X10_isMet : GoodIn GT (wsV RX10 431 RX10 yX10_isMet (.code yX10_isMet cX10_isMet 2 (some .boolean) :: GT)) := gt_V (gt_of 1874 (by decide +kernel) rfl) (gt_of 1876 (by decide +kernel) rfl) (gt_of 182 (by decide +kernel) rfl) ini_X10 wc_X10_isMet
theorem wc_X10_lastWanted : Cond.code yX10_lastWanted cX10_lastWanted 3 (some .int) ∈ GT := gt_of 1869 (by decide +kernel) rfl
theorem gv_X10_lastWanted : GoodIn GT (wsV RX10 428 RX10 yX10_lastWanted (.code yX10_lastWanted cX10_lastWanted 3 (some .int) :: GT)) := gt_V (gt_of 1866 (by decide +kernel) rfl) (gt_of 1868 (by decide +kernel) rfl) (gt_of 180 (by decide +kernel) rfl) ini_X10 wc_X10_lastWanted
theorem wc_X10_meets : Cond.code yX10_meets cX10_meets 6 (some .int) ∈ GT := gt_of 1865 (by decide +kernel) rfl
theorem wc_X10_isMetBy : Cond.code yX10_isMetBy cX10_isMetBy 5 (some .boolean) ∈ GT := gt_of 1885 (by decide +kernel) rfl
theorem gv_X10_isMetBy : GoodIn GT (wsV RX10 437 RX10 yX10_isMetBy (.code yX10_isMetBy cX10_isMetBy 5 (some .boolean) :: GT)) := gt_V (gt_of 1882 (by decide +kernel) rfl) (gt_of 1884 (by decide +kernel) rfl) (gt_of 183 (by decide +kernel) rfl) ini_X10 wc_X10_isMetBy
theorem wc_X10_sows : Cond.code yX10_sows cX10_sows 7 (some .int) ∈ GT := gt_of 1881 (by decide +kernel) rfl
theorem wc_X10_gets : Cond.code yX10_gets cX10_gets 6 (some .int) ∈ GT := gt_of 1889 (by decide +kernel) rfl
theorem wc_X10_isCalmFor : Cond.code yX10_isCalmFor cX10_isCalmFor 6 (some .boolean) ∈ GT := gt_of 1905 (by decide +kernel) rfl
theorem gv_X10_isCalmFor : GoodIn GT (wsV RX10 447 RX10 yX10_isCalmFor (.code yX10_isCalmFor cX10_isCalmFor 6 (some .boolean) :: GT)) := gt_V (gt_of 1902 (by decide +kernel) rfl) (gt_of 1904 (by decide +kernel) rfl) (gt_of 186 (by decide +kernel) rfl) ini_X10 wc_X10_isCalmFor
theorem wc_X10_areCells : Cond.code yX10_areCells cX10_areCells 4 (some .boolean) ∈ GT := gt_of 1897 (by decide +kernel) rfl
theorem gv_X10_areCells : GoodIn GT (wsV RX10 440 RX10 yX10_areCells (.code yX10_areCells cX10_areCells 4 (some .boolean) :: GT)) := gt_V (gt_of 1894 (by decide +kernel) rfl) (gt_of 1896 (by decide +kernel) rfl) (gt_of 184 (by decide +kernel) rfl) ini_X10 wc_X10_areCells
theorem wc_X10_setOf : Cond.code yX10_setOf cX10_setOf 6 (some .long) ∈ GT := gt_of 1909 (by decide +kernel) rfl
theorem gv_X10_setOf : GoodIn GT (wsV RX10 451 RX10 yX10_setOf (.code yX10_setOf cX10_setOf 6 (some .long) :: GT)) := gt_V (gt_of 1906 (by decide +kernel) rfl) (gt_of 1908 (by decide +kernel) rfl) (gt_of 187 (by decide +kernel) rfl) ini_X10 wc_X10_setOf
theorem wc_X10_weeds : Cond.code yX10_weeds cX10_weeds 10 (some .long) ∈ GT := gt_of 1893 (by decide +kernel) rfl
theorem wc_X10_crossedOnce : Cond.code yX10_crossedOnce cX10_crossedOnce 4 (some .int) ∈ GT := gt_of 1917 (by decide +kernel) rfl
theorem gv_X10_crossedOnce : GoodIn GT (wsV RX10 455 RX10 yX10_crossedOnce (.code yX10_crossedOnce cX10_crossedOnce 4 (some .int) :: GT)) := gt_V (gt_of 1914 (by decide +kernel) rfl) (gt_of 1916 (by decide +kernel) rfl) (gt_of 188 (by decide +kernel) rfl) ini_X10 wc_X10_crossedOnce
theorem wc_X10_have : Cond.code yX10_have cX10_have 3 (some .int) ∈ GT := gt_of 1913 (by decide +kernel) rfl
theorem wc_X10_generations : Cond.code yX10_generations cX10_generations 5 (some .int) ∈ GT := gt_of 1921 (by decide +kernel) rfl
theorem wc_X10_findsWho : Cond.code yX10_findsWho cX10_findsWho 5 none ∈ GT := gt_of 1929 (by decide +kernel) rfl
theorem gv_X10_findsWho : GoodIn GT (wsV RX10 464 RX10 yX10_findsWho (.code yX10_findsWho cX10_findsWho 5 none :: GT)) := gt_V (gt_of 1926 (by decide +kernel) rfl) (gt_of 1928 (by decide +kernel) rfl) (gt_of 189 (by decide +kernel) rfl) ini_X10 wc_X10_findsWho
theorem wc_X10_who : Cond.code yX10_who cX10_who 4 (some .int) ∈ GT := gt_of 1925 (by decide +kernel) rfl
theorem wc_X10_calm : Cond.code yX10_calm cX10_calm 8 (some .int) ∈ GT := gt_of 1933 (by decide +kernel) rfl
theorem wc_X10_goodOf : Cond.code yX10_goodOf cX10_goodOf 5 (some .int) ∈ GT := gt_of 1941 (by decide +kernel) rfl
theorem gv_X10_goodOf : GoodIn GT (wsV RX10 470 RX10 yX10_goodOf (.code yX10_goodOf cX10_goodOf 5 (some .int) :: GT)) := gt_V (gt_of 1938 (by decide +kernel) rfl) (gt_of 1940 (by decide +kernel) rfl) (gt_of 190 (by decide +kernel) rfl) ini_X10 wc_X10_goodOf
theorem wc_X10_good : Cond.code yX10_good cX10_good 3 (some .int) ∈ GT := gt_of 1937 (by decide +kernel) rfl
theorem wc_X10_open : Cond.code yX10_open cX10_open 9 (some .int) ∈ GT := gt_of 1947 (by decide +kernel) rfl
theorem wc_X10_heapOf : Cond.code yX10_heapOf cX10_heapOf 4 (some .int) ∈ GT := gt_of 1956 (by decide +kernel) rfl
theorem gv_X10_heapOf : GoodIn GT (wsV RX10 475 RX10 yX10_heapOf (.code yX10_heapOf cX10_heapOf 4 (some .int) :: GT)) := gt_V (gt_of 1953 (by decide +kernel) rfl) (gt_of 1955 (by decide +kernel) rfl) (gt_of 191 (by decide +kernel) rfl) ini_X10 wc_X10_heapOf
theorem wc_X10_game : Cond.code yX10_game cX10_game 4 (some .int) ∈ GT := gt_of 1952 (by decide +kernel) rfl
theorem wc_X10_keeps : Cond.code yX10_keeps cX10_keeps 2 (some .int) ∈ GT := gt_of 1964 (by decide +kernel) rfl
theorem gv_X10_keeps : GoodIn GT (wsV RX10 484 RX10 yX10_keeps (.code yX10_keeps cX10_keeps 2 (some .int) :: GT)) := gt_V (gt_of 1961 (by decide +kernel) rfl) (gt_of 1963 (by decide +kernel) rfl) (gt_of 192 (by decide +kernel) rfl) ini_X10 wc_X10_keeps
theorem wc_X10_keepsLaw : Cond.code yX10_keepsLaw cX10_keepsLaw 2 none ∈ GT := gt_of 1972 (by decide +kernel) rfl
theorem gv_X10_keepsLaw : GoodIn GT (wsV RX10 493 RX10 yX10_keepsLaw (.code yX10_keepsLaw cX10_keepsLaw 2 none :: GT)) := gt_V (gt_of 1969 (by decide +kernel) rfl) (gt_of 1971 (by decide +kernel) rfl) (gt_of 194 (by decide +kernel) rfl) ini_X10 wc_X10_keepsLaw
theorem wc_X10_keepsTold : Cond.code yX10_keepsTold cX10_keepsTold 2 none ∈ GT := gt_of 1968 (by decide +kernel) rfl
theorem gv_X10_keepsTold : GoodIn GT (wsV RX10 490 RX10 yX10_keepsTold (.code yX10_keepsTold cX10_keepsTold 2 none :: GT)) := gt_V (gt_of 1965 (by decide +kernel) rfl) (gt_of 1967 (by decide +kernel) rfl) (gt_of 193 (by decide +kernel) rfl) ini_X10 wc_X10_keepsTold
theorem wc_X10_image : Cond.code yX10_image cX10_image 3 (some .boolean) ∈ GT := gt_of 1960 (by decide +kernel) rfl
theorem wc_X10_look : Cond.code yX10_look cX10_look 2 (some .int) ∈ GT := gt_of 1976 (by decide +kernel) rfl
