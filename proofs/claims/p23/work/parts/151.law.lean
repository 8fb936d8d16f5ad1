/-! the law: the words of what it calls are the tables' -/
theorem gt_nil : GoodIn lw_tbl [] := fun _ h => absurd h List.not_mem_nil
theorem gt_c {c : Cond} {ws : List Cond} (h1 : GoodIn lw_tbl [c]) (h2 : GoodIn lw_tbl ws) : GoodIn lw_tbl (c :: ws) := goodIn_app (a := [c]) h1 h2
set_option maxRecDepth 100000 in
theorem gt_wsX80 : GoodIn lw_tbl wsX80 := (goodIn_r _ [381, 383, 385, 387, 389, 391, 393] (by decide +kernel) (by decide +kernel))
set_option maxRecDepth 100000 in
theorem gt_wsX30 : GoodIn lw_tbl wsX30 := (goodIn_r _ [46, 48, 50, 52, 54] (by decide +kernel) (by decide +kernel))
set_option maxRecDepth 100000 in
theorem gt_wsX60 : GoodIn lw_tbl wsX60 := (goodIn_r _ [320, 322, 324, 326, 328, 330, 332, 334, 336, 338, 340, 342] (by decide +kernel) (by decide +kernel))
set_option maxRecDepth 100000 in
theorem gt_wsX40 : GoodIn lw_tbl wsX40 := (goodIn_r _ [354, 356, 358] (by decide +kernel) (by decide +kernel))
set_option maxRecDepth 100000 in
theorem gt_wsX00 : GoodIn lw_tbl wsX00 := (goodIn_r _ [369, 371] (by decide +kernel) (by decide +kernel))
set_option maxRecDepth 100000 in
theorem gt_wsX3_init : GoodIn lw_tbl wsX3_init := (gt_c (goodIn_r [.code yX3_init cX3_init 1 none] [33] (by decide +kernel) (by decide +kernel)) (goodIn_app (goodIn_r _ [34, 27, 28, 57, 39, 40, 42, 44] (by decide +kernel) (by decide +kernel)) gt_wsX30))
set_option maxRecDepth 100000 in
theorem gt_wsX6_init_r1 : GoodIn lw_tbl wsX6_init_r1 := (goodIn_r _ [63, 27, 28, 64, 292, 66, 297, 68, 303, 70, 305, 57, 306, 72, 6, 168, 7, 241, 8, 261, 9, 73, 74, 75] (by decide +kernel) (by decide +kernel))
set_option maxRecDepth 100000 in
theorem gt_wsX6_init_r2 : GoodIn lw_tbl wsX6_init_r2 := (goodIn_r _ [76, 83, 88, 98, 103, 77, 169, 170, 171, 172, 175, 209, 173, 242, 243, 244, 245, 248, 246, 263, 264, 265, 266, 269] (by decide +kernel) (by decide +kernel))
set_option maxRecDepth 100000 in
theorem gt_wsX70 : GoodIn lw_tbl wsX70 := (goodIn_r _ [133, 135, 137, 139, 141, 143, 145, 147, 149, 151, 153, 155, 157, 159, 161, 163, 165] (by decide +kernel) (by decide +kernel))
set_option maxRecDepth 100000 in
theorem gt_wsX50 : GoodIn lw_tbl wsX50 := (goodIn_r _ [212, 214, 216, 218, 220, 222, 224, 226, 228, 230, 232, 234, 236, 238] (by decide +kernel) (by decide +kernel))
set_option maxRecDepth 100000 in
theorem gt_wsX20 : GoodIn lw_tbl wsX20 := (goodIn_r _ [254, 256, 258] (by decide +kernel) (by decide +kernel))
set_option maxRecDepth 100000 in
theorem gt_wsX10 : GoodIn lw_tbl wsX10 := (goodIn_r _ [281, 283, 285, 287, 289] (by decide +kernel) (by decide +kernel))
set_option maxRecDepth 100000 in
theorem gt_wsX6_init : GoodIn lw_tbl wsX6_init := (gt_c (goodIn_r [.code yX6_init cX6_init 2 none] [62] (by decide +kernel) (by decide +kernel)) (goodIn_app (goodIn_app (goodIn_app (goodIn_app (goodIn_app (goodIn_app gt_wsX6_init_r1 gt_wsX6_init_r2) gt_wsX60) gt_wsX70) gt_wsX50) gt_wsX20) gt_wsX10))
set_option maxRecDepth 100000 in
theorem gt_wsX4_init : GoodIn lw_tbl wsX4_init := (gt_c (goodIn_r [.code yX4_init cX4_init 3 none] [349] (by decide +kernel) (by decide +kernel)) (goodIn_app (goodIn_r _ [350, 27, 28, 351, 352] (by decide +kernel) (by decide +kernel)) gt_wsX40))
set_option maxRecDepth 100000 in
theorem gt_wsX0_init : GoodIn lw_tbl wsX0_init := (gt_c (goodIn_r [.code yX0_init cX0_init 3 none] [365] (by decide +kernel) (by decide +kernel)) (goodIn_app (goodIn_r _ [366, 27, 28, 367, 368] (by decide +kernel) (by decide +kernel)) gt_wsX00))
set_option maxRecDepth 100000 in
theorem gt_wl_init8 : GoodIn lw_tbl wl_init8 := (gt_c (goodIn_r [.code yX8_init cX8_init 1 none] [25] (by decide +kernel) (by decide +kernel)) (goodIn_app (goodIn_r _ [26, 27, 28, 29, 30, 4, 374, 58, 59, 5, 375, 345, 346, 10, 376, 361, 362, 11, 377, 378, 379, 380, 32, 60, 61, 347, 348, 363, 364] (by decide +kernel) (by decide +kernel)) (goodIn_app gt_wsX80 (goodIn_app gt_wsX30 (goodIn_app gt_wsX60 (goodIn_app gt_wsX40 (goodIn_app gt_wsX00 (goodIn_app gt_wsX3_init (goodIn_app gt_wsX6_init (goodIn_app gt_wsX4_init (goodIn_app gt_wsX0_init gt_nil)))))))))))
set_option maxRecDepth 100000 in
theorem glw_init8 : GoodIn lw_tbl wl_init8 := gt_wl_init8
set_option maxRecDepth 100000 in
theorem gt_wsX90 : GoodIn lw_tbl wsX90 := (goodIn_r _ [885, 887, 889] (by decide +kernel) (by decide +kernel))
set_option maxRecDepth 100000 in
theorem gt_wl_init9 : GoodIn lw_tbl wl_init9 := (gt_c (goodIn_r [.code yX9_init cX9_init 1 none] [876] (by decide +kernel) (by decide +kernel)) (goodIn_app (goodIn_r _ [877, 27, 28, 878, 57, 881, 883] (by decide +kernel) (by decide +kernel)) (goodIn_app gt_wsX90 gt_nil)))
set_option maxRecDepth 100000 in
theorem glw_init9 : GoodIn lw_tbl wl_init9 := gt_wl_init9
set_option maxRecDepth 100000 in
theorem gt_wsX3_addBody : GoodIn lw_tbl wsX3_addBody := (gt_c (goodIn_r [.code yX3_addBody cX3_addBody 2 (some .int)] [919] (by decide +kernel) (by decide +kernel)) (goodIn_app (goodIn_r _ [35] (by decide +kernel) (by decide +kernel)) gt_wsX30))
set_option maxRecDepth 100000 in
theorem gt_w8_body : GoodIn lw_tbl w8_body := (gt_c (goodIn_r [.code yX8_body cX8_body 1 (some .int)] [899] (by decide +kernel) (by decide +kernel)) (goodIn_app (goodIn_r _ [374, 36] (by decide +kernel) (by decide +kernel)) (goodIn_app gt_wsX80 (goodIn_app gt_wsX30 (goodIn_app (goodIn_app (goodIn_r _ [916, 917, 918, 4] (by decide +kernel) (by decide +kernel)) gt_wsX3_addBody) gt_nil)))))
set_option maxRecDepth 100000 in
theorem gt_wl_isTold : GoodIn lw_tbl wl_isTold := (gt_c (goodIn_r [.code yX9_isTold cX9_isTold 2 (some .boolean)] [895] (by decide +kernel) (by decide +kernel)) (goodIn_app (goodIn_r _ [884] (by decide +kernel) (by decide +kernel)) (goodIn_app gt_wsX90 (goodIn_app (goodIn_app (goodIn_r _ [896, 897, 898, 3] (by decide +kernel) (by decide +kernel)) gt_w8_body) gt_nil))))
set_option maxRecDepth 100000 in
theorem glw_isTold : GoodIn lw_tbl (wsV RL 15 RX9 yX9_isTold wl_isTold) := (goodIn_app (goodIn_r _ [892, 893, 894, 12] (by decide +kernel) (by decide +kernel)) gt_wl_isTold)
set_option maxRecDepth 100000 in
theorem gt_w8_checkNumber : GoodIn lw_tbl w8_checkNumber := (gt_c (goodIn_r [.code yX8_checkNumber cX8_checkNumber 2 none] [402] (by decide +kernel) (by decide +kernel)) (goodIn_app gt_nil gt_nil))
set_option maxRecDepth 100000 in
theorem gt_wsX3_linesOf : GoodIn lw_tbl wsX3_linesOf := (gt_c (goodIn_r [.code yX3_linesOf cX3_linesOf 2 (some .int)] [671] (by decide +kernel) (by decide +kernel)) (goodIn_app (goodIn_r _ [39] (by decide +kernel) (by decide +kernel)) gt_wsX30))
set_option maxRecDepth 100000 in
theorem gt_wsX3_fits : GoodIn lw_tbl wsX3_fits := (gt_c (goodIn_r [.code yX3_fits cX3_fits 4 (some .boolean)] [931] (by decide +kernel) (by decide +kernel)) (goodIn_r _ [932, 933, 4, 934, 935, 936, 937, 938, 939, 940, 941, 942, 943, 944, 945, 946] (by decide +kernel) (by decide +kernel)))
set_option maxRecDepth 100000 in
theorem gt_wsX6_isUsed : GoodIn lw_tbl wsX6_isUsed := (gt_c (goodIn_r [.code yX6_isUsed cX6_isUsed 6 (some .boolean)] [951] (by decide +kernel) (by decide +kernel)) (goodIn_app (goodIn_app (goodIn_r _ [292, 90, 87] (by decide +kernel) (by decide +kernel)) gt_wsX60) gt_wsX70))
set_option maxRecDepth 100000 in
theorem gt_wsX3_addLine : GoodIn lw_tbl wsX3_addLine := (gt_c (goodIn_r [.code yX3_addLine cX3_addLine 7 none] [956] (by decide +kernel) (by decide +kernel)) (goodIn_app (goodIn_r _ [40, 42, 44, 39, 957, 669, 670, 4, 671, 958, 665, 666, 667] (by decide +kernel) (by decide +kernel)) gt_wsX30))
set_option maxRecDepth 100000 in
theorem gt_w8_line : GoodIn lw_tbl w8_line := (gt_c (goodIn_r [.code yX8_line cX8_line 6 (some .int)] [927] (by decide +kernel) (by decide +kernel)) (goodIn_app (goodIn_r _ [374, 36, 375] (by decide +kernel) (by decide +kernel)) (goodIn_app gt_wsX80 (goodIn_app gt_wsX30 (goodIn_app (goodIn_app (goodIn_r _ [400, 401, 3] (by decide +kernel) (by decide +kernel)) gt_w8_checkNumber) (goodIn_app (goodIn_app (goodIn_r _ [928, 669, 670, 4] (by decide +kernel) (by decide +kernel)) gt_wsX3_linesOf) (goodIn_app (goodIn_app (goodIn_r _ [929, 930, 4] (by decide +kernel) (by decide +kernel)) gt_wsX3_fits) (goodIn_app (goodIn_app (goodIn_r _ [948, 949, 950, 5] (by decide +kernel) (by decide +kernel)) gt_wsX6_isUsed) (goodIn_app (goodIn_app (goodIn_r _ [953, 954, 955, 4] (by decide +kernel) (by decide +kernel)) gt_wsX3_addLine) gt_nil)))))))))
set_option maxRecDepth 100000 in
theorem gt_wl_isLine : GoodIn lw_tbl wl_isLine := (gt_c (goodIn_r [.code yX9_isLine cX9_isLine 7 (some .boolean)] [923] (by decide +kernel) (by decide +kernel)) (goodIn_app (goodIn_r _ [883, 57, 881] (by decide +kernel) (by decide +kernel)) (goodIn_app gt_wsX90 (goodIn_app (goodIn_app (goodIn_r _ [924, 925, 926, 3] (by decide +kernel) (by decide +kernel)) gt_w8_line) gt_nil))))
set_option maxRecDepth 100000 in
theorem glw_isLine : GoodIn lw_tbl (wsV RL 29 RX9 yX9_isLine wl_isLine) := (goodIn_app (goodIn_r _ [920, 921, 922, 12] (by decide +kernel) (by decide +kernel)) gt_wl_isLine)
set_option maxRecDepth 100000 in
theorem gt_wl_below : GoodIn lw_tbl wl_below := (gt_c (goodIn_r [.code yL_below cL_below 2 (some .int)] [965] (by decide +kernel) (by decide +kernel)) (goodIn_app (goodIn_r _ [966] (by decide +kernel) (by decide +kernel)) gt_nil))
set_option maxRecDepth 100000 in
theorem gt_wl_isDrawn : GoodIn lw_tbl wl_isDrawn := (gt_c (goodIn_r [.code yX9_isDrawn cX9_isDrawn 8 (some .boolean)] [962] (by decide +kernel) (by decide +kernel)) (goodIn_app (goodIn_r _ [964, 2, 883, 967, 684, 19, 685, 969, 687, 688] (by decide +kernel) (by decide +kernel)) (goodIn_app gt_wsX90 (goodIn_app gt_wl_below (goodIn_app (goodIn_app (goodIn_r _ [968, 921, 922, 12] (by decide +kernel) (by decide +kernel)) gt_wl_isLine) gt_nil)))))
set_option maxRecDepth 100000 in
theorem glw_isDrawn : GoodIn lw_tbl (wsV RL 33 RX9 yX9_isDrawn wl_isDrawn) := (goodIn_app (goodIn_r _ [959, 960, 961, 12] (by decide +kernel) (by decide +kernel)) gt_wl_isDrawn)
set_option maxRecDepth 100000 in
theorem gt_wl_cell : GoodIn lw_tbl wl_cell := (gt_c (goodIn_r [.code yL_cell cL_cell 2 (some .int)] [973] (by decide +kernel) (by decide +kernel)) (goodIn_app (goodIn_r _ [974] (by decide +kernel) (by decide +kernel)) gt_nil))
set_option maxRecDepth 100000 in
theorem glw_cell : GoodIn lw_tbl (va_wsS RL 19 yL_cell wl_cell) := (goodIn_app (goodIn_r _ [971, 972, 2] (by decide +kernel) (by decide +kernel)) gt_wl_cell)
set_option maxRecDepth 100000 in
theorem glw_below : GoodIn lw_tbl (va_wsS RL 25 yL_below wl_below) := (goodIn_app (goodIn_r _ [970, 964, 2] (by decide +kernel) (by decide +kernel)) gt_wl_below)
set_option maxRecDepth 100000 in
theorem gt_w8_checkWithin : GoodIn lw_tbl w8_checkWithin := (gt_c (goodIn_r [.code yX8_checkWithin cX8_checkWithin 3 none] [473] (by decide +kernel) (by decide +kernel)) (goodIn_app gt_nil gt_nil))
set_option maxRecDepth 100000 in
theorem gt_wsX0_howMany_r1 : GoodIn lw_tbl wsX0_howMany_r1 := (goodIn_r _ [367, 37, 368, 296, 301, 312, 315, 318, 530, 531, 532, 11, 533, 293, 89, 534, 535, 536, 537, 298, 538, 539, 540, 7] (by decide +kernel) (by decide +kernel))
set_option maxRecDepth 100000 in
theorem gt_wsX0_howMany_r2 : GoodIn lw_tbl wsX0_howMany_r2 := (goodIn_r _ [541, 175, 542, 543, 544, 545, 176, 187] (by decide +kernel) (by decide +kernel))
set_option maxRecDepth 100000 in
theorem gt_wsX0_howMany : GoodIn lw_tbl wsX0_howMany := (gt_c (goodIn_r [.code yX0_howMany cX0_howMany 2 (some .int)] [529] (by decide +kernel) (by decide +kernel)) (goodIn_app (goodIn_app (goodIn_app (goodIn_app (goodIn_app (goodIn_app gt_wsX0_howMany_r1 gt_wsX0_howMany_r2) gt_wsX00) gt_wsX30) gt_wsX60) gt_wsX70) gt_wsX50))
set_option maxRecDepth 100000 in
theorem gt_w8_many : GoodIn lw_tbl w8_many := (gt_c (goodIn_r [.code yX8_many cX8_many 2 (some .int)] [525] (by decide +kernel) (by decide +kernel)) (goodIn_app (goodIn_r _ [377] (by decide +kernel) (by decide +kernel)) (goodIn_app gt_wsX80 (goodIn_app (goodIn_app (goodIn_r _ [471, 472, 3] (by decide +kernel) (by decide +kernel)) gt_w8_checkWithin) (goodIn_app (goodIn_app (goodIn_r _ [526, 527, 528, 11] (by decide +kernel) (by decide +kernel)) gt_wsX0_howMany) gt_nil)))))
set_option maxRecDepth 100000 in
theorem gt_wsX6_makeTask : GoodIn lw_tbl wsX6_makeTask := (gt_c (goodIn_r [.code yX6_makeTask cX6_makeTask 4 (some .int)] [721] (by decide +kernel) (by decide +kernel)) (goodIn_app (goodIn_app (goodIn_r _ [294, 87, 101, 81, 611, 495, 496, 5, 497, 292, 595, 596, 597, 598, 90, 308, 306] (by decide +kernel) (by decide +kernel)) gt_wsX60) gt_wsX70))
set_option maxRecDepth 100000 in
theorem gt_w8_start : GoodIn lw_tbl w8_start := (gt_c (goodIn_r [.code yX8_start cX8_start 3 (some .int)] [986] (by decide +kernel) (by decide +kernel)) (goodIn_app (goodIn_r _ [374, 36, 375] (by decide +kernel) (by decide +kernel)) (goodIn_app gt_wsX80 (goodIn_app gt_wsX30 (goodIn_app (goodIn_app (goodIn_r _ [400, 401, 3] (by decide +kernel) (by decide +kernel)) gt_w8_checkNumber) (goodIn_app (goodIn_app (goodIn_r _ [987, 719, 720, 5] (by decide +kernel) (by decide +kernel)) gt_wsX6_makeTask) gt_nil))))))
set_option maxRecDepth 100000 in
theorem gt_wsX0_aboutTask_r1 : GoodIn lw_tbl wsX0_aboutTask_r1 := (goodIn_r _ [368, 84, 89, 92, 95, 100, 107, 110, 494, 495, 496, 5, 497, 292, 498, 499, 500, 6, 501, 88, 502, 503, 504, 11] (by decide +kernel) (by decide +kernel))
set_option maxRecDepth 100000 in
theorem gt_wsX0_aboutTask_r2 : GoodIn lw_tbl wsX0_aboutTask_r2 := (goodIn_r _ [505, 309, 307, 80, 506, 507, 508, 509, 106, 101, 297, 177, 188, 192, 185] (by decide +kernel) (by decide +kernel))
set_option maxRecDepth 100000 in
theorem gt_wsX0_aboutTask : GoodIn lw_tbl wsX0_aboutTask := (gt_c (goodIn_r [.code yX0_aboutTask cX0_aboutTask 4 (some .int)] [493] (by decide +kernel) (by decide +kernel)) (goodIn_app (goodIn_app (goodIn_app (goodIn_app (goodIn_app gt_wsX0_aboutTask_r1 gt_wsX0_aboutTask_r2) gt_wsX00) gt_wsX70) gt_wsX60) gt_wsX50))
set_option maxRecDepth 100000 in
theorem gt_w8_ofTask : GoodIn lw_tbl w8_ofTask := (gt_c (goodIn_r [.code yX8_ofTask cX8_ofTask 3 (some .int)] [399] (by decide +kernel) (by decide +kernel)) (goodIn_app (goodIn_r _ [375, 295, 377] (by decide +kernel) (by decide +kernel)) (goodIn_app gt_wsX80 (goodIn_app gt_wsX60 (goodIn_app (goodIn_app (goodIn_r _ [400, 401, 3] (by decide +kernel) (by decide +kernel)) gt_w8_checkNumber) (goodIn_app (goodIn_app (goodIn_r _ [471, 472, 3] (by decide +kernel) (by decide +kernel)) gt_w8_checkWithin) (goodIn_app (goodIn_app (goodIn_r _ [490, 491, 492, 11] (by decide +kernel) (by decide +kernel)) gt_wsX0_aboutTask) gt_nil)))))))
set_option maxRecDepth 100000 in
theorem gt_wsX0_countNewlyHit : GoodIn lw_tbl wsX0_countNewlyHit := (gt_c (goodIn_r [.code yX0_countNewlyHit cX0_countNewlyHit 8 (some .int)] [842] (by decide +kernel) (by decide +kernel)) (goodIn_app (goodIn_app (goodIn_app (goodIn_app (goodIn_r _ [368, 293, 89, 506, 507, 508, 5, 509, 106, 101, 297, 177, 188, 192, 185] (by decide +kernel) (by decide +kernel)) gt_wsX00) gt_wsX60) gt_wsX70) gt_wsX50))
set_option maxRecDepth 100000 in
theorem gt_w8_wouldHit : GoodIn lw_tbl w8_wouldHit := (gt_c (goodIn_r [.code yX8_wouldHit cX8_wouldHit 2 (some .int)] [993] (by decide +kernel) (by decide +kernel)) (goodIn_app (goodIn_r _ [375, 300, 377] (by decide +kernel) (by decide +kernel)) (goodIn_app gt_wsX80 (goodIn_app gt_wsX60 (goodIn_app (goodIn_app (goodIn_r _ [400, 401, 3] (by decide +kernel) (by decide +kernel)) gt_w8_checkNumber) (goodIn_app (goodIn_app (goodIn_r _ [994, 840, 841, 11] (by decide +kernel) (by decide +kernel)) gt_wsX0_countNewlyHit) gt_nil))))))
set_option maxRecDepth 100000 in
theorem gt_wsX0_aboutScope : GoodIn lw_tbl wsX0_aboutScope := (gt_c (goodIn_r [.code yX0_aboutScope cX0_aboutScope 4 (some .int)] [517] (by decide +kernel) (by decide +kernel)) (goodIn_app (goodIn_app (goodIn_app (goodIn_r _ [368, 180, 176, 187, 194, 191, 201, 204, 207, 210, 518, 519, 520, 5, 521, 297] (by decide +kernel) (by decide +kernel)) gt_wsX00) gt_wsX50) gt_wsX60))
set_option maxRecDepth 100000 in
theorem gt_w8_ofScope : GoodIn lw_tbl w8_ofScope := (gt_c (goodIn_r [.code yX8_ofScope cX8_ofScope 3 (some .int)] [513] (by decide +kernel) (by decide +kernel)) (goodIn_app (goodIn_r _ [375, 300, 377] (by decide +kernel) (by decide +kernel)) (goodIn_app gt_wsX80 (goodIn_app gt_wsX60 (goodIn_app (goodIn_app (goodIn_r _ [400, 401, 3] (by decide +kernel) (by decide +kernel)) gt_w8_checkNumber) (goodIn_app (goodIn_app (goodIn_r _ [471, 472, 3] (by decide +kernel) (by decide +kernel)) gt_w8_checkWithin) (goodIn_app (goodIn_app (goodIn_r _ [514, 515, 516, 11] (by decide +kernel) (by decide +kernel)) gt_wsX0_aboutScope) gt_nil)))))))
set_option maxRecDepth 100000 in
theorem gt_wsX6_scopeAt : GoodIn lw_tbl wsX6_scopeAt := (gt_c (goodIn_r [.code yX6_scopeAt cX6_scopeAt 2 (some (.object "ScopeRow$Scope"))] [521] (by decide +kernel) (by decide +kernel)) (goodIn_app (goodIn_r _ [297] (by decide +kernel) (by decide +kernel)) gt_wsX60))
set_option maxRecDepth 100000 in
theorem gt_wsX6_cancelScope_r1 : GoodIn lw_tbl wsX6_cancelScope_r1 := (goodIn_r _ [188, 292, 90, 113, 589, 539, 540, 7, 541, 175, 594, 507, 508, 5, 509, 106, 101, 297, 177, 192, 185, 595, 596, 597] (by decide +kernel) (by decide +kernel))
set_option maxRecDepth 100000 in
theorem gt_wsX6_cancelScope_r2 : GoodIn lw_tbl wsX6_cancelScope_r2 := (goodIn_r _ [598, 308, 306, 81] (by decide +kernel) (by decide +kernel))
set_option maxRecDepth 100000 in
theorem gt_wsX6_cancelScope : GoodIn lw_tbl wsX6_cancelScope := (gt_c (goodIn_r [.code yX6_cancelScope cX6_cancelScope 6 (some .boolean)] [593] (by decide +kernel) (by decide +kernel)) (goodIn_app (goodIn_app (goodIn_app (goodIn_app gt_wsX6_cancelScope_r1 gt_wsX6_cancelScope_r2) gt_wsX50) gt_wsX60) gt_wsX70))
set_option maxRecDepth 100000 in
theorem gt_w8_cancel : GoodIn lw_tbl w8_cancel := (gt_c (goodIn_r [.code yX8_cancel cX8_cancel 2 (some .boolean)] [998] (by decide +kernel) (by decide +kernel)) (goodIn_app (goodIn_r _ [375, 300] (by decide +kernel) (by decide +kernel)) (goodIn_app gt_wsX80 (goodIn_app gt_wsX60 (goodIn_app (goodIn_app (goodIn_r _ [400, 401, 3] (by decide +kernel) (by decide +kernel)) gt_w8_checkNumber) (goodIn_app (goodIn_app (goodIn_r _ [999, 519, 520, 5] (by decide +kernel) (by decide +kernel)) gt_wsX6_scopeAt) (goodIn_app (goodIn_app (goodIn_r _ [1000, 591, 592, 5] (by decide +kernel) (by decide +kernel)) gt_wsX6_cancelScope) gt_nil)))))))
set_option maxRecDepth 100000 in
theorem gt_wsX6_tickOnce_r1 : GoodIn lw_tbl wsX6_tickOnce_r1 := (goodIn_r _ [308, 310, 297, 195, 292, 122, 589, 539, 540, 7, 541, 175, 590, 591, 592, 5, 593, 188, 90, 113, 594, 507, 508, 509] (by decide +kernel) (by decide +kernel))
set_option maxRecDepth 100000 in
theorem gt_wsX6_tickOnce_r2 : GoodIn lw_tbl wsX6_tickOnce_r2 := (goodIn_r _ [106, 101, 177, 192, 185, 595, 596, 597, 598, 306, 81, 599, 600, 601, 6, 602, 88, 112] (by decide +kernel) (by decide +kernel))
set_option maxRecDepth 100000 in
theorem gt_wsX6_tickOnce : GoodIn lw_tbl wsX6_tickOnce := (gt_c (goodIn_r [.code yX6_tickOnce cX6_tickOnce 6 (some .int)] [588] (by decide +kernel) (by decide +kernel)) (goodIn_app (goodIn_app (goodIn_app (goodIn_app gt_wsX6_tickOnce_r1 gt_wsX6_tickOnce_r2) gt_wsX60) gt_wsX50) gt_wsX70))
set_option maxRecDepth 100000 in
theorem gt_w8_tick : GoodIn lw_tbl w8_tick := (gt_c (goodIn_r [.code yX8_tick cX8_tick 4 (some .int)] [1004] (by decide +kernel) (by decide +kernel)) (goodIn_app (goodIn_r _ [375] (by decide +kernel) (by decide +kernel)) (goodIn_app gt_wsX80 (goodIn_app (goodIn_app (goodIn_r _ [471, 472, 3] (by decide +kernel) (by decide +kernel)) gt_w8_checkWithin) (goodIn_app (goodIn_app (goodIn_r _ [585, 586, 587, 5] (by decide +kernel) (by decide +kernel)) gt_wsX6_tickOnce) gt_nil)))))
set_option maxRecDepth 100000 in
theorem gt_wsX4_takeTurns_r1 : GoodIn lw_tbl wsX4_takeTurns_r1 := (goodIn_r _ [352, 313, 353, 607, 608, 609, 5, 610, 308, 306, 611, 495, 496, 497, 292, 612, 613, 614, 10, 615, 111, 128, 123, 96] (by decide +kernel) (by decide +kernel))
set_option maxRecDepth 100000 in
theorem gt_wsX4_takeTurns_r2 : GoodIn lw_tbl wsX4_takeTurns_r2 := (goodIn_r _ [117, 114, 616, 617, 618, 619, 105, 183, 109, 199, 211, 189, 197, 93, 620, 519, 520, 521, 297, 621, 622, 507, 508, 509] (by decide +kernel) (by decide +kernel))
set_option maxRecDepth 100000 in
theorem gt_wsX4_takeTurns_r3 : GoodIn lw_tbl wsX4_takeTurns_r3 := (goodIn_r _ [106, 101, 177, 188, 192, 185, 623, 624, 625, 626, 127, 116, 280, 125, 627, 628, 629, 630, 303, 631, 632, 633, 634, 251] (by decide +kernel) (by decide +kernel))
set_option maxRecDepth 100000 in
theorem gt_wsX4_takeTurns_r4 : GoodIn lw_tbl wsX4_takeTurns_r4 := (goodIn_r _ [247, 635, 636, 637, 638, 90, 113, 119, 132, 639, 640, 641, 8, 642, 78, 248, 252, 595, 596, 597, 598, 81, 643, 644] (by decide +kernel) (by decide +kernel))
set_option maxRecDepth 100000 in
theorem gt_wsX4_takeTurns_r5 : GoodIn lw_tbl wsX4_takeTurns_r5 := (goodIn_r _ [645, 646, 305, 647, 648, 649, 650, 651, 652, 653, 9, 654, 270, 269, 655, 567, 568, 6, 569, 83, 656, 657, 658, 659] (by decide +kernel) (by decide +kernel))
set_option maxRecDepth 100000 in
theorem gt_wsX4_takeTurns_r6 : GoodIn lw_tbl wsX4_takeTurns_r6 := (goodIn_r _ [660, 661, 662, 663, 351, 85, 317, 41, 43, 45, 664, 665, 666, 4, 667, 668, 669, 670, 671, 39, 672, 673, 674, 675] (by decide +kernel) (by decide +kernel))
set_option maxRecDepth 100000 in
theorem gt_wsX4_takeTurns_r7 : GoodIn lw_tbl wsX4_takeTurns_r7 := (goodIn_r _ [676, 677, 678, 311, 679, 680, 681, 682, 683, 684, 19, 685, 686, 687, 688, 689, 690, 691, 692, 693, 563, 564, 565, 694] (by decide +kernel) (by decide +kernel))
set_option maxRecDepth 100000 in
theorem gt_wsX4_takeTurns_r8 : GoodIn lw_tbl wsX4_takeTurns_r8 := (goodIn_r _ [695, 696, 697, 698, 699, 700, 701, 702, 703, 704, 705, 706, 707, 708, 709, 302, 174, 710, 711, 712, 7, 713, 175, 79] (by decide +kernel) (by decide +kernel))
set_option maxRecDepth 100000 in
theorem gt_wsX4_takeTurns_r9 : GoodIn lw_tbl wsX4_takeTurns_r9 := (goodIn_r _ [179, 104, 182, 99, 184, 190, 193, 196, 714, 715, 716, 717, 38, 202, 718, 719, 720, 721, 294, 87, 722, 723, 724, 725] (by decide +kernel) (by decide +kernel))
set_option maxRecDepth 100000 in
theorem gt_wsX4_takeTurns_r10 : GoodIn lw_tbl wsX4_takeTurns_r10 := (goodIn_r _ [726, 591, 592, 593, 589, 539, 540, 541, 594, 727, 728, 729, 730, 121, 731, 732, 733, 734, 130, 319, 735, 736, 737, 738] (by decide +kernel) (by decide +kernel))
set_option maxRecDepth 100000 in
theorem gt_wsX4_takeTurns_r11 : GoodIn lw_tbl wsX4_takeTurns_r11 := (goodIn_r _ [250, 82, 739, 740, 741, 742, 743, 744, 745, 746, 747, 748, 749, 276, 272, 268, 750, 751, 752, 753, 754, 755, 756, 757] (by decide +kernel) (by decide +kernel))
set_option maxRecDepth 100000 in
theorem gt_wsX4_takeTurns_r12 : GoodIn lw_tbl wsX4_takeTurns_r12 := (goodIn_r _ [758, 759, 760, 761, 762, 763, 764, 273, 765, 766, 767, 768, 769, 770, 771, 772, 773, 774, 775, 776, 777, 778, 779, 780] (by decide +kernel) (by decide +kernel))
set_option maxRecDepth 100000 in
theorem gt_wsX4_takeTurns_r13 : GoodIn lw_tbl wsX4_takeTurns_r13 := (goodIn_r _ [781, 782, 783, 784, 785, 277, 786, 787, 788, 789, 790, 791, 792, 793, 794, 795, 796, 797, 798, 799, 800, 801, 802, 178] (by decide +kernel) (by decide +kernel))
set_option maxRecDepth 100000 in
theorem gt_wsX4_takeTurns_r14 : GoodIn lw_tbl wsX4_takeTurns_r14 := (goodIn_r _ [205, 803, 804, 805, 806, 91, 304, 102, 807, 808, 809, 810, 208, 181, 811, 600, 601, 602, 88, 112, 812] (by decide +kernel) (by decide +kernel))
set_option maxRecDepth 100000 in
theorem gt_wsX4_takeTurns : GoodIn lw_tbl wsX4_takeTurns := (gt_c (goodIn_r [.code yX4_takeTurns cX4_takeTurns 6 (some .int)] [606] (by decide +kernel) (by decide +kernel)) (goodIn_app (goodIn_app (goodIn_app (goodIn_app (goodIn_app (goodIn_app (goodIn_app (goodIn_app gt_wsX4_takeTurns_r1 (goodIn_app gt_wsX4_takeTurns_r2 (goodIn_app gt_wsX4_takeTurns_r3 (goodIn_app gt_wsX4_takeTurns_r4 (goodIn_app gt_wsX4_takeTurns_r5 (goodIn_app gt_wsX4_takeTurns_r6 (goodIn_app gt_wsX4_takeTurns_r7 (goodIn_app gt_wsX4_takeTurns_r8 (goodIn_app gt_wsX4_takeTurns_r9 (goodIn_app gt_wsX4_takeTurns_r10 (goodIn_app gt_wsX4_takeTurns_r11 (goodIn_app gt_wsX4_takeTurns_r12 (goodIn_app gt_wsX4_takeTurns_r13 gt_wsX4_takeTurns_r14))))))))))))) gt_wsX40) gt_wsX60) gt_wsX70) gt_wsX50) gt_wsX10) gt_wsX20) gt_wsX30))
set_option maxRecDepth 100000 in
theorem gt_w8_run : GoodIn lw_tbl w8_run := (gt_c (goodIn_r [.code yX8_run cX8_run 2 (some .int)] [1008] (by decide +kernel) (by decide +kernel)) (goodIn_app (goodIn_r _ [376] (by decide +kernel) (by decide +kernel)) (goodIn_app gt_wsX80 (goodIn_app (goodIn_app (goodIn_r _ [471, 472, 3] (by decide +kernel) (by decide +kernel)) gt_w8_checkWithin) (goodIn_app (goodIn_app (goodIn_r _ [603, 604, 605, 10] (by decide +kernel) (by decide +kernel)) gt_wsX4_takeTurns) gt_nil)))))
set_option maxRecDepth 100000 in
theorem gt_wl_act : GoodIn lw_tbl wl_act := (gt_c (goodIn_r [.codeWith yL_act cL_act 11 (some .boolean) [(6, 95, 344, 95), (96, 191, 344, 95), (192, 261, 344, 95), (262, 343, 344, 95), (6, 95, 370, 97), (96, 191, 370, 97), (192, 261, 370, 97), (262, 343, 370, 97)]] [980] (by decide +kernel) (by decide +kernel)) (goodIn_app (goodIn_r _ [981, 982, 989, 687, 19, 688] (by decide +kernel) (by decide +kernel)) (goodIn_app (goodIn_app (goodIn_r _ [522, 523, 524, 3] (by decide +kernel) (by decide +kernel)) gt_w8_many) (goodIn_app (goodIn_app (goodIn_r _ [970, 964, 2] (by decide +kernel) (by decide +kernel)) gt_wl_below) (goodIn_app (goodIn_app (goodIn_r _ [983, 984, 985, 3] (by decide +kernel) (by decide +kernel)) gt_w8_start) (goodIn_app (goodIn_app (goodIn_r _ [396, 397, 398, 3] (by decide +kernel) (by decide +kernel)) gt_w8_ofTask) (goodIn_app (goodIn_app (goodIn_r _ [990, 991, 992, 3] (by decide +kernel) (by decide +kernel)) gt_w8_wouldHit) (goodIn_app (goodIn_app (goodIn_r _ [510, 511, 512, 3] (by decide +kernel) (by decide +kernel)) gt_w8_ofScope) (goodIn_app (goodIn_app (goodIn_r _ [995, 996, 997, 3] (by decide +kernel) (by decide +kernel)) gt_w8_cancel) (goodIn_app (goodIn_app (goodIn_r _ [1001, 1002, 1003, 3] (by decide +kernel) (by decide +kernel)) gt_w8_tick) (goodIn_app (goodIn_app (goodIn_r _ [1005, 1006, 1007, 3] (by decide +kernel) (by decide +kernel)) gt_w8_run) gt_nil)))))))))))
set_option maxRecDepth 100000 in
theorem glw_act : GoodIn lw_tbl (va_wsS RL 39 yL_act wl_act) := (goodIn_app (goodIn_r _ [978, 979, 2] (by decide +kernel) (by decide +kernel)) gt_wl_act)
set_option maxRecDepth 100000 in
theorem gt_at0 : GoodIn lw_tbl ((vx_atS RX8 56 ISE exn).filter goodWord) := goodIn_of _ (by decide +kernel)
set_option maxRecDepth 100000 in
theorem gt_wl9_start : GoodIn lw_tbl wl9_start := (gt_c (goodIn_r [.code yX8_start cX8_start 3 (some .int)] [986] (by decide +kernel) (by decide +kernel)) (goodIn_app (goodIn_r _ [374, 36, 375, 900, 16] (by decide +kernel) (by decide +kernel)) (goodIn_app gt_wsX80 (goodIn_app gt_wsX30 (goodIn_app (goodIn_app (goodIn_r _ [400, 401, 3] (by decide +kernel) (by decide +kernel)) gt_w8_checkNumber) (goodIn_app (goodIn_app (goodIn_r _ [987, 719, 720, 5] (by decide +kernel) (by decide +kernel)) gt_wsX6_makeTask) (goodIn_app gt_at0 gt_nil)))))))
set_option maxRecDepth 100000 in
theorem gt_at1 : GoodIn lw_tbl ((vx_atS RX8 180 IOE exn).filter goodWord) := goodIn_of _ (by decide +kernel)
set_option maxRecDepth 100000 in
theorem gt_wl9_checkNumber : GoodIn lw_tbl wl9_checkNumber := (gt_c (goodIn_r [.code yX8_checkNumber cX8_checkNumber 2 none] [402] (by decide +kernel) (by decide +kernel)) (goodIn_app (goodIn_r _ [403, 17] (by decide +kernel) (by decide +kernel)) gt_at1))
set_option maxRecDepth 100000 in
theorem gt_wl9_wouldHit : GoodIn lw_tbl wl9_wouldHit := (gt_c (goodIn_r [.code yX8_wouldHit cX8_wouldHit 2 (some .int)] [993] (by decide +kernel) (by decide +kernel)) (goodIn_app (goodIn_r _ [375, 300] (by decide +kernel) (by decide +kernel)) (goodIn_app gt_wsX80 (goodIn_app gt_wsX60 (goodIn_app (goodIn_app (goodIn_r _ [400, 401, 3] (by decide +kernel) (by decide +kernel)) gt_wl9_checkNumber) gt_nil)))))
set_option maxRecDepth 100000 in
theorem gt_wl9_act : GoodIn lw_tbl wl9_act := (gt_c (goodIn_r [.codeWith yL_act cL_act 11 (some .boolean) [(6, 95, 344, 95), (96, 191, 344, 95), (192, 261, 344, 95), (262, 343, 344, 95), (6, 95, 370, 97), (96, 191, 370, 97), (192, 261, 370, 97), (262, 343, 370, 97)]] [980] (by decide +kernel) (by decide +kernel)) (goodIn_app (goodIn_r _ [981, 982, 989, 687, 19, 688] (by decide +kernel) (by decide +kernel)) (goodIn_app (goodIn_app (goodIn_r _ [522, 523, 524, 3] (by decide +kernel) (by decide +kernel)) gt_w8_many) (goodIn_app (goodIn_app (goodIn_r _ [970, 964, 2] (by decide +kernel) (by decide +kernel)) gt_wl_below) (goodIn_app (goodIn_app (goodIn_r _ [983, 984, 985, 3] (by decide +kernel) (by decide +kernel)) gt_wl9_start) (goodIn_app (goodIn_app (goodIn_r _ [990, 991, 992, 3] (by decide +kernel) (by decide +kernel)) gt_wl9_wouldHit) gt_nil))))))
set_option maxRecDepth 100000 in
theorem glw_act9 : GoodIn lw_tbl (va_wsS RL 39 yL_act wl9_act) := (goodIn_app (goodIn_r _ [978, 979, 2] (by decide +kernel) (by decide +kernel)) gt_wl9_act)
set_option maxRecDepth 100000 in
theorem glw_many : GoodIn lw_tbl (wsV RL 43 RX8 yX8_many w8_many) := (goodIn_app (goodIn_r _ [522, 523, 524, 3] (by decide +kernel) (by decide +kernel)) gt_w8_many)
set_option maxRecDepth 100000 in
theorem glw_ofTask : GoodIn lw_tbl (wsV RL 47 RX8 yX8_ofTask w8_ofTask) := (goodIn_app (goodIn_r _ [396, 397, 398, 3] (by decide +kernel) (by decide +kernel)) gt_w8_ofTask)
set_option maxRecDepth 100000 in
theorem glw_ofScope : GoodIn lw_tbl (wsV RL 50 RX8 yX8_ofScope w8_ofScope) := (goodIn_app (goodIn_r _ [510, 511, 512, 3] (by decide +kernel) (by decide +kernel)) gt_w8_ofScope)
set_option maxRecDepth 100000 in
theorem gt_wsX0_countStuck : GoodIn lw_tbl wsX0_countStuck := (gt_c (goodIn_r [.code yX0_countStuck cX0_countStuck 5 (some .int)] [870] (by decide +kernel) (by decide +kernel)) (goodIn_app (goodIn_app (goodIn_app (goodIn_app (goodIn_r _ [368, 298, 194, 312, 293, 89, 538, 539, 540, 7, 541, 175, 871, 600, 601, 6, 602, 88, 112, 530, 531, 532, 11, 533] (by decide +kernel) (by decide +kernel)) gt_wsX00) gt_wsX60) gt_wsX50) gt_wsX70))
set_option maxRecDepth 100000 in
theorem gt_w8_stuck : GoodIn lw_tbl w8_stuck := (gt_c (goodIn_r [.code yX8_stuck cX8_stuck 1 (some .int)] [1018] (by decide +kernel) (by decide +kernel)) (goodIn_app (goodIn_r _ [377] (by decide +kernel) (by decide +kernel)) (goodIn_app gt_wsX80 (goodIn_app (goodIn_app (goodIn_r _ [867, 868, 869, 11] (by decide +kernel) (by decide +kernel)) gt_wsX0_countStuck) gt_nil))))
set_option maxRecDepth 100000 in
theorem gt_wl_areTasksRight : GoodIn lw_tbl wl_areTasksRight := (gt_c (goodIn_r [.code yL_areTasksRight cL_areTasksRight 10 (some .boolean)] [1011] (by decide +kernel) (by decide +kernel)) (goodIn_app (goodIn_r _ [57, 1019, 1012, 1013, 19, 1014] (by decide +kernel) (by decide +kernel)) (goodIn_app gt_wsX90 (goodIn_app (goodIn_app (goodIn_r _ [522, 523, 524, 3] (by decide +kernel) (by decide +kernel)) gt_w8_many) (goodIn_app (goodIn_app (goodIn_r _ [396, 397, 398, 3] (by decide +kernel) (by decide +kernel)) gt_w8_ofTask) (goodIn_app (goodIn_app (goodIn_r _ [510, 511, 512, 3] (by decide +kernel) (by decide +kernel)) gt_w8_ofScope) (goodIn_app (goodIn_app (goodIn_r _ [1015, 1016, 1017, 3] (by decide +kernel) (by decide +kernel)) gt_w8_stuck) gt_nil)))))))
set_option maxRecDepth 100000 in
theorem glw_areTasksRight : GoodIn lw_tbl (va_wsS RL 53 yL_areTasksRight wl_areTasksRight) := (goodIn_app (goodIn_r _ [1009, 1010, 2] (by decide +kernel) (by decide +kernel)) gt_wl_areTasksRight)
set_option maxRecDepth 100000 in
theorem gt_wl_areScopesRight : GoodIn lw_tbl wl_areScopesRight := (gt_c (goodIn_r [.code yL_areScopesRight cL_areScopesRight 10 (some .boolean)] [1022] (by decide +kernel) (by decide +kernel)) (goodIn_app (goodIn_r _ [57] (by decide +kernel) (by decide +kernel)) (goodIn_app (goodIn_app (goodIn_r _ [522, 523, 524, 3] (by decide +kernel) (by decide +kernel)) gt_w8_many) (goodIn_app (goodIn_app (goodIn_r _ [396, 397, 398, 3] (by decide +kernel) (by decide +kernel)) gt_w8_ofTask) (goodIn_app (goodIn_app (goodIn_r _ [510, 511, 512, 3] (by decide +kernel) (by decide +kernel)) gt_w8_ofScope) gt_nil)))))
set_option maxRecDepth 100000 in
theorem glw_areScopesRight : GoodIn lw_tbl (va_wsS RL 57 yL_areScopesRight wl_areScopesRight) := (goodIn_app (goodIn_r _ [1020, 1021, 2] (by decide +kernel) (by decide +kernel)) gt_wl_areScopesRight)
set_option maxRecDepth 100000 in
theorem gt_wsX0_aboutLock_r1 : GoodIn lw_tbl wsX0_aboutLock_r1 := (goodIn_r _ [368, 249, 80, 253, 851, 628, 629, 5, 630, 303, 852, 636, 637, 638, 292, 90, 113, 116, 119, 132, 853, 854, 855, 11] (by decide +kernel) (by decide +kernel))
set_option maxRecDepth 100000 in
theorem gt_wsX0_aboutLock_r2 : GoodIn lw_tbl wsX0_aboutLock_r2 := (goodIn_r _ [856, 293, 857, 858, 859, 860, 599, 600, 601, 6, 602, 88, 112] (by decide +kernel) (by decide +kernel))
set_option maxRecDepth 100000 in
theorem gt_wsX0_aboutLock : GoodIn lw_tbl wsX0_aboutLock := (gt_c (goodIn_r [.code yX0_aboutLock cX0_aboutLock 5 (some .int)] [850] (by decide +kernel) (by decide +kernel)) (goodIn_app (goodIn_app (goodIn_app (goodIn_app (goodIn_app gt_wsX0_aboutLock_r1 gt_wsX0_aboutLock_r2) gt_wsX00) gt_wsX20) gt_wsX70) gt_wsX60))
set_option maxRecDepth 100000 in
theorem gt_w8_ofLock : GoodIn lw_tbl w8_ofLock := (gt_c (goodIn_r [.code yX8_ofLock cX8_ofLock 3 (some .int)] [1029] (by decide +kernel) (by decide +kernel)) (goodIn_app (goodIn_r _ [377] (by decide +kernel) (by decide +kernel)) (goodIn_app gt_wsX80 (goodIn_app (goodIn_app (goodIn_r _ [400, 401, 3] (by decide +kernel) (by decide +kernel)) gt_w8_checkNumber) (goodIn_app (goodIn_app (goodIn_r _ [471, 472, 3] (by decide +kernel) (by decide +kernel)) gt_w8_checkWithin) (goodIn_app (goodIn_app (goodIn_r _ [1030, 848, 849, 11] (by decide +kernel) (by decide +kernel)) gt_wsX0_aboutLock) gt_nil))))))
set_option maxRecDepth 100000 in
theorem gt_wsX0_aboutChannel_r1 : GoodIn lw_tbl wsX0_aboutChannel_r1 := (goodIn_r _ [368, 267, 271, 275, 279, 865, 644, 645, 5, 646, 305, 866, 770, 771, 9, 772, 270, 269, 853, 854, 855, 11, 856, 293] (by decide +kernel) (by decide +kernel))
set_option maxRecDepth 100000 in
theorem gt_wsX0_aboutChannel_r2 : GoodIn lw_tbl wsX0_aboutChannel_r2 := (goodIn_r _ [857, 858, 859, 860, 116, 119, 599, 600, 601, 6, 602, 88, 112] (by decide +kernel) (by decide +kernel))
set_option maxRecDepth 100000 in
theorem gt_wsX0_aboutChannel : GoodIn lw_tbl wsX0_aboutChannel := (gt_c (goodIn_r [.code yX0_aboutChannel cX0_aboutChannel 4 (some .int)] [864] (by decide +kernel) (by decide +kernel)) (goodIn_app (goodIn_app (goodIn_app (goodIn_app (goodIn_app gt_wsX0_aboutChannel_r1 gt_wsX0_aboutChannel_r2) gt_wsX00) gt_wsX10) gt_wsX60) gt_wsX70))
set_option maxRecDepth 100000 in
theorem gt_w8_ofChannel : GoodIn lw_tbl w8_ofChannel := (gt_c (goodIn_r [.code yX8_ofChannel cX8_ofChannel 3 (some .int)] [1034] (by decide +kernel) (by decide +kernel)) (goodIn_app (goodIn_r _ [377] (by decide +kernel) (by decide +kernel)) (goodIn_app gt_wsX80 (goodIn_app (goodIn_app (goodIn_r _ [400, 401, 3] (by decide +kernel) (by decide +kernel)) gt_w8_checkNumber) (goodIn_app (goodIn_app (goodIn_r _ [471, 472, 3] (by decide +kernel) (by decide +kernel)) gt_w8_checkWithin) (goodIn_app (goodIn_app (goodIn_r _ [1035, 862, 863, 11] (by decide +kernel) (by decide +kernel)) gt_wsX0_aboutChannel) gt_nil))))))
set_option maxRecDepth 100000 in
theorem gt_wl_areOthersRight : GoodIn lw_tbl wl_areOthersRight := (gt_c (goodIn_r [.code yL_areOthersRight cL_areOthersRight 6 (some .boolean)] [1025] (by decide +kernel) (by decide +kernel)) (goodIn_app (goodIn_r _ [57, 989, 687, 19, 688] (by decide +kernel) (by decide +kernel)) (goodIn_app (goodIn_app (goodIn_r _ [522, 523, 524, 3] (by decide +kernel) (by decide +kernel)) gt_w8_many) (goodIn_app (goodIn_app (goodIn_r _ [396, 397, 398, 3] (by decide +kernel) (by decide +kernel)) gt_w8_ofTask) (goodIn_app (goodIn_app (goodIn_r _ [1026, 1027, 1028, 3] (by decide +kernel) (by decide +kernel)) gt_w8_ofLock) (goodIn_app (goodIn_app (goodIn_r _ [1031, 1032, 1033, 3] (by decide +kernel) (by decide +kernel)) gt_w8_ofChannel) gt_nil))))))
set_option maxRecDepth 100000 in
theorem glw_areOthersRight : GoodIn lw_tbl (va_wsS RL 60 yL_areOthersRight wl_areOthersRight) := (goodIn_app (goodIn_r _ [1023, 1024, 2] (by decide +kernel) (by decide +kernel)) gt_wl_areOthersRight)
set_option maxRecDepth 100000 in
theorem gt_wsX0_digestTasks_r1 : GoodIn lw_tbl wsX0_digestTasks_r1 := (goodIn_r _ [368, 296, 827, 828, 491, 492, 11, 493, 84, 89, 92, 95, 100, 107, 110, 494, 495, 496, 5, 497, 292, 498, 499, 500] (by decide +kernel) (by decide +kernel))
set_option maxRecDepth 100000 in
theorem gt_wsX0_digestTasks_r2 : GoodIn lw_tbl wsX0_digestTasks_r2 := (goodIn_r _ [6, 501, 88, 502, 503, 504, 505, 309, 307, 80, 506, 507, 508, 509, 106, 101, 297, 177, 188, 192, 185, 829, 830, 831] (by decide +kernel) (by decide +kernel))
set_option maxRecDepth 100000 in
theorem gt_wsX0_digestTasks_r3 : GoodIn lw_tbl wsX0_digestTasks_r3 := (goodIn_r _ [832, 833, 563, 564, 565, 83] (by decide +kernel) (by decide +kernel))
set_option maxRecDepth 100000 in
theorem gt_wsX0_digestTasks : GoodIn lw_tbl wsX0_digestTasks := (gt_c (goodIn_r [.code yX0_digestTasks cX0_digestTasks 7 (some .long)] [826] (by decide +kernel) (by decide +kernel)) (goodIn_app (goodIn_app (goodIn_app (goodIn_app (goodIn_app gt_wsX0_digestTasks_r1 (goodIn_app gt_wsX0_digestTasks_r2 gt_wsX0_digestTasks_r3)) gt_wsX00) gt_wsX60) gt_wsX70) gt_wsX50))
set_option maxRecDepth 100000 in
theorem gt_wsX0_digestScopes_r1 : GoodIn lw_tbl wsX0_digestScopes_r1 := (goodIn_r _ [368, 301, 827, 838, 515, 516, 11, 517, 180, 176, 187, 194, 191, 201, 204, 207, 210, 518, 519, 520, 5, 521, 297, 839] (by decide +kernel) (by decide +kernel))
set_option maxRecDepth 100000 in
theorem gt_wsX0_digestScopes_r2 : GoodIn lw_tbl wsX0_digestScopes_r2 := (goodIn_r _ [840, 841, 842, 293, 89, 506, 507, 508, 509, 106, 101, 177, 188, 192, 185] (by decide +kernel) (by decide +kernel))
set_option maxRecDepth 100000 in
theorem gt_wsX0_digestScopes : GoodIn lw_tbl wsX0_digestScopes := (gt_c (goodIn_r [.code yX0_digestScopes cX0_digestScopes 7 (some .long)] [837] (by decide +kernel) (by decide +kernel)) (goodIn_app (goodIn_app (goodIn_app (goodIn_app (goodIn_app gt_wsX0_digestScopes_r1 gt_wsX0_digestScopes_r2) gt_wsX00) gt_wsX60) gt_wsX50) gt_wsX70))
set_option maxRecDepth 100000 in
theorem gt_wsX0_digestLocksAndChannels_r1 : GoodIn lw_tbl wsX0_digestLocksAndChannels_r1 := (goodIn_r _ [827, 847, 848, 849, 11, 850, 368, 249, 80, 253, 851, 628, 629, 5, 630, 303, 852, 636, 637, 638, 292, 90, 113, 116] (by decide +kernel) (by decide +kernel))
set_option maxRecDepth 100000 in
theorem gt_wsX0_digestLocksAndChannels_r2 : GoodIn lw_tbl wsX0_digestLocksAndChannels_r2 := (goodIn_r _ [119, 132, 853, 854, 855, 856, 293, 857, 858, 859, 860, 599, 600, 601, 6, 602, 88, 112, 861, 862, 863, 864, 267, 271] (by decide +kernel) (by decide +kernel))
set_option maxRecDepth 100000 in
theorem gt_wsX0_digestLocksAndChannels_r3 : GoodIn lw_tbl wsX0_digestLocksAndChannels_r3 := (goodIn_r _ [275, 279, 865, 644, 645, 646, 305, 866, 770, 771, 9, 772, 270, 269] (by decide +kernel) (by decide +kernel))
set_option maxRecDepth 100000 in
theorem gt_wsX0_digestLocksAndChannels : GoodIn lw_tbl wsX0_digestLocksAndChannels := (gt_c (goodIn_r [.code yX0_digestLocksAndChannels cX0_digestLocksAndChannels 7 (some .long)] [846] (by decide +kernel) (by decide +kernel)) (goodIn_app (goodIn_app (goodIn_app (goodIn_app (goodIn_app (goodIn_app gt_wsX0_digestLocksAndChannels_r1 (goodIn_app gt_wsX0_digestLocksAndChannels_r2 gt_wsX0_digestLocksAndChannels_r3)) gt_wsX00) gt_wsX20) gt_wsX70) gt_wsX60) gt_wsX10))
set_option maxRecDepth 100000 in
theorem gt_wsX6_copyFrom_r1 : GoodIn lw_tbl wsX6_copyFrom_r1 := (goodIn_r _ [292, 306, 297, 303, 305, 294, 299, 308, 310, 314, 316, 319, 558, 559, 560, 6, 561, 86, 88, 94, 97, 98, 103, 108] (by decide +kernel) (by decide +kernel))
set_option maxRecDepth 100000 in
theorem gt_wsX6_copyFrom_r2 : GoodIn lw_tbl wsX6_copyFrom_r2 := (goodIn_r _ [112, 115, 118, 120, 124, 126, 129, 131, 562, 563, 564, 565, 83, 566, 567, 568, 569, 570, 571, 572, 7, 573, 175, 179] (by decide +kernel) (by decide +kernel))
set_option maxRecDepth 100000 in
theorem gt_wsX6_copyFrom_r3 : GoodIn lw_tbl wsX6_copyFrom_r3 := (goodIn_r _ [182, 184, 186, 190, 193, 196, 198, 200, 203, 206, 209, 574, 575, 576, 8, 577, 248, 252, 578, 579, 580, 9, 581, 266] (by decide +kernel) (by decide +kernel))
set_option maxRecDepth 100000 in
theorem gt_wsX6_copyFrom_r4 : GoodIn lw_tbl wsX6_copyFrom_r4 := (goodIn_r _ [269, 582, 584, 583, 20, 270, 274, 278] (by decide +kernel) (by decide +kernel))
set_option maxRecDepth 100000 in
theorem gt_wsX6_copyFrom : GoodIn lw_tbl wsX6_copyFrom := (gt_c (goodIn_r [.code yX6_copyFrom cX6_copyFrom 3 none] [557] (by decide +kernel) (by decide +kernel)) (goodIn_app (goodIn_app (goodIn_app (goodIn_app (goodIn_app (goodIn_app gt_wsX6_copyFrom_r1 (goodIn_app gt_wsX6_copyFrom_r2 (goodIn_app gt_wsX6_copyFrom_r3 gt_wsX6_copyFrom_r4))) gt_wsX60) gt_wsX70) gt_wsX50) gt_wsX20) gt_wsX10))
set_option maxRecDepth 100000 in
theorem gt_wsX0_countOver : GoodIn lw_tbl wsX0_countOver := (gt_c (goodIn_r [.code yX0_countOver cX0_countOver 6 (some .int)] [816] (by decide +kernel) (by decide +kernel)) (goodIn_app (goodIn_app (goodIn_app (goodIn_r _ [368, 293, 498, 499, 500, 6, 501, 88] (by decide +kernel) (by decide +kernel)) gt_wsX00) gt_wsX60) gt_wsX70))
set_option maxRecDepth 100000 in
theorem gt_w8_overAfter : GoodIn lw_tbl w8_overAfter := (gt_c (goodIn_r [.code yX8_overAfter cX8_overAfter 4 (some .int)] [553] (by decide +kernel) (by decide +kernel)) (goodIn_app (goodIn_r _ [378, 375, 379, 380] (by decide +kernel) (by decide +kernel)) (goodIn_app gt_wsX80 (goodIn_app (goodIn_app (goodIn_r _ [554, 555, 556, 5] (by decide +kernel) (by decide +kernel)) gt_wsX6_copyFrom) (goodIn_app (goodIn_app (goodIn_r _ [585, 586, 587, 5] (by decide +kernel) (by decide +kernel)) gt_wsX6_tickOnce) (goodIn_app (goodIn_app (goodIn_r _ [603, 604, 605, 10] (by decide +kernel) (by decide +kernel)) gt_wsX4_takeTurns) (goodIn_app (goodIn_app (goodIn_r _ [813, 814, 815, 11] (by decide +kernel) (by decide +kernel)) gt_wsX0_countOver) gt_nil)))))))
set_option maxRecDepth 100000 in
theorem gt_w8_digest : GoodIn lw_tbl w8_digest := (gt_c (goodIn_r [.code yX8_digest cX8_digest 4 (some .long)] [820] (by decide +kernel) (by decide +kernel)) (goodIn_app (goodIn_r _ [821, 822, 377] (by decide +kernel) (by decide +kernel)) (goodIn_app gt_wsX80 (goodIn_app (goodIn_app (goodIn_r _ [526, 527, 528, 11] (by decide +kernel) (by decide +kernel)) gt_wsX0_howMany) (goodIn_app (goodIn_app (goodIn_r _ [823, 824, 825, 11] (by decide +kernel) (by decide +kernel)) gt_wsX0_digestTasks) (goodIn_app (goodIn_app (goodIn_r _ [834, 835, 836, 11] (by decide +kernel) (by decide +kernel)) gt_wsX0_digestScopes) (goodIn_app (goodIn_app (goodIn_r _ [843, 844, 845, 11] (by decide +kernel) (by decide +kernel)) gt_wsX0_digestLocksAndChannels) (goodIn_app (goodIn_app (goodIn_r _ [867, 868, 869, 11] (by decide +kernel) (by decide +kernel)) gt_wsX0_countStuck) (goodIn_app (goodIn_app (goodIn_r _ [550, 552, 1, 3] (by decide +kernel) (by decide +kernel)) gt_w8_overAfter) gt_nil)))))))))
set_option maxRecDepth 100000 in
theorem glw_digest : GoodIn lw_tbl (wsV RL 63 RX8 yX8_digest w8_digest) := (goodIn_app (goodIn_r _ [817, 818, 819, 3] (by decide +kernel) (by decide +kernel)) gt_w8_digest)
set_option maxRecDepth 100000 in
theorem gt_w8_overBy : GoodIn lw_tbl w8_overBy := (gt_c (goodIn_r [.code yX8_overBy cX8_overBy 3 (some .int)] [549] (by decide +kernel) (by decide +kernel)) (goodIn_app gt_nil (goodIn_app (goodIn_app (goodIn_r _ [471, 472, 3] (by decide +kernel) (by decide +kernel)) gt_w8_checkWithin) (goodIn_app (goodIn_app (goodIn_r _ [550, 552, 1, 3] (by decide +kernel) (by decide +kernel)) gt_w8_overAfter) gt_nil))))
set_option maxRecDepth 100000 in
theorem glw_overBy : GoodIn lw_tbl (wsV RL 67 RX8 yX8_overBy w8_overBy) := (goodIn_app (goodIn_r _ [546, 547, 548, 3] (by decide +kernel) (by decide +kernel)) gt_w8_overBy)
set_option maxRecDepth 100000 in
theorem gt_wl_over : GoodIn lw_tbl wl_over := (gt_c (goodIn_r [.code yL_over cL_over 1 (some .int)] [977] (by decide +kernel) (by decide +kernel)) (goodIn_app gt_nil (goodIn_app (goodIn_app (goodIn_r _ [522, 523, 524, 3] (by decide +kernel) (by decide +kernel)) gt_w8_many) gt_nil)))
set_option maxRecDepth 100000 in
theorem glw_over : GoodIn lw_tbl (va_wsS RL 70 yL_over wl_over) := (goodIn_app (goodIn_r _ [975, 976, 2] (by decide +kernel) (by decide +kernel)) gt_wl_over)
theorem nlw_X8 : ∀ w ∈ u_ws RX8 TX8 7, w ∈ lw_tbl := fun w h => (gt_wsX80 w h).1
theorem nlw_X9 : ∀ w ∈ u_ws RX9 TX9 3, w ∈ lw_tbl := fun w h => (gt_wsX90 w h).1
