/-! the law: the words of what it calls are the tables' -/
theorem gt_nil : GoodIn lw_tbl [] := fun _ h => absurd h List.not_mem_nil
theorem gt_c {c : Cond} {ws : List Cond} (h1 : GoodIn lw_tbl [c]) (h2 : GoodIn lw_tbl ws) : GoodIn lw_tbl (c :: ws) := goodIn_app (a := [c]) h1 h2
set_option maxRecDepth 100000 in
theorem gt_wsX80 : GoodIn lw_tbl wsX80 := goodIn_of _ (by decide +kernel)
set_option maxRecDepth 100000 in
theorem gt_wsX30 : GoodIn lw_tbl wsX30 := goodIn_of _ (by decide +kernel)
set_option maxRecDepth 100000 in
theorem gt_wsX60 : GoodIn lw_tbl wsX60 := goodIn_of _ (by decide +kernel)
set_option maxRecDepth 100000 in
theorem gt_wsX40 : GoodIn lw_tbl wsX40 := goodIn_of _ (by decide +kernel)
set_option maxRecDepth 100000 in
theorem gt_wsX00 : GoodIn lw_tbl wsX00 := goodIn_of _ (by decide +kernel)
set_option maxRecDepth 100000 in
theorem gt_wsX3_init : GoodIn lw_tbl wsX3_init := (gt_c (goodIn_of [.code yX3_init cX3_init 1 none] (by decide +kernel)) (goodIn_app (goodIn_of _ (by decide +kernel)) gt_wsX30))
set_option maxRecDepth 100000 in
theorem gt_wsX6_init_r1 : GoodIn lw_tbl wsX6_init_r1 := (goodIn_of _ (by decide +kernel))
set_option maxRecDepth 100000 in
theorem gt_wsX6_init_r2 : GoodIn lw_tbl wsX6_init_r2 := (goodIn_of _ (by decide +kernel))
set_option maxRecDepth 100000 in
theorem gt_wsX70 : GoodIn lw_tbl wsX70 := goodIn_of _ (by decide +kernel)
set_option maxRecDepth 100000 in
theorem gt_wsX50 : GoodIn lw_tbl wsX50 := goodIn_of _ (by decide +kernel)
set_option maxRecDepth 100000 in
theorem gt_wsX20 : GoodIn lw_tbl wsX20 := goodIn_of _ (by decide +kernel)
set_option maxRecDepth 100000 in
theorem gt_wsX10 : GoodIn lw_tbl wsX10 := goodIn_of _ (by decide +kernel)
set_option maxRecDepth 100000 in
theorem gt_wsX6_init : GoodIn lw_tbl wsX6_init := (gt_c (goodIn_of [.code yX6_init cX6_init 2 none] (by decide +kernel)) (goodIn_app (goodIn_app (goodIn_app (goodIn_app (goodIn_app (goodIn_app gt_wsX6_init_r1 gt_wsX6_init_r2) gt_wsX60) gt_wsX70) gt_wsX50) gt_wsX20) gt_wsX10))
set_option maxRecDepth 100000 in
theorem gt_wsX4_init : GoodIn lw_tbl wsX4_init := (gt_c (goodIn_of [.code yX4_init cX4_init 3 none] (by decide +kernel)) (goodIn_app (goodIn_of _ (by decide +kernel)) gt_wsX40))
set_option maxRecDepth 100000 in
theorem gt_wsX0_init : GoodIn lw_tbl wsX0_init := (gt_c (goodIn_of [.code yX0_init cX0_init 3 none] (by decide +kernel)) (goodIn_app (goodIn_of _ (by decide +kernel)) gt_wsX00))
set_option maxRecDepth 100000 in
theorem gt_wl_init8 : GoodIn lw_tbl wl_init8 := (gt_c (goodIn_of [.code yX8_init cX8_init 1 none] (by decide +kernel)) (goodIn_app (goodIn_of _ (by decide +kernel)) (goodIn_app gt_wsX80 (goodIn_app gt_wsX30 (goodIn_app gt_wsX60 (goodIn_app gt_wsX40 (goodIn_app gt_wsX00 (goodIn_app gt_wsX3_init (goodIn_app gt_wsX6_init (goodIn_app gt_wsX4_init (goodIn_app gt_wsX0_init gt_nil)))))))))))
set_option maxRecDepth 100000 in
theorem glw_init8 : GoodIn lw_tbl wl_init8 := gt_wl_init8
set_option maxRecDepth 100000 in
theorem gt_wsX90 : GoodIn lw_tbl wsX90 := goodIn_of _ (by decide +kernel)
set_option maxRecDepth 100000 in
theorem gt_wl_init9 : GoodIn lw_tbl wl_init9 := (gt_c (goodIn_of [.code yX9_init cX9_init 1 none] (by decide +kernel)) (goodIn_app (goodIn_of _ (by decide +kernel)) (goodIn_app gt_wsX90 gt_nil)))
set_option maxRecDepth 100000 in
theorem glw_init9 : GoodIn lw_tbl wl_init9 := gt_wl_init9
set_option maxRecDepth 100000 in
theorem gt_wsX3_addBody : GoodIn lw_tbl wsX3_addBody := (gt_c (goodIn_of [.code yX3_addBody cX3_addBody 2 (some .int)] (by decide +kernel)) (goodIn_app (goodIn_of _ (by decide +kernel)) gt_wsX30))
set_option maxRecDepth 100000 in
theorem gt_w8_body : GoodIn lw_tbl w8_body := (gt_c (goodIn_of [.code yX8_body cX8_body 1 (some .int)] (by decide +kernel)) (goodIn_app (goodIn_of _ (by decide +kernel)) (goodIn_app gt_wsX80 (goodIn_app gt_wsX30 (goodIn_app (goodIn_app (goodIn_of _ (by decide +kernel)) gt_wsX3_addBody) gt_nil)))))
set_option maxRecDepth 100000 in
theorem gt_wl_isTold : GoodIn lw_tbl wl_isTold := (gt_c (goodIn_of [.code yX9_isTold cX9_isTold 2 (some .boolean)] (by decide +kernel)) (goodIn_app (goodIn_of _ (by decide +kernel)) (goodIn_app gt_wsX90 (goodIn_app (goodIn_app (goodIn_of _ (by decide +kernel)) gt_w8_body) gt_nil))))
set_option maxRecDepth 100000 in
theorem glw_isTold : GoodIn lw_tbl (wsV RL 15 RX9 yX9_isTold wl_isTold) := (goodIn_app (goodIn_of _ (by decide +kernel)) gt_wl_isTold)
set_option maxRecDepth 100000 in
theorem gt_w8_checkNumber : GoodIn lw_tbl w8_checkNumber := (gt_c (goodIn_of [.code yX8_checkNumber cX8_checkNumber 2 none] (by decide +kernel)) (goodIn_app gt_nil gt_nil))
set_option maxRecDepth 100000 in
theorem gt_wsX3_linesOf : GoodIn lw_tbl wsX3_linesOf := (gt_c (goodIn_of [.code yX3_linesOf cX3_linesOf 2 (some .int)] (by decide +kernel)) (goodIn_app (goodIn_of _ (by decide +kernel)) gt_wsX30))
set_option maxRecDepth 100000 in
theorem gt_wsX3_fits : GoodIn lw_tbl wsX3_fits := (gt_c (goodIn_of [.code yX3_fits cX3_fits 4 (some .boolean)] (by decide +kernel)) (goodIn_of _ (by decide +kernel)))
set_option maxRecDepth 100000 in
theorem gt_wsX6_isUsed : GoodIn lw_tbl wsX6_isUsed := (gt_c (goodIn_of [.code yX6_isUsed cX6_isUsed 6 (some .boolean)] (by decide +kernel)) (goodIn_app (goodIn_app (goodIn_of _ (by decide +kernel)) gt_wsX60) gt_wsX70))
set_option maxRecDepth 100000 in
theorem gt_wsX3_addLine : GoodIn lw_tbl wsX3_addLine := (gt_c (goodIn_of [.code yX3_addLine cX3_addLine 7 none] (by decide +kernel)) (goodIn_app (goodIn_of _ (by decide +kernel)) gt_wsX30))
set_option maxRecDepth 100000 in
theorem gt_w8_line : GoodIn lw_tbl w8_line := (gt_c (goodIn_of [.code yX8_line cX8_line 6 (some .int)] (by decide +kernel)) (goodIn_app (goodIn_of _ (by decide +kernel)) (goodIn_app gt_wsX80 (goodIn_app gt_wsX30 (goodIn_app (goodIn_app (goodIn_of _ (by decide +kernel)) gt_w8_checkNumber) (goodIn_app (goodIn_app (goodIn_of _ (by decide +kernel)) gt_wsX3_linesOf) (goodIn_app (goodIn_app (goodIn_of _ (by decide +kernel)) gt_wsX3_fits) (goodIn_app (goodIn_app (goodIn_of _ (by decide +kernel)) gt_wsX6_isUsed) (goodIn_app (goodIn_app (goodIn_of _ (by decide +kernel)) gt_wsX3_addLine) gt_nil)))))))))
set_option maxRecDepth 100000 in
theorem gt_wl_isLine : GoodIn lw_tbl wl_isLine := (gt_c (goodIn_of [.code yX9_isLine cX9_isLine 7 (some .boolean)] (by decide +kernel)) (goodIn_app (goodIn_of _ (by decide +kernel)) (goodIn_app gt_wsX90 (goodIn_app (goodIn_app (goodIn_of _ (by decide +kernel)) gt_w8_line) gt_nil))))
set_option maxRecDepth 100000 in
theorem glw_isLine : GoodIn lw_tbl (wsV RL 29 RX9 yX9_isLine wl_isLine) := (goodIn_app (goodIn_of _ (by decide +kernel)) gt_wl_isLine)
set_option maxRecDepth 100000 in
theorem gt_wl_below : GoodIn lw_tbl wl_below := (gt_c (goodIn_of [.code yL_below cL_below 2 (some .int)] (by decide +kernel)) (goodIn_app (goodIn_of _ (by decide +kernel)) gt_nil))
set_option maxRecDepth 100000 in
theorem gt_wl_isDrawn : GoodIn lw_tbl wl_isDrawn := (gt_c (goodIn_of [.code yX9_isDrawn cX9_isDrawn 8 (some .boolean)] (by decide +kernel)) (goodIn_app (goodIn_of _ (by decide +kernel)) (goodIn_app gt_wsX90 (goodIn_app gt_wl_below (goodIn_app (goodIn_app (goodIn_of _ (by decide +kernel)) gt_wl_isLine) gt_nil)))))
set_option maxRecDepth 100000 in
theorem glw_isDrawn : GoodIn lw_tbl (wsV RL 33 RX9 yX9_isDrawn wl_isDrawn) := (goodIn_app (goodIn_of _ (by decide +kernel)) gt_wl_isDrawn)
set_option maxRecDepth 100000 in
theorem gt_wl_cell : GoodIn lw_tbl wl_cell := (gt_c (goodIn_of [.code yL_cell cL_cell 2 (some .int)] (by decide +kernel)) (goodIn_app (goodIn_of _ (by decide +kernel)) gt_nil))
set_option maxRecDepth 100000 in
theorem glw_cell : GoodIn lw_tbl (va_wsS RL 19 yL_cell wl_cell) := (goodIn_app (goodIn_of _ (by decide +kernel)) gt_wl_cell)
set_option maxRecDepth 100000 in
theorem glw_below : GoodIn lw_tbl (va_wsS RL 25 yL_below wl_below) := (goodIn_app (goodIn_of _ (by decide +kernel)) gt_wl_below)
set_option maxRecDepth 100000 in
theorem gt_w8_checkWithin : GoodIn lw_tbl w8_checkWithin := (gt_c (goodIn_of [.code yX8_checkWithin cX8_checkWithin 3 none] (by decide +kernel)) (goodIn_app gt_nil gt_nil))
set_option maxRecDepth 100000 in
theorem gt_wsX0_howMany_r1 : GoodIn lw_tbl wsX0_howMany_r1 := (goodIn_of _ (by decide +kernel))
set_option maxRecDepth 100000 in
theorem gt_wsX0_howMany_r2 : GoodIn lw_tbl wsX0_howMany_r2 := (goodIn_of _ (by decide +kernel))
set_option maxRecDepth 100000 in
theorem gt_wsX0_howMany : GoodIn lw_tbl wsX0_howMany := (gt_c (goodIn_of [.code yX0_howMany cX0_howMany 2 (some .int)] (by decide +kernel)) (goodIn_app (goodIn_app (goodIn_app (goodIn_app (goodIn_app (goodIn_app gt_wsX0_howMany_r1 gt_wsX0_howMany_r2) gt_wsX00) gt_wsX30) gt_wsX60) gt_wsX70) gt_wsX50))
set_option maxRecDepth 100000 in
theorem gt_w8_many : GoodIn lw_tbl w8_many := (gt_c (goodIn_of [.code yX8_many cX8_many 2 (some .int)] (by decide +kernel)) (goodIn_app (goodIn_of _ (by decide +kernel)) (goodIn_app gt_wsX80 (goodIn_app (goodIn_app (goodIn_of _ (by decide +kernel)) gt_w8_checkWithin) (goodIn_app (goodIn_app (goodIn_of _ (by decide +kernel)) gt_wsX0_howMany) gt_nil)))))
set_option maxRecDepth 100000 in
theorem gt_wsX6_makeTask : GoodIn lw_tbl wsX6_makeTask := (gt_c (goodIn_of [.code yX6_makeTask cX6_makeTask 4 (some .int)] (by decide +kernel)) (goodIn_app (goodIn_app (goodIn_of _ (by decide +kernel)) gt_wsX60) gt_wsX70))
set_option maxRecDepth 100000 in
theorem gt_w8_start : GoodIn lw_tbl w8_start := (gt_c (goodIn_of [.code yX8_start cX8_start 3 (some .int)] (by decide +kernel)) (goodIn_app (goodIn_of _ (by decide +kernel)) (goodIn_app gt_wsX80 (goodIn_app gt_wsX30 (goodIn_app (goodIn_app (goodIn_of _ (by decide +kernel)) gt_w8_checkNumber) (goodIn_app (goodIn_app (goodIn_of _ (by decide +kernel)) gt_wsX6_makeTask) gt_nil))))))
set_option maxRecDepth 100000 in
theorem gt_wsX0_aboutTask_r1 : GoodIn lw_tbl wsX0_aboutTask_r1 := (goodIn_of _ (by decide +kernel))
set_option maxRecDepth 100000 in
theorem gt_wsX0_aboutTask_r2 : GoodIn lw_tbl wsX0_aboutTask_r2 := (goodIn_of _ (by decide +kernel))
set_option maxRecDepth 100000 in
theorem gt_wsX0_aboutTask : GoodIn lw_tbl wsX0_aboutTask := (gt_c (goodIn_of [.code yX0_aboutTask cX0_aboutTask 4 (some .int)] (by decide +kernel)) (goodIn_app (goodIn_app (goodIn_app (goodIn_app (goodIn_app gt_wsX0_aboutTask_r1 gt_wsX0_aboutTask_r2) gt_wsX00) gt_wsX70) gt_wsX60) gt_wsX50))
set_option maxRecDepth 100000 in
theorem gt_w8_ofTask : GoodIn lw_tbl w8_ofTask := (gt_c (goodIn_of [.code yX8_ofTask cX8_ofTask 3 (some .int)] (by decide +kernel)) (goodIn_app (goodIn_of _ (by decide +kernel)) (goodIn_app gt_wsX80 (goodIn_app gt_wsX60 (goodIn_app (goodIn_app (goodIn_of _ (by decide +kernel)) gt_w8_checkNumber) (goodIn_app (goodIn_app (goodIn_of _ (by decide +kernel)) gt_w8_checkWithin) (goodIn_app (goodIn_app (goodIn_of _ (by decide +kernel)) gt_wsX0_aboutTask) gt_nil)))))))
set_option maxRecDepth 100000 in
theorem gt_wsX0_countNewlyHit : GoodIn lw_tbl wsX0_countNewlyHit := (gt_c (goodIn_of [.code yX0_countNewlyHit cX0_countNewlyHit 8 (some .int)] (by decide +kernel)) (goodIn_app (goodIn_app (goodIn_app (goodIn_app (goodIn_of _ (by decide +kernel)) gt_wsX00) gt_wsX60) gt_wsX70) gt_wsX50))
set_option maxRecDepth 100000 in
theorem gt_w8_wouldHit : GoodIn lw_tbl w8_wouldHit := (gt_c (goodIn_of [.code yX8_wouldHit cX8_wouldHit 2 (some .int)] (by decide +kernel)) (goodIn_app (goodIn_of _ (by decide +kernel)) (goodIn_app gt_wsX80 (goodIn_app gt_wsX60 (goodIn_app (goodIn_app (goodIn_of _ (by decide +kernel)) gt_w8_checkNumber) (goodIn_app (goodIn_app (goodIn_of _ (by decide +kernel)) gt_wsX0_countNewlyHit) gt_nil))))))
set_option maxRecDepth 100000 in
theorem gt_wsX0_aboutScope : GoodIn lw_tbl wsX0_aboutScope := (gt_c (goodIn_of [.code yX0_aboutScope cX0_aboutScope 4 (some .int)] (by decide +kernel)) (goodIn_app (goodIn_app (goodIn_app (goodIn_of _ (by decide +kernel)) gt_wsX00) gt_wsX50) gt_wsX60))
set_option maxRecDepth 100000 in
theorem gt_w8_ofScope : GoodIn lw_tbl w8_ofScope := (gt_c (goodIn_of [.code yX8_ofScope cX8_ofScope 3 (some .int)] (by decide +kernel)) (goodIn_app (goodIn_of _ (by decide +kernel)) (goodIn_app gt_wsX80 (goodIn_app gt_wsX60 (goodIn_app (goodIn_app (goodIn_of _ (by decide +kernel)) gt_w8_checkNumber) (goodIn_app (goodIn_app (goodIn_of _ (by decide +kernel)) gt_w8_checkWithin) (goodIn_app (goodIn_app (goodIn_of _ (by decide +kernel)) gt_wsX0_aboutScope) gt_nil)))))))
set_option maxRecDepth 100000 in
theorem gt_wsX6_scopeAt : GoodIn lw_tbl wsX6_scopeAt := (gt_c (goodIn_of [.code yX6_scopeAt cX6_scopeAt 2 (some (.object "ScopeRow$Scope"))] (by decide +kernel)) (goodIn_app (goodIn_of _ (by decide +kernel)) gt_wsX60))
set_option maxRecDepth 100000 in
theorem gt_wsX6_cancelScope_r1 : GoodIn lw_tbl wsX6_cancelScope_r1 := (goodIn_of _ (by decide +kernel))
set_option maxRecDepth 100000 in
theorem gt_wsX6_cancelScope_r2 : GoodIn lw_tbl wsX6_cancelScope_r2 := (goodIn_of _ (by decide +kernel))
set_option maxRecDepth 100000 in
theorem gt_wsX6_cancelScope : GoodIn lw_tbl wsX6_cancelScope := (gt_c (goodIn_of [.code yX6_cancelScope cX6_cancelScope 6 (some .boolean)] (by decide +kernel)) (goodIn_app (goodIn_app (goodIn_app (goodIn_app gt_wsX6_cancelScope_r1 gt_wsX6_cancelScope_r2) gt_wsX50) gt_wsX60) gt_wsX70))
set_option maxRecDepth 100000 in
theorem gt_w8_cancel : GoodIn lw_tbl w8_cancel := (gt_c (goodIn_of [.code yX8_cancel cX8_cancel 2 (some .boolean)] (by decide +kernel)) (goodIn_app (goodIn_of _ (by decide +kernel)) (goodIn_app gt_wsX80 (goodIn_app gt_wsX60 (goodIn_app (goodIn_app (goodIn_of _ (by decide +kernel)) gt_w8_checkNumber) (goodIn_app (goodIn_app (goodIn_of _ (by decide +kernel)) gt_wsX6_scopeAt) (goodIn_app (goodIn_app (goodIn_of _ (by decide +kernel)) gt_wsX6_cancelScope) gt_nil)))))))
set_option maxRecDepth 100000 in
theorem gt_wsX6_tickOnce_r1 : GoodIn lw_tbl wsX6_tickOnce_r1 := (goodIn_of _ (by decide +kernel))
set_option maxRecDepth 100000 in
theorem gt_wsX6_tickOnce_r2 : GoodIn lw_tbl wsX6_tickOnce_r2 := (goodIn_of _ (by decide +kernel))
set_option maxRecDepth 100000 in
theorem gt_wsX6_tickOnce : GoodIn lw_tbl wsX6_tickOnce := (gt_c (goodIn_of [.code yX6_tickOnce cX6_tickOnce 6 (some .int)] (by decide +kernel)) (goodIn_app (goodIn_app (goodIn_app (goodIn_app gt_wsX6_tickOnce_r1 gt_wsX6_tickOnce_r2) gt_wsX60) gt_wsX50) gt_wsX70))
set_option maxRecDepth 100000 in
theorem gt_w8_tick : GoodIn lw_tbl w8_tick := (gt_c (goodIn_of [.code yX8_tick cX8_tick 4 (some .int)] (by decide +kernel)) (goodIn_app (goodIn_of _ (by decide +kernel)) (goodIn_app gt_wsX80 (goodIn_app (goodIn_app (goodIn_of _ (by decide +kernel)) gt_w8_checkWithin) (goodIn_app (goodIn_app (goodIn_of _ (by decide +kernel)) gt_wsX6_tickOnce) gt_nil)))))
set_option maxRecDepth 100000 in
theorem gt_wsX4_takeTurns_r1 : GoodIn lw_tbl wsX4_takeTurns_r1 := (goodIn_of _ (by decide +kernel))
set_option maxRecDepth 100000 in
theorem gt_wsX4_takeTurns_r2 : GoodIn lw_tbl wsX4_takeTurns_r2 := (goodIn_of _ (by decide +kernel))
set_option maxRecDepth 100000 in
theorem gt_wsX4_takeTurns_r3 : GoodIn lw_tbl wsX4_takeTurns_r3 := (goodIn_of _ (by decide +kernel))
set_option maxRecDepth 100000 in
theorem gt_wsX4_takeTurns_r4 : GoodIn lw_tbl wsX4_takeTurns_r4 := (goodIn_of _ (by decide +kernel))
set_option maxRecDepth 100000 in
theorem gt_wsX4_takeTurns_r5 : GoodIn lw_tbl wsX4_takeTurns_r5 := (goodIn_of _ (by decide +kernel))
set_option maxRecDepth 100000 in
theorem gt_wsX4_takeTurns_r6 : GoodIn lw_tbl wsX4_takeTurns_r6 := (goodIn_of _ (by decide +kernel))
set_option maxRecDepth 100000 in
theorem gt_wsX4_takeTurns_r7 : GoodIn lw_tbl wsX4_takeTurns_r7 := (goodIn_of _ (by decide +kernel))
set_option maxRecDepth 100000 in
theorem gt_wsX4_takeTurns_r8 : GoodIn lw_tbl wsX4_takeTurns_r8 := (goodIn_of _ (by decide +kernel))
set_option maxRecDepth 100000 in
theorem gt_wsX4_takeTurns_r9 : GoodIn lw_tbl wsX4_takeTurns_r9 := (goodIn_of _ (by decide +kernel))
set_option maxRecDepth 100000 in
theorem gt_wsX4_takeTurns_r10 : GoodIn lw_tbl wsX4_takeTurns_r10 := (goodIn_of _ (by decide +kernel))
set_option maxRecDepth 100000 in
theorem gt_wsX4_takeTurns_r11 : GoodIn lw_tbl wsX4_takeTurns_r11 := (goodIn_of _ (by decide +kernel))
set_option maxRecDepth 100000 in
theorem gt_wsX4_takeTurns_r12 : GoodIn lw_tbl wsX4_takeTurns_r12 := (goodIn_of _ (by decide +kernel))
set_option maxRecDepth 100000 in
theorem gt_wsX4_takeTurns_r13 : GoodIn lw_tbl wsX4_takeTurns_r13 := (goodIn_of _ (by decide +kernel))
set_option maxRecDepth 100000 in
theorem gt_wsX4_takeTurns_r14 : GoodIn lw_tbl wsX4_takeTurns_r14 := (goodIn_of _ (by decide +kernel))
set_option maxRecDepth 100000 in
theorem gt_wsX4_takeTurns : GoodIn lw_tbl wsX4_takeTurns := (gt_c (goodIn_of [.code yX4_takeTurns cX4_takeTurns 6 (some .int)] (by decide +kernel)) (goodIn_app (goodIn_app (goodIn_app (goodIn_app (goodIn_app (goodIn_app (goodIn_app (goodIn_app gt_wsX4_takeTurns_r1 (goodIn_app gt_wsX4_takeTurns_r2 (goodIn_app gt_wsX4_takeTurns_r3 (goodIn_app gt_wsX4_takeTurns_r4 (goodIn_app gt_wsX4_takeTurns_r5 (goodIn_app gt_wsX4_takeTurns_r6 (goodIn_app gt_wsX4_takeTurns_r7 (goodIn_app gt_wsX4_takeTurns_r8 (goodIn_app gt_wsX4_takeTurns_r9 (goodIn_app gt_wsX4_takeTurns_r10 (goodIn_app gt_wsX4_takeTurns_r11 (goodIn_app gt_wsX4_takeTurns_r12 (goodIn_app gt_wsX4_takeTurns_r13 gt_wsX4_takeTurns_r14))))))))))))) gt_wsX40) gt_wsX60) gt_wsX70) gt_wsX50) gt_wsX10) gt_wsX20) gt_wsX30))
set_option maxRecDepth 100000 in
theorem gt_w8_run : GoodIn lw_tbl w8_run := (gt_c (goodIn_of [.code yX8_run cX8_run 2 (some .int)] (by decide +kernel)) (goodIn_app (goodIn_of _ (by decide +kernel)) (goodIn_app gt_wsX80 (goodIn_app (goodIn_app (goodIn_of _ (by decide +kernel)) gt_w8_checkWithin) (goodIn_app (goodIn_app (goodIn_of _ (by decide +kernel)) gt_wsX4_takeTurns) gt_nil)))))
set_option maxRecDepth 100000 in
theorem gt_wl_act : GoodIn lw_tbl wl_act := (gt_c (goodIn_of [.codeWith yL_act cL_act 11 (some .boolean) [(6, 95, 344, 95), (96, 191, 344, 95), (192, 261, 344, 95), (262, 343, 344, 95), (6, 95, 370, 97), (96, 191, 370, 97), (192, 261, 370, 97), (262, 343, 370, 97)]] (by decide +kernel)) (goodIn_app (goodIn_of _ (by decide +kernel)) (goodIn_app (goodIn_app (goodIn_of _ (by decide +kernel)) gt_w8_many) (goodIn_app (goodIn_app (goodIn_of _ (by decide +kernel)) gt_wl_below) (goodIn_app (goodIn_app (goodIn_of _ (by decide +kernel)) gt_w8_start) (goodIn_app (goodIn_app (goodIn_of _ (by decide +kernel)) gt_w8_ofTask) (goodIn_app (goodIn_app (goodIn_of _ (by decide +kernel)) gt_w8_wouldHit) (goodIn_app (goodIn_app (goodIn_of _ (by decide +kernel)) gt_w8_ofScope) (goodIn_app (goodIn_app (goodIn_of _ (by decide +kernel)) gt_w8_cancel) (goodIn_app (goodIn_app (goodIn_of _ (by decide +kernel)) gt_w8_tick) (goodIn_app (goodIn_app (goodIn_of _ (by decide +kernel)) gt_w8_run) gt_nil)))))))))))
set_option maxRecDepth 100000 in
theorem glw_act : GoodIn lw_tbl (va_wsS RL 39 yL_act wl_act) := (goodIn_app (goodIn_of _ (by decide +kernel)) gt_wl_act)
set_option maxRecDepth 100000 in
theorem gt_at0 : GoodIn lw_tbl ((vx_atS RX8 56 ISE exn).filter goodWord) := goodIn_of _ (by decide +kernel)
set_option maxRecDepth 100000 in
theorem gt_wl9_start : GoodIn lw_tbl wl9_start := (gt_c (goodIn_of [.code yX8_start cX8_start 3 (some .int)] (by decide +kernel)) (goodIn_app (goodIn_of _ (by decide +kernel)) (goodIn_app gt_wsX80 (goodIn_app gt_wsX30 (goodIn_app (goodIn_app (goodIn_of _ (by decide +kernel)) gt_w8_checkNumber) (goodIn_app (goodIn_app (goodIn_of _ (by decide +kernel)) gt_wsX6_makeTask) (goodIn_app gt_at0 gt_nil)))))))
set_option maxRecDepth 100000 in
theorem gt_at1 : GoodIn lw_tbl ((vx_atS RX8 180 IOE exn).filter goodWord) := goodIn_of _ (by decide +kernel)
set_option maxRecDepth 100000 in
theorem gt_wl9_checkNumber : GoodIn lw_tbl wl9_checkNumber := (gt_c (goodIn_of [.code yX8_checkNumber cX8_checkNumber 2 none] (by decide +kernel)) (goodIn_app (goodIn_of _ (by decide +kernel)) gt_at1))
set_option maxRecDepth 100000 in
theorem gt_wl9_wouldHit : GoodIn lw_tbl wl9_wouldHit := (gt_c (goodIn_of [.code yX8_wouldHit cX8_wouldHit 2 (some .int)] (by decide +kernel)) (goodIn_app (goodIn_of _ (by decide +kernel)) (goodIn_app gt_wsX80 (goodIn_app gt_wsX60 (goodIn_app (goodIn_app (goodIn_of _ (by decide +kernel)) gt_wl9_checkNumber) gt_nil)))))
set_option maxRecDepth 100000 in
theorem gt_wl9_act : GoodIn lw_tbl wl9_act := (gt_c (goodIn_of [.codeWith yL_act cL_act 11 (some .boolean) [(6, 95, 344, 95), (96, 191, 344, 95), (192, 261, 344, 95), (262, 343, 344, 95), (6, 95, 370, 97), (96, 191, 370, 97), (192, 261, 370, 97), (262, 343, 370, 97)]] (by decide +kernel)) (goodIn_app (goodIn_of _ (by decide +kernel)) (goodIn_app (goodIn_app (goodIn_of _ (by decide +kernel)) gt_w8_many) (goodIn_app (goodIn_app (goodIn_of _ (by decide +kernel)) gt_wl_below) (goodIn_app (goodIn_app (goodIn_of _ (by decide +kernel)) gt_wl9_start) (goodIn_app (goodIn_app (goodIn_of _ (by decide +kernel)) gt_wl9_wouldHit) gt_nil))))))
set_option maxRecDepth 100000 in
theorem glw_act9 : GoodIn lw_tbl (va_wsS RL 39 yL_act wl9_act) := (goodIn_app (goodIn_of _ (by decide +kernel)) gt_wl9_act)
set_option maxRecDepth 100000 in
theorem glw_many : GoodIn lw_tbl (wsV RL 43 RX8 yX8_many w8_many) := (goodIn_app (goodIn_of _ (by decide +kernel)) gt_w8_many)
set_option maxRecDepth 100000 in
theorem glw_ofTask : GoodIn lw_tbl (wsV RL 47 RX8 yX8_ofTask w8_ofTask) := (goodIn_app (goodIn_of _ (by decide +kernel)) gt_w8_ofTask)
set_option maxRecDepth 100000 in
theorem glw_ofScope : GoodIn lw_tbl (wsV RL 50 RX8 yX8_ofScope w8_ofScope) := (goodIn_app (goodIn_of _ (by decide +kernel)) gt_w8_ofScope)
set_option maxRecDepth 100000 in
theorem gt_wsX0_countStuck : GoodIn lw_tbl wsX0_countStuck := (gt_c (goodIn_of [.code yX0_countStuck cX0_countStuck 5 (some .int)] (by decide +kernel)) (goodIn_app (goodIn_app (goodIn_app (goodIn_app (goodIn_of _ (by decide +kernel)) gt_wsX00) gt_wsX60) gt_wsX50) gt_wsX70))
set_option maxRecDepth 100000 in
theorem gt_w8_stuck : GoodIn lw_tbl w8_stuck := (gt_c (goodIn_of [.code yX8_stuck cX8_stuck 1 (some .int)] (by decide +kernel)) (goodIn_app (goodIn_of _ (by decide +kernel)) (goodIn_app gt_wsX80 (goodIn_app (goodIn_app (goodIn_of _ (by decide +kernel)) gt_wsX0_countStuck) gt_nil))))
set_option maxRecDepth 100000 in
theorem gt_wl_areTasksRight : GoodIn lw_tbl wl_areTasksRight := (gt_c (goodIn_of [.code yL_areTasksRight cL_areTasksRight 10 (some .boolean)] (by decide +kernel)) (goodIn_app (goodIn_of _ (by decide +kernel)) (goodIn_app gt_wsX90 (goodIn_app (goodIn_app (goodIn_of _ (by decide +kernel)) gt_w8_many) (goodIn_app (goodIn_app (goodIn_of _ (by decide +kernel)) gt_w8_ofTask) (goodIn_app (goodIn_app (goodIn_of _ (by decide +kernel)) gt_w8_ofScope) (goodIn_app (goodIn_app (goodIn_of _ (by decide +kernel)) gt_w8_stuck) gt_nil)))))))
set_option maxRecDepth 100000 in
theorem glw_areTasksRight : GoodIn lw_tbl (va_wsS RL 53 yL_areTasksRight wl_areTasksRight) := (goodIn_app (goodIn_of _ (by decide +kernel)) gt_wl_areTasksRight)
set_option maxRecDepth 100000 in
theorem gt_wl_areScopesRight : GoodIn lw_tbl wl_areScopesRight := (gt_c (goodIn_of [.code yL_areScopesRight cL_areScopesRight 10 (some .boolean)] (by decide +kernel)) (goodIn_app (goodIn_of _ (by decide +kernel)) (goodIn_app (goodIn_app (goodIn_of _ (by decide +kernel)) gt_w8_many) (goodIn_app (goodIn_app (goodIn_of _ (by decide +kernel)) gt_w8_ofTask) (goodIn_app (goodIn_app (goodIn_of _ (by decide +kernel)) gt_w8_ofScope) gt_nil)))))
set_option maxRecDepth 100000 in
theorem glw_areScopesRight : GoodIn lw_tbl (va_wsS RL 57 yL_areScopesRight wl_areScopesRight) := (goodIn_app (goodIn_of _ (by decide +kernel)) gt_wl_areScopesRight)
set_option maxRecDepth 100000 in
theorem gt_wsX0_aboutLock_r1 : GoodIn lw_tbl wsX0_aboutLock_r1 := (goodIn_of _ (by decide +kernel))
set_option maxRecDepth 100000 in
theorem gt_wsX0_aboutLock_r2 : GoodIn lw_tbl wsX0_aboutLock_r2 := (goodIn_of _ (by decide +kernel))
set_option maxRecDepth 100000 in
theorem gt_wsX0_aboutLock : GoodIn lw_tbl wsX0_aboutLock := (gt_c (goodIn_of [.code yX0_aboutLock cX0_aboutLock 5 (some .int)] (by decide +kernel)) (goodIn_app (goodIn_app (goodIn_app (goodIn_app (goodIn_app gt_wsX0_aboutLock_r1 gt_wsX0_aboutLock_r2) gt_wsX00) gt_wsX20) gt_wsX70) gt_wsX60))
set_option maxRecDepth 100000 in
theorem gt_w8_ofLock : GoodIn lw_tbl w8_ofLock := (gt_c (goodIn_of [.code yX8_ofLock cX8_ofLock 3 (some .int)] (by decide +kernel)) (goodIn_app (goodIn_of _ (by decide +kernel)) (goodIn_app gt_wsX80 (goodIn_app (goodIn_app (goodIn_of _ (by decide +kernel)) gt_w8_checkNumber) (goodIn_app (goodIn_app (goodIn_of _ (by decide +kernel)) gt_w8_checkWithin) (goodIn_app (goodIn_app (goodIn_of _ (by decide +kernel)) gt_wsX0_aboutLock) gt_nil))))))
set_option maxRecDepth 100000 in
theorem gt_wsX0_aboutChannel_r1 : GoodIn lw_tbl wsX0_aboutChannel_r1 := (goodIn_of _ (by decide +kernel))
set_option maxRecDepth 100000 in
theorem gt_wsX0_aboutChannel_r2 : GoodIn lw_tbl wsX0_aboutChannel_r2 := (goodIn_of _ (by decide +kernel))
set_option maxRecDepth 100000 in
theorem gt_wsX0_aboutChannel : GoodIn lw_tbl wsX0_aboutChannel := (gt_c (goodIn_of [.code yX0_aboutChannel cX0_aboutChannel 4 (some .int)] (by decide +kernel)) (goodIn_app (goodIn_app (goodIn_app (goodIn_app (goodIn_app gt_wsX0_aboutChannel_r1 gt_wsX0_aboutChannel_r2) gt_wsX00) gt_wsX10) gt_wsX60) gt_wsX70))
set_option maxRecDepth 100000 in
theorem gt_w8_ofChannel : GoodIn lw_tbl w8_ofChannel := (gt_c (goodIn_of [.code yX8_ofChannel cX8_ofChannel 3 (some .int)] (by decide +kernel)) (goodIn_app (goodIn_of _ (by decide +kernel)) (goodIn_app gt_wsX80 (goodIn_app (goodIn_app (goodIn_of _ (by decide +kernel)) gt_w8_checkNumber) (goodIn_app (goodIn_app (goodIn_of _ (by decide +kernel)) gt_w8_checkWithin) (goodIn_app (goodIn_app (goodIn_of _ (by decide +kernel)) gt_wsX0_aboutChannel) gt_nil))))))
set_option maxRecDepth 100000 in
theorem gt_wl_areOthersRight : GoodIn lw_tbl wl_areOthersRight := (gt_c (goodIn_of [.code yL_areOthersRight cL_areOthersRight 6 (some .boolean)] (by decide +kernel)) (goodIn_app (goodIn_of _ (by decide +kernel)) (goodIn_app (goodIn_app (goodIn_of _ (by decide +kernel)) gt_w8_many) (goodIn_app (goodIn_app (goodIn_of _ (by decide +kernel)) gt_w8_ofTask) (goodIn_app (goodIn_app (goodIn_of _ (by decide +kernel)) gt_w8_ofLock) (goodIn_app (goodIn_app (goodIn_of _ (by decide +kernel)) gt_w8_ofChannel) gt_nil))))))
set_option maxRecDepth 100000 in
theorem glw_areOthersRight : GoodIn lw_tbl (va_wsS RL 60 yL_areOthersRight wl_areOthersRight) := (goodIn_app (goodIn_of _ (by decide +kernel)) gt_wl_areOthersRight)
set_option maxRecDepth 100000 in
theorem gt_wsX0_digestTasks_r1 : GoodIn lw_tbl wsX0_digestTasks_r1 := (goodIn_of _ (by decide +kernel))
set_option maxRecDepth 100000 in
theorem gt_wsX0_digestTasks_r2 : GoodIn lw_tbl wsX0_digestTasks_r2 := (goodIn_of _ (by decide +kernel))
set_option maxRecDepth 100000 in
theorem gt_wsX0_digestTasks_r3 : GoodIn lw_tbl wsX0_digestTasks_r3 := (goodIn_of _ (by decide +kernel))
set_option maxRecDepth 100000 in
theorem gt_wsX0_digestTasks : GoodIn lw_tbl wsX0_digestTasks := (gt_c (goodIn_of [.code yX0_digestTasks cX0_digestTasks 7 (some .long)] (by decide +kernel)) (goodIn_app (goodIn_app (goodIn_app (goodIn_app (goodIn_app gt_wsX0_digestTasks_r1 (goodIn_app gt_wsX0_digestTasks_r2 gt_wsX0_digestTasks_r3)) gt_wsX00) gt_wsX60) gt_wsX70) gt_wsX50))
set_option maxRecDepth 100000 in
theorem gt_wsX0_digestScopes_r1 : GoodIn lw_tbl wsX0_digestScopes_r1 := (goodIn_of _ (by decide +kernel))
set_option maxRecDepth 100000 in
theorem gt_wsX0_digestScopes_r2 : GoodIn lw_tbl wsX0_digestScopes_r2 := (goodIn_of _ (by decide +kernel))
set_option maxRecDepth 100000 in
theorem gt_wsX0_digestScopes : GoodIn lw_tbl wsX0_digestScopes := (gt_c (goodIn_of [.code yX0_digestScopes cX0_digestScopes 7 (some .long)] (by decide +kernel)) (goodIn_app (goodIn_app (goodIn_app (goodIn_app (goodIn_app gt_wsX0_digestScopes_r1 gt_wsX0_digestScopes_r2) gt_wsX00) gt_wsX60) gt_wsX50) gt_wsX70))
set_option maxRecDepth 100000 in
theorem gt_wsX0_digestLocksAndChannels_r1 : GoodIn lw_tbl wsX0_digestLocksAndChannels_r1 := (goodIn_of _ (by decide +kernel))
set_option maxRecDepth 100000 in
theorem gt_wsX0_digestLocksAndChannels_r2 : GoodIn lw_tbl wsX0_digestLocksAndChannels_r2 := (goodIn_of _ (by decide +kernel))
set_option maxRecDepth 100000 in
theorem gt_wsX0_digestLocksAndChannels_r3 : GoodIn lw_tbl wsX0_digestLocksAndChannels_r3 := (goodIn_of _ (by decide +kernel))
set_option maxRecDepth 100000 in
theorem gt_wsX0_digestLocksAndChannels : GoodIn lw_tbl wsX0_digestLocksAndChannels := (gt_c (goodIn_of [.code yX0_digestLocksAndChannels cX0_digestLocksAndChannels 7 (some .long)] (by decide +kernel)) (goodIn_app (goodIn_app (goodIn_app (goodIn_app (goodIn_app (goodIn_app gt_wsX0_digestLocksAndChannels_r1 (goodIn_app gt_wsX0_digestLocksAndChannels_r2 gt_wsX0_digestLocksAndChannels_r3)) gt_wsX00) gt_wsX20) gt_wsX70) gt_wsX60) gt_wsX10))
set_option maxRecDepth 100000 in
theorem gt_wsX6_copyFrom_r1 : GoodIn lw_tbl wsX6_copyFrom_r1 := (goodIn_of _ (by decide +kernel))
set_option maxRecDepth 100000 in
theorem gt_wsX6_copyFrom_r2 : GoodIn lw_tbl wsX6_copyFrom_r2 := (goodIn_of _ (by decide +kernel))
set_option maxRecDepth 100000 in
theorem gt_wsX6_copyFrom_r3 : GoodIn lw_tbl wsX6_copyFrom_r3 := (goodIn_of _ (by decide +kernel))
set_option maxRecDepth 100000 in
theorem gt_wsX6_copyFrom_r4 : GoodIn lw_tbl wsX6_copyFrom_r4 := (goodIn_of _ (by decide +kernel))
set_option maxRecDepth 100000 in
theorem gt_wsX6_copyFrom : GoodIn lw_tbl wsX6_copyFrom := (gt_c (goodIn_of [.code yX6_copyFrom cX6_copyFrom 3 none] (by decide +kernel)) (goodIn_app (goodIn_app (goodIn_app (goodIn_app (goodIn_app (goodIn_app gt_wsX6_copyFrom_r1 (goodIn_app gt_wsX6_copyFrom_r2 (goodIn_app gt_wsX6_copyFrom_r3 gt_wsX6_copyFrom_r4))) gt_wsX60) gt_wsX70) gt_wsX50) gt_wsX20) gt_wsX10))
set_option maxRecDepth 100000 in
theorem gt_wsX0_countOver : GoodIn lw_tbl wsX0_countOver := (gt_c (goodIn_of [.code yX0_countOver cX0_countOver 6 (some .int)] (by decide +kernel)) (goodIn_app (goodIn_app (goodIn_app (goodIn_of _ (by decide +kernel)) gt_wsX00) gt_wsX60) gt_wsX70))
set_option maxRecDepth 100000 in
theorem gt_w8_overAfter : GoodIn lw_tbl w8_overAfter := (gt_c (goodIn_of [.code yX8_overAfter cX8_overAfter 4 (some .int)] (by decide +kernel)) (goodIn_app (goodIn_of _ (by decide +kernel)) (goodIn_app gt_wsX80 (goodIn_app (goodIn_app (goodIn_of _ (by decide +kernel)) gt_wsX6_copyFrom) (goodIn_app (goodIn_app (goodIn_of _ (by decide +kernel)) gt_wsX6_tickOnce) (goodIn_app (goodIn_app (goodIn_of _ (by decide +kernel)) gt_wsX4_takeTurns) (goodIn_app (goodIn_app (goodIn_of _ (by decide +kernel)) gt_wsX0_countOver) gt_nil)))))))
set_option maxRecDepth 100000 in
theorem gt_w8_digest : GoodIn lw_tbl w8_digest := (gt_c (goodIn_of [.code yX8_digest cX8_digest 4 (some .long)] (by decide +kernel)) (goodIn_app (goodIn_of _ (by decide +kernel)) (goodIn_app gt_wsX80 (goodIn_app (goodIn_app (goodIn_of _ (by decide +kernel)) gt_wsX0_howMany) (goodIn_app (goodIn_app (goodIn_of _ (by decide +kernel)) gt_wsX0_digestTasks) (goodIn_app (goodIn_app (goodIn_of _ (by decide +kernel)) gt_wsX0_digestScopes) (goodIn_app (goodIn_app (goodIn_of _ (by decide +kernel)) gt_wsX0_digestLocksAndChannels) (goodIn_app (goodIn_app (goodIn_of _ (by decide +kernel)) gt_wsX0_countStuck) (goodIn_app (goodIn_app (goodIn_of _ (by decide +kernel)) gt_w8_overAfter) gt_nil)))))))))
set_option maxRecDepth 100000 in
theorem glw_digest : GoodIn lw_tbl (wsV RL 63 RX8 yX8_digest w8_digest) := (goodIn_app (goodIn_of _ (by decide +kernel)) gt_w8_digest)
set_option maxRecDepth 100000 in
theorem gt_w8_overBy : GoodIn lw_tbl w8_overBy := (gt_c (goodIn_of [.code yX8_overBy cX8_overBy 3 (some .int)] (by decide +kernel)) (goodIn_app gt_nil (goodIn_app (goodIn_app (goodIn_of _ (by decide +kernel)) gt_w8_checkWithin) (goodIn_app (goodIn_app (goodIn_of _ (by decide +kernel)) gt_w8_overAfter) gt_nil))))
set_option maxRecDepth 100000 in
theorem glw_overBy : GoodIn lw_tbl (wsV RL 67 RX8 yX8_overBy w8_overBy) := (goodIn_app (goodIn_of _ (by decide +kernel)) gt_w8_overBy)
set_option maxRecDepth 100000 in
theorem gt_wl_over : GoodIn lw_tbl wl_over := (gt_c (goodIn_of [.code yL_over cL_over 1 (some .int)] (by decide +kernel)) (goodIn_app gt_nil (goodIn_app (goodIn_app (goodIn_of _ (by decide +kernel)) gt_w8_many) gt_nil)))
set_option maxRecDepth 100000 in
theorem glw_over : GoodIn lw_tbl (va_wsS RL 70 yL_over wl_over) := (goodIn_app (goodIn_of _ (by decide +kernel)) gt_wl_over)
theorem nlw_X8 : ∀ w ∈ u_ws RX8 TX8 7, w ∈ lw_tbl := fun w h => (gt_wsX80 w h).1
theorem nlw_X9 : ∀ w ∈ u_ws RX9 TX9 3, w ∈ lw_tbl := fun w h => (gt_wsX90 w h).1
