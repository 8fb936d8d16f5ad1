/-! WORDS of the outer class's methods where they don't throw: their own links, the classes' words, their callees' -/
theorem gw_self {ws : List Cond} (h : ws.all goodWord = true) : GoodIn ws ws := goodIn_sub (fun _ h => h) h
theorem gw_l {a b ws : List Cond} (h : GoodIn a ws) : GoodIn (a ++ b) ws := fun w hw => ⟨List.mem_append_left _ (h w hw).1, (h w hw).2⟩
theorem gw_r {a b ws : List Cond} (h : GoodIn b ws) : GoodIn (a ++ b) ws := fun w hw => ⟨List.mem_append_right _ (h w hw).1, (h w hw).2⟩
theorem gw_c {c : Cond} {b ws : List Cond} (h : GoodIn b ws) : GoodIn (c :: b) ws := fun w hw => ⟨List.mem_cons_of_mem _ (h w hw).1, (h w hw).2⟩
theorem mw_l {a b ws : List Cond} (h : ∀ w ∈ ws, w ∈ a) : ∀ w ∈ ws, w ∈ a ++ b := fun w hw => List.mem_append_left _ (h w hw)
theorem mw_r {a b ws : List Cond} (h : ∀ w ∈ ws, w ∈ b) : ∀ w ∈ ws, w ∈ a ++ b := fun w hw => List.mem_append_right _ (h w hw)
theorem mw_c {c : Cond} {b ws : List Cond} (h : ∀ w ∈ ws, w ∈ b) : ∀ w ∈ ws, w ∈ c :: b := fun w hw => List.mem_cons_of_mem _ (h w hw)

noncomputable def w8_checkNumber : List Cond := .code yX8_checkNumber cX8_checkNumber 2 none :: ([] ++ [])
noncomputable def w8_checkWithin : List Cond := .code yX8_checkWithin cX8_checkWithin 3 none :: ([] ++ [])
noncomputable def w8_many : List Cond := .code yX8_many cX8_many 2 (some .int) :: ([.fieldLink RX8 35 "ScopeRow" "answers" "LScopeRow$Answers;"] ++ (wsX80 ++ (va_wsS RX8 90 yX8_checkWithin w8_checkWithin ++ (wsV RX8 140 RX0 yX0_howMany wsX0_howMany ++ []))))
theorem n8_many_X8 : ∀ w ∈ u_ws RX8 TX8 7, w ∈ w8_many := mw_c (mw_r (mw_l (fun _ h => h)))
theorem g8_many_X8_checkWithin : GoodIn w8_many (va_wsS RX8 90 yX8_checkWithin w8_checkWithin) := gw_c (gw_r (gw_r (gw_l (gw_self (by decide +kernel)))))
theorem g8_many_X0_howMany : GoodIn w8_many (wsV RX8 140 RX0 yX0_howMany wsX0_howMany) := gw_c (gw_r (gw_r (gw_r (gw_l (gw_self (by decide +kernel))))))
noncomputable def w8_stuck : List Cond := .code yX8_stuck cX8_stuck 1 (some .int) :: ([.fieldLink RX8 35 "ScopeRow" "answers" "LScopeRow$Answers;"] ++ (wsX80 ++ (wsV RX8 146 RX0 yX0_countStuck wsX0_countStuck ++ [])))
theorem n8_stuck_X8 : ∀ w ∈ u_ws RX8 TX8 7, w ∈ w8_stuck := mw_c (mw_r (mw_l (fun _ h => h)))
theorem g8_stuck_X0_countStuck : GoodIn w8_stuck (wsV RX8 146 RX0 yX0_countStuck wsX0_countStuck) := gw_c (gw_r (gw_r (gw_l (gw_self (by decide +kernel)))))
noncomputable def w8_ofTask : List Cond := .code yX8_ofTask cX8_ofTask 3 (some .int) :: ([.fieldLink RX8 19 "ScopeRow" "state" "LScopeRow$State;", .fieldLink RX8 94 "ScopeRow$State" "taskCount" "I", .fieldLink RX8 35 "ScopeRow" "answers" "LScopeRow$Answers;"] ++ (wsX80 ++ (wsX60 ++ (va_wsS RX8 63 yX8_checkNumber w8_checkNumber ++ (va_wsS RX8 90 yX8_checkWithin w8_checkWithin ++ (wsV RX8 125 RX0 yX0_aboutTask wsX0_aboutTask ++ []))))))
theorem n8_ofTask_X8 : ∀ w ∈ u_ws RX8 TX8 7, w ∈ w8_ofTask := mw_c (mw_r (mw_l (fun _ h => h)))
theorem n8_ofTask_X6 : ∀ w ∈ u_ws RX6 TX6 12, w ∈ w8_ofTask := mw_c (mw_r (mw_r (mw_l (fun _ h => h))))
theorem g8_ofTask_X8_checkNumber : GoodIn w8_ofTask (va_wsS RX8 63 yX8_checkNumber w8_checkNumber) := gw_c (gw_r (gw_r (gw_r (gw_l (gw_self (by decide +kernel))))))
theorem g8_ofTask_X8_checkWithin : GoodIn w8_ofTask (va_wsS RX8 90 yX8_checkWithin w8_checkWithin) := gw_c (gw_r (gw_r (gw_r (gw_r (gw_l (gw_self (by decide +kernel)))))))
theorem g8_ofTask_X0_aboutTask : GoodIn w8_ofTask (wsV RX8 125 RX0 yX0_aboutTask wsX0_aboutTask) := gw_c (gw_r (gw_r (gw_r (gw_r (gw_r (gw_l (gw_self (by decide +kernel))))))))
noncomputable def w8_ofScope : List Cond := .code yX8_ofScope cX8_ofScope 3 (some .int) :: ([.fieldLink RX8 19 "ScopeRow" "state" "LScopeRow$State;", .fieldLink RX8 114 "ScopeRow$State" "scopeCount" "I", .fieldLink RX8 35 "ScopeRow" "answers" "LScopeRow$Answers;"] ++ (wsX80 ++ (wsX60 ++ (va_wsS RX8 63 yX8_checkNumber w8_checkNumber ++ (va_wsS RX8 90 yX8_checkWithin w8_checkWithin ++ (wsV RX8 131 RX0 yX0_aboutScope wsX0_aboutScope ++ []))))))
theorem n8_ofScope_X8 : ∀ w ∈ u_ws RX8 TX8 7, w ∈ w8_ofScope := mw_c (mw_r (mw_l (fun _ h => h)))
theorem n8_ofScope_X6 : ∀ w ∈ u_ws RX6 TX6 12, w ∈ w8_ofScope := mw_c (mw_r (mw_r (mw_l (fun _ h => h))))
theorem g8_ofScope_X8_checkNumber : GoodIn w8_ofScope (va_wsS RX8 63 yX8_checkNumber w8_checkNumber) := gw_c (gw_r (gw_r (gw_r (gw_l (gw_self (by decide +kernel))))))
theorem g8_ofScope_X8_checkWithin : GoodIn w8_ofScope (va_wsS RX8 90 yX8_checkWithin w8_checkWithin) := gw_c (gw_r (gw_r (gw_r (gw_r (gw_l (gw_self (by decide +kernel)))))))
theorem g8_ofScope_X0_aboutScope : GoodIn w8_ofScope (wsV RX8 131 RX0 yX0_aboutScope wsX0_aboutScope) := gw_c (gw_r (gw_r (gw_r (gw_r (gw_r (gw_l (gw_self (by decide +kernel))))))))
noncomputable def w8_ofLock : List Cond := .code yX8_ofLock cX8_ofLock 3 (some .int) :: ([.fieldLink RX8 35 "ScopeRow" "answers" "LScopeRow$Answers;"] ++ (wsX80 ++ (va_wsS RX8 63 yX8_checkNumber w8_checkNumber ++ (va_wsS RX8 90 yX8_checkWithin w8_checkWithin ++ (wsV RX8 134 RX0 yX0_aboutLock wsX0_aboutLock ++ [])))))
theorem n8_ofLock_X8 : ∀ w ∈ u_ws RX8 TX8 7, w ∈ w8_ofLock := mw_c (mw_r (mw_l (fun _ h => h)))
theorem g8_ofLock_X8_checkNumber : GoodIn w8_ofLock (va_wsS RX8 63 yX8_checkNumber w8_checkNumber) := gw_c (gw_r (gw_r (gw_l (gw_self (by decide +kernel)))))
theorem g8_ofLock_X8_checkWithin : GoodIn w8_ofLock (va_wsS RX8 90 yX8_checkWithin w8_checkWithin) := gw_c (gw_r (gw_r (gw_r (gw_l (gw_self (by decide +kernel))))))
theorem g8_ofLock_X0_aboutLock : GoodIn w8_ofLock (wsV RX8 134 RX0 yX0_aboutLock wsX0_aboutLock) := gw_c (gw_r (gw_r (gw_r (gw_r (gw_l (gw_self (by decide +kernel)))))))
noncomputable def w8_ofChannel : List Cond := .code yX8_ofChannel cX8_ofChannel 3 (some .int) :: ([.fieldLink RX8 35 "ScopeRow" "answers" "LScopeRow$Answers;"] ++ (wsX80 ++ (va_wsS RX8 63 yX8_checkNumber w8_checkNumber ++ (va_wsS RX8 90 yX8_checkWithin w8_checkWithin ++ (wsV RX8 137 RX0 yX0_aboutChannel wsX0_aboutChannel ++ [])))))
theorem n8_ofChannel_X8 : ∀ w ∈ u_ws RX8 TX8 7, w ∈ w8_ofChannel := mw_c (mw_r (mw_l (fun _ h => h)))
theorem g8_ofChannel_X8_checkNumber : GoodIn w8_ofChannel (va_wsS RX8 63 yX8_checkNumber w8_checkNumber) := gw_c (gw_r (gw_r (gw_l (gw_self (by decide +kernel)))))
theorem g8_ofChannel_X8_checkWithin : GoodIn w8_ofChannel (va_wsS RX8 90 yX8_checkWithin w8_checkWithin) := gw_c (gw_r (gw_r (gw_r (gw_l (gw_self (by decide +kernel))))))
theorem g8_ofChannel_X0_aboutChannel : GoodIn w8_ofChannel (wsV RX8 137 RX0 yX0_aboutChannel wsX0_aboutChannel) := gw_c (gw_r (gw_r (gw_r (gw_r (gw_l (gw_self (by decide +kernel)))))))
noncomputable def w8_wouldHit : List Cond := .code yX8_wouldHit cX8_wouldHit 2 (some .int) :: ([.fieldLink RX8 19 "ScopeRow" "state" "LScopeRow$State;", .fieldLink RX8 114 "ScopeRow$State" "scopeCount" "I", .fieldLink RX8 35 "ScopeRow" "answers" "LScopeRow$Answers;"] ++ (wsX80 ++ (wsX60 ++ (va_wsS RX8 63 yX8_checkNumber w8_checkNumber ++ (wsV RX8 149 RX0 yX0_countNewlyHit wsX0_countNewlyHit ++ [])))))
theorem n8_wouldHit_X8 : ∀ w ∈ u_ws RX8 TX8 7, w ∈ w8_wouldHit := mw_c (mw_r (mw_l (fun _ h => h)))
theorem n8_wouldHit_X6 : ∀ w ∈ u_ws RX6 TX6 12, w ∈ w8_wouldHit := mw_c (mw_r (mw_r (mw_l (fun _ h => h))))
theorem g8_wouldHit_X8_checkNumber : GoodIn w8_wouldHit (va_wsS RX8 63 yX8_checkNumber w8_checkNumber) := gw_c (gw_r (gw_r (gw_r (gw_l (gw_self (by decide +kernel))))))
theorem g8_wouldHit_X0_countNewlyHit : GoodIn w8_wouldHit (wsV RX8 149 RX0 yX0_countNewlyHit wsX0_countNewlyHit) := gw_c (gw_r (gw_r (gw_r (gw_r (gw_l (gw_self (by decide +kernel)))))))
noncomputable def w8_run : List Cond := .code yX8_run cX8_run 2 (some .int) :: ([.fieldLink RX8 28 "ScopeRow" "runner" "LScopeRow$Runner;"] ++ (wsX80 ++ (va_wsS RX8 90 yX8_checkWithin w8_checkWithin ++ (wsV RX8 108 RX4 yX4_takeTurns wsX4_takeTurns ++ []))))
theorem n8_run_X8 : ∀ w ∈ u_ws RX8 TX8 7, w ∈ w8_run := mw_c (mw_r (mw_l (fun _ h => h)))
theorem g8_run_X8_checkWithin : GoodIn w8_run (va_wsS RX8 90 yX8_checkWithin w8_checkWithin) := gw_c (gw_r (gw_r (gw_l (gw_self (by decide +kernel)))))
theorem g8_run_X4_takeTurns : GoodIn w8_run (wsV RX8 108 RX4 yX4_takeTurns wsX4_takeTurns) := gw_c (gw_r (gw_r (gw_r (gw_l (gw_self (by decide +kernel))))))
noncomputable def w8_tick : List Cond := .code yX8_tick cX8_tick 4 (some .int) :: ([.fieldLink RX8 19 "ScopeRow" "state" "LScopeRow$State;"] ++ (wsX80 ++ (va_wsS RX8 90 yX8_checkWithin w8_checkWithin ++ (wsV RX8 111 RX6 yX6_tickOnce wsX6_tickOnce ++ []))))
theorem n8_tick_X8 : ∀ w ∈ u_ws RX8 TX8 7, w ∈ w8_tick := mw_c (mw_r (mw_l (fun _ h => h)))
theorem g8_tick_X8_checkWithin : GoodIn w8_tick (va_wsS RX8 90 yX8_checkWithin w8_checkWithin) := gw_c (gw_r (gw_r (gw_l (gw_self (by decide +kernel)))))
theorem g8_tick_X6_tickOnce : GoodIn w8_tick (wsV RX8 111 RX6 yX6_tickOnce wsX6_tickOnce) := gw_c (gw_r (gw_r (gw_r (gw_l (gw_self (by decide +kernel))))))
noncomputable def w8_start : List Cond := .code yX8_start cX8_start 3 (some .int) :: ([.fieldLink RX8 12 "ScopeRow" "program" "LScopeRow$Program;", .fieldLink RX8 48 "ScopeRow$Program" "bodies" "I", .fieldLink RX8 19 "ScopeRow" "state" "LScopeRow$State;"] ++ (wsX80 ++ (wsX30 ++ (va_wsS RX8 63 yX8_checkNumber w8_checkNumber ++ (wsV RX8 103 RX6 yX6_makeTask wsX6_makeTask ++ [])))))
theorem n8_start_X8 : ∀ w ∈ u_ws RX8 TX8 7, w ∈ w8_start := mw_c (mw_r (mw_l (fun _ h => h)))
theorem n8_start_X3 : ∀ w ∈ u_ws RX3 TX3 5, w ∈ w8_start := mw_c (mw_r (mw_r (mw_l (fun _ h => h))))
theorem g8_start_X8_checkNumber : GoodIn w8_start (va_wsS RX8 63 yX8_checkNumber w8_checkNumber) := gw_c (gw_r (gw_r (gw_r (gw_l (gw_self (by decide +kernel))))))
theorem g8_start_X6_makeTask : GoodIn w8_start (wsV RX8 103 RX6 yX6_makeTask wsX6_makeTask) := gw_c (gw_r (gw_r (gw_r (gw_r (gw_l (gw_self (by decide +kernel)))))))
noncomputable def w8_cancel : List Cond := .code yX8_cancel cX8_cancel 2 (some .boolean) :: ([.fieldLink RX8 19 "ScopeRow" "state" "LScopeRow$State;", .fieldLink RX8 114 "ScopeRow$State" "scopeCount" "I"] ++ (wsX80 ++ (wsX60 ++ (va_wsS RX8 63 yX8_checkNumber w8_checkNumber ++ (wsV RX8 117 RX6 yX6_scopeAt wsX6_scopeAt ++ (wsV RX8 121 RX6 yX6_cancelScope wsX6_cancelScope ++ []))))))
theorem n8_cancel_X8 : ∀ w ∈ u_ws RX8 TX8 7, w ∈ w8_cancel := mw_c (mw_r (mw_l (fun _ h => h)))
theorem n8_cancel_X6 : ∀ w ∈ u_ws RX6 TX6 12, w ∈ w8_cancel := mw_c (mw_r (mw_r (mw_l (fun _ h => h))))
theorem g8_cancel_X8_checkNumber : GoodIn w8_cancel (va_wsS RX8 63 yX8_checkNumber w8_checkNumber) := gw_c (gw_r (gw_r (gw_r (gw_l (gw_self (by decide +kernel))))))
theorem g8_cancel_X6_scopeAt : GoodIn w8_cancel (wsV RX8 117 RX6 yX6_scopeAt wsX6_scopeAt) := gw_c (gw_r (gw_r (gw_r (gw_r (gw_l (gw_self (by decide +kernel)))))))
theorem g8_cancel_X6_cancelScope : GoodIn w8_cancel (wsV RX8 121 RX6 yX6_cancelScope wsX6_cancelScope) := gw_c (gw_r (gw_r (gw_r (gw_r (gw_r (gw_l (gw_self (by decide +kernel))))))))
noncomputable def w8_body : List Cond := .code yX8_body cX8_body 1 (some .int) :: ([.fieldLink RX8 12 "ScopeRow" "program" "LScopeRow$Program;", .fieldLink RX8 48 "ScopeRow$Program" "bodies" "I"] ++ (wsX80 ++ (wsX30 ++ (wsV RX8 59 RX3 yX3_addBody wsX3_addBody ++ []))))
theorem n8_body_X8 : ∀ w ∈ u_ws RX8 TX8 7, w ∈ w8_body := mw_c (mw_r (mw_l (fun _ h => h)))
theorem n8_body_X3 : ∀ w ∈ u_ws RX3 TX3 5, w ∈ w8_body := mw_c (mw_r (mw_r (mw_l (fun _ h => h))))
theorem g8_body_X3_addBody : GoodIn w8_body (wsV RX8 59 RX3 yX3_addBody wsX3_addBody) := gw_c (gw_r (gw_r (gw_r (gw_l (gw_self (by decide +kernel))))))
noncomputable def w8_line : List Cond := .code yX8_line cX8_line 6 (some .int) :: ([.fieldLink RX8 12 "ScopeRow" "program" "LScopeRow$Program;", .fieldLink RX8 48 "ScopeRow$Program" "bodies" "I", .fieldLink RX8 19 "ScopeRow" "state" "LScopeRow$State;"] ++ (wsX80 ++ (wsX30 ++ (va_wsS RX8 63 yX8_checkNumber w8_checkNumber ++ (wsV RX8 67 RX3 yX3_linesOf wsX3_linesOf ++ (va_wsS RX8 71 yX3_fits wsX3_fits ++ (wsV RX8 80 RX6 yX6_isUsed wsX6_isUsed ++ (wsV RX8 86 RX3 yX3_addLine wsX3_addLine ++ []))))))))
theorem n8_line_X8 : ∀ w ∈ u_ws RX8 TX8 7, w ∈ w8_line := mw_c (mw_r (mw_l (fun _ h => h)))
theorem n8_line_X3 : ∀ w ∈ u_ws RX3 TX3 5, w ∈ w8_line := mw_c (mw_r (mw_r (mw_l (fun _ h => h))))
theorem g8_line_X8_checkNumber : GoodIn w8_line (va_wsS RX8 63 yX8_checkNumber w8_checkNumber) := gw_c (gw_r (gw_r (gw_r (gw_l (gw_self (by decide +kernel))))))
theorem g8_line_X3_linesOf : GoodIn w8_line (wsV RX8 67 RX3 yX3_linesOf wsX3_linesOf) := gw_c (gw_r (gw_r (gw_r (gw_r (gw_l (gw_self (by decide +kernel)))))))
theorem g8_line_X3_fits : GoodIn w8_line (va_wsS RX8 71 yX3_fits wsX3_fits) := gw_c (gw_r (gw_r (gw_r (gw_r (gw_r (gw_l (gw_self (by decide +kernel))))))))
theorem g8_line_X6_isUsed : GoodIn w8_line (wsV RX8 80 RX6 yX6_isUsed wsX6_isUsed) := gw_c (gw_r (gw_r (gw_r (gw_r (gw_r (gw_r (gw_l (gw_self (by decide +kernel)))))))))
theorem g8_line_X3_addLine : GoodIn w8_line (wsV RX8 86 RX3 yX3_addLine wsX3_addLine) := gw_c (gw_r (gw_r (gw_r (gw_r (gw_r (gw_r (gw_r (gw_l (gw_self (by decide +kernel))))))))))
noncomputable def w8_overAfter : List Cond := .code yX8_overAfter cX8_overAfter 4 (some .int) :: ([.fieldLink RX8 39 "ScopeRow" "trial" "LScopeRow$State;", .fieldLink RX8 19 "ScopeRow" "state" "LScopeRow$State;", .fieldLink RX8 42 "ScopeRow" "trialRunner" "LScopeRow$Runner;", .fieldLink RX8 45 "ScopeRow" "trialAnswers" "LScopeRow$Answers;"] ++ (wsX80 ++ (wsV RX8 155 RX6 yX6_copyFrom wsX6_copyFrom ++ (wsV RX8 111 RX6 yX6_tickOnce wsX6_tickOnce ++ (wsV RX8 108 RX4 yX4_takeTurns wsX4_takeTurns ++ (wsV RX8 173 RX0 yX0_countOver wsX0_countOver ++ []))))))
theorem n8_overAfter_X8 : ∀ w ∈ u_ws RX8 TX8 7, w ∈ w8_overAfter := mw_c (mw_r (mw_l (fun _ h => h)))
theorem g8_overAfter_X6_copyFrom : GoodIn w8_overAfter (wsV RX8 155 RX6 yX6_copyFrom wsX6_copyFrom) := gw_c (gw_r (gw_r (gw_l (gw_self (by decide +kernel)))))
theorem g8_overAfter_X6_tickOnce : GoodIn w8_overAfter (wsV RX8 111 RX6 yX6_tickOnce wsX6_tickOnce) := gw_c (gw_r (gw_r (gw_r (gw_l (gw_self (by decide +kernel))))))
theorem g8_overAfter_X4_takeTurns : GoodIn w8_overAfter (wsV RX8 108 RX4 yX4_takeTurns wsX4_takeTurns) := gw_c (gw_r (gw_r (gw_r (gw_r (gw_l (gw_self (by decide +kernel)))))))
theorem g8_overAfter_X0_countOver : GoodIn w8_overAfter (wsV RX8 173 RX0 yX0_countOver wsX0_countOver) := gw_c (gw_r (gw_r (gw_r (gw_r (gw_r (gw_l (gw_self (by decide +kernel))))))))
noncomputable def w8_overBy : List Cond := .code yX8_overBy cX8_overBy 3 (some .int) :: ([] ++ (va_wsS RX8 90 yX8_checkWithin w8_checkWithin ++ (wsV RX8 152 RX8 yX8_overAfter w8_overAfter ++ [])))
theorem g8_overBy_X8_checkWithin : GoodIn w8_overBy (va_wsS RX8 90 yX8_checkWithin w8_checkWithin) := gw_c (gw_r (gw_l (gw_self (by decide +kernel))))
theorem g8_overBy_X8_overAfter : GoodIn w8_overBy (wsV RX8 152 RX8 yX8_overAfter w8_overAfter) := gw_c (gw_r (gw_r (gw_l (gw_self (by decide +kernel)))))
noncomputable def w8_digest : List Cond := .code yX8_digest cX8_digest 4 (some .long) :: ([.constantLong RX8 159 (7614), .constantLong RX8 161 (31), .fieldLink RX8 35 "ScopeRow" "answers" "LScopeRow$Answers;"] ++ (wsX80 ++ (wsV RX8 140 RX0 yX0_howMany wsX0_howMany ++ (wsV RX8 163 RX0 yX0_digestTasks wsX0_digestTasks ++ (wsV RX8 167 RX0 yX0_digestScopes wsX0_digestScopes ++ (wsV RX8 170 RX0 yX0_digestLocksAndChannels wsX0_digestLocksAndChannels ++ (wsV RX8 146 RX0 yX0_countStuck wsX0_countStuck ++ (wsV RX8 152 RX8 yX8_overAfter w8_overAfter ++ []))))))))
theorem n8_digest_X8 : ∀ w ∈ u_ws RX8 TX8 7, w ∈ w8_digest := mw_c (mw_r (mw_l (fun _ h => h)))
theorem g8_digest_X0_howMany : GoodIn w8_digest (wsV RX8 140 RX0 yX0_howMany wsX0_howMany) := gw_c (gw_r (gw_r (gw_l (gw_self (by decide +kernel)))))
theorem g8_digest_X0_digestTasks : GoodIn w8_digest (wsV RX8 163 RX0 yX0_digestTasks wsX0_digestTasks) := gw_c (gw_r (gw_r (gw_r (gw_l (gw_self (by decide +kernel))))))
theorem g8_digest_X0_digestScopes : GoodIn w8_digest (wsV RX8 167 RX0 yX0_digestScopes wsX0_digestScopes) := gw_c (gw_r (gw_r (gw_r (gw_r (gw_l (gw_self (by decide +kernel)))))))
theorem g8_digest_X0_digestLocksAndChannels : GoodIn w8_digest (wsV RX8 170 RX0 yX0_digestLocksAndChannels wsX0_digestLocksAndChannels) := gw_c (gw_r (gw_r (gw_r (gw_r (gw_r (gw_l (gw_self (by decide +kernel))))))))
theorem g8_digest_X0_countStuck : GoodIn w8_digest (wsV RX8 146 RX0 yX0_countStuck wsX0_countStuck) := gw_c (gw_r (gw_r (gw_r (gw_r (gw_r (gw_r (gw_l (gw_self (by decide +kernel)))))))))
theorem g8_digest_X8_overAfter : GoodIn w8_digest (wsV RX8 152 RX8 yX8_overAfter w8_overAfter) := gw_c (gw_r (gw_r (gw_r (gw_r (gw_r (gw_r (gw_r (gw_l (gw_self (by decide +kernel))))))))))
theorem dX8_body_0 : decode cX8_body 0 = .ok (.aload_n 0, 1) := by decide +kernel
theorem dX8_body_1 : decode cX8_body 1 = .ok (.getfield 12, 3) := by decide +kernel
theorem dX8_body_4 : decode cX8_body 4 = .ok (.getfield 48, 3) := by decide +kernel
theorem dX8_body_7 : decode cX8_body 7 = .ok (.bipush 8, 2) := by decide +kernel
theorem dX8_body_9 : decode cX8_body 9 = .ok (.if_icmp .lt 13, 3) := by decide +kernel
theorem dX8_body_12 : decode cX8_body 12 = .ok (.new 52, 3) := by decide +kernel
theorem dX8_body_15 : decode cX8_body 15 = .ok (.dup, 1) := by decide +kernel
theorem dX8_body_16 : decode cX8_body 16 = .ok (.ldc 54, 2) := by decide +kernel
theorem dX8_body_18 : decode cX8_body 18 = .ok (.invokespecial 56, 3) := by decide +kernel
theorem dX8_body_21 : decode cX8_body 21 = .ok (.athrow, 1) := by decide +kernel
theorem dX8_body_22 : decode cX8_body 22 = .ok (.aload_n 0, 1) := by decide +kernel
theorem dX8_body_23 : decode cX8_body 23 = .ok (.getfield 12, 3) := by decide +kernel
theorem dX8_body_26 : decode cX8_body 26 = .ok (.invokevirtual 59, 3) := by decide +kernel
theorem dX8_body_29 : decode cX8_body 29 = .ok (.ireturn, 1) := by decide +kernel
theorem dX8_line_0 : decode cX8_line 0 = .ok (.iload_n 1, 1) := by decide +kernel
theorem dX8_line_1 : decode cX8_line 1 = .ok (.aload_n 0, 1) := by decide +kernel
theorem dX8_line_2 : decode cX8_line 2 = .ok (.getfield 12, 3) := by decide +kernel
theorem dX8_line_5 : decode cX8_line 5 = .ok (.getfield 48, 3) := by decide +kernel
theorem dX8_line_8 : decode cX8_line 8 = .ok (.invokestatic 63, 3) := by decide +kernel
theorem dX8_line_11 : decode cX8_line 11 = .ok (.aload_n 0, 1) := by decide +kernel
theorem dX8_line_12 : decode cX8_line 12 = .ok (.getfield 12, 3) := by decide +kernel
theorem dX8_line_15 : decode cX8_line 15 = .ok (.iload_n 1, 1) := by decide +kernel
theorem dX8_line_16 : decode cX8_line 16 = .ok (.invokevirtual 67, 3) := by decide +kernel
theorem dX8_line_19 : decode cX8_line 19 = .ok (.istore 5, 2) := by decide +kernel
theorem dX8_line_21 : decode cX8_line 21 = .ok (.iload_n 2, 1) := by decide +kernel
theorem dX8_line_22 : decode cX8_line 22 = .ok (.iload_n 3, 1) := by decide +kernel
theorem dX8_line_23 : decode cX8_line 23 = .ok (.iload 4, 2) := by decide +kernel
theorem dX8_line_25 : decode cX8_line 25 = .ok (.iload 5, 2) := by decide +kernel
theorem dX8_line_27 : decode cX8_line 27 = .ok (.invokestatic 71, 3) := by decide +kernel
theorem dX8_line_30 : decode cX8_line 30 = .ok (.ifCond .ne 13, 3) := by decide +kernel
theorem dX8_line_33 : decode cX8_line 33 = .ok (.new 75, 3) := by decide +kernel
theorem dX8_line_36 : decode cX8_line 36 = .ok (.dup, 1) := by decide +kernel
theorem dX8_line_37 : decode cX8_line 37 = .ok (.ldc 77, 2) := by decide +kernel
theorem dX8_line_39 : decode cX8_line 39 = .ok (.invokespecial 79, 3) := by decide +kernel
theorem dX8_line_42 : decode cX8_line 42 = .ok (.athrow, 1) := by decide +kernel
theorem dX8_line_43 : decode cX8_line 43 = .ok (.iload 5, 2) := by decide +kernel
theorem dX8_line_45 : decode cX8_line 45 = .ok (.bipush 12, 2) := by decide +kernel
theorem dX8_line_47 : decode cX8_line 47 = .ok (.if_icmp .ge 14, 3) := by decide +kernel
theorem dX8_line_50 : decode cX8_line 50 = .ok (.aload_n 0, 1) := by decide +kernel
theorem dX8_line_51 : decode cX8_line 51 = .ok (.getfield 19, 3) := by decide +kernel
theorem dX8_line_54 : decode cX8_line 54 = .ok (.iload_n 1, 1) := by decide +kernel
theorem dX8_line_55 : decode cX8_line 55 = .ok (.invokevirtual 80, 3) := by decide +kernel
theorem dX8_line_58 : decode cX8_line 58 = .ok (.ifCond .eq 13, 3) := by decide +kernel
theorem dX8_line_61 : decode cX8_line 61 = .ok (.new 52, 3) := by decide +kernel
theorem dX8_line_64 : decode cX8_line 64 = .ok (.dup, 1) := by decide +kernel
theorem dX8_line_65 : decode cX8_line 65 = .ok (.ldc 84, 2) := by decide +kernel
theorem dX8_line_67 : decode cX8_line 67 = .ok (.invokespecial 56, 3) := by decide +kernel
theorem dX8_line_70 : decode cX8_line 70 = .ok (.athrow, 1) := by decide +kernel
theorem dX8_line_71 : decode cX8_line 71 = .ok (.aload_n 0, 1) := by decide +kernel
theorem dX8_line_72 : decode cX8_line 72 = .ok (.getfield 12, 3) := by decide +kernel
theorem dX8_line_75 : decode cX8_line 75 = .ok (.iload_n 1, 1) := by decide +kernel
theorem dX8_line_76 : decode cX8_line 76 = .ok (.iload_n 2, 1) := by decide +kernel
theorem dX8_line_77 : decode cX8_line 77 = .ok (.iload_n 3, 1) := by decide +kernel
theorem dX8_line_78 : decode cX8_line 78 = .ok (.iload 4, 2) := by decide +kernel
theorem dX8_line_80 : decode cX8_line 80 = .ok (.invokevirtual 86, 3) := by decide +kernel
theorem dX8_line_83 : decode cX8_line 83 = .ok (.iload 5, 2) := by decide +kernel
theorem dX8_line_85 : decode cX8_line 85 = .ok (.ireturn, 1) := by decide +kernel
theorem dX8_start_0 : decode cX8_start 0 = .ok (.iload_n 1, 1) := by decide +kernel
theorem dX8_start_1 : decode cX8_start 1 = .ok (.aload_n 0, 1) := by decide +kernel
theorem dX8_start_2 : decode cX8_start 2 = .ok (.getfield 12, 3) := by decide +kernel
theorem dX8_start_5 : decode cX8_start 5 = .ok (.getfield 48, 3) := by decide +kernel
theorem dX8_start_8 : decode cX8_start 8 = .ok (.invokestatic 63, 3) := by decide +kernel
theorem dX8_start_11 : decode cX8_start 11 = .ok (.aload_n 0, 1) := by decide +kernel
theorem dX8_start_12 : decode cX8_start 12 = .ok (.getfield 19, 3) := by decide +kernel
theorem dX8_start_15 : decode cX8_start 15 = .ok (.iload_n 1, 1) := by decide +kernel
theorem dX8_start_16 : decode cX8_start 16 = .ok (.iconst (-1), 1) := by decide +kernel
theorem dX8_start_17 : decode cX8_start 17 = .ok (.invokevirtual 103, 3) := by decide +kernel
theorem dX8_start_20 : decode cX8_start 20 = .ok (.istore_n 2, 1) := by decide +kernel
theorem dX8_start_21 : decode cX8_start 21 = .ok (.iload_n 2, 1) := by decide +kernel
theorem dX8_start_22 : decode cX8_start 22 = .ok (.iconst (-1), 1) := by decide +kernel
theorem dX8_start_23 : decode cX8_start 23 = .ok (.if_icmp .ne 13, 3) := by decide +kernel
theorem dX8_start_26 : decode cX8_start 26 = .ok (.new 52, 3) := by decide +kernel
theorem dX8_start_29 : decode cX8_start 29 = .ok (.dup, 1) := by decide +kernel
theorem dX8_start_30 : decode cX8_start 30 = .ok (.ldc 106, 2) := by decide +kernel
theorem dX8_start_32 : decode cX8_start 32 = .ok (.invokespecial 56, 3) := by decide +kernel
theorem dX8_start_35 : decode cX8_start 35 = .ok (.athrow, 1) := by decide +kernel
theorem dX8_start_36 : decode cX8_start 36 = .ok (.iload_n 2, 1) := by decide +kernel
theorem dX8_start_37 : decode cX8_start 37 = .ok (.ireturn, 1) := by decide +kernel
theorem dX8_run_0 : decode cX8_run 0 = .ok (.iload_n 1, 1) := by decide +kernel
theorem dX8_run_1 : decode cX8_run 1 = .ok (.iconst 1, 1) := by decide +kernel
theorem dX8_run_2 : decode cX8_run 2 = .ok (.bipush 50, 2) := by decide +kernel
theorem dX8_run_4 : decode cX8_run 4 = .ok (.invokestatic 90, 3) := by decide +kernel
theorem dX8_run_7 : decode cX8_run 7 = .ok (.aload_n 0, 1) := by decide +kernel
theorem dX8_run_8 : decode cX8_run 8 = .ok (.getfield 28, 3) := by decide +kernel
theorem dX8_run_11 : decode cX8_run 11 = .ok (.iload_n 1, 1) := by decide +kernel
theorem dX8_run_12 : decode cX8_run 12 = .ok (.invokevirtual 108, 3) := by decide +kernel
theorem dX8_run_15 : decode cX8_run 15 = .ok (.ireturn, 1) := by decide +kernel
theorem dX8_tick_0 : decode cX8_tick 0 = .ok (.iload_n 1, 1) := by decide +kernel
theorem dX8_tick_1 : decode cX8_tick 1 = .ok (.iconst 1, 1) := by decide +kernel
theorem dX8_tick_2 : decode cX8_tick 2 = .ok (.bipush 20, 2) := by decide +kernel
theorem dX8_tick_4 : decode cX8_tick 4 = .ok (.invokestatic 90, 3) := by decide +kernel
theorem dX8_tick_7 : decode cX8_tick 7 = .ok (.iconst 0, 1) := by decide +kernel
theorem dX8_tick_8 : decode cX8_tick 8 = .ok (.istore_n 2, 1) := by decide +kernel
theorem dX8_tick_9 : decode cX8_tick 9 = .ok (.iconst 0, 1) := by decide +kernel
theorem dX8_tick_10 : decode cX8_tick 10 = .ok (.istore_n 3, 1) := by decide +kernel
theorem dX8_tick_11 : decode cX8_tick 11 = .ok (.iload_n 3, 1) := by decide +kernel
theorem dX8_tick_12 : decode cX8_tick 12 = .ok (.iload_n 1, 1) := by decide +kernel
theorem dX8_tick_13 : decode cX8_tick 13 = .ok (.if_icmp .ge 19, 3) := by decide +kernel
theorem dX8_tick_16 : decode cX8_tick 16 = .ok (.iload_n 2, 1) := by decide +kernel
theorem dX8_tick_17 : decode cX8_tick 17 = .ok (.aload_n 0, 1) := by decide +kernel
theorem dX8_tick_18 : decode cX8_tick 18 = .ok (.getfield 19, 3) := by decide +kernel
theorem dX8_tick_21 : decode cX8_tick 21 = .ok (.invokevirtual 111, 3) := by decide +kernel
theorem dX8_tick_24 : decode cX8_tick 24 = .ok (.iadd, 1) := by decide +kernel
theorem dX8_tick_25 : decode cX8_tick 25 = .ok (.istore_n 2, 1) := by decide +kernel
theorem dX8_tick_26 : decode cX8_tick 26 = .ok (.iinc 3 1, 3) := by decide +kernel
theorem dX8_tick_29 : decode cX8_tick 29 = .ok (.goto (-18), 3) := by decide +kernel
theorem dX8_tick_32 : decode cX8_tick 32 = .ok (.iload_n 2, 1) := by decide +kernel
theorem dX8_tick_33 : decode cX8_tick 33 = .ok (.ireturn, 1) := by decide +kernel
theorem dX8_cancel_0 : decode cX8_cancel 0 = .ok (.iload_n 1, 1) := by decide +kernel
theorem dX8_cancel_1 : decode cX8_cancel 1 = .ok (.aload_n 0, 1) := by decide +kernel
theorem dX8_cancel_2 : decode cX8_cancel 2 = .ok (.getfield 19, 3) := by decide +kernel
theorem dX8_cancel_5 : decode cX8_cancel 5 = .ok (.getfield 114, 3) := by decide +kernel
theorem dX8_cancel_8 : decode cX8_cancel 8 = .ok (.invokestatic 63, 3) := by decide +kernel
theorem dX8_cancel_11 : decode cX8_cancel 11 = .ok (.aload_n 0, 1) := by decide +kernel
theorem dX8_cancel_12 : decode cX8_cancel 12 = .ok (.getfield 19, 3) := by decide +kernel
theorem dX8_cancel_15 : decode cX8_cancel 15 = .ok (.aload_n 0, 1) := by decide +kernel
theorem dX8_cancel_16 : decode cX8_cancel 16 = .ok (.getfield 19, 3) := by decide +kernel
theorem dX8_cancel_19 : decode cX8_cancel 19 = .ok (.iload_n 1, 1) := by decide +kernel
theorem dX8_cancel_20 : decode cX8_cancel 20 = .ok (.invokevirtual 117, 3) := by decide +kernel
theorem dX8_cancel_23 : decode cX8_cancel 23 = .ok (.invokevirtual 121, 3) := by decide +kernel
theorem dX8_cancel_26 : decode cX8_cancel 26 = .ok (.ireturn, 1) := by decide +kernel
theorem dX8_ofTask_0 : decode cX8_ofTask 0 = .ok (.iload_n 1, 1) := by decide +kernel
theorem dX8_ofTask_1 : decode cX8_ofTask 1 = .ok (.aload_n 0, 1) := by decide +kernel
theorem dX8_ofTask_2 : decode cX8_ofTask 2 = .ok (.getfield 19, 3) := by decide +kernel
theorem dX8_ofTask_5 : decode cX8_ofTask 5 = .ok (.getfield 94, 3) := by decide +kernel
theorem dX8_ofTask_8 : decode cX8_ofTask 8 = .ok (.invokestatic 63, 3) := by decide +kernel
theorem dX8_ofTask_11 : decode cX8_ofTask 11 = .ok (.iload_n 2, 1) := by decide +kernel
theorem dX8_ofTask_12 : decode cX8_ofTask 12 = .ok (.iconst 0, 1) := by decide +kernel
theorem dX8_ofTask_13 : decode cX8_ofTask 13 = .ok (.bipush 8, 2) := by decide +kernel
theorem dX8_ofTask_15 : decode cX8_ofTask 15 = .ok (.invokestatic 90, 3) := by decide +kernel
theorem dX8_ofTask_18 : decode cX8_ofTask 18 = .ok (.aload_n 0, 1) := by decide +kernel
theorem dX8_ofTask_19 : decode cX8_ofTask 19 = .ok (.getfield 35, 3) := by decide +kernel
theorem dX8_ofTask_22 : decode cX8_ofTask 22 = .ok (.iload_n 1, 1) := by decide +kernel
theorem dX8_ofTask_23 : decode cX8_ofTask 23 = .ok (.iload_n 2, 1) := by decide +kernel
theorem dX8_ofTask_24 : decode cX8_ofTask 24 = .ok (.invokevirtual 125, 3) := by decide +kernel
theorem dX8_ofTask_27 : decode cX8_ofTask 27 = .ok (.ireturn, 1) := by decide +kernel
theorem dX8_ofScope_0 : decode cX8_ofScope 0 = .ok (.iload_n 1, 1) := by decide +kernel
theorem dX8_ofScope_1 : decode cX8_ofScope 1 = .ok (.aload_n 0, 1) := by decide +kernel
theorem dX8_ofScope_2 : decode cX8_ofScope 2 = .ok (.getfield 19, 3) := by decide +kernel
theorem dX8_ofScope_5 : decode cX8_ofScope 5 = .ok (.getfield 114, 3) := by decide +kernel
theorem dX8_ofScope_8 : decode cX8_ofScope 8 = .ok (.invokestatic 63, 3) := by decide +kernel
theorem dX8_ofScope_11 : decode cX8_ofScope 11 = .ok (.iload_n 2, 1) := by decide +kernel
theorem dX8_ofScope_12 : decode cX8_ofScope 12 = .ok (.iconst 0, 1) := by decide +kernel
theorem dX8_ofScope_13 : decode cX8_ofScope 13 = .ok (.bipush 8, 2) := by decide +kernel
theorem dX8_ofScope_15 : decode cX8_ofScope 15 = .ok (.invokestatic 90, 3) := by decide +kernel
theorem dX8_ofScope_18 : decode cX8_ofScope 18 = .ok (.aload_n 0, 1) := by decide +kernel
theorem dX8_ofScope_19 : decode cX8_ofScope 19 = .ok (.getfield 35, 3) := by decide +kernel
theorem dX8_ofScope_22 : decode cX8_ofScope 22 = .ok (.iload_n 1, 1) := by decide +kernel
theorem dX8_ofScope_23 : decode cX8_ofScope 23 = .ok (.iload_n 2, 1) := by decide +kernel
theorem dX8_ofScope_24 : decode cX8_ofScope 24 = .ok (.invokevirtual 131, 3) := by decide +kernel
theorem dX8_ofScope_27 : decode cX8_ofScope 27 = .ok (.ireturn, 1) := by decide +kernel
theorem dX8_ofLock_0 : decode cX8_ofLock 0 = .ok (.iload_n 1, 1) := by decide +kernel
theorem dX8_ofLock_1 : decode cX8_ofLock 1 = .ok (.iconst 2, 1) := by decide +kernel
theorem dX8_ofLock_2 : decode cX8_ofLock 2 = .ok (.invokestatic 63, 3) := by decide +kernel
theorem dX8_ofLock_5 : decode cX8_ofLock 5 = .ok (.iload_n 2, 1) := by decide +kernel
theorem dX8_ofLock_6 : decode cX8_ofLock 6 = .ok (.iconst 0, 1) := by decide +kernel
theorem dX8_ofLock_7 : decode cX8_ofLock 7 = .ok (.iconst 3, 1) := by decide +kernel
theorem dX8_ofLock_8 : decode cX8_ofLock 8 = .ok (.invokestatic 90, 3) := by decide +kernel
theorem dX8_ofLock_11 : decode cX8_ofLock 11 = .ok (.aload_n 0, 1) := by decide +kernel
theorem dX8_ofLock_12 : decode cX8_ofLock 12 = .ok (.getfield 35, 3) := by decide +kernel
theorem dX8_ofLock_15 : decode cX8_ofLock 15 = .ok (.iload_n 1, 1) := by decide +kernel
theorem dX8_ofLock_16 : decode cX8_ofLock 16 = .ok (.iload_n 2, 1) := by decide +kernel
theorem dX8_ofLock_17 : decode cX8_ofLock 17 = .ok (.invokevirtual 134, 3) := by decide +kernel
theorem dX8_ofLock_20 : decode cX8_ofLock 20 = .ok (.ireturn, 1) := by decide +kernel
theorem dX8_ofChannel_0 : decode cX8_ofChannel 0 = .ok (.iload_n 1, 1) := by decide +kernel
theorem dX8_ofChannel_1 : decode cX8_ofChannel 1 = .ok (.iconst 2, 1) := by decide +kernel
theorem dX8_ofChannel_2 : decode cX8_ofChannel 2 = .ok (.invokestatic 63, 3) := by decide +kernel
theorem dX8_ofChannel_5 : decode cX8_ofChannel 5 = .ok (.iload_n 2, 1) := by decide +kernel
theorem dX8_ofChannel_6 : decode cX8_ofChannel 6 = .ok (.iconst 0, 1) := by decide +kernel
theorem dX8_ofChannel_7 : decode cX8_ofChannel 7 = .ok (.bipush 6, 2) := by decide +kernel
theorem dX8_ofChannel_9 : decode cX8_ofChannel 9 = .ok (.invokestatic 90, 3) := by decide +kernel
theorem dX8_ofChannel_12 : decode cX8_ofChannel 12 = .ok (.aload_n 0, 1) := by decide +kernel
theorem dX8_ofChannel_13 : decode cX8_ofChannel 13 = .ok (.getfield 35, 3) := by decide +kernel
theorem dX8_ofChannel_16 : decode cX8_ofChannel 16 = .ok (.iload_n 1, 1) := by decide +kernel
theorem dX8_ofChannel_17 : decode cX8_ofChannel 17 = .ok (.iload_n 2, 1) := by decide +kernel
theorem dX8_ofChannel_18 : decode cX8_ofChannel 18 = .ok (.invokevirtual 137, 3) := by decide +kernel
theorem dX8_ofChannel_21 : decode cX8_ofChannel 21 = .ok (.ireturn, 1) := by decide +kernel
theorem dX8_many_0 : decode cX8_many 0 = .ok (.iload_n 1, 1) := by decide +kernel
theorem dX8_many_1 : decode cX8_many 1 = .ok (.iconst 0, 1) := by decide +kernel
theorem dX8_many_2 : decode cX8_many 2 = .ok (.bipush 12, 2) := by decide +kernel
theorem dX8_many_4 : decode cX8_many 4 = .ok (.invokestatic 90, 3) := by decide +kernel
theorem dX8_many_7 : decode cX8_many 7 = .ok (.aload_n 0, 1) := by decide +kernel
theorem dX8_many_8 : decode cX8_many 8 = .ok (.getfield 35, 3) := by decide +kernel
theorem dX8_many_11 : decode cX8_many 11 = .ok (.iload_n 1, 1) := by decide +kernel
theorem dX8_many_12 : decode cX8_many 12 = .ok (.invokevirtual 140, 3) := by decide +kernel
theorem dX8_many_15 : decode cX8_many 15 = .ok (.ireturn, 1) := by decide +kernel
theorem dX8_stuck_0 : decode cX8_stuck 0 = .ok (.aload_n 0, 1) := by decide +kernel
theorem dX8_stuck_1 : decode cX8_stuck 1 = .ok (.getfield 35, 3) := by decide +kernel
theorem dX8_stuck_4 : decode cX8_stuck 4 = .ok (.invokevirtual 146, 3) := by decide +kernel
theorem dX8_stuck_7 : decode cX8_stuck 7 = .ok (.ireturn, 1) := by decide +kernel
theorem dX8_wouldHit_0 : decode cX8_wouldHit 0 = .ok (.iload_n 1, 1) := by decide +kernel
theorem dX8_wouldHit_1 : decode cX8_wouldHit 1 = .ok (.aload_n 0, 1) := by decide +kernel
theorem dX8_wouldHit_2 : decode cX8_wouldHit 2 = .ok (.getfield 19, 3) := by decide +kernel
theorem dX8_wouldHit_5 : decode cX8_wouldHit 5 = .ok (.getfield 114, 3) := by decide +kernel
theorem dX8_wouldHit_8 : decode cX8_wouldHit 8 = .ok (.invokestatic 63, 3) := by decide +kernel
theorem dX8_wouldHit_11 : decode cX8_wouldHit 11 = .ok (.aload_n 0, 1) := by decide +kernel
theorem dX8_wouldHit_12 : decode cX8_wouldHit 12 = .ok (.getfield 35, 3) := by decide +kernel
theorem dX8_wouldHit_15 : decode cX8_wouldHit 15 = .ok (.iload_n 1, 1) := by decide +kernel
theorem dX8_wouldHit_16 : decode cX8_wouldHit 16 = .ok (.invokevirtual 149, 3) := by decide +kernel
theorem dX8_wouldHit_19 : decode cX8_wouldHit 19 = .ok (.ireturn, 1) := by decide +kernel
theorem dX8_overBy_0 : decode cX8_overBy 0 = .ok (.iload_n 1, 1) := by decide +kernel
theorem dX8_overBy_1 : decode cX8_overBy 1 = .ok (.iconst 1, 1) := by decide +kernel
theorem dX8_overBy_2 : decode cX8_overBy 2 = .ok (.bipush 20, 2) := by decide +kernel
theorem dX8_overBy_4 : decode cX8_overBy 4 = .ok (.invokestatic 90, 3) := by decide +kernel
theorem dX8_overBy_7 : decode cX8_overBy 7 = .ok (.iload_n 2, 1) := by decide +kernel
theorem dX8_overBy_8 : decode cX8_overBy 8 = .ok (.iconst 1, 1) := by decide +kernel
theorem dX8_overBy_9 : decode cX8_overBy 9 = .ok (.bipush 50, 2) := by decide +kernel
theorem dX8_overBy_11 : decode cX8_overBy 11 = .ok (.invokestatic 90, 3) := by decide +kernel
theorem dX8_overBy_14 : decode cX8_overBy 14 = .ok (.aload_n 0, 1) := by decide +kernel
theorem dX8_overBy_15 : decode cX8_overBy 15 = .ok (.iload_n 1, 1) := by decide +kernel
theorem dX8_overBy_16 : decode cX8_overBy 16 = .ok (.iload_n 2, 1) := by decide +kernel
theorem dX8_overBy_17 : decode cX8_overBy 17 = .ok (.invokevirtual 152, 3) := by decide +kernel
theorem dX8_overBy_20 : decode cX8_overBy 20 = .ok (.ireturn, 1) := by decide +kernel
theorem dX8_digest_0 : decode cX8_digest 0 = .ok (.ldc2_w 159, 3) := by decide +kernel
theorem dX8_digest_3 : decode cX8_digest 3 = .ok (.lstore_n 1, 1) := by decide +kernel
theorem dX8_digest_4 : decode cX8_digest 4 = .ok (.iconst 0, 1) := by decide +kernel
theorem dX8_digest_5 : decode cX8_digest 5 = .ok (.istore_n 3, 1) := by decide +kernel
theorem dX8_digest_6 : decode cX8_digest 6 = .ok (.iload_n 3, 1) := by decide +kernel
theorem dX8_digest_7 : decode cX8_digest 7 = .ok (.bipush 12, 2) := by decide +kernel
theorem dX8_digest_9 : decode cX8_digest 9 = .ok (.if_icmp .gt 25, 3) := by decide +kernel
theorem dX8_digest_12 : decode cX8_digest 12 = .ok (.lload_n 1, 1) := by decide +kernel
theorem dX8_digest_13 : decode cX8_digest 13 = .ok (.ldc2_w 161, 3) := by decide +kernel
theorem dX8_digest_16 : decode cX8_digest 16 = .ok (.lmul, 1) := by decide +kernel
theorem dX8_digest_17 : decode cX8_digest 17 = .ok (.aload_n 0, 1) := by decide +kernel
theorem dX8_digest_18 : decode cX8_digest 18 = .ok (.getfield 35, 3) := by decide +kernel
theorem dX8_digest_21 : decode cX8_digest 21 = .ok (.iload_n 3, 1) := by decide +kernel
theorem dX8_digest_22 : decode cX8_digest 22 = .ok (.invokevirtual 140, 3) := by decide +kernel
theorem dX8_digest_25 : decode cX8_digest 25 = .ok (.i2l, 1) := by decide +kernel
theorem dX8_digest_26 : decode cX8_digest 26 = .ok (.ladd, 1) := by decide +kernel
theorem dX8_digest_27 : decode cX8_digest 27 = .ok (.lstore_n 1, 1) := by decide +kernel
theorem dX8_digest_28 : decode cX8_digest 28 = .ok (.iinc 3 1, 3) := by decide +kernel
theorem dX8_digest_31 : decode cX8_digest 31 = .ok (.goto (-25), 3) := by decide +kernel
theorem dX8_digest_34 : decode cX8_digest 34 = .ok (.aload_n 0, 1) := by decide +kernel
theorem dX8_digest_35 : decode cX8_digest 35 = .ok (.getfield 35, 3) := by decide +kernel
theorem dX8_digest_38 : decode cX8_digest 38 = .ok (.lload_n 1, 1) := by decide +kernel
theorem dX8_digest_39 : decode cX8_digest 39 = .ok (.invokevirtual 163, 3) := by decide +kernel
theorem dX8_digest_42 : decode cX8_digest 42 = .ok (.lstore_n 1, 1) := by decide +kernel
theorem dX8_digest_43 : decode cX8_digest 43 = .ok (.aload_n 0, 1) := by decide +kernel
theorem dX8_digest_44 : decode cX8_digest 44 = .ok (.getfield 35, 3) := by decide +kernel
theorem dX8_digest_47 : decode cX8_digest 47 = .ok (.lload_n 1, 1) := by decide +kernel
theorem dX8_digest_48 : decode cX8_digest 48 = .ok (.invokevirtual 167, 3) := by decide +kernel
theorem dX8_digest_51 : decode cX8_digest 51 = .ok (.lstore_n 1, 1) := by decide +kernel
theorem dX8_digest_52 : decode cX8_digest 52 = .ok (.aload_n 0, 1) := by decide +kernel
theorem dX8_digest_53 : decode cX8_digest 53 = .ok (.getfield 35, 3) := by decide +kernel
theorem dX8_digest_56 : decode cX8_digest 56 = .ok (.lload_n 1, 1) := by decide +kernel
theorem dX8_digest_57 : decode cX8_digest 57 = .ok (.invokevirtual 170, 3) := by decide +kernel
theorem dX8_digest_60 : decode cX8_digest 60 = .ok (.lstore_n 1, 1) := by decide +kernel
theorem dX8_digest_61 : decode cX8_digest 61 = .ok (.lload_n 1, 1) := by decide +kernel
theorem dX8_digest_62 : decode cX8_digest 62 = .ok (.ldc2_w 161, 3) := by decide +kernel
theorem dX8_digest_65 : decode cX8_digest 65 = .ok (.lmul, 1) := by decide +kernel
theorem dX8_digest_66 : decode cX8_digest 66 = .ok (.aload_n 0, 1) := by decide +kernel
theorem dX8_digest_67 : decode cX8_digest 67 = .ok (.getfield 35, 3) := by decide +kernel
theorem dX8_digest_70 : decode cX8_digest 70 = .ok (.invokevirtual 146, 3) := by decide +kernel
theorem dX8_digest_73 : decode cX8_digest 73 = .ok (.i2l, 1) := by decide +kernel
theorem dX8_digest_74 : decode cX8_digest 74 = .ok (.ladd, 1) := by decide +kernel
theorem dX8_digest_75 : decode cX8_digest 75 = .ok (.lstore_n 1, 1) := by decide +kernel
theorem dX8_digest_76 : decode cX8_digest 76 = .ok (.lload_n 1, 1) := by decide +kernel
theorem dX8_digest_77 : decode cX8_digest 77 = .ok (.ldc2_w 161, 3) := by decide +kernel
theorem dX8_digest_80 : decode cX8_digest 80 = .ok (.lmul, 1) := by decide +kernel
theorem dX8_digest_81 : decode cX8_digest 81 = .ok (.aload_n 0, 1) := by decide +kernel
theorem dX8_digest_82 : decode cX8_digest 82 = .ok (.iconst 1, 1) := by decide +kernel
theorem dX8_digest_83 : decode cX8_digest 83 = .ok (.bipush 10, 2) := by decide +kernel
theorem dX8_digest_85 : decode cX8_digest 85 = .ok (.invokevirtual 152, 3) := by decide +kernel
theorem dX8_digest_88 : decode cX8_digest 88 = .ok (.i2l, 1) := by decide +kernel
theorem dX8_digest_89 : decode cX8_digest 89 = .ok (.ladd, 1) := by decide +kernel
theorem dX8_digest_90 : decode cX8_digest 90 = .ok (.lstore_n 1, 1) := by decide +kernel
theorem dX8_digest_91 : decode cX8_digest 91 = .ok (.lload_n 1, 1) := by decide +kernel
theorem dX8_digest_92 : decode cX8_digest 92 = .ok (.ldc2_w 161, 3) := by decide +kernel
theorem dX8_digest_95 : decode cX8_digest 95 = .ok (.lmul, 1) := by decide +kernel
theorem dX8_digest_96 : decode cX8_digest 96 = .ok (.aload_n 0, 1) := by decide +kernel
theorem dX8_digest_97 : decode cX8_digest 97 = .ok (.iconst 5, 1) := by decide +kernel
theorem dX8_digest_98 : decode cX8_digest 98 = .ok (.bipush 10, 2) := by decide +kernel
theorem dX8_digest_100 : decode cX8_digest 100 = .ok (.invokevirtual 152, 3) := by decide +kernel
theorem dX8_digest_103 : decode cX8_digest 103 = .ok (.i2l, 1) := by decide +kernel
theorem dX8_digest_104 : decode cX8_digest 104 = .ok (.ladd, 1) := by decide +kernel
theorem dX8_digest_105 : decode cX8_digest 105 = .ok (.lstore_n 1, 1) := by decide +kernel
theorem dX8_digest_106 : decode cX8_digest 106 = .ok (.lload_n 1, 1) := by decide +kernel
theorem dX8_digest_107 : decode cX8_digest 107 = .ok (.lreturn, 1) := by decide +kernel
theorem dX8_overAfter_0 : decode cX8_overAfter 0 = .ok (.aload_n 0, 1) := by decide +kernel
theorem dX8_overAfter_1 : decode cX8_overAfter 1 = .ok (.getfield 39, 3) := by decide +kernel
theorem dX8_overAfter_4 : decode cX8_overAfter 4 = .ok (.aload_n 0, 1) := by decide +kernel
theorem dX8_overAfter_5 : decode cX8_overAfter 5 = .ok (.getfield 19, 3) := by decide +kernel
theorem dX8_overAfter_8 : decode cX8_overAfter 8 = .ok (.invokevirtual 155, 3) := by decide +kernel
theorem dX8_overAfter_11 : decode cX8_overAfter 11 = .ok (.iconst 0, 1) := by decide +kernel
theorem dX8_overAfter_12 : decode cX8_overAfter 12 = .ok (.istore_n 3, 1) := by decide +kernel
theorem dX8_overAfter_13 : decode cX8_overAfter 13 = .ok (.iload_n 3, 1) := by decide +kernel
theorem dX8_overAfter_14 : decode cX8_overAfter 14 = .ok (.iload_n 1, 1) := by decide +kernel
theorem dX8_overAfter_15 : decode cX8_overAfter 15 = .ok (.if_icmp .ge 26, 3) := by decide +kernel
theorem dX8_overAfter_18 : decode cX8_overAfter 18 = .ok (.aload_n 0, 1) := by decide +kernel
theorem dX8_overAfter_19 : decode cX8_overAfter 19 = .ok (.getfield 39, 3) := by decide +kernel
theorem dX8_overAfter_22 : decode cX8_overAfter 22 = .ok (.invokevirtual 111, 3) := by decide +kernel
theorem dX8_overAfter_25 : decode cX8_overAfter 25 = .ok (.pop, 1) := by decide +kernel
theorem dX8_overAfter_26 : decode cX8_overAfter 26 = .ok (.aload_n 0, 1) := by decide +kernel
theorem dX8_overAfter_27 : decode cX8_overAfter 27 = .ok (.getfield 42, 3) := by decide +kernel
theorem dX8_overAfter_30 : decode cX8_overAfter 30 = .ok (.iload_n 2, 1) := by decide +kernel
theorem dX8_overAfter_31 : decode cX8_overAfter 31 = .ok (.invokevirtual 108, 3) := by decide +kernel
theorem dX8_overAfter_34 : decode cX8_overAfter 34 = .ok (.pop, 1) := by decide +kernel
theorem dX8_overAfter_35 : decode cX8_overAfter 35 = .ok (.iinc 3 1, 3) := by decide +kernel
theorem dX8_overAfter_38 : decode cX8_overAfter 38 = .ok (.goto (-25), 3) := by decide +kernel
theorem dX8_overAfter_41 : decode cX8_overAfter 41 = .ok (.aload_n 0, 1) := by decide +kernel
theorem dX8_overAfter_42 : decode cX8_overAfter 42 = .ok (.getfield 45, 3) := by decide +kernel
theorem dX8_overAfter_45 : decode cX8_overAfter 45 = .ok (.invokevirtual 173, 3) := by decide +kernel
theorem dX8_overAfter_48 : decode cX8_overAfter 48 = .ok (.ireturn, 1) := by decide +kernel
theorem dX8_checkNumber_0 : decode cX8_checkNumber 0 = .ok (.iload_n 0, 1) := by decide +kernel
theorem dX8_checkNumber_1 : decode cX8_checkNumber 1 = .ok (.ifCond .lt 8, 3) := by decide +kernel
theorem dX8_checkNumber_4 : decode cX8_checkNumber 4 = .ok (.iload_n 0, 1) := by decide +kernel
theorem dX8_checkNumber_5 : decode cX8_checkNumber 5 = .ok (.iload_n 1, 1) := by decide +kernel
theorem dX8_checkNumber_6 : decode cX8_checkNumber 6 = .ok (.if_icmp .lt 13, 3) := by decide +kernel
theorem dX8_checkNumber_9 : decode cX8_checkNumber 9 = .ok (.new 176, 3) := by decide +kernel
theorem dX8_checkNumber_12 : decode cX8_checkNumber 12 = .ok (.dup, 1) := by decide +kernel
theorem dX8_checkNumber_13 : decode cX8_checkNumber 13 = .ok (.ldc 178, 2) := by decide +kernel
theorem dX8_checkNumber_15 : decode cX8_checkNumber 15 = .ok (.invokespecial 180, 3) := by decide +kernel
theorem dX8_checkNumber_18 : decode cX8_checkNumber 18 = .ok (.athrow, 1) := by decide +kernel
theorem dX8_checkNumber_19 : decode cX8_checkNumber 19 = .ok (.return_, 1) := by decide +kernel
theorem dX8_checkWithin_0 : decode cX8_checkWithin 0 = .ok (.iload_n 0, 1) := by decide +kernel
theorem dX8_checkWithin_1 : decode cX8_checkWithin 1 = .ok (.iload_n 1, 1) := by decide +kernel
theorem dX8_checkWithin_2 : decode cX8_checkWithin 2 = .ok (.if_icmp .lt 8, 3) := by decide +kernel
theorem dX8_checkWithin_5 : decode cX8_checkWithin 5 = .ok (.iload_n 0, 1) := by decide +kernel
theorem dX8_checkWithin_6 : decode cX8_checkWithin 6 = .ok (.iload_n 2, 1) := by decide +kernel
theorem dX8_checkWithin_7 : decode cX8_checkWithin 7 = .ok (.if_icmp .le 13, 3) := by decide +kernel
theorem dX8_checkWithin_10 : decode cX8_checkWithin 10 = .ok (.new 75, 3) := by decide +kernel
theorem dX8_checkWithin_13 : decode cX8_checkWithin 13 = .ok (.dup, 1) := by decide +kernel
theorem dX8_checkWithin_14 : decode cX8_checkWithin 14 = .ok (.ldc 181, 2) := by decide +kernel
theorem dX8_checkWithin_16 : decode cX8_checkWithin 16 = .ok (.invokespecial 79, 3) := by decide +kernel
theorem dX8_checkWithin_19 : decode cX8_checkWithin 19 = .ok (.athrow, 1) := by decide +kernel
theorem dX8_checkWithin_20 : decode cX8_checkWithin 20 = .ok (.return_, 1) := by decide +kernel
