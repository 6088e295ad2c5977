def gtbl : List Cond := lw_tbl.filter goodWord
theorem in_g {w : Cond} (h : w ∈ lw_tbl) (g : goodWord w = true) : w ∈ gtbl := List.mem_filter.mpr ⟨h, g⟩
theorem at_g {w : Cond} (i : Nat) (h : lw_tbl[i]? = some w) (g : goodWord w = true) : w ∈ gtbl := in_g (List.mem_of_getElem? h) g
theorem gtbl_good {w : Cond} (h : w ∈ gtbl) : goodWord w = true := (List.mem_filter.mp h).2
theorem gtbl_tbl {w : Cond} (h : w ∈ gtbl) : w ∈ lw_tbl := (List.mem_filter.mp h).1
def chP_0 : List Cond := [Cond.selects RX8 yX8_put yX8_put, Cond.selects RX4 yX4_rule yX4_rule, Cond.selects RX4 yX4_sum yX4_sum, Cond.selects RX4 yX4_term yX4_term, Cond.selects RX4 yX4_factor yX4_factor, Cond.selects RX3 yX3_write yX3_write, Cond.selects RX4 yX4_condition yX4_condition, Cond.selects RX4 yX4_test yX4_test, Cond.selects RX0 yX0_line yX0_line, Cond.selects RX0 yX0_coordinate yX0_coordinate, Cond.selects RX0 yX0_fleet yX0_fleet, Cond.selects RX7 yX7_passWeb yX7_passWeb, Cond.selects RX7 yX7_touch yX7_touch, Cond.selects RX3 yX3_run yX3_run, Cond.selects RX3 yX3_heapUp yX3_heapUp, Cond.selects RX3 yX3_compare yX3_compare]
def chP_1 : List Cond := [Cond.selects RX3 yX3_reckon yX3_reckon, Cond.selects RX7 yX7_mend yX7_mend, Cond.selects RX11 yX11_canBeTried yX11_canBeTried, Cond.selects RX6 yX6_isToward yX6_isToward, Cond.selects RX6 yX6_listReachers yX6_listReachers, Cond.selects RX6 yX6_reachersOf yX6_reachersOf, Cond.selects RX6 yX6_wayTo yX6_wayTo, Cond.selects RX6 yX6_meetsAll yX6_meetsAll, Cond.selects RX5 yX5_row yX5_row, Cond.selects RX5 yX5_innerRow yX5_innerRow, Cond.selects RX5 yX5_repeat yX5_repeat, Cond.selects RX5 yX5_spoke yX5_spoke, Cond.selects RX5 yX5_commonest yX5_commonest, Cond.selects RX5 yX5_timesOf yX5_timesOf, Cond.selects RX5 yX5_longestRow yX5_longestRow, Cond.selects RX5 yX5_turns yX5_turns]
def chP_2 : List Cond := [Cond.selects RX5 yX5_period yX5_period, Cond.selects RX5 yX5_goesOnBy yX5_goesOnBy, Cond.selects RX2 yX2_takeRarest yX2_takeRarest, Cond.selects RX10 yX10_reach yX10_reach, Cond.selects RX10 yX10_leaveMiddle yX10_leaveMiddle, Cond.selects RX10 yX10_leaveKnot yX10_leaveKnot, Cond.selects RX10 yX10_wayTo yX10_wayTo, Cond.selects RX2 yX2_smoothOnce yX2_smoothOnce, Cond.selects RX2 yX2_firstEnd yX2_firstEnd, Cond.selects RX12 yX12_isWeb yX12_isWeb, Cond.selects RX12 yX12_types yX12_types, Cond.selects RX12 yX12_beginsText yX12_beginsText, Cond.selects RX12 yX12_readsRule yX12_readsRule, Cond.selects RX12 yX12_here yX12_here, Cond.selects RX12 yX12_wrongAt yX12_wrongAt, Cond.selects RX12 yX12_readsSum yX12_readsSum]
def chP_3 : List Cond := [Cond.selects RX12 yX12_readsFactor yX12_readsFactor, Cond.selects RX12 yX12_opens yX12_opens, Cond.selects RX12 yX12_isDigit yX12_isDigit, Cond.selects RX12 yX12_readsNumber yX12_readsNumber, Cond.selects RX12 yX12_notes yX12_notes, Cond.selects RX12 yX12_closesSums yX12_closesSums, Cond.selects RX12 yX12_waitTop yX12_waitTop, Cond.selects RX12 yX12_hasOpenSum yX12_hasOpenSum, Cond.selects RX12 yX12_readsCondition yX12_readsCondition, Cond.selects RX12 yX12_readsCompared yX12_readsCompared, Cond.selects RX12 yX12_endsPiece yX12_endsPiece, Cond.selects RX12 yX12_lands yX12_lands, Cond.selects RX12 yX12_jumps yX12_jumps, Cond.selects RX12 yX12_takes yX12_takes, Cond.selects RX12 yX12_readsLine yX12_readsLine, Cond.selects RX12 yX12_isWebLetter yX12_isWebLetter]
def chP_4 : List Cond := [Cond.selects RX12 yX12_isFleetLetter yX12_isFleetLetter, Cond.selects RX12 yX12_readsFleet yX12_readsFleet, Cond.selects RX12 yX12_readsSpot yX12_readsSpot, Cond.selects RX12 yX12_readsWithin yX12_readsWithin, Cond.selects RX12 yX12_hoursGo yX12_hoursGo, Cond.selects RX12 yX12_hourGoes yX12_hourGoes, Cond.selects RX12 yX12_sails yX12_sails, Cond.selects RX12 yX12_isFleet yX12_isFleet, Cond.selects RX12 yX12_touches yX12_touches, Cond.selects RX12 yX12_sets yX12_sets, Cond.selects RX12 yX12_slackOf yX12_slackOf, Cond.selects RX12 yX12_holdsAny yX12_holdsAny, Cond.selects RX12 yX12_reckonsTo yX12_reckonsTo, Cond.selects RX12 yX12_byLaw yX12_byLaw, Cond.selects RX12 yX12_isMended yX12_isMended, Cond.selects RX12 yX12_slackOfAll yX12_slackOfAll]
def chP_5 : List Cond := [Cond.selects RX12 yX12_tensionsOf yX12_tensionsOf, Cond.selects RX12 yX12_feltBy yX12_feltBy, Cond.selects RX12 yX12_octet yX12_octet, Cond.selects RX12 yX12_isOnWay yX12_isOnWay, Cond.selects RX12 yX12_feelsAll yX12_feelsAll, Cond.selects RX12 yX12_isFelt yX12_isFelt, Cond.selects RX12 yX12_nearestTo yX12_nearestTo, Cond.selects RX12 yX12_readsSpoke yX12_readsSpoke, Cond.selects RX12 yX12_readsRoundEnd yX12_readsRoundEnd, Cond.selects RX12 yX12_mostOften yX12_mostOften, Cond.selects RX12 yX12_oftenOf yX12_oftenOf, Cond.selects RX12 yX12_longestRow yX12_longestRow, Cond.selects RX12 yX12_turnsOf yX12_turnsOf, Cond.selects RX12 yX12_periodOf yX12_periodOf, Cond.selects RX12 yX12_goesOnBy yX12_goesOnBy, Cond.selects RX12 yX12_rarest yX12_rarest]
def chP_6 : List Cond := [Cond.selects RX12 yX12_crawlsTo yX12_crawlsTo, Cond.selects RX12 yX12_crawlsFrom yX12_crawlsFrom, Cond.selects RX12 yX12_smooths yX12_smooths, Cond.selects RX12 yX12_tensionsOfAll yX12_tensionsOfAll]
def ch1_0 : List Cond := [Cond.initialized RL, Cond.initialized RX11, Cond.initialized RX8, Cond.initialized RX4, Cond.initialized RX9, Cond.initialized RX0, Cond.initialized RX5, Cond.initialized RX6, Cond.initialized RX2, Cond.initialized RX10, Cond.initialized RX3, Cond.initialized RX7, Cond.initialized RX12, Cond.initialized RJ9, Cond.initialized RX1, Cond.initialized RJ6]
def ch1_1 : List Cond := [Cond.initialized RJ10, Cond.classLink RL 7 RX11, Cond.instantiable RX11 13, Cond.methodLink RL 9 yX11_init, Cond.instanceMethod yX11_init, Cond.code yX11_init cX11_init 1 none, Cond.methodLink RX11 1 objectInit, Cond.instanceMethod objectInit, Cond.code objectInit ⟨#[0xb1]⟩ 1 none, Cond.classLink RX11 7 RX8, Cond.instantiable RX8 2, Cond.methodLink RX11 9 yX8_init, Cond.instanceMethod yX8_init, Cond.code yX8_init cX8_init 1 none, Cond.methodLink RX8 1 objectInit, Cond.fieldLink RX8 9 "DraughtWebs$Tape" "bytes" "[I"]
def ch1_2 : List Cond := [Cond.fieldLink RX8 13 "DraughtWebs$Tape" "size" "I", Cond.laysFinal "DraughtWebs$Tape" "DraughtWebs$Tape" "bytes" "[I", Cond.soleField "DraughtWebs$Tape" "bytes", Cond.lays "DraughtWebs$Tape" "DraughtWebs$Tape" "size" "I", Cond.soleField "DraughtWebs$Tape" "size", Cond.superclass "DraughtWebs$Tape" "java/lang/Object", Cond.arrayClass .int, Cond.classLink RX11 16 RX4, Cond.instantiable RX4 1, Cond.methodLink RX11 18 yX4_init, Cond.instanceMethod yX4_init, Cond.code yX4_init cX4_init 1 none, Cond.methodLink RX4 3 objectInit, Cond.classLink RX4 9 RX9, Cond.instantiable RX9 4, Cond.methodLink RX4 11 yX9_init]
def ch1_3 : List Cond := [Cond.instanceMethod yX9_init, Cond.code yX9_init cX9_init 1 none, Cond.methodLink RX9 3 objectInit, Cond.fieldLink RX9 9 "DraughtWebs$Text" "signs" "[I", Cond.fieldLink RX9 15 "DraughtWebs$Text" "length" "I", Cond.fieldLink RX9 19 "DraughtWebs$Text" "place" "I", Cond.fieldLinkNest RX0 71 "DraughtWebs$Text" "place" "I" "DraughtWebs", Cond.fieldLinkNest RX5 58 "DraughtWebs$Text" "place" "I" "DraughtWebs", Cond.fieldLink RX9 22 "DraughtWebs$Text" "fault" "I", Cond.fieldLinkNest RX5 34 "DraughtWebs$Text" "fault" "I" "DraughtWebs", Cond.fieldLinkNest RX4 31 "DraughtWebs$Text" "fault" "I" "DraughtWebs", Cond.fieldLinkNest RX0 31 "DraughtWebs$Text" "fault" "I" "DraughtWebs", Cond.laysFinal "DraughtWebs$Text" "DraughtWebs$Text" "signs" "[I", Cond.soleField "DraughtWebs$Text" "signs", Cond.lays "DraughtWebs$Text" "DraughtWebs$Text" "length" "I", Cond.soleField "DraughtWebs$Text" "length"]
def ch1_4 : List Cond := [Cond.lays "DraughtWebs$Text" "DraughtWebs$Text" "place" "I", Cond.soleField "DraughtWebs$Text" "place", Cond.lays "DraughtWebs$Text" "DraughtWebs$Text" "fault" "I", Cond.soleField "DraughtWebs$Text" "fault", Cond.superclass "DraughtWebs$Text" "java/lang/Object", Cond.fieldLink RX4 12 "DraughtWebs$LawReader" "text" "LDraughtWebs$Text;", Cond.laysFinal "DraughtWebs$LawReader" "DraughtWebs$LawReader" "text" "LDraughtWebs$Text;", Cond.soleField "DraughtWebs$LawReader" "text", Cond.superclass "DraughtWebs$LawReader" "java/lang/Object", Cond.classLink RX11 23 RX0, Cond.instantiable RX0 1, Cond.methodLink RX11 25 yX0_init, Cond.instanceMethod yX0_init, Cond.code yX0_init cX0_init 1 none, Cond.methodLink RX0 3 objectInit, Cond.classLink RX0 9 RX9]
def ch1_5 : List Cond := [Cond.methodLink RX0 11 yX9_init, Cond.fieldLink RX0 12 "DraughtWebs$ChartReader" "text" "LDraughtWebs$Text;", Cond.laysFinal "DraughtWebs$ChartReader" "DraughtWebs$ChartReader" "text" "LDraughtWebs$Text;", Cond.soleField "DraughtWebs$ChartReader" "text", Cond.superclass "DraughtWebs$ChartReader" "java/lang/Object", Cond.classLink RX11 30 RX5, Cond.instantiable RX5 3, Cond.methodLink RX11 32 yX5_init, Cond.instanceMethod yX5_init, Cond.code yX5_init cX5_init 1 none, Cond.methodLink RX5 3 objectInit, Cond.classLink RX5 9 RX9, Cond.methodLink RX5 11 yX9_init, Cond.fieldLink RX5 12 "DraughtWebs$LogBook" "text" "LDraughtWebs$Text;", Cond.fieldLink RX5 18 "DraughtWebs$LogBook" "spokes" "[I", Cond.fieldLink RX5 22 "DraughtWebs$LogBook" "size" "I"]
def ch1_6 : List Cond := [Cond.laysFinal "DraughtWebs$LogBook" "DraughtWebs$LogBook" "text" "LDraughtWebs$Text;", Cond.soleField "DraughtWebs$LogBook" "text", Cond.laysFinal "DraughtWebs$LogBook" "DraughtWebs$LogBook" "spokes" "[I", Cond.soleField "DraughtWebs$LogBook" "spokes", Cond.lays "DraughtWebs$LogBook" "DraughtWebs$LogBook" "size" "I", Cond.soleField "DraughtWebs$LogBook" "size", Cond.superclass "DraughtWebs$LogBook" "java/lang/Object", Cond.classLink RX11 37 RX6, Cond.instantiable RX6 3, Cond.methodLink RX11 39 yX6_init, Cond.instanceMethod yX6_init, Cond.code yX6_init cX6_init 1 none, Cond.methodLink RX6 3 objectInit, Cond.fieldLink RX6 11 "DraughtWebs$Lookout" "reachers" "[I", Cond.fieldLink RX6 15 "DraughtWebs$Lookout" "listed" "[Z", Cond.fieldLink RX6 19 "DraughtWebs$Lookout" "reacherCount" "I"]
def ch1_7 : List Cond := [Cond.laysFinal "DraughtWebs$Lookout" "DraughtWebs$Lookout" "reachers" "[I", Cond.soleField "DraughtWebs$Lookout" "reachers", Cond.laysFinal "DraughtWebs$Lookout" "DraughtWebs$Lookout" "listed" "[Z", Cond.soleField "DraughtWebs$Lookout" "listed", Cond.lays "DraughtWebs$Lookout" "DraughtWebs$Lookout" "reacherCount" "I", Cond.soleField "DraughtWebs$Lookout" "reacherCount", Cond.superclass "DraughtWebs$Lookout" "java/lang/Object", Cond.arrayClass .boolean, Cond.classLink RX11 44 RX2, Cond.instantiable RX2 6, Cond.methodLink RX11 46 yX2_init, Cond.instanceMethod yX2_init, Cond.code yX2_init cX2_init 1 none, Cond.methodLink RX2 3 objectInit, Cond.fieldLink RX2 11 "DraughtWebs$Desk" "common" "[I", Cond.fieldLink RX2 15 "DraughtWebs$Desk" "readings" "[I"]
def ch1_8 : List Cond := [Cond.fieldLink RX2 18 "DraughtWebs$Desk" "smoother" "[I", Cond.fieldLink RX2 21 "DraughtWebs$Desk" "weights" "[I", Cond.fieldLink RX2 24 "DraughtWebs$Desk" "lengths" "[I", Cond.fieldLink RX2 27 "DraughtWebs$Desk" "used" "[Z", Cond.laysFinal "DraughtWebs$Desk" "DraughtWebs$Desk" "common" "[I", Cond.soleField "DraughtWebs$Desk" "common", Cond.laysFinal "DraughtWebs$Desk" "DraughtWebs$Desk" "readings" "[I", Cond.soleField "DraughtWebs$Desk" "readings", Cond.laysFinal "DraughtWebs$Desk" "DraughtWebs$Desk" "smoother" "[I", Cond.soleField "DraughtWebs$Desk" "smoother", Cond.laysFinal "DraughtWebs$Desk" "DraughtWebs$Desk" "weights" "[I", Cond.soleField "DraughtWebs$Desk" "weights", Cond.laysFinal "DraughtWebs$Desk" "DraughtWebs$Desk" "lengths" "[I", Cond.soleField "DraughtWebs$Desk" "lengths", Cond.laysFinal "DraughtWebs$Desk" "DraughtWebs$Desk" "used" "[Z", Cond.soleField "DraughtWebs$Desk" "used"]
def ch1_9 : List Cond := [Cond.superclass "DraughtWebs$Desk" "java/lang/Object", Cond.classLink RX11 51 RX10, Cond.instantiable RX10 3, Cond.methodLink RX11 53 yX10_init, Cond.instanceMethod yX10_init, Cond.code yX10_init cX10_init 1 none, Cond.methodLink RX10 3 objectInit, Cond.fieldLink RX10 11 "DraughtWebs$TornWeb" "ways" "[I", Cond.fieldLink RX10 15 "DraughtWebs$TornWeb" "line" "[I", Cond.fieldLink RX10 18 "DraughtWebs$TornWeb" "lined" "I", Cond.laysFinal "DraughtWebs$TornWeb" "DraughtWebs$TornWeb" "ways" "[I", Cond.soleField "DraughtWebs$TornWeb" "ways", Cond.laysFinal "DraughtWebs$TornWeb" "DraughtWebs$TornWeb" "line" "[I", Cond.soleField "DraughtWebs$TornWeb" "line", Cond.lays "DraughtWebs$TornWeb" "DraughtWebs$TornWeb" "lined" "I", Cond.soleField "DraughtWebs$TornWeb" "lined"]
def ch1_10 : List Cond := [Cond.superclass "DraughtWebs$TornWeb" "java/lang/Object", Cond.classLink RX11 58 RX3, Cond.instantiable RX3 12, Cond.methodLink RX11 60 yX3_init, Cond.instanceMethod yX3_init, Cond.code yX3_init cX3_init 1 none, Cond.methodLink RX3 3 objectInit, Cond.fieldLink RX3 9 "DraughtWebs$Law" "ruleCount" "I", Cond.fieldLink RX3 15 "DraughtWebs$Law" "kinds" "[I", Cond.fieldLink RX3 19 "DraughtWebs$Law" "worthStarts" "[I", Cond.fieldLink RX3 22 "DraughtWebs$Law" "conditionStarts" "[I", Cond.fieldLink RX3 25 "DraughtWebs$Law" "signCount" "I", Cond.fieldLink RX3 28 "DraughtWebs$Law" "signs" "[I", Cond.fieldLink RX3 31 "DraughtWebs$Law" "values" "[I", Cond.fieldLink RX3 34 "DraughtWebs$Law" "seen" "[I", Cond.fieldLink RX3 37 "DraughtWebs$Law" "heap" "[I"]
def ch1_11 : List Cond := [Cond.fieldLink RX3 40 "DraughtWebs$Law" "heaped" "I", Cond.fieldLink RX3 43 "DraughtWebs$Law" "held" "Z", Cond.fieldLink RX3 47 "DraughtWebs$Law" "refused" "Z", Cond.lays "DraughtWebs$Law" "DraughtWebs$Law" "ruleCount" "I", Cond.soleField "DraughtWebs$Law" "ruleCount", Cond.laysFinal "DraughtWebs$Law" "DraughtWebs$Law" "kinds" "[I", Cond.soleField "DraughtWebs$Law" "kinds", Cond.laysFinal "DraughtWebs$Law" "DraughtWebs$Law" "worthStarts" "[I", Cond.soleField "DraughtWebs$Law" "worthStarts", Cond.laysFinal "DraughtWebs$Law" "DraughtWebs$Law" "conditionStarts" "[I", Cond.soleField "DraughtWebs$Law" "conditionStarts", Cond.lays "DraughtWebs$Law" "DraughtWebs$Law" "signCount" "I", Cond.soleField "DraughtWebs$Law" "signCount", Cond.laysFinal "DraughtWebs$Law" "DraughtWebs$Law" "signs" "[I", Cond.soleField "DraughtWebs$Law" "signs", Cond.laysFinal "DraughtWebs$Law" "DraughtWebs$Law" "values" "[I"]
def ch1_12 : List Cond := [Cond.soleField "DraughtWebs$Law" "values", Cond.laysFinal "DraughtWebs$Law" "DraughtWebs$Law" "seen" "[I", Cond.soleField "DraughtWebs$Law" "seen", Cond.laysFinal "DraughtWebs$Law" "DraughtWebs$Law" "heap" "[I", Cond.soleField "DraughtWebs$Law" "heap", Cond.lays "DraughtWebs$Law" "DraughtWebs$Law" "heaped" "I", Cond.soleField "DraughtWebs$Law" "heaped", Cond.lays "DraughtWebs$Law" "DraughtWebs$Law" "held" "Z", Cond.soleField "DraughtWebs$Law" "held", Cond.lays "DraughtWebs$Law" "DraughtWebs$Law" "refused" "Z", Cond.soleField "DraughtWebs$Law" "refused", Cond.superclass "DraughtWebs$Law" "java/lang/Object", Cond.classLink RX11 68 RX7, Cond.instantiable RX7 11, Cond.methodLink RX11 70 yX7_init, Cond.instanceMethod yX7_init]
def ch1_13 : List Cond := [Cond.code yX7_init cX7_init 1 none, Cond.methodLink RX7 3 objectInit, Cond.fieldLink RX7 9 "DraughtWebs$Sea" "webs" "I", Cond.fieldLinkNest RX6 75 "DraughtWebs$Sea" "webs" "I" "DraughtWebs", Cond.fieldLinkNest RX11 263 "DraughtWebs$Sea" "webs" "I" "DraughtWebs", Cond.fieldLink RX7 15 "DraughtWebs$Sea" "fleets" "I", Cond.fieldLinkNest RX11 266 "DraughtWebs$Sea" "fleets" "I" "DraughtWebs", Cond.fieldLink RX7 18 "DraughtWebs$Sea" "webX" "[I", Cond.fieldLinkNest RX6 39 "DraughtWebs$Sea" "webX" "[I" "DraughtWebs", Cond.fieldLinkNest RX11 155 "DraughtWebs$Sea" "webX" "[I" "DraughtWebs", Cond.fieldLink RX7 22 "DraughtWebs$Sea" "webY" "[I", Cond.fieldLinkNest RX6 42 "DraughtWebs$Sea" "webY" "[I" "DraughtWebs", Cond.fieldLinkNest RX11 158 "DraughtWebs$Sea" "webY" "[I" "DraughtWebs", Cond.fieldLink RX7 25 "DraughtWebs$Sea" "tensions" "[I", Cond.fieldLinkNest RX11 93 "DraughtWebs$Sea" "tensions" "[I" "DraughtWebs", Cond.fieldLink RX7 28 "DraughtWebs$Sea" "fleetX" "[I"]
def ch1_14 : List Cond := [Cond.fieldLink RX7 31 "DraughtWebs$Sea" "fleetY" "[I", Cond.fieldLink RX7 34 "DraughtWebs$Sea" "forces" "[I", Cond.fieldLinkNest RX11 170 "DraughtWebs$Sea" "forces" "[I" "DraughtWebs", Cond.fieldLink RX7 37 "DraughtWebs$Sea" "courses" "[I", Cond.fieldLink RX7 40 "DraughtWebs$Sea" "hour" "I", Cond.fieldLinkNest RX11 121 "DraughtWebs$Sea" "hour" "I" "DraughtWebs", Cond.fieldLink RX7 43 "DraughtWebs$Sea" "drawn" "I", Cond.fieldLinkNest RX11 125 "DraughtWebs$Sea" "drawn" "I" "DraughtWebs", Cond.lays "DraughtWebs$Sea" "DraughtWebs$Sea" "webs" "I", Cond.soleField "DraughtWebs$Sea" "webs", Cond.lays "DraughtWebs$Sea" "DraughtWebs$Sea" "fleets" "I", Cond.soleField "DraughtWebs$Sea" "fleets", Cond.laysFinal "DraughtWebs$Sea" "DraughtWebs$Sea" "webX" "[I", Cond.soleField "DraughtWebs$Sea" "webX", Cond.laysFinal "DraughtWebs$Sea" "DraughtWebs$Sea" "webY" "[I", Cond.soleField "DraughtWebs$Sea" "webY"]
def ch2_0 : List Cond := [Cond.laysFinal "DraughtWebs$Sea" "DraughtWebs$Sea" "tensions" "[I", Cond.soleField "DraughtWebs$Sea" "tensions", Cond.laysFinal "DraughtWebs$Sea" "DraughtWebs$Sea" "fleetX" "[I", Cond.soleField "DraughtWebs$Sea" "fleetX", Cond.laysFinal "DraughtWebs$Sea" "DraughtWebs$Sea" "fleetY" "[I", Cond.soleField "DraughtWebs$Sea" "fleetY", Cond.laysFinal "DraughtWebs$Sea" "DraughtWebs$Sea" "forces" "[I", Cond.soleField "DraughtWebs$Sea" "forces", Cond.laysFinal "DraughtWebs$Sea" "DraughtWebs$Sea" "courses" "[I", Cond.soleField "DraughtWebs$Sea" "courses", Cond.lays "DraughtWebs$Sea" "DraughtWebs$Sea" "hour" "I", Cond.soleField "DraughtWebs$Sea" "hour", Cond.lays "DraughtWebs$Sea" "DraughtWebs$Sea" "drawn" "I", Cond.soleField "DraughtWebs$Sea" "drawn", Cond.superclass "DraughtWebs$Sea" "java/lang/Object", Cond.fieldLink RX11 10 "DraughtWebs" "tape" "LDraughtWebs$Tape;"]
def ch2_1 : List Cond := [Cond.fieldLink RX11 19 "DraughtWebs" "lawReader" "LDraughtWebs$LawReader;", Cond.fieldLink RX11 26 "DraughtWebs" "chartReader" "LDraughtWebs$ChartReader;", Cond.fieldLink RX11 33 "DraughtWebs" "logBook" "LDraughtWebs$LogBook;", Cond.fieldLink RX11 40 "DraughtWebs" "lookout" "LDraughtWebs$Lookout;", Cond.fieldLink RX11 47 "DraughtWebs" "desk" "LDraughtWebs$Desk;", Cond.fieldLink RX11 54 "DraughtWebs" "tornWeb" "LDraughtWebs$TornWeb;", Cond.fieldLink RX11 61 "DraughtWebs" "rules" "LDraughtWebs$Law;", Cond.fieldLink RX11 65 "DraughtWebs" "spareRules" "LDraughtWebs$Law;", Cond.fieldLink RX11 71 "DraughtWebs" "sea" "LDraughtWebs$Sea;", Cond.fieldLink RX11 75 "DraughtWebs" "spareSea" "LDraughtWebs$Sea;", Cond.fieldLink RX11 78 "DraughtWebs" "kept" "LDraughtWebs$Sea;", Cond.fieldLink RX11 81 "DraughtWebs" "anyKept" "Z", Cond.laysFinal "DraughtWebs" "DraughtWebs" "tape" "LDraughtWebs$Tape;", Cond.soleField "DraughtWebs" "tape", Cond.laysFinal "DraughtWebs" "DraughtWebs" "lawReader" "LDraughtWebs$LawReader;", Cond.soleField "DraughtWebs" "lawReader"]
def ch2_2 : List Cond := [Cond.laysFinal "DraughtWebs" "DraughtWebs" "chartReader" "LDraughtWebs$ChartReader;", Cond.soleField "DraughtWebs" "chartReader", Cond.laysFinal "DraughtWebs" "DraughtWebs" "logBook" "LDraughtWebs$LogBook;", Cond.soleField "DraughtWebs" "logBook", Cond.laysFinal "DraughtWebs" "DraughtWebs" "lookout" "LDraughtWebs$Lookout;", Cond.soleField "DraughtWebs" "lookout", Cond.laysFinal "DraughtWebs" "DraughtWebs" "desk" "LDraughtWebs$Desk;", Cond.soleField "DraughtWebs" "desk", Cond.laysFinal "DraughtWebs" "DraughtWebs" "tornWeb" "LDraughtWebs$TornWeb;", Cond.soleField "DraughtWebs" "tornWeb", Cond.lays "DraughtWebs" "DraughtWebs" "rules" "LDraughtWebs$Law;", Cond.soleField "DraughtWebs" "rules", Cond.lays "DraughtWebs" "DraughtWebs" "spareRules" "LDraughtWebs$Law;", Cond.soleField "DraughtWebs" "spareRules", Cond.lays "DraughtWebs" "DraughtWebs" "sea" "LDraughtWebs$Sea;", Cond.soleField "DraughtWebs" "sea"]
def ch2_3 : List Cond := [Cond.lays "DraughtWebs" "DraughtWebs" "spareSea" "LDraughtWebs$Sea;", Cond.soleField "DraughtWebs" "spareSea", Cond.laysFinal "DraughtWebs" "DraughtWebs" "kept" "LDraughtWebs$Sea;", Cond.soleField "DraughtWebs" "kept", Cond.lays "DraughtWebs" "DraughtWebs" "anyKept" "Z", Cond.soleField "DraughtWebs" "anyKept", Cond.superclass "DraughtWebs" "java/lang/Object", Cond.methodLink RL 13 yX11_tension, Cond.instanceMethod yX11_tension, Cond.selects RX11 yX11_tension yX11_tension, Cond.code yX11_tension cX11_tension 4 (some .boolean), Cond.methodLink RX11 85 yX7_hasWeb, Cond.instanceMethod yX7_hasWeb, Cond.selects RX7 yX7_hasWeb yX7_hasWeb, Cond.code yX7_hasWeb cX7_hasWeb 2 (some .boolean), Cond.methodLink RX11 89 yX11_within]
def ch2_4 : List Cond := [Cond.static yX11_within, Cond.code yX11_within cX11_within 3 (some .boolean), Cond.methodLink RL 18 yX11_feed, Cond.instanceMethod yX11_feed, Cond.selects RX11 yX11_feed yX11_feed, Cond.code yX11_feed cX11_feed 6 (some .int), Cond.methodLink RX11 97 yX8_hasRoomFor, Cond.instanceMethod yX8_hasRoomFor, Cond.selects RX8 yX8_hasRoomFor yX8_hasRoomFor, Cond.code yX8_hasRoomFor cX8_hasRoomFor 2 (some .boolean), Cond.methodLink RX11 100 yX8_putInt, Cond.instanceMethod yX8_putInt, Cond.selects RX8 yX8_putInt yX8_putInt, Cond.code yX8_putInt cX8_putInt 2 none, Cond.methodLink RX8 17 yX8_put, Cond.privateMethod yX8_put]
def ch2_5 : List Cond := [Cond.instanceMethod yX8_put, Cond.code yX8_put cX8_put 2 none, Cond.methodLink RX11 104 yX8_size, Cond.instanceMethod yX8_size, Cond.selects RX8 yX8_size yX8_size, Cond.code yX8_size cX8_size 1 (some .int), Cond.methodLink RL 23 yX11_law, Cond.instanceMethod yX11_law, Cond.selects RX11 yX11_law yX11_law, Cond.code yX11_law cX11_law 4 (some .int), Cond.methodLink RX11 108 yX8_has, Cond.instanceMethod yX8_has, Cond.selects RX8 yX8_has yX8_has, Cond.code yX8_has cX8_has 2 (some .boolean), Cond.methodLink RX11 111 yX4_read, Cond.instanceMethod yX4_read]
def ch2_6 : List Cond := [Cond.selects RX4 yX4_read yX4_read, Cond.code yX4_read cX4_read 5 (some .int), Cond.methodLink RX4 18 yX9_take, Cond.instanceMethod yX9_take, Cond.selects RX9 yX9_take yX9_take, Cond.code yX9_take cX9_take 4 none, Cond.methodLink RX9 25 Lib.Math.min.name, Cond.static Lib.Math.min.name, Cond.code Lib.Math.min.name Lib.Math.min.code 2 (some .int), Cond.methodLink RX9 31 yX8_at, Cond.instanceMethod yX8_at, Cond.selects RX8 yX8_at yX8_at, Cond.code yX8_at cX8_at 2 (some .int), Cond.methodLinkNest RX8 21 yX11_within "DraughtWebs", Cond.methodLink RX4 22 yX3_clearRules, Cond.instanceMethod yX3_clearRules]
def ch2_7 : List Cond := [Cond.selects RX3 yX3_clearRules yX3_clearRules, Cond.code yX3_clearRules cX3_clearRules 1 none, Cond.methodLink RX4 27 yX4_rule, Cond.privateMethod yX4_rule, Cond.instanceMethod yX4_rule, Cond.code yX4_rule cX4_rule 3 (some .boolean), Cond.methodLink RX4 35 yX9_peek, Cond.instanceMethod yX9_peek, Cond.selects RX9 yX9_peek yX9_peek, Cond.code yX9_peek cX9_peek 1 (some .int), Cond.methodLink RX4 46 yX9_fail, Cond.instanceMethod yX9_fail, Cond.selects RX9 yX9_fail yX9_fail, Cond.code yX9_fail cX9_fail 2 (some .boolean), Cond.methodLink RX9 41 yX9_failAt, Cond.instanceMethod yX9_failAt]
def ch2_8 : List Cond := [Cond.selects RX9 yX9_failAt yX9_failAt, Cond.code yX9_failAt cX9_failAt 3 (some .boolean), Cond.methodLink RX4 49 yX3_isFull, Cond.instanceMethod yX3_isFull, Cond.selects RX3 yX3_isFull yX3_isFull, Cond.code yX3_isFull cX3_isFull 1 (some .boolean), Cond.methodLink RX4 53 yX9_step, Cond.instanceMethod yX9_step, Cond.selects RX9 yX9_step yX9_step, Cond.code yX9_step cX9_step 1 none, Cond.methodLink RX4 56 yX3_beginRule, Cond.instanceMethod yX3_beginRule, Cond.selects RX3 yX3_beginRule yX3_beginRule, Cond.code yX3_beginRule cX3_beginRule 2 none, Cond.methodLink RX4 60 yX4_sum, Cond.privateMethod yX4_sum]
def ch2_9 : List Cond := [Cond.instanceMethod yX4_sum, Cond.code yX4_sum cX4_sum 5 (some .boolean), Cond.methodLink RX4 86 yX4_term, Cond.privateMethod yX4_term, Cond.instanceMethod yX4_term, Cond.code yX4_term cX4_term 5 (some .boolean), Cond.methodLink RX4 89 yX4_factor, Cond.privateMethod yX4_factor, Cond.instanceMethod yX4_factor, Cond.code yX4_factor cX4_factor 4 (some .boolean), Cond.methodLink RX4 42 yX9_stepOver, Cond.instanceMethod yX9_stepOver, Cond.selects RX9 yX9_stepOver yX9_stepOver, Cond.code yX9_stepOver cX9_stepOver 2 (some .boolean), Cond.methodLink RX9 37 yX9_peek, Cond.methodLink RX9 45 yX9_step]
def ch2_10 : List Cond := [Cond.methodLink RX4 92 yX9_isAt, Cond.instanceMethod yX9_isAt, Cond.selects RX9 yX9_isAt yX9_isAt, Cond.code yX9_isAt cX9_isAt 3 (some .boolean), Cond.methodLink RX4 96 yX9_number, Cond.instanceMethod yX9_number, Cond.selects RX9 yX9_number yX9_number, Cond.code yX9_number cX9_number 5 (some .int), Cond.methodLink RX9 48 yX9_isAt, Cond.methodLink RX4 100 yX3_writeNumber, Cond.instanceMethod yX3_writeNumber, Cond.selects RX3 yX3_writeNumber yX3_writeNumber, Cond.code yX3_writeNumber cX3_writeNumber 2 none, Cond.methodLink RX3 50 yX3_write, Cond.privateMethod yX3_write, Cond.instanceMethod yX3_write]
def ch2_11 : List Cond := [Cond.code yX3_write cX3_write 3 none, Cond.methodLink RX4 103 yX3_writeLetter, Cond.instanceMethod yX3_writeLetter, Cond.selects RX3 yX3_writeLetter yX3_writeLetter, Cond.code yX3_writeLetter cX3_writeLetter 3 (some .boolean), Cond.fieldLink RX3 58 "DraughtWebs$Law" "LETTERS" "[I", Cond.laysStatic "DraughtWebs$Law" "LETTERS" "[I", Cond.methodLink RX4 80 yX3_writeSign, Cond.instanceMethod yX3_writeSign, Cond.selects RX3 yX3_writeSign yX3_writeSign, Cond.code yX3_writeSign cX3_writeSign 2 none, Cond.methodLink RX4 64 yX3_endWorth, Cond.instanceMethod yX3_endWorth, Cond.selects RX3 yX3_endWorth yX3_endWorth, Cond.code yX3_endWorth cX3_endWorth 1 none, Cond.methodLinkNest RX3 54 yX11_within "DraughtWebs"]
def ch2_12 : List Cond := [Cond.methodLink RX4 67 yX4_condition, Cond.privateMethod yX4_condition, Cond.instanceMethod yX4_condition, Cond.code yX4_condition cX4_condition 7 (some .boolean), Cond.methodLink RX4 74 yX4_test, Cond.privateMethod yX4_test, Cond.instanceMethod yX4_test, Cond.code yX4_test cX4_test 5 (some .boolean), Cond.methodLink RX4 77 yX3_landJump, Cond.instanceMethod yX3_landJump, Cond.selects RX3 yX3_landJump yX3_landJump, Cond.code yX3_landJump cX3_landJump 2 none, Cond.methodLink RX4 83 yX3_lastSign, Cond.instanceMethod yX3_lastSign, Cond.selects RX3 yX3_lastSign yX3_lastSign, Cond.code yX3_lastSign cX3_lastSign 1 (some .int)]
def ch2_13 : List Cond := [Cond.methodLink RX4 71 yX3_endRule, Cond.instanceMethod yX3_endRule, Cond.selects RX3 yX3_endRule yX3_endRule, Cond.code yX3_endRule cX3_endRule 1 none, Cond.methodLink RX4 39 yX3_size, Cond.instanceMethod yX3_size, Cond.selects RX3 yX3_size yX3_size, Cond.code yX3_size cX3_size 1 (some .int), Cond.methodLink RX11 115 yX8_empty, Cond.instanceMethod yX8_empty, Cond.selects RX8 yX8_empty yX8_empty, Cond.code yX8_empty cX8_empty 1 none, Cond.methodLink RL 28 yX11_chart, Cond.instanceMethod yX11_chart, Cond.selects RX11 yX11_chart yX11_chart, Cond.code yX11_chart cX11_chart 4 (some .int)]
def ch2_14 : List Cond := [Cond.methodLink RX11 118 yX0_read, Cond.instanceMethod yX0_read, Cond.selects RX0 yX0_read yX0_read, Cond.code yX0_read cX0_read 5 (some .int), Cond.methodLink RX0 18 yX9_take, Cond.methodLink RX0 22 yX7_clearChart, Cond.instanceMethod yX7_clearChart, Cond.selects RX7 yX7_clearChart yX7_clearChart, Cond.code yX7_clearChart cX7_clearChart 1 none, Cond.methodLink RX0 27 yX0_line, Cond.privateMethod yX0_line, Cond.instanceMethod yX0_line, Cond.code yX0_line cX0_line 7 (some .boolean), Cond.methodLink RX0 43 yX9_isAt, Cond.methodLink RX0 47 yX9_fail, Cond.methodLink RX0 35 yX9_peek]
def ch3_0 : List Cond := [Cond.methodLink RX0 50 yX7_hasWeb, Cond.methodLink RX0 53 yX7_hasFleet, Cond.instanceMethod yX7_hasFleet, Cond.selects RX7 yX7_hasFleet yX7_hasFleet, Cond.code yX7_hasFleet cX7_hasFleet 2 (some .boolean), Cond.methodLink RX0 56 yX9_step, Cond.methodLink RX0 39 yX9_stepOver, Cond.methodLink RX0 59 yX0_coordinate, Cond.privateMethod yX0_coordinate, Cond.instanceMethod yX0_coordinate, Cond.code yX0_coordinate cX0_coordinate 4 (some .int), Cond.methodLink RX0 74 yX9_number, Cond.methodLink RX0 77 yX9_failAt, Cond.methodLink RX0 63 yX7_tellWeb, Cond.instanceMethod yX7_tellWeb, Cond.selects RX7 yX7_tellWeb yX7_tellWeb]
def ch3_1 : List Cond := [Cond.code yX7_tellWeb cX7_tellWeb 5 none, Cond.methodLinkNest RX7 46 yX11_within "DraughtWebs", Cond.methodLink RX0 67 yX0_fleet, Cond.privateMethod yX0_fleet, Cond.instanceMethod yX0_fleet, Cond.code yX0_fleet cX0_fleet 7 (some .boolean), Cond.methodLink RX0 80 yX7_tellFleet, Cond.instanceMethod yX7_tellFleet, Cond.selects RX7 yX7_tellFleet yX7_tellFleet, Cond.code yX7_tellFleet cX7_tellFleet 6 none, Cond.methodLink RL 32 yX11_hours, Cond.instanceMethod yX11_hours, Cond.selects RX11 yX11_hours yX11_hours, Cond.code yX11_hours cX11_hours 2 (some .int), Cond.methodLink RX11 128 yX7_passHours, Cond.instanceMethod yX7_passHours]
def ch3_2 : List Cond := [Cond.selects RX7 yX7_passHours yX7_passHours, Cond.code yX7_passHours cX7_passHours 6 (some .int), Cond.methodLink RX7 96 yX7_moveFleet, Cond.instanceMethod yX7_moveFleet, Cond.selects RX7 yX7_moveFleet yX7_moveFleet, Cond.code yX7_moveFleet cX7_moveFleet 4 none, Cond.methodLink RX7 60 yX7_hasFleet, Cond.methodLink RX7 104 yX1_stepAcross, Cond.static yX1_stepAcross, Cond.code yX1_stepAcross cX1_stepAcross 1 (some .int), Cond.methodLinkNest RX1 9 yX11_within "DraughtWebs", Cond.fieldLink RX1 13 "DraughtWebs$Compass" "ACROSS" "[I", Cond.laysStatic "DraughtWebs$Compass" "ACROSS" "[I", Cond.methodLink RX7 107 yX1_stepAlong, Cond.static yX1_stepAlong, Cond.code yX1_stepAlong cX1_stepAlong 1 (some .int)]
def ch3_3 : List Cond := [Cond.fieldLink RX1 19 "DraughtWebs$Compass" "ALONG" "[I", Cond.laysStatic "DraughtWebs$Compass" "ALONG" "[I", Cond.methodLink RX7 110 yX1_onChart, Cond.static yX1_onChart, Cond.code yX1_onChart cX1_onChart 2 (some .boolean), Cond.methodLink RX7 56 yX7_hasWeb, Cond.methodLink RX7 100 yX7_passWeb, Cond.privateMethod yX7_passWeb, Cond.instanceMethod yX7_passWeb, Cond.code yX7_passWeb cX7_passWeb 7 (some .int), Cond.methodLink RX7 93 yX7_felt, Cond.instanceMethod yX7_felt, Cond.selects RX7 yX7_felt yX7_felt, Cond.code yX7_felt cX7_felt 3 (some .int), Cond.methodLink RX7 90 yX7_distanceTo, Cond.instanceMethod yX7_distanceTo]
def ch3_4 : List Cond := [Cond.selects RX7 yX7_distanceTo yX7_distanceTo, Cond.code yX7_distanceTo cX7_distanceTo 3 (some .int), Cond.methodLink RX7 84 yX1_distance, Cond.static yX1_distance, Cond.code yX1_distance cX1_distance 2 (some .int), Cond.methodLink RX1 22 Lib.Math.abs.name, Cond.static Lib.Math.abs.name, Cond.code Lib.Math.abs.name Lib.Math.abs.code 1 (some .int), Cond.methodLink RX1 28 Lib.Math.max.name, Cond.static Lib.Math.max.name, Cond.code Lib.Math.max.name Lib.Math.max.code 2 (some .int), Cond.methodLink RX7 114 yX7_spokeTo, Cond.instanceMethod yX7_spokeTo, Cond.selects RX7 yX7_spokeTo yX7_spokeTo, Cond.code yX7_spokeTo cX7_spokeTo 3 (some .int), Cond.methodLink RX7 87 yX1_spokeTowards]
def ch3_5 : List Cond := [Cond.static yX1_spokeTowards, Cond.code yX1_spokeTowards cX1_spokeTowards 4 (some .int), Cond.methodLink RX7 117 yX7_touch, Cond.privateMethod yX7_touch, Cond.instanceMethod yX7_touch, Cond.code yX7_touch cX7_touch 6 (some .boolean), Cond.constant RX7 125 (65536), Cond.methodLink RX7 78 yX7_slackSpokes, Cond.instanceMethod yX7_slackSpokes, Cond.selects RX7 yX7_slackSpokes yX7_slackSpokes, Cond.code yX7_slackSpokes cX7_slackSpokes 2 (some .int), Cond.methodLink RX7 69 yX7_slackBits, Cond.instanceMethod yX7_slackBits, Cond.selects RX7 yX7_slackBits yX7_slackBits, Cond.code yX7_slackBits cX7_slackBits 4 (some .int), Cond.methodLink RX7 73 yJ6_bitCount_0f7a4]
def ch3_6 : List Cond := [Cond.static yJ6_bitCount_0f7a4, Cond.code yJ6_bitCount_0f7a4 cJ6_bitCount_0f7a4 1 (some .int), Cond.constant RJ6 265 (1431655765), Cond.constant RJ6 266 (858993459), Cond.constant RJ6 267 (252645135), Cond.methodLink RX7 126 yX3_seeWeb, Cond.instanceMethod yX3_seeWeb, Cond.selects RX3 yX3_seeWeb yX3_seeWeb, Cond.code yX3_seeWeb cX3_seeWeb 6 none, Cond.methodLink RX7 132 yX3_seeFleet, Cond.instanceMethod yX3_seeFleet, Cond.selects RX3 yX3_seeFleet yX3_seeFleet, Cond.code yX3_seeFleet cX3_seeFleet 6 none, Cond.methodLink RX7 135 yX3_firstRule, Cond.instanceMethod yX3_firstRule, Cond.selects RX3 yX3_firstRule yX3_firstRule]
def ch3_7 : List Cond := [Cond.code yX3_firstRule cX3_firstRule 3 (some .int), Cond.methodLink RX3 65 yX3_run, Cond.privateMethod yX3_run, Cond.instanceMethod yX3_run, Cond.code yX3_run cX3_run 6 none, Cond.methodLink RX3 78 yX3_heapUp, Cond.privateMethod yX3_heapUp, Cond.instanceMethod yX3_heapUp, Cond.code yX3_heapUp cX3_heapUp 2 none, Cond.methodLink RX3 81 yX3_compare, Cond.privateMethod yX3_compare, Cond.instanceMethod yX3_compare, Cond.code yX3_compare cX3_compare 4 none, Cond.methodLink RX3 84 yX3_reckon, Cond.privateMethod yX3_reckon, Cond.instanceMethod yX3_reckon]
def ch3_8 : List Cond := [Cond.code yX3_reckon cX3_reckon 4 none, Cond.methodLink RX7 138 yX3_worthOf, Cond.instanceMethod yX3_worthOf, Cond.selects RX3 yX3_worthOf yX3_worthOf, Cond.code yX3_worthOf cX3_worthOf 2 (some .int), Cond.methodLink RX3 69 Lib.Math.min.name, Cond.methodLink RX3 75 Lib.Math.max.name, Cond.methodLink RX7 141 Lib.Math.max.name, Cond.methodLink RX7 121 yX7_mend, Cond.privateMethod yX7_mend, Cond.instanceMethod yX7_mend, Cond.code yX7_mend cX7_mend 6 none, Cond.methodLink RX7 146 yX3_seeNoFleet, Cond.instanceMethod yX3_seeNoFleet, Cond.selects RX3 yX3_seeNoFleet yX3_seeNoFleet, Cond.code yX3_seeNoFleet cX3_seeNoFleet 1 none]
def ch3_9 : List Cond := [Cond.methodLink RX3 61 yX3_seeFleet, Cond.methodLink RX7 149 Lib.Math.min.name, Cond.methodLink RL 36 yX11_tried, Cond.instanceMethod yX11_tried, Cond.selects RX11 yX11_tried yX11_tried, Cond.code yX11_tried cX11_tried 4 (some .int), Cond.methodLink RX11 132 yX11_canBeTried, Cond.privateMethod yX11_canBeTried, Cond.instanceMethod yX11_canBeTried, Cond.code yX11_canBeTried cX11_canBeTried 2 (some .boolean), Cond.methodLink RX11 152 yX7_hasFleet, Cond.methodLink RX11 135 yX7_copyFrom, Cond.instanceMethod yX7_copyFrom, Cond.selects RX7 yX7_copyFrom yX7_copyFrom, Cond.code yX7_copyFrom cX7_copyFrom 2 none, Cond.methodLink RX7 50 arraycopyName]
def ch3_10 : List Cond := [Cond.static arraycopyName, Cond.native arraycopyName, Cond.methodLink RX11 139 yX7_allSlackSpokes, Cond.instanceMethod yX7_allSlackSpokes, Cond.selects RX7 yX7_allSlackSpokes yX7_allSlackSpokes, Cond.code yX7_allSlackSpokes cX7_allSlackSpokes 3 (some .int), Cond.methodLink RX11 142 yX7_tensionsOf, Cond.instanceMethod yX7_tensionsOf, Cond.selects RX7 yX7_tensionsOf yX7_tensionsOf, Cond.code yX7_tensionsOf cX7_tensionsOf 4 (some .int), Cond.methodLink RX11 146 yX7_placeOfFleet, Cond.instanceMethod yX7_placeOfFleet, Cond.selects RX7 yX7_placeOfFleet yX7_placeOfFleet, Cond.code yX7_placeOfFleet cX7_placeOfFleet 2 (some .int), Cond.methodLink RX7 63 yX1_place, Cond.static yX1_place]
def ch3_11 : List Cond := [Cond.code yX1_place cX1_place 2 (some .int), Cond.methodLink RX11 149 yX7_toldCourse, Cond.instanceMethod yX7_toldCourse, Cond.selects RX7 yX7_toldCourse yX7_toldCourse, Cond.code yX7_toldCourse cX7_toldCourse 2 (some .int), Cond.methodLink RL 41 yX11_webIs, Cond.instanceMethod yX11_webIs, Cond.selects RX11 yX11_webIs yX11_webIs, Cond.code yX11_webIs cX11_webIs 3 (some .int), Cond.methodLink RX11 161 yX1_place, Cond.methodLink RX11 167 yX7_slackBits, Cond.methodLink RL 45 yX11_fleetIs, Cond.instanceMethod yX11_fleetIs, Cond.selects RX11 yX11_fleetIs yX11_fleetIs, Cond.code yX11_fleetIs cX11_fleetIs 3 (some .int), Cond.methodLink RL 49 yX11_feels]
def ch3_12 : List Cond := [Cond.instanceMethod yX11_feels, Cond.selects RX11 yX11_feels yX11_feels, Cond.code yX11_feels cX11_feels 4 (some .int), Cond.methodLink RX11 173 yX7_strongestFleet, Cond.instanceMethod yX7_strongestFleet, Cond.selects RX7 yX7_strongestFleet yX7_strongestFleet, Cond.code yX7_strongestFleet cX7_strongestFleet 5 (some .int), Cond.methodLink RX11 176 yX7_spokeTo, Cond.methodLink RX11 179 yX7_felt, Cond.methodLink RL 53 yX11_when, Cond.instanceMethod yX11_when, Cond.selects RX11 yX11_when yX11_when, Cond.code yX11_when cX11_when 5 (some .int), Cond.methodLink RX11 182 yX7_moveFleet, Cond.methodLink RL 58 yX11_fix, Cond.instanceMethod yX11_fix]
def ch3_13 : List Cond := [Cond.selects RX11 yX11_fix yX11_fix, Cond.code yX11_fix cX11_fix 4 (some .int), Cond.methodLink RX11 185 yX6_fixBy, Cond.instanceMethod yX6_fixBy, Cond.selects RX6 yX6_fixBy yX6_fixBy, Cond.code yX6_fixBy cX6_fixBy 7 (some .int), Cond.methodLink RX6 23 yX8_at, Cond.methodLink RX6 29 yX7_hasWeb, Cond.methodLink RX6 35 yX6_isToward, Cond.privateMethod yX6_isToward, Cond.instanceMethod yX6_isToward, Cond.code yX6_isToward cX6_isToward 9 (some .boolean), Cond.methodLink RX6 45 yX1_spokeTowards, Cond.methodLink RL 62 yX11_bearings, Cond.instanceMethod yX11_bearings, Cond.selects RX11 yX11_bearings yX11_bearings]
def ch3_14 : List Cond := [Cond.code yX11_bearings cX11_bearings 5 (some .int), Cond.methodLink RX11 189 yX6_crossing, Cond.instanceMethod yX6_crossing, Cond.selects RX6 yX6_crossing yX6_crossing, Cond.code yX6_crossing cX6_crossing 9 (some .int), Cond.methodLink RX6 51 yX1_stepAcross, Cond.methodLink RX6 54 yX1_stepAlong, Cond.methodLink RX6 57 yX1_onChart, Cond.methodLink RX6 61 yX6_isOnWay, Cond.static yX6_isOnWay, Cond.code yX6_isOnWay cX6_isOnWay 4 (some .boolean), Cond.methodLink RX6 68 yX1_distance, Cond.methodLink RX6 65 yX1_place, Cond.methodLink RL 67 yX11_allTheSea, Cond.instanceMethod yX11_allTheSea, Cond.selects RX11 yX11_allTheSea yX11_allTheSea]
def ch4_0 : List Cond := [Cond.code yX11_allTheSea cX11_allTheSea 4 (some .int), Cond.methodLink RX11 193 yX6_fewestWebs, Cond.instanceMethod yX6_fewestWebs, Cond.selects RX6 yX6_fewestWebs yX6_fewestWebs, Cond.code yX6_fewestWebs cX6_fewestWebs 6 (some .int), Cond.methodLink RX6 71 yX6_listReachers, Cond.privateMethod yX6_listReachers, Cond.instanceMethod yX6_listReachers, Cond.code yX6_listReachers cX6_listReachers 5 none, Cond.methodLink RX6 86 yX6_reachersOf, Cond.privateMethod yX6_reachersOf, Cond.instanceMethod yX6_reachersOf, Cond.code yX6_reachersOf cX6_reachersOf 6 (some .int), Cond.methodLink RX6 93 yX6_wayTo, Cond.privateMethod yX6_wayTo, Cond.instanceMethod yX6_wayTo]
def ch4_1 : List Cond := [Cond.code yX6_wayTo cX6_wayTo 5 (some .int), Cond.methodLinkNest RX6 90 yX11_within "DraughtWebs", Cond.methodLink RX6 78 yJ6_bitCount_0f7a4, Cond.methodLink RX6 83 yX6_meetsAll, Cond.privateMethod yX6_meetsAll, Cond.instanceMethod yX6_meetsAll, Cond.code yX6_meetsAll cX6_meetsAll 3 (some .boolean), Cond.methodLink RX11 197 yJ6_bitCount_0f7a4, Cond.methodLink RL 71 yX11_quiet, Cond.instanceMethod yX11_quiet, Cond.selects RX11 yX11_quiet yX11_quiet, Cond.code yX11_quiet cX11_quiet 3 (some .int), Cond.methodLink RX11 202 yX6_quietPlaces, Cond.instanceMethod yX6_quietPlaces, Cond.selects RX6 yX6_quietPlaces yX6_quietPlaces, Cond.code yX6_quietPlaces cX6_quietPlaces 5 (some .int)]
def ch4_2 : List Cond := [Cond.methodLink RX11 205 yX6_firstQuiet, Cond.instanceMethod yX6_firstQuiet, Cond.selects RX6 yX6_firstQuiet yX6_firstQuiet, Cond.code yX6_firstQuiet cX6_firstQuiet 4 (some .int), Cond.methodLink RL 75 yX11_nearest, Cond.instanceMethod yX11_nearest, Cond.selects RX11 yX11_nearest yX11_nearest, Cond.code yX11_nearest cX11_nearest 3 (some .int), Cond.methodLink RX11 208 yX1_onChart, Cond.methodLink RX11 212 yX6_webNearTo, Cond.instanceMethod yX6_webNearTo, Cond.selects RX6 yX6_webNearTo yX6_webNearTo, Cond.code yX6_webNearTo cX6_webNearTo 7 (some .int), Cond.methodLink RL 79 yX11_share, Cond.instanceMethod yX11_share, Cond.selects RX11 yX11_share yX11_share]
def ch4_3 : List Cond := [Cond.code yX11_share cX11_share 2 (some .int), Cond.methodLink RX11 216 yX6_placesNearTo, Cond.instanceMethod yX6_placesNearTo, Cond.selects RX6 yX6_placesNearTo yX6_placesNearTo, Cond.code yX6_placesNearTo cX6_placesNearTo 5 (some .int), Cond.methodLink RX6 97 yX6_webNearTo, Cond.methodLink RL 83 yX11_log, Cond.instanceMethod yX11_log, Cond.selects RX11 yX11_log yX11_log, Cond.code yX11_log cX11_log 5 (some .int), Cond.methodLink RX11 219 yX5_read, Cond.instanceMethod yX5_read, Cond.selects RX5 yX5_read yX5_read, Cond.code yX5_read cX5_read 3 (some .int), Cond.methodLink RX5 26 yX9_take, Cond.methodLink RX5 30 yX5_row]
def ch4_4 : List Cond := [Cond.privateMethod yX5_row, Cond.instanceMethod yX5_row, Cond.code yX5_row cX5_row 4 (some .boolean), Cond.methodLink RX5 37 yX9_peek, Cond.methodLink RX5 41 yX5_innerRow, Cond.privateMethod yX5_innerRow, Cond.instanceMethod yX5_innerRow, Cond.code yX5_innerRow cX5_innerRow 6 (some .boolean), Cond.methodLink RX5 48 yX9_fail, Cond.methodLink RX5 55 yX9_step, Cond.methodLink RX5 61 yX9_stepOver, Cond.methodLink RX5 51 yX9_isAt, Cond.methodLink RX5 64 yX9_failAt, Cond.methodLink RX5 67 yX5_repeat, Cond.privateMethod yX5_repeat, Cond.instanceMethod yX5_repeat]
def ch4_5 : List Cond := [Cond.code yX5_repeat cX5_repeat 4 none, Cond.methodLinkNest RX5 71 yX11_within "DraughtWebs", Cond.methodLink RX5 44 yX5_spoke, Cond.privateMethod yX5_spoke, Cond.instanceMethod yX5_spoke, Cond.code yX5_spoke cX5_spoke 1 (some .boolean), Cond.methodLink RX11 222 yX5_answer, Cond.instanceMethod yX5_answer, Cond.selects RX5 yX5_answer yX5_answer, Cond.code yX5_answer cX5_answer 2 (some .int), Cond.methodLink RX5 75 yX5_commonest, Cond.privateMethod yX5_commonest, Cond.instanceMethod yX5_commonest, Cond.code yX5_commonest cX5_commonest 3 (some .int), Cond.methodLink RX5 87 yX5_timesOf, Cond.privateMethod yX5_timesOf]
def ch4_6 : List Cond := [Cond.instanceMethod yX5_timesOf, Cond.code yX5_timesOf cX5_timesOf 4 (some .int), Cond.methodLink RX5 78 yX5_longestRow, Cond.privateMethod yX5_longestRow, Cond.instanceMethod yX5_longestRow, Cond.code yX5_longestRow cX5_longestRow 4 (some .int), Cond.methodLink RX5 91 Lib.Math.max.name, Cond.methodLink RX5 81 yX5_turns, Cond.privateMethod yX5_turns, Cond.instanceMethod yX5_turns, Cond.code yX5_turns cX5_turns 4 (some .int), Cond.methodLink RX5 84 yX5_period, Cond.privateMethod yX5_period, Cond.instanceMethod yX5_period, Cond.code yX5_period cX5_period 2 (some .int), Cond.methodLink RX5 97 yX5_goesOnBy]
def ch4_7 : List Cond := [Cond.privateMethod yX5_goesOnBy, Cond.instanceMethod yX5_goesOnBy, Cond.code yX5_goesOnBy cX5_goesOnBy 3 (some .boolean), Cond.methodLink RL 87 yX11_inCommon, Cond.instanceMethod yX11_inCommon, Cond.selects RX11 yX11_inCommon yX11_inCommon, Cond.code yX11_inCommon cX11_inCommon 4 (some .int), Cond.methodLink RX11 225 yX2_commonBytes, Cond.instanceMethod yX2_commonBytes, Cond.selects RX2 yX2_commonBytes yX2_commonBytes, Cond.code yX2_commonBytes cX2_commonBytes 10 (some .int), Cond.methodLink RX2 31 Lib.Math.min.name, Cond.methodLink RX2 37 yX8_at, Cond.methodLink RX2 43 Lib.Math.max.name, Cond.methodLink RL 91 yX11_code, Cond.instanceMethod yX11_code]
def ch4_8 : List Cond := [Cond.selects RX11 yX11_code yX11_code, Cond.code yX11_code cX11_code 4 (some .int), Cond.methodLink RX11 229 yX2_shortestCode, Cond.instanceMethod yX2_shortestCode, Cond.selects RX2 yX2_shortestCode yX2_shortestCode, Cond.code yX2_shortestCode cX2_shortestCode 9 (some .int), Cond.methodLink RX2 46 yX2_takeRarest, Cond.privateMethod yX2_takeRarest, Cond.instanceMethod yX2_takeRarest, Cond.code yX2_takeRarest cX2_takeRarest 4 (some .int), Cond.methodLink RL 95 yX11_crawls, Cond.instanceMethod yX11_crawls, Cond.selects RX11 yX11_crawls yX11_crawls, Cond.code yX11_crawls cX11_crawls 5 (some .int), Cond.methodLink RX11 232 yX10_threadsTo, Cond.instanceMethod yX10_threadsTo]
def ch4_9 : List Cond := [Cond.selects RX10 yX10_threadsTo yX10_threadsTo, Cond.code yX10_threadsTo cX10_threadsTo 6 (some .int), Cond.methodLink RX10 22 yX10_reach, Cond.privateMethod yX10_reach, Cond.instanceMethod yX10_reach, Cond.code yX10_reach cX10_reach 3 none, Cond.methodLinkNest RX10 47 yX11_within "DraughtWebs", Cond.methodLink RX10 26 yX10_leaveMiddle, Cond.privateMethod yX10_leaveMiddle, Cond.instanceMethod yX10_leaveMiddle, Cond.code yX10_leaveMiddle cX10_leaveMiddle 3 none, Cond.methodLink RX10 38 yX10_isTorn, Cond.static yX10_isTorn, Cond.code yX10_isTorn cX10_isTorn 3 (some .boolean), Cond.methodLink RX10 42 yX8_at, Cond.methodLink RX10 30 yX10_leaveKnot]
def ch4_10 : List Cond := [Cond.privateMethod yX10_leaveKnot, Cond.instanceMethod yX10_leaveKnot, Cond.code yX10_leaveKnot cX10_leaveKnot 9 none, Cond.methodLink RX10 34 yX10_wayTo, Cond.privateMethod yX10_wayTo, Cond.instanceMethod yX10_wayTo, Cond.code yX10_wayTo cX10_wayTo 2 (some .int), Cond.methodLink RL 99 yX11_hangs, Cond.instanceMethod yX11_hangs, Cond.selects RX11 yX11_hangs yX11_hangs, Cond.code yX11_hangs cX11_hangs 9 (some .long), Cond.constantLong RX11 236 (-1), Cond.constantLong RX11 238 (2), Cond.methodLink RL 104 yX11_smoothed, Cond.instanceMethod yX11_smoothed, Cond.selects RX11 yX11_smoothed yX11_smoothed]
def ch4_11 : List Cond := [Cond.code yX11_smoothed cX11_smoothed 4 (some .int), Cond.methodLink RX11 240 yX2_smooth, Cond.instanceMethod yX2_smooth, Cond.selects RX2 yX2_smooth yX2_smooth, Cond.code yX2_smooth cX2_smooth 8 (some .int), Cond.methodLink RX2 49 yX2_smoothOnce, Cond.privateMethod yX2_smoothOnce, Cond.instanceMethod yX2_smoothOnce, Cond.code yX2_smoothOnce cX2_smoothOnce 4 (some .boolean), Cond.methodLink RX2 53 yX2_middle, Cond.static yX2_middle, Cond.code yX2_middle cX2_middle 3 (some .int), Cond.methodLink RL 108 yX11_spell, Cond.instanceMethod yX11_spell, Cond.selects RX11 yX11_spell yX11_spell, Cond.code yX11_spell cX11_spell 4 (some .int)]
def ch4_12 : List Cond := [Cond.constant RX11 243 (-1000000), Cond.methodLink RX11 244 yX2_worstSpell, Cond.instanceMethod yX2_worstSpell, Cond.selects RX2 yX2_worstSpell yX2_worstSpell, Cond.code yX2_worstSpell cX2_worstSpell 10 (some .int), Cond.constant RX2 57 (-1000000), Cond.methodLink RL 112 yX11_salutes, Cond.instanceMethod yX11_salutes, Cond.selects RX11 yX11_salutes yX11_salutes, Cond.code yX11_salutes cX11_salutes 3 (some .int), Cond.methodLink RX11 247 yX2_mostSalutes, Cond.instanceMethod yX2_mostSalutes, Cond.selects RX2 yX2_mostSalutes yX2_mostSalutes, Cond.code yX2_mostSalutes cX2_mostSalutes 7 (some .int), Cond.methodLink RX2 58 yX2_firstEnd, Cond.privateMethod yX2_firstEnd]
def ch4_13 : List Cond := [Cond.instanceMethod yX2_firstEnd, Cond.code yX2_firstEnd cX2_firstEnd 7 (some .int), Cond.methodLink RL 116 yX11_rent, Cond.instanceMethod yX11_rent, Cond.selects RX11 yX11_rent yX11_rent, Cond.code yX11_rent cX11_rent 4 (some .int), Cond.methodLink RX11 250 yX2_highestOffer, Cond.instanceMethod yX2_highestOffer, Cond.selects RX2 yX2_highestOffer yX2_highestOffer, Cond.code yX2_highestOffer cX2_highestOffer 7 (some .int), Cond.methodLink RL 120 yX11_seed, Cond.instanceMethod yX11_seed, Cond.selects RX11 yX11_seed yX11_seed, Cond.code yX11_seed cX11_seed 2 (some .boolean), Cond.constant RX11 253 (65535), Cond.methodLink RL 125 yX11_keep]
def ch4_14 : List Cond := [Cond.instanceMethod yX11_keep, Cond.selects RX11 yX11_keep yX11_keep, Cond.code yX11_keep cX11_keep 1 (some .int), Cond.methodLink RL 130 yX11_undo, Cond.instanceMethod yX11_undo, Cond.selects RX11 yX11_undo yX11_undo, Cond.code yX11_undo cX11_undo 1 (some .boolean), Cond.methodLink RX11 254 yX7_takeBack, Cond.instanceMethod yX7_takeBack, Cond.selects RX7 yX7_takeBack yX7_takeBack, Cond.code yX7_takeBack cX7_takeBack 3 none, Cond.methodLink RL 135 yX11_check, Cond.instanceMethod yX11_check, Cond.selects RX11 yX11_check yX11_check, Cond.code yX11_check cX11_check 5 (some .int), Cond.methodLink RX11 257 yX7_slackSpokes]
def ch5_0 : List Cond := [Cond.methodLink RX11 260 yX8_at, Cond.methodLink RL 139 yX11_count, Cond.instanceMethod yX11_count, Cond.selects RX11 yX11_count yX11_count, Cond.code yX11_count cX11_count 2 (some .int), Cond.methodLink RX11 269 yX3_size, Cond.methodLink RX11 270 yX7_allTensions, Cond.instanceMethod yX7_allTensions, Cond.selects RX7 yX7_allTensions yX7_allTensions, Cond.code yX7_allTensions cX7_allTensions 3 (some .int), Cond.methodLink RX7 81 yX7_tensionsOf, Cond.classLink RL 10 RX12, Cond.instantiable RX12 57, Cond.methodLink RL 12 yX12_init, Cond.instanceMethod yX12_init, Cond.code yX12_init cX12_init 1 none]
def ch5_1 : List Cond := [Cond.methodLink RX12 1 objectInit, Cond.fieldLink RX12 7 "DraughtWebsModel" "now" "[I", Cond.fieldLink RX12 13 "DraughtWebsModel" "aside" "[I", Cond.fieldLink RX12 16 "DraughtWebsModel" "kept" "[I", Cond.fieldLink RX12 19 "DraughtWebsModel" "webAt" "[I", Cond.fieldLink RX12 22 "DraughtWebsModel" "forceOf" "[I", Cond.fieldLink RX12 114 "DraughtWebsModel" "webs" "I", Cond.fieldLink RX12 122 "DraughtWebsModel" "fleets" "I", Cond.fieldLink RX12 25 "DraughtWebsModel" "tape" "[B", Cond.fieldLink RX12 143 "DraughtWebsModel" "taped" "I", Cond.fieldLink RX12 150 "DraughtWebsModel" "place0" "I", Cond.fieldLink RX12 153 "DraughtWebsModel" "length0" "I", Cond.fieldLink RX12 160 "DraughtWebsModel" "fault" "I", Cond.fieldLink RX12 166 "DraughtWebsModel" "number0" "I", Cond.fieldLink RX12 177 "DraughtWebsModel" "open" "I", Cond.fieldLink RX12 173 "DraughtWebsModel" "codeMany" "I"]
def ch5_2 : List Cond := [Cond.fieldLink RX12 180 "DraughtWebsModel" "waiting" "I", Cond.fieldLink RX12 227 "DraughtWebsModel" "saidMany" "I", Cond.fieldLink RX12 242 "DraughtWebsModel" "clauses" "I", Cond.fieldLink RX12 29 "DraughtWebsModel" "said" "[I", Cond.fieldLink RX12 32 "DraughtWebsModel" "waitsAt" "[I", Cond.fieldLink RX12 35 "DraughtWebsModel" "saidLetter" "[I", Cond.fieldLink RX12 38 "DraughtWebsModel" "saidFrom" "[I", Cond.fieldLink RX12 41 "DraughtWebsModel" "saidHalf" "[I", Cond.fieldLink RX12 44 "DraughtWebsModel" "saidTo" "[I", Cond.fieldLink RX12 47 "DraughtWebsModel" "codes" "[I", Cond.fieldLink RX12 50 "DraughtWebsModel" "clauseOf" "[I", Cond.fieldLink RX12 53 "DraughtWebsModel" "codeFrom" "[I", Cond.fieldLink RX12 56 "DraughtWebsModel" "codeHalf" "[I", Cond.fieldLink RX12 59 "DraughtWebsModel" "codeTo" "[I", Cond.fieldLink RX12 62 "DraughtWebsModel" "stack" "[I", Cond.fieldLink RX12 65 "DraughtWebsModel" "facts" "[I"]
def ch5_3 : List Cond := [Cond.fieldLink RX12 68 "DraughtWebsModel" "newWeb" "[I", Cond.fieldLink RX12 71 "DraughtWebsModel" "newPlace" "[I", Cond.fieldLink RX12 74 "DraughtWebsModel" "newForce" "[I", Cond.fieldLink RX12 77 "DraughtWebsModel" "newCourse" "[I", Cond.fieldLink RX12 270 "DraughtWebsModel" "newWebs" "I", Cond.fieldLink RX12 273 "DraughtWebsModel" "newFleets" "I", Cond.fieldLink RX12 267 "DraughtWebsModel" "lines" "I", Cond.fieldLink RX12 255 "DraughtWebsModel" "spot0" "I", Cond.fieldLink RX12 314 "DraughtWebsModel" "touchesNow" "I", Cond.fieldLink RX12 311 "DraughtWebsModel" "touchedSet" "I", Cond.fieldLink RX12 80 "DraughtWebsModel" "logged" "[I", Cond.fieldLink RX12 83 "DraughtWebsModel" "roundPlace" "[I", Cond.fieldLink RX12 86 "DraughtWebsModel" "roundAt" "[I", Cond.fieldLink RX12 369 "DraughtWebsModel" "logMany" "I", Cond.fieldLink RX12 366 "DraughtWebsModel" "rounds" "I", Cond.fieldLink RX12 89 "DraughtWebsModel" "commonTo" "[I"]
def ch5_4 : List Cond := [Cond.fieldLink RX12 92 "DraughtWebsModel" "weightOf" "[I", Cond.fieldLink RX12 95 "DraughtWebsModel" "depthOf" "[I", Cond.fieldLink RX12 98 "DraughtWebsModel" "threadsTo" "[I", Cond.fieldLink RX12 101 "DraughtWebsModel" "line" "[I", Cond.fieldLink RX12 399 "DraughtWebsModel" "lineMany" "I", Cond.fieldLink RX12 104 "DraughtWebsModel" "readNow" "[I", Cond.fieldLink RX12 107 "DraughtWebsModel" "readThen" "[I", Cond.fieldLink RX12 420 "DraughtWebsModel" "isKept" "Z", Cond.fieldLink RX12 424 "DraughtWebsModel" "keptWebs" "I", Cond.fieldLink RX12 427 "DraughtWebsModel" "keptFleets" "I", Cond.laysFinal "DraughtWebsModel" "DraughtWebsModel" "now" "[I", Cond.soleField "DraughtWebsModel" "now", Cond.laysFinal "DraughtWebsModel" "DraughtWebsModel" "aside" "[I", Cond.soleField "DraughtWebsModel" "aside", Cond.laysFinal "DraughtWebsModel" "DraughtWebsModel" "kept" "[I", Cond.soleField "DraughtWebsModel" "kept"]
def ch5_5 : List Cond := [Cond.laysFinal "DraughtWebsModel" "DraughtWebsModel" "webAt" "[I", Cond.soleField "DraughtWebsModel" "webAt", Cond.laysFinal "DraughtWebsModel" "DraughtWebsModel" "forceOf" "[I", Cond.soleField "DraughtWebsModel" "forceOf", Cond.lays "DraughtWebsModel" "DraughtWebsModel" "webs" "I", Cond.soleField "DraughtWebsModel" "webs", Cond.lays "DraughtWebsModel" "DraughtWebsModel" "fleets" "I", Cond.soleField "DraughtWebsModel" "fleets", Cond.laysFinal "DraughtWebsModel" "DraughtWebsModel" "tape" "[B", Cond.soleField "DraughtWebsModel" "tape", Cond.lays "DraughtWebsModel" "DraughtWebsModel" "taped" "I", Cond.soleField "DraughtWebsModel" "taped", Cond.lays "DraughtWebsModel" "DraughtWebsModel" "place0" "I", Cond.soleField "DraughtWebsModel" "place0", Cond.lays "DraughtWebsModel" "DraughtWebsModel" "length0" "I", Cond.soleField "DraughtWebsModel" "length0"]
def ch5_6 : List Cond := [Cond.lays "DraughtWebsModel" "DraughtWebsModel" "fault" "I", Cond.soleField "DraughtWebsModel" "fault", Cond.lays "DraughtWebsModel" "DraughtWebsModel" "number0" "I", Cond.soleField "DraughtWebsModel" "number0", Cond.lays "DraughtWebsModel" "DraughtWebsModel" "open" "I", Cond.soleField "DraughtWebsModel" "open", Cond.lays "DraughtWebsModel" "DraughtWebsModel" "codeMany" "I", Cond.soleField "DraughtWebsModel" "codeMany", Cond.lays "DraughtWebsModel" "DraughtWebsModel" "waiting" "I", Cond.soleField "DraughtWebsModel" "waiting", Cond.lays "DraughtWebsModel" "DraughtWebsModel" "saidMany" "I", Cond.soleField "DraughtWebsModel" "saidMany", Cond.lays "DraughtWebsModel" "DraughtWebsModel" "clauses" "I", Cond.soleField "DraughtWebsModel" "clauses", Cond.laysFinal "DraughtWebsModel" "DraughtWebsModel" "said" "[I", Cond.soleField "DraughtWebsModel" "said"]
def ch5_7 : List Cond := [Cond.laysFinal "DraughtWebsModel" "DraughtWebsModel" "waitsAt" "[I", Cond.soleField "DraughtWebsModel" "waitsAt", Cond.laysFinal "DraughtWebsModel" "DraughtWebsModel" "saidLetter" "[I", Cond.soleField "DraughtWebsModel" "saidLetter", Cond.laysFinal "DraughtWebsModel" "DraughtWebsModel" "saidFrom" "[I", Cond.soleField "DraughtWebsModel" "saidFrom", Cond.laysFinal "DraughtWebsModel" "DraughtWebsModel" "saidHalf" "[I", Cond.soleField "DraughtWebsModel" "saidHalf", Cond.laysFinal "DraughtWebsModel" "DraughtWebsModel" "saidTo" "[I", Cond.soleField "DraughtWebsModel" "saidTo", Cond.laysFinal "DraughtWebsModel" "DraughtWebsModel" "codes" "[I", Cond.soleField "DraughtWebsModel" "codes", Cond.laysFinal "DraughtWebsModel" "DraughtWebsModel" "clauseOf" "[I", Cond.soleField "DraughtWebsModel" "clauseOf", Cond.laysFinal "DraughtWebsModel" "DraughtWebsModel" "codeFrom" "[I", Cond.soleField "DraughtWebsModel" "codeFrom"]
def ch5_8 : List Cond := [Cond.laysFinal "DraughtWebsModel" "DraughtWebsModel" "codeHalf" "[I", Cond.soleField "DraughtWebsModel" "codeHalf", Cond.laysFinal "DraughtWebsModel" "DraughtWebsModel" "codeTo" "[I", Cond.soleField "DraughtWebsModel" "codeTo", Cond.laysFinal "DraughtWebsModel" "DraughtWebsModel" "stack" "[I", Cond.soleField "DraughtWebsModel" "stack", Cond.laysFinal "DraughtWebsModel" "DraughtWebsModel" "facts" "[I", Cond.soleField "DraughtWebsModel" "facts", Cond.laysFinal "DraughtWebsModel" "DraughtWebsModel" "newWeb" "[I", Cond.soleField "DraughtWebsModel" "newWeb", Cond.laysFinal "DraughtWebsModel" "DraughtWebsModel" "newPlace" "[I", Cond.soleField "DraughtWebsModel" "newPlace", Cond.laysFinal "DraughtWebsModel" "DraughtWebsModel" "newForce" "[I", Cond.soleField "DraughtWebsModel" "newForce", Cond.laysFinal "DraughtWebsModel" "DraughtWebsModel" "newCourse" "[I", Cond.soleField "DraughtWebsModel" "newCourse"]
def ch5_9 : List Cond := [Cond.lays "DraughtWebsModel" "DraughtWebsModel" "newWebs" "I", Cond.soleField "DraughtWebsModel" "newWebs", Cond.lays "DraughtWebsModel" "DraughtWebsModel" "newFleets" "I", Cond.soleField "DraughtWebsModel" "newFleets", Cond.lays "DraughtWebsModel" "DraughtWebsModel" "lines" "I", Cond.soleField "DraughtWebsModel" "lines", Cond.lays "DraughtWebsModel" "DraughtWebsModel" "spot0" "I", Cond.soleField "DraughtWebsModel" "spot0", Cond.lays "DraughtWebsModel" "DraughtWebsModel" "touchesNow" "I", Cond.soleField "DraughtWebsModel" "touchesNow", Cond.lays "DraughtWebsModel" "DraughtWebsModel" "touchedSet" "I", Cond.soleField "DraughtWebsModel" "touchedSet", Cond.laysFinal "DraughtWebsModel" "DraughtWebsModel" "logged" "[I", Cond.soleField "DraughtWebsModel" "logged", Cond.laysFinal "DraughtWebsModel" "DraughtWebsModel" "roundPlace" "[I", Cond.soleField "DraughtWebsModel" "roundPlace"]
def ch5_10 : List Cond := [Cond.laysFinal "DraughtWebsModel" "DraughtWebsModel" "roundAt" "[I", Cond.soleField "DraughtWebsModel" "roundAt", Cond.lays "DraughtWebsModel" "DraughtWebsModel" "logMany" "I", Cond.soleField "DraughtWebsModel" "logMany", Cond.lays "DraughtWebsModel" "DraughtWebsModel" "rounds" "I", Cond.soleField "DraughtWebsModel" "rounds", Cond.laysFinal "DraughtWebsModel" "DraughtWebsModel" "commonTo" "[I", Cond.soleField "DraughtWebsModel" "commonTo", Cond.laysFinal "DraughtWebsModel" "DraughtWebsModel" "weightOf" "[I", Cond.soleField "DraughtWebsModel" "weightOf", Cond.laysFinal "DraughtWebsModel" "DraughtWebsModel" "depthOf" "[I", Cond.soleField "DraughtWebsModel" "depthOf", Cond.laysFinal "DraughtWebsModel" "DraughtWebsModel" "threadsTo" "[I", Cond.soleField "DraughtWebsModel" "threadsTo", Cond.laysFinal "DraughtWebsModel" "DraughtWebsModel" "line" "[I", Cond.soleField "DraughtWebsModel" "line"]
def ch5_11 : List Cond := [Cond.lays "DraughtWebsModel" "DraughtWebsModel" "lineMany" "I", Cond.soleField "DraughtWebsModel" "lineMany", Cond.laysFinal "DraughtWebsModel" "DraughtWebsModel" "readNow" "[I", Cond.soleField "DraughtWebsModel" "readNow", Cond.laysFinal "DraughtWebsModel" "DraughtWebsModel" "readThen" "[I", Cond.soleField "DraughtWebsModel" "readThen", Cond.lays "DraughtWebsModel" "DraughtWebsModel" "isKept" "Z", Cond.soleField "DraughtWebsModel" "isKept", Cond.lays "DraughtWebsModel" "DraughtWebsModel" "keptWebs" "I", Cond.soleField "DraughtWebsModel" "keptWebs", Cond.lays "DraughtWebsModel" "DraughtWebsModel" "keptFleets" "I", Cond.soleField "DraughtWebsModel" "keptFleets", Cond.superclass "DraughtWebsModel" "java/lang/Object", Cond.arrayClass .byte, Cond.methodLink RL 17 yX12_tension, Cond.instanceMethod yX12_tension]
def ch5_12 : List Cond := [Cond.selects RX12 yX12_tension yX12_tension, Cond.code yX12_tension cX12_tension 4 (some .boolean), Cond.methodLink RX12 139 yX12_isWeb, Cond.privateMethod yX12_isWeb, Cond.instanceMethod yX12_isWeb, Cond.code yX12_isWeb cX12_isWeb 2 (some .boolean), Cond.methodLink RX12 110 yX12_in, Cond.static yX12_in, Cond.code yX12_in cX12_in 3 (some .boolean), Cond.methodLink RX12 118 yX12_has, Cond.static yX12_has, Cond.code yX12_has cX12_has 2 (some .boolean), Cond.methodLink RL 22 yX12_feed, Cond.instanceMethod yX12_feed, Cond.selects RX12 yX12_feed yX12_feed, Cond.code yX12_feed cX12_feed 6 (some .int)]
def ch5_13 : List Cond := [Cond.methodLink RX12 146 yX12_types, Cond.privateMethod yX12_types, Cond.instanceMethod yX12_types, Cond.code yX12_types cX12_types 3 none, Cond.methodLink RL 27 yX12_law, Cond.instanceMethod yX12_law, Cond.selects RX12 yX12_law yX12_law, Cond.code yX12_law cX12_law 4 (some .int), Cond.methodLink RX12 233 yX12_beginsText, Cond.privateMethod yX12_beginsText, Cond.instanceMethod yX12_beginsText, Cond.code yX12_beginsText cX12_beginsText 2 none, Cond.methodLink RX12 236 yX12_readsRule, Cond.privateMethod yX12_readsRule, Cond.instanceMethod yX12_readsRule, Cond.code yX12_readsRule cX12_readsRule 2 (some .boolean)]
def ch5_14 : List Cond := [Cond.methodLink RX12 156 yX12_here, Cond.privateMethod yX12_here, Cond.instanceMethod yX12_here, Cond.code yX12_here cX12_here 1 (some .int), Cond.methodLink RX12 163 yX12_wrongAt, Cond.privateMethod yX12_wrongAt, Cond.instanceMethod yX12_wrongAt, Cond.code yX12_wrongAt cX12_wrongAt 3 (some .boolean), Cond.methodLink RX12 212 yX12_readsSum, Cond.privateMethod yX12_readsSum, Cond.instanceMethod yX12_readsSum, Cond.code yX12_readsSum cX12_readsSum 3 (some .boolean), Cond.methodLink RX12 199 yX12_readsFactor, Cond.privateMethod yX12_readsFactor, Cond.instanceMethod yX12_readsFactor, Cond.code yX12_readsFactor cX12_readsFactor 2 (some .boolean)]
def ch6_0 : List Cond := [Cond.methodLink RX12 190 yX12_opens, Cond.privateMethod yX12_opens, Cond.instanceMethod yX12_opens, Cond.code yX12_opens cX12_opens 2 (some .boolean), Cond.constant RX12 176 (1048576), Cond.methodLink RX12 169 yX12_isDigit, Cond.privateMethod yX12_isDigit, Cond.instanceMethod yX12_isDigit, Cond.code yX12_isDigit cX12_isDigit 1 (some .boolean), Cond.methodLink RX12 193 yX12_readsNumber, Cond.privateMethod yX12_readsNumber, Cond.instanceMethod yX12_readsNumber, Cond.code yX12_readsNumber cX12_readsNumber 2 (some .boolean), Cond.methodLink RX12 186 yX12_notes, Cond.privateMethod yX12_notes, Cond.instanceMethod yX12_notes]
def ch6_1 : List Cond := [Cond.code yX12_notes cX12_notes 3 none, Cond.methodLink RX12 196 yX12_factOf, Cond.static yX12_factOf, Cond.code yX12_factOf cX12_factOf 1 (some .int), Cond.methodLink RX12 202 yX12_sumSign, Cond.static yX12_sumSign, Cond.code yX12_sumSign cX12_sumSign 1 (some .int), Cond.methodLink RX12 205 yX12_closesSums, Cond.privateMethod yX12_closesSums, Cond.instanceMethod yX12_closesSums, Cond.code yX12_closesSums cX12_closesSums 2 none, Cond.methodLink RX12 183 yX12_waitTop, Cond.privateMethod yX12_waitTop, Cond.instanceMethod yX12_waitTop, Cond.code yX12_waitTop cX12_waitTop 1 (some .int), Cond.methodLink RX12 209 yX12_hasOpenSum]
def ch6_2 : List Cond := [Cond.privateMethod yX12_hasOpenSum, Cond.instanceMethod yX12_hasOpenSum, Cond.code yX12_hasOpenSum cX12_hasOpenSum 3 (some .boolean), Cond.methodLink RX12 230 yX12_readsCondition, Cond.privateMethod yX12_readsCondition, Cond.instanceMethod yX12_readsCondition, Cond.code yX12_readsCondition cX12_readsCondition 1 (some .boolean), Cond.methodLink RX12 218 yX12_readsCompared, Cond.privateMethod yX12_readsCompared, Cond.instanceMethod yX12_readsCompared, Cond.code yX12_readsCompared cX12_readsCompared 2 (some .boolean), Cond.methodLink RX12 215 yX12_endsPiece, Cond.privateMethod yX12_endsPiece, Cond.instanceMethod yX12_endsPiece, Cond.code yX12_endsPiece cX12_endsPiece 1 none, Cond.methodLink RX12 221 yX12_lands]
def ch6_3 : List Cond := [Cond.privateMethod yX12_lands, Cond.instanceMethod yX12_lands, Cond.code yX12_lands cX12_lands 3 none, Cond.methodLink RX12 224 yX12_jumps, Cond.privateMethod yX12_jumps, Cond.instanceMethod yX12_jumps, Cond.code yX12_jumps cX12_jumps 2 none, Cond.methodLink RX12 239 yX12_takes, Cond.privateMethod yX12_takes, Cond.instanceMethod yX12_takes, Cond.code yX12_takes cX12_takes 2 (some .boolean), Cond.methodLink RL 31 yX12_chart, Cond.instanceMethod yX12_chart, Cond.selects RX12 yX12_chart yX12_chart, Cond.code yX12_chart cX12_chart 4 (some .int), Cond.methodLink RX12 279 yX12_readsLine]
def ch6_4 : List Cond := [Cond.privateMethod yX12_readsLine, Cond.instanceMethod yX12_readsLine, Cond.code yX12_readsLine cX12_readsLine 3 (some .boolean), Cond.methodLink RX12 261 yX12_isWebLetter, Cond.privateMethod yX12_isWebLetter, Cond.instanceMethod yX12_isWebLetter, Cond.code yX12_isWebLetter cX12_isWebLetter 1 (some .boolean), Cond.methodLink RX12 264 yX12_isFleetLetter, Cond.privateMethod yX12_isFleetLetter, Cond.instanceMethod yX12_isFleetLetter, Cond.code yX12_isFleetLetter cX12_isFleetLetter 1 (some .boolean), Cond.methodLink RX12 276 yX12_readsFleet, Cond.privateMethod yX12_readsFleet, Cond.instanceMethod yX12_readsFleet, Cond.code yX12_readsFleet cX12_readsFleet 2 (some .boolean), Cond.methodLink RX12 258 yX12_readsSpot]
def ch6_5 : List Cond := [Cond.privateMethod yX12_readsSpot, Cond.instanceMethod yX12_readsSpot, Cond.code yX12_readsSpot cX12_readsSpot 2 (some .boolean), Cond.methodLink RX12 252 yX12_readsWithin, Cond.privateMethod yX12_readsWithin, Cond.instanceMethod yX12_readsWithin, Cond.code yX12_readsWithin cX12_readsWithin 3 (some .boolean), Cond.methodLink RL 35 yX12_hours, Cond.instanceMethod yX12_hours, Cond.selects RX12 yX12_hours yX12_hours, Cond.code yX12_hours cX12_hours 2 (some .int), Cond.methodLink RX12 332 yX12_hoursGo, Cond.privateMethod yX12_hoursGo, Cond.instanceMethod yX12_hoursGo, Cond.code yX12_hoursGo cX12_hoursGo 3 none, Cond.methodLink RX12 329 yX12_hourGoes]
def ch6_6 : List Cond := [Cond.privateMethod yX12_hourGoes, Cond.instanceMethod yX12_hourGoes, Cond.code yX12_hourGoes cX12_hourGoes 3 none, Cond.methodLink RX12 320 yX12_sails, Cond.privateMethod yX12_sails, Cond.instanceMethod yX12_sails, Cond.code yX12_sails cX12_sails 3 none, Cond.methodLink RX12 282 yX12_isFleet, Cond.privateMethod yX12_isFleet, Cond.instanceMethod yX12_isFleet, Cond.code yX12_isFleet cX12_isFleet 2 (some .boolean), Cond.methodLink RX12 285 yX12_stepOn, Cond.static yX12_stepOn, Cond.code yX12_stepOn cX12_stepOn 4 (some .int), Cond.methodLink RX12 133 yX12_stepAcross, Cond.static yX12_stepAcross]
def ch6_7 : List Cond := [Cond.code yX12_stepAcross cX12_stepAcross 1 (some .int), Cond.methodLink RX12 136 yX12_stepAlong, Cond.static yX12_stepAlong, Cond.code yX12_stepAlong cX12_stepAlong 1 (some .int), Cond.methodLink RX12 323 yX12_touches, Cond.privateMethod yX12_touches, Cond.instanceMethod yX12_touches, Cond.code yX12_touches cX12_touches 6 none, Cond.methodLink RX12 294 yX12_distance, Cond.static yX12_distance, Cond.code yX12_distance cX12_distance 2 (some .int), Cond.methodLink RX12 125 yX12_size, Cond.static yX12_size, Cond.code yX12_size cX12_size 1 (some .int), Cond.methodLink RX12 129 yX12_max, Cond.static yX12_max]
def ch6_8 : List Cond := [Cond.code yX12_max cX12_max 2 (some .int), Cond.methodLink RX12 297 yX12_towards, Cond.static yX12_towards, Cond.code yX12_towards cX12_towards 4 (some .int), Cond.constant RX12 300 (65536), Cond.methodLink RX12 301 yX12_sets, Cond.privateMethod yX12_sets, Cond.instanceMethod yX12_sets, Cond.code yX12_sets cX12_sets 4 none, Cond.methodLink RX12 288 yX12_slackOf, Cond.privateMethod yX12_slackOf, Cond.instanceMethod yX12_slackOf, Cond.code yX12_slackOf cX12_slackOf 4 (some .int), Cond.methodLink RX12 291 yX12_bits, Cond.static yX12_bits, Cond.code yX12_bits cX12_bits 3 (some .int)]
def ch6_9 : List Cond := [Cond.methodLink RX12 305 yX12_holdsAny, Cond.privateMethod yX12_holdsAny, Cond.instanceMethod yX12_holdsAny, Cond.code yX12_holdsAny cX12_holdsAny 3 (some .boolean), Cond.methodLink RX12 249 yX12_reckonsTo, Cond.privateMethod yX12_reckonsTo, Cond.instanceMethod yX12_reckonsTo, Cond.code yX12_reckonsTo cX12_reckonsTo 8 (some .int), Cond.methodLink RX12 245 yX12_reckon, Cond.static yX12_reckon, Cond.code yX12_reckon cX12_reckon 3 (some .int), Cond.methodLink RX12 308 yX12_byLaw, Cond.privateMethod yX12_byLaw, Cond.instanceMethod yX12_byLaw, Cond.code yX12_byLaw cX12_byLaw 4 (some .int), Cond.methodLink RX12 326 yX12_isMended]
def ch6_10 : List Cond := [Cond.privateMethod yX12_isMended, Cond.instanceMethod yX12_isMended, Cond.code yX12_isMended cX12_isMended 4 none, Cond.methodLink RX12 317 yX12_min, Cond.static yX12_min, Cond.code yX12_min cX12_min 2 (some .int), Cond.methodLink RL 40 yX12_tried, Cond.instanceMethod yX12_tried, Cond.selects RX12 yX12_tried yX12_tried, Cond.code yX12_tried cX12_tried 4 (some .int), Cond.methodLink RX12 335 yX12_copies, Cond.static yX12_copies, Cond.code yX12_copies cX12_copies 3 none, Cond.methodLink RX12 339 yX12_slackOfAll, Cond.privateMethod yX12_slackOfAll, Cond.instanceMethod yX12_slackOfAll]
def ch6_11 : List Cond := [Cond.code yX12_slackOfAll cX12_slackOfAll 3 (some .int), Cond.methodLink RX12 342 yX12_tensionsOf, Cond.privateMethod yX12_tensionsOf, Cond.instanceMethod yX12_tensionsOf, Cond.code yX12_tensionsOf cX12_tensionsOf 4 (some .int), Cond.methodLink RX12 345 yX12_orNone, Cond.static yX12_orNone, Cond.code yX12_orNone cX12_orNone 1 (some .int), Cond.methodLink RL 44 yX12_webIs, Cond.instanceMethod yX12_webIs, Cond.selects RX12 yX12_webIs yX12_webIs, Cond.code yX12_webIs cX12_webIs 3 (some .int), Cond.methodLink RL 48 yX12_fleetIs, Cond.instanceMethod yX12_fleetIs, Cond.selects RX12 yX12_fleetIs yX12_fleetIs, Cond.code yX12_fleetIs cX12_fleetIs 3 (some .int)]
def ch6_12 : List Cond := [Cond.methodLink RL 52 yX12_feels, Cond.instanceMethod yX12_feels, Cond.selects RX12 yX12_feels yX12_feels, Cond.code yX12_feels cX12_feels 6 (some .int), Cond.methodLink RX12 348 yX12_feltBy, Cond.privateMethod yX12_feltBy, Cond.instanceMethod yX12_feltBy, Cond.code yX12_feltBy cX12_feltBy 3 (some .int), Cond.methodLink RL 57 yX12_when, Cond.instanceMethod yX12_when, Cond.selects RX12 yX12_when yX12_when, Cond.code yX12_when cX12_when 6 (some .int), Cond.methodLink RL 61 yX12_fix, Cond.instanceMethod yX12_fix, Cond.selects RX12 yX12_fix yX12_fix, Cond.code yX12_fix cX12_fix 8 (some .int)]
def ch6_13 : List Cond := [Cond.methodLink RX12 351 yX12_octet, Cond.privateMethod yX12_octet, Cond.instanceMethod yX12_octet, Cond.code yX12_octet cX12_octet 2 (some .int), Cond.methodLink RL 66 yX12_bearings, Cond.instanceMethod yX12_bearings, Cond.selects RX12 yX12_bearings yX12_bearings, Cond.code yX12_bearings cX12_bearings 6 (some .int), Cond.methodLink RX12 354 yX12_isOnWay, Cond.privateMethod yX12_isOnWay, Cond.instanceMethod yX12_isOnWay, Cond.code yX12_isOnWay cX12_isOnWay 5 (some .boolean), Cond.methodLink RL 70 yX12_allTheSea, Cond.instanceMethod yX12_allTheSea, Cond.selects RX12 yX12_allTheSea yX12_allTheSea, Cond.code yX12_allTheSea cX12_allTheSea 5 (some .int)]
def ch6_14 : List Cond := [Cond.methodLink RX12 360 yX12_feelsAll, Cond.privateMethod yX12_feelsAll, Cond.instanceMethod yX12_feelsAll, Cond.code yX12_feelsAll cX12_feelsAll 4 (some .boolean), Cond.methodLink RX12 357 yX12_isFelt, Cond.privateMethod yX12_isFelt, Cond.instanceMethod yX12_isFelt, Cond.code yX12_isFelt cX12_isFelt 5 (some .boolean), Cond.methodLink RL 74 yX12_quiet, Cond.instanceMethod yX12_quiet, Cond.selects RX12 yX12_quiet yX12_quiet, Cond.code yX12_quiet cX12_quiet 6 (some .int), Cond.methodLink RL 78 yX12_nearest, Cond.instanceMethod yX12_nearest, Cond.selects RX12 yX12_nearest yX12_nearest, Cond.code yX12_nearest cX12_nearest 3 (some .int)]
def ch7_0 : List Cond := [Cond.methodLink RX12 363 yX12_nearestTo, Cond.privateMethod yX12_nearestTo, Cond.instanceMethod yX12_nearestTo, Cond.code yX12_nearestTo cX12_nearestTo 4 (some .int), Cond.methodLink RL 82 yX12_share, Cond.instanceMethod yX12_share, Cond.selects RX12 yX12_share yX12_share, Cond.code yX12_share cX12_share 4 (some .int), Cond.methodLink RL 86 yX12_log, Cond.instanceMethod yX12_log, Cond.selects RX12 yX12_log yX12_log, Cond.code yX12_log cX12_log 4 (some .int), Cond.methodLink RX12 381 yX12_readsSpoke, Cond.privateMethod yX12_readsSpoke, Cond.instanceMethod yX12_readsSpoke, Cond.code yX12_readsSpoke cX12_readsSpoke 1 (some .boolean)]
def ch7_1 : List Cond := [Cond.methodLink RX12 372 yX12_readsRoundEnd, Cond.privateMethod yX12_readsRoundEnd, Cond.instanceMethod yX12_readsRoundEnd, Cond.code yX12_readsRoundEnd cX12_readsRoundEnd 5 (some .boolean), Cond.methodLink RX12 384 yX12_mostOften, Cond.privateMethod yX12_mostOften, Cond.instanceMethod yX12_mostOften, Cond.code yX12_mostOften cX12_mostOften 3 (some .int), Cond.methodLink RX12 375 yX12_oftenOf, Cond.privateMethod yX12_oftenOf, Cond.instanceMethod yX12_oftenOf, Cond.code yX12_oftenOf cX12_oftenOf 4 (some .int), Cond.methodLink RX12 387 yX12_longestRow, Cond.privateMethod yX12_longestRow, Cond.instanceMethod yX12_longestRow, Cond.code yX12_longestRow cX12_longestRow 4 (some .int)]
def ch7_2 : List Cond := [Cond.methodLink RX12 390 yX12_turnsOf, Cond.privateMethod yX12_turnsOf, Cond.instanceMethod yX12_turnsOf, Cond.code yX12_turnsOf cX12_turnsOf 4 (some .int), Cond.methodLink RX12 393 yX12_periodOf, Cond.privateMethod yX12_periodOf, Cond.instanceMethod yX12_periodOf, Cond.code yX12_periodOf cX12_periodOf 2 (some .int), Cond.methodLink RX12 378 yX12_goesOnBy, Cond.privateMethod yX12_goesOnBy, Cond.instanceMethod yX12_goesOnBy, Cond.code yX12_goesOnBy cX12_goesOnBy 3 (some .boolean), Cond.methodLink RL 90 yX12_inCommon, Cond.instanceMethod yX12_inCommon, Cond.selects RX12 yX12_inCommon yX12_inCommon, Cond.code yX12_inCommon cX12_inCommon 6 (some .int)]
def ch7_3 : List Cond := [Cond.methodLink RL 94 yX12_code, Cond.instanceMethod yX12_code, Cond.selects RX12 yX12_code yX12_code, Cond.code yX12_code cX12_code 7 (some .int), Cond.methodLink RX12 396 yX12_rarest, Cond.privateMethod yX12_rarest, Cond.instanceMethod yX12_rarest, Cond.code yX12_rarest cX12_rarest 4 (some .int), Cond.methodLink RL 98 yX12_crawls, Cond.instanceMethod yX12_crawls, Cond.selects RX12 yX12_crawls yX12_crawls, Cond.code yX12_crawls cX12_crawls 5 (some .int), Cond.methodLink RX12 402 yX12_crawlsTo, Cond.privateMethod yX12_crawlsTo, Cond.instanceMethod yX12_crawlsTo, Cond.code yX12_crawlsTo cX12_crawlsTo 3 none]
def ch7_4 : List Cond := [Cond.methodLink RX12 405 yX12_crawlsFrom, Cond.privateMethod yX12_crawlsFrom, Cond.instanceMethod yX12_crawlsFrom, Cond.code yX12_crawlsFrom cX12_crawlsFrom 6 none, Cond.methodLink RL 103 yX12_hangs, Cond.instanceMethod yX12_hangs, Cond.selects RX12 yX12_hangs yX12_hangs, Cond.code yX12_hangs cX12_hangs 9 (some .long), Cond.constantLong RX12 408 (-1), Cond.constantLong RX12 410 (2), Cond.methodLink RL 107 yX12_smoothed, Cond.instanceMethod yX12_smoothed, Cond.selects RX12 yX12_smoothed yX12_smoothed, Cond.code yX12_smoothed cX12_smoothed 6 (some .int), Cond.methodLink RX12 415 yX12_smooths, Cond.privateMethod yX12_smooths]
def ch7_5 : List Cond := [Cond.instanceMethod yX12_smooths, Cond.code yX12_smooths cX12_smooths 4 (some .boolean), Cond.methodLink RX12 412 yX12_middle, Cond.static yX12_middle, Cond.code yX12_middle cX12_middle 3 (some .int), Cond.methodLink RL 111 yX12_spell, Cond.instanceMethod yX12_spell, Cond.selects RX12 yX12_spell yX12_spell, Cond.code yX12_spell cX12_spell 9 (some .int), Cond.constant RX12 418 (-1000000), Cond.methodLink RL 115 yX12_salutes, Cond.instanceMethod yX12_salutes, Cond.selects RX12 yX12_salutes yX12_salutes, Cond.code yX12_salutes cX12_salutes 7 (some .int), Cond.methodLink RL 119 yX12_rent, Cond.instanceMethod yX12_rent]
def ch7_6 : List Cond := [Cond.selects RX12 yX12_rent yX12_rent, Cond.code yX12_rent cX12_rent 6 (some .int), Cond.methodLink RL 124 yX12_seed, Cond.instanceMethod yX12_seed, Cond.selects RX12 yX12_seed yX12_seed, Cond.code yX12_seed cX12_seed 2 (some .boolean), Cond.constant RX12 419 (65535), Cond.methodLink RL 129 yX12_keep, Cond.instanceMethod yX12_keep, Cond.selects RX12 yX12_keep yX12_keep, Cond.code yX12_keep cX12_keep 1 (some .int), Cond.methodLink RL 134 yX12_undo, Cond.instanceMethod yX12_undo, Cond.selects RX12 yX12_undo yX12_undo, Cond.code yX12_undo cX12_undo 3 (some .boolean), Cond.methodLink RL 138 yX12_check]
def ch7_7 : List Cond := [Cond.instanceMethod yX12_check, Cond.selects RX12 yX12_check yX12_check, Cond.code yX12_check cX12_check 3 (some .int), Cond.methodLink RL 142 yX12_count, Cond.instanceMethod yX12_count, Cond.selects RX12 yX12_count yX12_count, Cond.code yX12_count cX12_count 2 (some .int), Cond.methodLink RX12 430 yX12_tensionsOfAll, Cond.privateMethod yX12_tensionsOfAll, Cond.instanceMethod yX12_tensionsOfAll, Cond.code yX12_tensionsOfAll cX12_tensionsOfAll 3 (some .int)]
set_option maxRecDepth 20000 in
theorem tb_0 : k2_sels lw_privs = chP_0 ++ (chP_1 ++ (chP_2 ++ (chP_3 ++ (chP_4 ++ (chP_5 ++ (chP_6 ++ [])))))) := by rfl
set_option maxRecDepth 20000 in
theorem tb_1 : tables_1_1 = ch1_0 ++ (ch1_1 ++ (ch1_2 ++ (ch1_3 ++ (ch1_4 ++ (ch1_5 ++ (ch1_6 ++ (ch1_7 ++ (ch1_8 ++ (ch1_9 ++ (ch1_10 ++ (ch1_11 ++ (ch1_12 ++ (ch1_13 ++ (ch1_14 ++ [])))))))))))))) := by rfl
set_option maxRecDepth 20000 in
theorem tb_2 : tables_1_2 = ch2_0 ++ (ch2_1 ++ (ch2_2 ++ (ch2_3 ++ (ch2_4 ++ (ch2_5 ++ (ch2_6 ++ (ch2_7 ++ (ch2_8 ++ (ch2_9 ++ (ch2_10 ++ (ch2_11 ++ (ch2_12 ++ (ch2_13 ++ (ch2_14 ++ [])))))))))))))) := by rfl
set_option maxRecDepth 20000 in
theorem tb_3 : tables_1_3 = ch3_0 ++ (ch3_1 ++ (ch3_2 ++ (ch3_3 ++ (ch3_4 ++ (ch3_5 ++ (ch3_6 ++ (ch3_7 ++ (ch3_8 ++ (ch3_9 ++ (ch3_10 ++ (ch3_11 ++ (ch3_12 ++ (ch3_13 ++ (ch3_14 ++ [])))))))))))))) := by rfl
set_option maxRecDepth 20000 in
theorem tb_4 : tables_1_4 = ch4_0 ++ (ch4_1 ++ (ch4_2 ++ (ch4_3 ++ (ch4_4 ++ (ch4_5 ++ (ch4_6 ++ (ch4_7 ++ (ch4_8 ++ (ch4_9 ++ (ch4_10 ++ (ch4_11 ++ (ch4_12 ++ (ch4_13 ++ (ch4_14 ++ [])))))))))))))) := by rfl
set_option maxRecDepth 20000 in
theorem tb_5 : tables_1_5 = ch5_0 ++ (ch5_1 ++ (ch5_2 ++ (ch5_3 ++ (ch5_4 ++ (ch5_5 ++ (ch5_6 ++ (ch5_7 ++ (ch5_8 ++ (ch5_9 ++ (ch5_10 ++ (ch5_11 ++ (ch5_12 ++ (ch5_13 ++ (ch5_14 ++ [])))))))))))))) := by rfl
set_option maxRecDepth 20000 in
theorem tb_6 : tables_1_6 = ch6_0 ++ (ch6_1 ++ (ch6_2 ++ (ch6_3 ++ (ch6_4 ++ (ch6_5 ++ (ch6_6 ++ (ch6_7 ++ (ch6_8 ++ (ch6_9 ++ (ch6_10 ++ (ch6_11 ++ (ch6_12 ++ (ch6_13 ++ (ch6_14 ++ [])))))))))))))) := by rfl
set_option maxRecDepth 20000 in
theorem tb_7 : tables_1_7 = ch7_0 ++ (ch7_1 ++ (ch7_2 ++ (ch7_3 ++ (ch7_4 ++ (ch7_5 ++ (ch7_6 ++ (ch7_7 ++ []))))))) := by rfl
set_option maxRecDepth 20000 in
theorem tt_0 {w : Cond} (h : w ∈ k2_sels lw_privs) : w ∈ lw_tbl := List.mem_append_left _ h
set_option maxRecDepth 20000 in
theorem in_chP_0 {w : Cond} (h : w ∈ chP_0) (g : goodWord w = true) : w ∈ gtbl := in_g (tt_0 (by rw [tb_0]; exact List.mem_append_left _ h)) g
set_option maxRecDepth 20000 in
theorem wsl_X8_put : Cond.selects RX8 yX8_put yX8_put ∈ gtbl := in_chP_0 (List.mem_of_getElem? (i := 0) rfl) rfl
set_option maxRecDepth 20000 in
theorem wsl_X4_rule : Cond.selects RX4 yX4_rule yX4_rule ∈ gtbl := in_chP_0 (List.mem_of_getElem? (i := 1) rfl) rfl
set_option maxRecDepth 20000 in
theorem wsl_X4_sum : Cond.selects RX4 yX4_sum yX4_sum ∈ gtbl := in_chP_0 (List.mem_of_getElem? (i := 2) rfl) rfl
set_option maxRecDepth 20000 in
theorem wsl_X4_term : Cond.selects RX4 yX4_term yX4_term ∈ gtbl := in_chP_0 (List.mem_of_getElem? (i := 3) rfl) rfl
set_option maxRecDepth 20000 in
theorem wsl_X4_factor : Cond.selects RX4 yX4_factor yX4_factor ∈ gtbl := in_chP_0 (List.mem_of_getElem? (i := 4) rfl) rfl
set_option maxRecDepth 20000 in
theorem wsl_X3_write : Cond.selects RX3 yX3_write yX3_write ∈ gtbl := in_chP_0 (List.mem_of_getElem? (i := 5) rfl) rfl
set_option maxRecDepth 20000 in
theorem wsl_X4_condition : Cond.selects RX4 yX4_condition yX4_condition ∈ gtbl := in_chP_0 (List.mem_of_getElem? (i := 6) rfl) rfl
set_option maxRecDepth 20000 in
theorem wsl_X4_test : Cond.selects RX4 yX4_test yX4_test ∈ gtbl := in_chP_0 (List.mem_of_getElem? (i := 7) rfl) rfl
set_option maxRecDepth 20000 in
theorem wsl_X0_line : Cond.selects RX0 yX0_line yX0_line ∈ gtbl := in_chP_0 (List.mem_of_getElem? (i := 8) rfl) rfl
set_option maxRecDepth 20000 in
theorem wsl_X0_coordinate : Cond.selects RX0 yX0_coordinate yX0_coordinate ∈ gtbl := in_chP_0 (List.mem_of_getElem? (i := 9) rfl) rfl
set_option maxRecDepth 20000 in
theorem wsl_X0_fleet : Cond.selects RX0 yX0_fleet yX0_fleet ∈ gtbl := in_chP_0 (List.mem_of_getElem? (i := 10) rfl) rfl
set_option maxRecDepth 20000 in
theorem wsl_X7_passWeb : Cond.selects RX7 yX7_passWeb yX7_passWeb ∈ gtbl := in_chP_0 (List.mem_of_getElem? (i := 11) rfl) rfl
set_option maxRecDepth 20000 in
theorem wsl_X7_touch : Cond.selects RX7 yX7_touch yX7_touch ∈ gtbl := in_chP_0 (List.mem_of_getElem? (i := 12) rfl) rfl
set_option maxRecDepth 20000 in
theorem wsl_X3_run : Cond.selects RX3 yX3_run yX3_run ∈ gtbl := in_chP_0 (List.mem_of_getElem? (i := 13) rfl) rfl
set_option maxRecDepth 20000 in
theorem wsl_X3_heapUp : Cond.selects RX3 yX3_heapUp yX3_heapUp ∈ gtbl := in_chP_0 (List.mem_of_getElem? (i := 14) rfl) rfl
set_option maxRecDepth 20000 in
theorem wsl_X3_compare : Cond.selects RX3 yX3_compare yX3_compare ∈ gtbl := in_chP_0 (List.mem_of_getElem? (i := 15) rfl) rfl
set_option maxRecDepth 20000 in
theorem in_chP_1 {w : Cond} (h : w ∈ chP_1) (g : goodWord w = true) : w ∈ gtbl := in_g (tt_0 (by rw [tb_0]; exact List.mem_append_right _ (List.mem_append_left _ h))) g
set_option maxRecDepth 20000 in
theorem wsl_X3_reckon : Cond.selects RX3 yX3_reckon yX3_reckon ∈ gtbl := in_chP_1 (List.mem_of_getElem? (i := 0) rfl) rfl
set_option maxRecDepth 20000 in
theorem wsl_X7_mend : Cond.selects RX7 yX7_mend yX7_mend ∈ gtbl := in_chP_1 (List.mem_of_getElem? (i := 1) rfl) rfl
set_option maxRecDepth 20000 in
theorem wsl_X11_canBeTried : Cond.selects RX11 yX11_canBeTried yX11_canBeTried ∈ gtbl := in_chP_1 (List.mem_of_getElem? (i := 2) rfl) rfl
set_option maxRecDepth 20000 in
theorem wsl_X6_isToward : Cond.selects RX6 yX6_isToward yX6_isToward ∈ gtbl := in_chP_1 (List.mem_of_getElem? (i := 3) rfl) rfl
set_option maxRecDepth 20000 in
theorem wsl_X6_listReachers : Cond.selects RX6 yX6_listReachers yX6_listReachers ∈ gtbl := in_chP_1 (List.mem_of_getElem? (i := 4) rfl) rfl
set_option maxRecDepth 20000 in
theorem wsl_X6_reachersOf : Cond.selects RX6 yX6_reachersOf yX6_reachersOf ∈ gtbl := in_chP_1 (List.mem_of_getElem? (i := 5) rfl) rfl
set_option maxRecDepth 20000 in
theorem wsl_X6_wayTo : Cond.selects RX6 yX6_wayTo yX6_wayTo ∈ gtbl := in_chP_1 (List.mem_of_getElem? (i := 6) rfl) rfl
set_option maxRecDepth 20000 in
theorem wsl_X6_meetsAll : Cond.selects RX6 yX6_meetsAll yX6_meetsAll ∈ gtbl := in_chP_1 (List.mem_of_getElem? (i := 7) rfl) rfl
set_option maxRecDepth 20000 in
theorem wsl_X5_row : Cond.selects RX5 yX5_row yX5_row ∈ gtbl := in_chP_1 (List.mem_of_getElem? (i := 8) rfl) rfl
set_option maxRecDepth 20000 in
theorem wsl_X5_innerRow : Cond.selects RX5 yX5_innerRow yX5_innerRow ∈ gtbl := in_chP_1 (List.mem_of_getElem? (i := 9) rfl) rfl
set_option maxRecDepth 20000 in
theorem wsl_X5_repeat : Cond.selects RX5 yX5_repeat yX5_repeat ∈ gtbl := in_chP_1 (List.mem_of_getElem? (i := 10) rfl) rfl
set_option maxRecDepth 20000 in
theorem wsl_X5_spoke : Cond.selects RX5 yX5_spoke yX5_spoke ∈ gtbl := in_chP_1 (List.mem_of_getElem? (i := 11) rfl) rfl
set_option maxRecDepth 20000 in
theorem wsl_X5_commonest : Cond.selects RX5 yX5_commonest yX5_commonest ∈ gtbl := in_chP_1 (List.mem_of_getElem? (i := 12) rfl) rfl
set_option maxRecDepth 20000 in
theorem wsl_X5_timesOf : Cond.selects RX5 yX5_timesOf yX5_timesOf ∈ gtbl := in_chP_1 (List.mem_of_getElem? (i := 13) rfl) rfl
set_option maxRecDepth 20000 in
theorem wsl_X5_longestRow : Cond.selects RX5 yX5_longestRow yX5_longestRow ∈ gtbl := in_chP_1 (List.mem_of_getElem? (i := 14) rfl) rfl
set_option maxRecDepth 20000 in
theorem wsl_X5_turns : Cond.selects RX5 yX5_turns yX5_turns ∈ gtbl := in_chP_1 (List.mem_of_getElem? (i := 15) rfl) rfl
set_option maxRecDepth 20000 in
theorem in_chP_2 {w : Cond} (h : w ∈ chP_2) (g : goodWord w = true) : w ∈ gtbl := in_g (tt_0 (by rw [tb_0]; exact List.mem_append_right _ (List.mem_append_right _ (List.mem_append_left _ h)))) g
set_option maxRecDepth 20000 in
theorem wsl_X5_period : Cond.selects RX5 yX5_period yX5_period ∈ gtbl := in_chP_2 (List.mem_of_getElem? (i := 0) rfl) rfl
set_option maxRecDepth 20000 in
theorem wsl_X5_goesOnBy : Cond.selects RX5 yX5_goesOnBy yX5_goesOnBy ∈ gtbl := in_chP_2 (List.mem_of_getElem? (i := 1) rfl) rfl
set_option maxRecDepth 20000 in
theorem wsl_X2_takeRarest : Cond.selects RX2 yX2_takeRarest yX2_takeRarest ∈ gtbl := in_chP_2 (List.mem_of_getElem? (i := 2) rfl) rfl
set_option maxRecDepth 20000 in
theorem wsl_X10_reach : Cond.selects RX10 yX10_reach yX10_reach ∈ gtbl := in_chP_2 (List.mem_of_getElem? (i := 3) rfl) rfl
set_option maxRecDepth 20000 in
theorem wsl_X10_leaveMiddle : Cond.selects RX10 yX10_leaveMiddle yX10_leaveMiddle ∈ gtbl := in_chP_2 (List.mem_of_getElem? (i := 4) rfl) rfl
set_option maxRecDepth 20000 in
theorem wsl_X10_leaveKnot : Cond.selects RX10 yX10_leaveKnot yX10_leaveKnot ∈ gtbl := in_chP_2 (List.mem_of_getElem? (i := 5) rfl) rfl
set_option maxRecDepth 20000 in
theorem wsl_X10_wayTo : Cond.selects RX10 yX10_wayTo yX10_wayTo ∈ gtbl := in_chP_2 (List.mem_of_getElem? (i := 6) rfl) rfl
set_option maxRecDepth 20000 in
theorem wsl_X2_smoothOnce : Cond.selects RX2 yX2_smoothOnce yX2_smoothOnce ∈ gtbl := in_chP_2 (List.mem_of_getElem? (i := 7) rfl) rfl
set_option maxRecDepth 20000 in
theorem wsl_X2_firstEnd : Cond.selects RX2 yX2_firstEnd yX2_firstEnd ∈ gtbl := in_chP_2 (List.mem_of_getElem? (i := 8) rfl) rfl
set_option maxRecDepth 20000 in
theorem wsl_X12_isWeb : Cond.selects RX12 yX12_isWeb yX12_isWeb ∈ gtbl := in_chP_2 (List.mem_of_getElem? (i := 9) rfl) rfl
set_option maxRecDepth 20000 in
theorem wsl_X12_types : Cond.selects RX12 yX12_types yX12_types ∈ gtbl := in_chP_2 (List.mem_of_getElem? (i := 10) rfl) rfl
set_option maxRecDepth 20000 in
theorem wsl_X12_beginsText : Cond.selects RX12 yX12_beginsText yX12_beginsText ∈ gtbl := in_chP_2 (List.mem_of_getElem? (i := 11) rfl) rfl
set_option maxRecDepth 20000 in
theorem wsl_X12_readsRule : Cond.selects RX12 yX12_readsRule yX12_readsRule ∈ gtbl := in_chP_2 (List.mem_of_getElem? (i := 12) rfl) rfl
set_option maxRecDepth 20000 in
theorem wsl_X12_here : Cond.selects RX12 yX12_here yX12_here ∈ gtbl := in_chP_2 (List.mem_of_getElem? (i := 13) rfl) rfl
set_option maxRecDepth 20000 in
theorem wsl_X12_wrongAt : Cond.selects RX12 yX12_wrongAt yX12_wrongAt ∈ gtbl := in_chP_2 (List.mem_of_getElem? (i := 14) rfl) rfl
set_option maxRecDepth 20000 in
theorem wsl_X12_readsSum : Cond.selects RX12 yX12_readsSum yX12_readsSum ∈ gtbl := in_chP_2 (List.mem_of_getElem? (i := 15) rfl) rfl
set_option maxRecDepth 20000 in
theorem in_chP_3 {w : Cond} (h : w ∈ chP_3) (g : goodWord w = true) : w ∈ gtbl := in_g (tt_0 (by rw [tb_0]; exact List.mem_append_right _ (List.mem_append_right _ (List.mem_append_right _ (List.mem_append_left _ h))))) g
set_option maxRecDepth 20000 in
theorem wsl_X12_readsFactor : Cond.selects RX12 yX12_readsFactor yX12_readsFactor ∈ gtbl := in_chP_3 (List.mem_of_getElem? (i := 0) rfl) rfl
set_option maxRecDepth 20000 in
theorem wsl_X12_opens : Cond.selects RX12 yX12_opens yX12_opens ∈ gtbl := in_chP_3 (List.mem_of_getElem? (i := 1) rfl) rfl
set_option maxRecDepth 20000 in
theorem wsl_X12_isDigit : Cond.selects RX12 yX12_isDigit yX12_isDigit ∈ gtbl := in_chP_3 (List.mem_of_getElem? (i := 2) rfl) rfl
set_option maxRecDepth 20000 in
theorem wsl_X12_readsNumber : Cond.selects RX12 yX12_readsNumber yX12_readsNumber ∈ gtbl := in_chP_3 (List.mem_of_getElem? (i := 3) rfl) rfl
set_option maxRecDepth 20000 in
theorem wsl_X12_notes : Cond.selects RX12 yX12_notes yX12_notes ∈ gtbl := in_chP_3 (List.mem_of_getElem? (i := 4) rfl) rfl
set_option maxRecDepth 20000 in
theorem wsl_X12_closesSums : Cond.selects RX12 yX12_closesSums yX12_closesSums ∈ gtbl := in_chP_3 (List.mem_of_getElem? (i := 5) rfl) rfl
set_option maxRecDepth 20000 in
theorem wsl_X12_waitTop : Cond.selects RX12 yX12_waitTop yX12_waitTop ∈ gtbl := in_chP_3 (List.mem_of_getElem? (i := 6) rfl) rfl
set_option maxRecDepth 20000 in
theorem wsl_X12_hasOpenSum : Cond.selects RX12 yX12_hasOpenSum yX12_hasOpenSum ∈ gtbl := in_chP_3 (List.mem_of_getElem? (i := 7) rfl) rfl
set_option maxRecDepth 20000 in
theorem wsl_X12_readsCondition : Cond.selects RX12 yX12_readsCondition yX12_readsCondition ∈ gtbl := in_chP_3 (List.mem_of_getElem? (i := 8) rfl) rfl
set_option maxRecDepth 20000 in
theorem wsl_X12_readsCompared : Cond.selects RX12 yX12_readsCompared yX12_readsCompared ∈ gtbl := in_chP_3 (List.mem_of_getElem? (i := 9) rfl) rfl
set_option maxRecDepth 20000 in
theorem wsl_X12_endsPiece : Cond.selects RX12 yX12_endsPiece yX12_endsPiece ∈ gtbl := in_chP_3 (List.mem_of_getElem? (i := 10) rfl) rfl
set_option maxRecDepth 20000 in
theorem wsl_X12_lands : Cond.selects RX12 yX12_lands yX12_lands ∈ gtbl := in_chP_3 (List.mem_of_getElem? (i := 11) rfl) rfl
set_option maxRecDepth 20000 in
theorem wsl_X12_jumps : Cond.selects RX12 yX12_jumps yX12_jumps ∈ gtbl := in_chP_3 (List.mem_of_getElem? (i := 12) rfl) rfl
set_option maxRecDepth 20000 in
theorem wsl_X12_takes : Cond.selects RX12 yX12_takes yX12_takes ∈ gtbl := in_chP_3 (List.mem_of_getElem? (i := 13) rfl) rfl
set_option maxRecDepth 20000 in
theorem wsl_X12_readsLine : Cond.selects RX12 yX12_readsLine yX12_readsLine ∈ gtbl := in_chP_3 (List.mem_of_getElem? (i := 14) rfl) rfl
set_option maxRecDepth 20000 in
theorem wsl_X12_isWebLetter : Cond.selects RX12 yX12_isWebLetter yX12_isWebLetter ∈ gtbl := in_chP_3 (List.mem_of_getElem? (i := 15) rfl) rfl
set_option maxRecDepth 20000 in
theorem in_chP_4 {w : Cond} (h : w ∈ chP_4) (g : goodWord w = true) : w ∈ gtbl := in_g (tt_0 (by rw [tb_0]; exact List.mem_append_right _ (List.mem_append_right _ (List.mem_append_right _ (List.mem_append_right _ (List.mem_append_left _ h)))))) g
set_option maxRecDepth 20000 in
theorem wsl_X12_isFleetLetter : Cond.selects RX12 yX12_isFleetLetter yX12_isFleetLetter ∈ gtbl := in_chP_4 (List.mem_of_getElem? (i := 0) rfl) rfl
set_option maxRecDepth 20000 in
theorem wsl_X12_readsFleet : Cond.selects RX12 yX12_readsFleet yX12_readsFleet ∈ gtbl := in_chP_4 (List.mem_of_getElem? (i := 1) rfl) rfl
set_option maxRecDepth 20000 in
theorem wsl_X12_readsSpot : Cond.selects RX12 yX12_readsSpot yX12_readsSpot ∈ gtbl := in_chP_4 (List.mem_of_getElem? (i := 2) rfl) rfl
set_option maxRecDepth 20000 in
theorem wsl_X12_readsWithin : Cond.selects RX12 yX12_readsWithin yX12_readsWithin ∈ gtbl := in_chP_4 (List.mem_of_getElem? (i := 3) rfl) rfl
set_option maxRecDepth 20000 in
theorem wsl_X12_hoursGo : Cond.selects RX12 yX12_hoursGo yX12_hoursGo ∈ gtbl := in_chP_4 (List.mem_of_getElem? (i := 4) rfl) rfl
set_option maxRecDepth 20000 in
theorem wsl_X12_hourGoes : Cond.selects RX12 yX12_hourGoes yX12_hourGoes ∈ gtbl := in_chP_4 (List.mem_of_getElem? (i := 5) rfl) rfl
set_option maxRecDepth 20000 in
theorem wsl_X12_sails : Cond.selects RX12 yX12_sails yX12_sails ∈ gtbl := in_chP_4 (List.mem_of_getElem? (i := 6) rfl) rfl
set_option maxRecDepth 20000 in
theorem wsl_X12_isFleet : Cond.selects RX12 yX12_isFleet yX12_isFleet ∈ gtbl := in_chP_4 (List.mem_of_getElem? (i := 7) rfl) rfl
set_option maxRecDepth 20000 in
theorem wsl_X12_touches : Cond.selects RX12 yX12_touches yX12_touches ∈ gtbl := in_chP_4 (List.mem_of_getElem? (i := 8) rfl) rfl
set_option maxRecDepth 20000 in
theorem wsl_X12_sets : Cond.selects RX12 yX12_sets yX12_sets ∈ gtbl := in_chP_4 (List.mem_of_getElem? (i := 9) rfl) rfl
set_option maxRecDepth 20000 in
theorem wsl_X12_slackOf : Cond.selects RX12 yX12_slackOf yX12_slackOf ∈ gtbl := in_chP_4 (List.mem_of_getElem? (i := 10) rfl) rfl
set_option maxRecDepth 20000 in
theorem wsl_X12_holdsAny : Cond.selects RX12 yX12_holdsAny yX12_holdsAny ∈ gtbl := in_chP_4 (List.mem_of_getElem? (i := 11) rfl) rfl
set_option maxRecDepth 20000 in
theorem wsl_X12_reckonsTo : Cond.selects RX12 yX12_reckonsTo yX12_reckonsTo ∈ gtbl := in_chP_4 (List.mem_of_getElem? (i := 12) rfl) rfl
set_option maxRecDepth 20000 in
theorem wsl_X12_byLaw : Cond.selects RX12 yX12_byLaw yX12_byLaw ∈ gtbl := in_chP_4 (List.mem_of_getElem? (i := 13) rfl) rfl
set_option maxRecDepth 20000 in
theorem wsl_X12_isMended : Cond.selects RX12 yX12_isMended yX12_isMended ∈ gtbl := in_chP_4 (List.mem_of_getElem? (i := 14) rfl) rfl
set_option maxRecDepth 20000 in
theorem wsl_X12_slackOfAll : Cond.selects RX12 yX12_slackOfAll yX12_slackOfAll ∈ gtbl := in_chP_4 (List.mem_of_getElem? (i := 15) rfl) rfl
set_option maxRecDepth 20000 in
theorem in_chP_5 {w : Cond} (h : w ∈ chP_5) (g : goodWord w = true) : w ∈ gtbl := in_g (tt_0 (by rw [tb_0]; exact List.mem_append_right _ (List.mem_append_right _ (List.mem_append_right _ (List.mem_append_right _ (List.mem_append_right _ (List.mem_append_left _ h))))))) g
set_option maxRecDepth 20000 in
theorem wsl_X12_tensionsOf : Cond.selects RX12 yX12_tensionsOf yX12_tensionsOf ∈ gtbl := in_chP_5 (List.mem_of_getElem? (i := 0) rfl) rfl
set_option maxRecDepth 20000 in
theorem wsl_X12_feltBy : Cond.selects RX12 yX12_feltBy yX12_feltBy ∈ gtbl := in_chP_5 (List.mem_of_getElem? (i := 1) rfl) rfl
set_option maxRecDepth 20000 in
theorem wsl_X12_octet : Cond.selects RX12 yX12_octet yX12_octet ∈ gtbl := in_chP_5 (List.mem_of_getElem? (i := 2) rfl) rfl
set_option maxRecDepth 20000 in
theorem wsl_X12_isOnWay : Cond.selects RX12 yX12_isOnWay yX12_isOnWay ∈ gtbl := in_chP_5 (List.mem_of_getElem? (i := 3) rfl) rfl
set_option maxRecDepth 20000 in
theorem wsl_X12_feelsAll : Cond.selects RX12 yX12_feelsAll yX12_feelsAll ∈ gtbl := in_chP_5 (List.mem_of_getElem? (i := 4) rfl) rfl
set_option maxRecDepth 20000 in
theorem wsl_X12_isFelt : Cond.selects RX12 yX12_isFelt yX12_isFelt ∈ gtbl := in_chP_5 (List.mem_of_getElem? (i := 5) rfl) rfl
set_option maxRecDepth 20000 in
theorem wsl_X12_nearestTo : Cond.selects RX12 yX12_nearestTo yX12_nearestTo ∈ gtbl := in_chP_5 (List.mem_of_getElem? (i := 6) rfl) rfl
set_option maxRecDepth 20000 in
theorem wsl_X12_readsSpoke : Cond.selects RX12 yX12_readsSpoke yX12_readsSpoke ∈ gtbl := in_chP_5 (List.mem_of_getElem? (i := 7) rfl) rfl
set_option maxRecDepth 20000 in
theorem wsl_X12_readsRoundEnd : Cond.selects RX12 yX12_readsRoundEnd yX12_readsRoundEnd ∈ gtbl := in_chP_5 (List.mem_of_getElem? (i := 8) rfl) rfl
set_option maxRecDepth 20000 in
theorem wsl_X12_mostOften : Cond.selects RX12 yX12_mostOften yX12_mostOften ∈ gtbl := in_chP_5 (List.mem_of_getElem? (i := 9) rfl) rfl
set_option maxRecDepth 20000 in
theorem wsl_X12_oftenOf : Cond.selects RX12 yX12_oftenOf yX12_oftenOf ∈ gtbl := in_chP_5 (List.mem_of_getElem? (i := 10) rfl) rfl
set_option maxRecDepth 20000 in
theorem wsl_X12_longestRow : Cond.selects RX12 yX12_longestRow yX12_longestRow ∈ gtbl := in_chP_5 (List.mem_of_getElem? (i := 11) rfl) rfl
set_option maxRecDepth 20000 in
theorem wsl_X12_turnsOf : Cond.selects RX12 yX12_turnsOf yX12_turnsOf ∈ gtbl := in_chP_5 (List.mem_of_getElem? (i := 12) rfl) rfl
set_option maxRecDepth 20000 in
theorem wsl_X12_periodOf : Cond.selects RX12 yX12_periodOf yX12_periodOf ∈ gtbl := in_chP_5 (List.mem_of_getElem? (i := 13) rfl) rfl
set_option maxRecDepth 20000 in
theorem wsl_X12_goesOnBy : Cond.selects RX12 yX12_goesOnBy yX12_goesOnBy ∈ gtbl := in_chP_5 (List.mem_of_getElem? (i := 14) rfl) rfl
set_option maxRecDepth 20000 in
theorem wsl_X12_rarest : Cond.selects RX12 yX12_rarest yX12_rarest ∈ gtbl := in_chP_5 (List.mem_of_getElem? (i := 15) rfl) rfl
set_option maxRecDepth 20000 in
theorem in_chP_6 {w : Cond} (h : w ∈ chP_6) (g : goodWord w = true) : w ∈ gtbl := in_g (tt_0 (by rw [tb_0]; exact List.mem_append_right _ (List.mem_append_right _ (List.mem_append_right _ (List.mem_append_right _ (List.mem_append_right _ (List.mem_append_right _ (List.mem_append_left _ h)))))))) g
set_option maxRecDepth 20000 in
theorem wsl_X12_crawlsTo : Cond.selects RX12 yX12_crawlsTo yX12_crawlsTo ∈ gtbl := in_chP_6 (List.mem_of_getElem? (i := 0) rfl) rfl
set_option maxRecDepth 20000 in
theorem wsl_X12_crawlsFrom : Cond.selects RX12 yX12_crawlsFrom yX12_crawlsFrom ∈ gtbl := in_chP_6 (List.mem_of_getElem? (i := 1) rfl) rfl
set_option maxRecDepth 20000 in
theorem wsl_X12_smooths : Cond.selects RX12 yX12_smooths yX12_smooths ∈ gtbl := in_chP_6 (List.mem_of_getElem? (i := 2) rfl) rfl
set_option maxRecDepth 20000 in
theorem wsl_X12_tensionsOfAll : Cond.selects RX12 yX12_tensionsOfAll yX12_tensionsOfAll ∈ gtbl := in_chP_6 (List.mem_of_getElem? (i := 3) rfl) rfl
set_option maxRecDepth 20000 in
theorem tt_1 {w : Cond} (h : w ∈ tables_1_1) : w ∈ lw_tbl := List.mem_append_right _ (List.mem_append_left _ (h))
set_option maxRecDepth 20000 in
theorem in_ch1_0 {w : Cond} (h : w ∈ ch1_0) (g : goodWord w = true) : w ∈ gtbl := in_g (tt_1 (by rw [tb_1]; exact List.mem_append_left _ h)) g
set_option maxRecDepth 20000 in
theorem wini_L : Cond.initialized RL ∈ gtbl := in_ch1_0 (List.mem_of_getElem? (i := 0) rfl) rfl
set_option maxRecDepth 20000 in
theorem wini_X11 : Cond.initialized RX11 ∈ gtbl := in_ch1_0 (List.mem_of_getElem? (i := 1) rfl) rfl
set_option maxRecDepth 20000 in
theorem wini_X8 : Cond.initialized RX8 ∈ gtbl := in_ch1_0 (List.mem_of_getElem? (i := 2) rfl) rfl
set_option maxRecDepth 20000 in
theorem wini_X4 : Cond.initialized RX4 ∈ gtbl := in_ch1_0 (List.mem_of_getElem? (i := 3) rfl) rfl
set_option maxRecDepth 20000 in
theorem wini_X9 : Cond.initialized RX9 ∈ gtbl := in_ch1_0 (List.mem_of_getElem? (i := 4) rfl) rfl
set_option maxRecDepth 20000 in
theorem wini_X0 : Cond.initialized RX0 ∈ gtbl := in_ch1_0 (List.mem_of_getElem? (i := 5) rfl) rfl
set_option maxRecDepth 20000 in
theorem wini_X5 : Cond.initialized RX5 ∈ gtbl := in_ch1_0 (List.mem_of_getElem? (i := 6) rfl) rfl
set_option maxRecDepth 20000 in
theorem wini_X6 : Cond.initialized RX6 ∈ gtbl := in_ch1_0 (List.mem_of_getElem? (i := 7) rfl) rfl
set_option maxRecDepth 20000 in
theorem wini_X2 : Cond.initialized RX2 ∈ gtbl := in_ch1_0 (List.mem_of_getElem? (i := 8) rfl) rfl
set_option maxRecDepth 20000 in
theorem wini_X10 : Cond.initialized RX10 ∈ gtbl := in_ch1_0 (List.mem_of_getElem? (i := 9) rfl) rfl
set_option maxRecDepth 20000 in
theorem wini_X3 : Cond.initialized RX3 ∈ gtbl := in_ch1_0 (List.mem_of_getElem? (i := 10) rfl) rfl
set_option maxRecDepth 20000 in
theorem wini_X7 : Cond.initialized RX7 ∈ gtbl := in_ch1_0 (List.mem_of_getElem? (i := 11) rfl) rfl
set_option maxRecDepth 20000 in
theorem wini_X12 : Cond.initialized RX12 ∈ gtbl := in_ch1_0 (List.mem_of_getElem? (i := 12) rfl) rfl
set_option maxRecDepth 20000 in
theorem wini_J9 : Cond.initialized RJ9 ∈ gtbl := in_ch1_0 (List.mem_of_getElem? (i := 13) rfl) rfl
set_option maxRecDepth 20000 in
theorem wini_X1 : Cond.initialized RX1 ∈ gtbl := in_ch1_0 (List.mem_of_getElem? (i := 14) rfl) rfl
set_option maxRecDepth 20000 in
theorem wini_J6 : Cond.initialized RJ6 ∈ gtbl := in_ch1_0 (List.mem_of_getElem? (i := 15) rfl) rfl
set_option maxRecDepth 20000 in
theorem in_ch1_1 {w : Cond} (h : w ∈ ch1_1) (g : goodWord w = true) : w ∈ gtbl := in_g (tt_1 (by rw [tb_1]; exact List.mem_append_right _ (List.mem_append_left _ h))) g
set_option maxRecDepth 20000 in
theorem wini_J10 : Cond.initialized RJ10 ∈ gtbl := in_ch1_1 (List.mem_of_getElem? (i := 0) rfl) rfl
set_option maxRecDepth 20000 in
theorem wcl_L_7 : Cond.classLink RL 7 RX11 ∈ gtbl := in_ch1_1 (List.mem_of_getElem? (i := 1) rfl) rfl
set_option maxRecDepth 20000 in
theorem wins_X11 : Cond.instantiable RX11 13 ∈ gtbl := in_ch1_1 (List.mem_of_getElem? (i := 2) rfl) rfl
set_option maxRecDepth 20000 in
theorem wm_L_9 : Cond.methodLink RL 9 yX11_init ∈ gtbl := in_ch1_1 (List.mem_of_getElem? (i := 3) rfl) rfl
set_option maxRecDepth 20000 in
theorem wi_X11_init : Cond.instanceMethod yX11_init ∈ gtbl := in_ch1_1 (List.mem_of_getElem? (i := 4) rfl) rfl
set_option maxRecDepth 20000 in
theorem wco_X11_init : Cond.code yX11_init cX11_init 1 none ∈ gtbl := in_ch1_1 (List.mem_of_getElem? (i := 5) rfl) rfl
set_option maxRecDepth 20000 in
theorem wm_X11_1 : Cond.methodLink RX11 1 objectInit ∈ gtbl := in_ch1_1 (List.mem_of_getElem? (i := 6) rfl) rfl
set_option maxRecDepth 20000 in
theorem wi_objInit : Cond.instanceMethod objectInit ∈ gtbl := in_ch1_1 (List.mem_of_getElem? (i := 7) rfl) rfl
set_option maxRecDepth 20000 in
theorem wco_objInit : Cond.code objectInit ⟨#[0xb1]⟩ 1 none ∈ gtbl := in_ch1_1 (List.mem_of_getElem? (i := 8) rfl) rfl
set_option maxRecDepth 20000 in
theorem wcl_X11_7 : Cond.classLink RX11 7 RX8 ∈ gtbl := in_ch1_1 (List.mem_of_getElem? (i := 9) rfl) rfl
set_option maxRecDepth 20000 in
theorem wins_X8 : Cond.instantiable RX8 2 ∈ gtbl := in_ch1_1 (List.mem_of_getElem? (i := 10) rfl) rfl
set_option maxRecDepth 20000 in
theorem wm_X11_9 : Cond.methodLink RX11 9 yX8_init ∈ gtbl := in_ch1_1 (List.mem_of_getElem? (i := 11) rfl) rfl
set_option maxRecDepth 20000 in
theorem wi_X8_init : Cond.instanceMethod yX8_init ∈ gtbl := in_ch1_1 (List.mem_of_getElem? (i := 12) rfl) rfl
set_option maxRecDepth 20000 in
theorem wco_X8_init : Cond.code yX8_init cX8_init 1 none ∈ gtbl := in_ch1_1 (List.mem_of_getElem? (i := 13) rfl) rfl
set_option maxRecDepth 20000 in
theorem wm_X8_1 : Cond.methodLink RX8 1 objectInit ∈ gtbl := in_ch1_1 (List.mem_of_getElem? (i := 14) rfl) rfl
set_option maxRecDepth 20000 in
theorem wf_X8_9 : Cond.fieldLink RX8 9 "DraughtWebs$Tape" "bytes" "[I" ∈ gtbl := in_ch1_1 (List.mem_of_getElem? (i := 15) rfl) rfl
set_option maxRecDepth 20000 in
theorem in_ch1_2 {w : Cond} (h : w ∈ ch1_2) (g : goodWord w = true) : w ∈ gtbl := in_g (tt_1 (by rw [tb_1]; exact List.mem_append_right _ (List.mem_append_right _ (List.mem_append_left _ h)))) g
set_option maxRecDepth 20000 in
theorem wf_X8_13 : Cond.fieldLink RX8 13 "DraughtWebs$Tape" "size" "I" ∈ gtbl := in_ch1_2 (List.mem_of_getElem? (i := 0) rfl) rfl
set_option maxRecDepth 20000 in
theorem war_int : Cond.arrayClass .int ∈ gtbl := in_ch1_2 (List.mem_of_getElem? (i := 6) rfl) rfl
set_option maxRecDepth 20000 in
theorem wcl_X11_16 : Cond.classLink RX11 16 RX4 ∈ gtbl := in_ch1_2 (List.mem_of_getElem? (i := 7) rfl) rfl
set_option maxRecDepth 20000 in
theorem wins_X4 : Cond.instantiable RX4 1 ∈ gtbl := in_ch1_2 (List.mem_of_getElem? (i := 8) rfl) rfl
set_option maxRecDepth 20000 in
theorem wm_X11_18 : Cond.methodLink RX11 18 yX4_init ∈ gtbl := in_ch1_2 (List.mem_of_getElem? (i := 9) rfl) rfl
set_option maxRecDepth 20000 in
theorem wi_X4_init : Cond.instanceMethod yX4_init ∈ gtbl := in_ch1_2 (List.mem_of_getElem? (i := 10) rfl) rfl
set_option maxRecDepth 20000 in
theorem wco_X4_init : Cond.code yX4_init cX4_init 1 none ∈ gtbl := in_ch1_2 (List.mem_of_getElem? (i := 11) rfl) rfl
set_option maxRecDepth 20000 in
theorem wm_X4_3 : Cond.methodLink RX4 3 objectInit ∈ gtbl := in_ch1_2 (List.mem_of_getElem? (i := 12) rfl) rfl
set_option maxRecDepth 20000 in
theorem wcl_X4_9 : Cond.classLink RX4 9 RX9 ∈ gtbl := in_ch1_2 (List.mem_of_getElem? (i := 13) rfl) rfl
set_option maxRecDepth 20000 in
theorem wins_X9 : Cond.instantiable RX9 4 ∈ gtbl := in_ch1_2 (List.mem_of_getElem? (i := 14) rfl) rfl
set_option maxRecDepth 20000 in
theorem wm_X4_11 : Cond.methodLink RX4 11 yX9_init ∈ gtbl := in_ch1_2 (List.mem_of_getElem? (i := 15) rfl) rfl
set_option maxRecDepth 20000 in
theorem in_ch1_3 {w : Cond} (h : w ∈ ch1_3) (g : goodWord w = true) : w ∈ gtbl := in_g (tt_1 (by rw [tb_1]; exact List.mem_append_right _ (List.mem_append_right _ (List.mem_append_right _ (List.mem_append_left _ h))))) g
set_option maxRecDepth 20000 in
theorem wi_X9_init : Cond.instanceMethod yX9_init ∈ gtbl := in_ch1_3 (List.mem_of_getElem? (i := 0) rfl) rfl
set_option maxRecDepth 20000 in
theorem wco_X9_init : Cond.code yX9_init cX9_init 1 none ∈ gtbl := in_ch1_3 (List.mem_of_getElem? (i := 1) rfl) rfl
set_option maxRecDepth 20000 in
theorem wm_X9_3 : Cond.methodLink RX9 3 objectInit ∈ gtbl := in_ch1_3 (List.mem_of_getElem? (i := 2) rfl) rfl
set_option maxRecDepth 20000 in
theorem wf_X9_9 : Cond.fieldLink RX9 9 "DraughtWebs$Text" "signs" "[I" ∈ gtbl := in_ch1_3 (List.mem_of_getElem? (i := 3) rfl) rfl
set_option maxRecDepth 20000 in
theorem wf_X9_15 : Cond.fieldLink RX9 15 "DraughtWebs$Text" "length" "I" ∈ gtbl := in_ch1_3 (List.mem_of_getElem? (i := 4) rfl) rfl
set_option maxRecDepth 20000 in
theorem wf_X9_19 : Cond.fieldLink RX9 19 "DraughtWebs$Text" "place" "I" ∈ gtbl := in_ch1_3 (List.mem_of_getElem? (i := 5) rfl) rfl
set_option maxRecDepth 20000 in
theorem wf_X9_22 : Cond.fieldLink RX9 22 "DraughtWebs$Text" "fault" "I" ∈ gtbl := in_ch1_3 (List.mem_of_getElem? (i := 8) rfl) rfl
set_option maxRecDepth 20000 in
theorem in_ch1_4 {w : Cond} (h : w ∈ ch1_4) (g : goodWord w = true) : w ∈ gtbl := in_g (tt_1 (by rw [tb_1]; exact List.mem_append_right _ (List.mem_append_right _ (List.mem_append_right _ (List.mem_append_right _ (List.mem_append_left _ h)))))) g
set_option maxRecDepth 20000 in
theorem wf_X4_12 : Cond.fieldLink RX4 12 "DraughtWebs$LawReader" "text" "LDraughtWebs$Text;" ∈ gtbl := in_ch1_4 (List.mem_of_getElem? (i := 5) rfl) rfl
set_option maxRecDepth 20000 in
theorem wcl_X11_23 : Cond.classLink RX11 23 RX0 ∈ gtbl := in_ch1_4 (List.mem_of_getElem? (i := 9) rfl) rfl
set_option maxRecDepth 20000 in
theorem wins_X0 : Cond.instantiable RX0 1 ∈ gtbl := in_ch1_4 (List.mem_of_getElem? (i := 10) rfl) rfl
set_option maxRecDepth 20000 in
theorem wm_X11_25 : Cond.methodLink RX11 25 yX0_init ∈ gtbl := in_ch1_4 (List.mem_of_getElem? (i := 11) rfl) rfl
set_option maxRecDepth 20000 in
theorem wi_X0_init : Cond.instanceMethod yX0_init ∈ gtbl := in_ch1_4 (List.mem_of_getElem? (i := 12) rfl) rfl
set_option maxRecDepth 20000 in
theorem wco_X0_init : Cond.code yX0_init cX0_init 1 none ∈ gtbl := in_ch1_4 (List.mem_of_getElem? (i := 13) rfl) rfl
set_option maxRecDepth 20000 in
theorem wm_X0_3 : Cond.methodLink RX0 3 objectInit ∈ gtbl := in_ch1_4 (List.mem_of_getElem? (i := 14) rfl) rfl
set_option maxRecDepth 20000 in
theorem wcl_X0_9 : Cond.classLink RX0 9 RX9 ∈ gtbl := in_ch1_4 (List.mem_of_getElem? (i := 15) rfl) rfl
set_option maxRecDepth 20000 in
theorem in_ch1_5 {w : Cond} (h : w ∈ ch1_5) (g : goodWord w = true) : w ∈ gtbl := in_g (tt_1 (by rw [tb_1]; exact List.mem_append_right _ (List.mem_append_right _ (List.mem_append_right _ (List.mem_append_right _ (List.mem_append_right _ (List.mem_append_left _ h))))))) g
set_option maxRecDepth 20000 in
theorem wm_X0_11 : Cond.methodLink RX0 11 yX9_init ∈ gtbl := in_ch1_5 (List.mem_of_getElem? (i := 0) rfl) rfl
set_option maxRecDepth 20000 in
theorem wf_X0_12 : Cond.fieldLink RX0 12 "DraughtWebs$ChartReader" "text" "LDraughtWebs$Text;" ∈ gtbl := in_ch1_5 (List.mem_of_getElem? (i := 1) rfl) rfl
set_option maxRecDepth 20000 in
theorem wcl_X11_30 : Cond.classLink RX11 30 RX5 ∈ gtbl := in_ch1_5 (List.mem_of_getElem? (i := 5) rfl) rfl
set_option maxRecDepth 20000 in
theorem wins_X5 : Cond.instantiable RX5 3 ∈ gtbl := in_ch1_5 (List.mem_of_getElem? (i := 6) rfl) rfl
set_option maxRecDepth 20000 in
theorem wm_X11_32 : Cond.methodLink RX11 32 yX5_init ∈ gtbl := in_ch1_5 (List.mem_of_getElem? (i := 7) rfl) rfl
set_option maxRecDepth 20000 in
theorem wi_X5_init : Cond.instanceMethod yX5_init ∈ gtbl := in_ch1_5 (List.mem_of_getElem? (i := 8) rfl) rfl
set_option maxRecDepth 20000 in
theorem wco_X5_init : Cond.code yX5_init cX5_init 1 none ∈ gtbl := in_ch1_5 (List.mem_of_getElem? (i := 9) rfl) rfl
set_option maxRecDepth 20000 in
theorem wm_X5_3 : Cond.methodLink RX5 3 objectInit ∈ gtbl := in_ch1_5 (List.mem_of_getElem? (i := 10) rfl) rfl
set_option maxRecDepth 20000 in
theorem wcl_X5_9 : Cond.classLink RX5 9 RX9 ∈ gtbl := in_ch1_5 (List.mem_of_getElem? (i := 11) rfl) rfl
set_option maxRecDepth 20000 in
theorem wm_X5_11 : Cond.methodLink RX5 11 yX9_init ∈ gtbl := in_ch1_5 (List.mem_of_getElem? (i := 12) rfl) rfl
set_option maxRecDepth 20000 in
theorem wf_X5_12 : Cond.fieldLink RX5 12 "DraughtWebs$LogBook" "text" "LDraughtWebs$Text;" ∈ gtbl := in_ch1_5 (List.mem_of_getElem? (i := 13) rfl) rfl
set_option maxRecDepth 20000 in
theorem wf_X5_18 : Cond.fieldLink RX5 18 "DraughtWebs$LogBook" "spokes" "[I" ∈ gtbl := in_ch1_5 (List.mem_of_getElem? (i := 14) rfl) rfl
set_option maxRecDepth 20000 in
theorem wf_X5_22 : Cond.fieldLink RX5 22 "DraughtWebs$LogBook" "size" "I" ∈ gtbl := in_ch1_5 (List.mem_of_getElem? (i := 15) rfl) rfl
set_option maxRecDepth 20000 in
theorem in_ch1_6 {w : Cond} (h : w ∈ ch1_6) (g : goodWord w = true) : w ∈ gtbl := in_g (tt_1 (by rw [tb_1]; exact List.mem_append_right _ (List.mem_append_right _ (List.mem_append_right _ (List.mem_append_right _ (List.mem_append_right _ (List.mem_append_right _ (List.mem_append_left _ h)))))))) g
set_option maxRecDepth 20000 in
theorem wcl_X11_37 : Cond.classLink RX11 37 RX6 ∈ gtbl := in_ch1_6 (List.mem_of_getElem? (i := 7) rfl) rfl
set_option maxRecDepth 20000 in
theorem wins_X6 : Cond.instantiable RX6 3 ∈ gtbl := in_ch1_6 (List.mem_of_getElem? (i := 8) rfl) rfl
set_option maxRecDepth 20000 in
theorem wm_X11_39 : Cond.methodLink RX11 39 yX6_init ∈ gtbl := in_ch1_6 (List.mem_of_getElem? (i := 9) rfl) rfl
set_option maxRecDepth 20000 in
theorem wi_X6_init : Cond.instanceMethod yX6_init ∈ gtbl := in_ch1_6 (List.mem_of_getElem? (i := 10) rfl) rfl
set_option maxRecDepth 20000 in
theorem wco_X6_init : Cond.code yX6_init cX6_init 1 none ∈ gtbl := in_ch1_6 (List.mem_of_getElem? (i := 11) rfl) rfl
set_option maxRecDepth 20000 in
theorem wm_X6_3 : Cond.methodLink RX6 3 objectInit ∈ gtbl := in_ch1_6 (List.mem_of_getElem? (i := 12) rfl) rfl
set_option maxRecDepth 20000 in
theorem wf_X6_11 : Cond.fieldLink RX6 11 "DraughtWebs$Lookout" "reachers" "[I" ∈ gtbl := in_ch1_6 (List.mem_of_getElem? (i := 13) rfl) rfl
set_option maxRecDepth 20000 in
theorem wf_X6_15 : Cond.fieldLink RX6 15 "DraughtWebs$Lookout" "listed" "[Z" ∈ gtbl := in_ch1_6 (List.mem_of_getElem? (i := 14) rfl) rfl
set_option maxRecDepth 20000 in
theorem wf_X6_19 : Cond.fieldLink RX6 19 "DraughtWebs$Lookout" "reacherCount" "I" ∈ gtbl := in_ch1_6 (List.mem_of_getElem? (i := 15) rfl) rfl
set_option maxRecDepth 20000 in
theorem in_ch1_7 {w : Cond} (h : w ∈ ch1_7) (g : goodWord w = true) : w ∈ gtbl := in_g (tt_1 (by rw [tb_1]; exact List.mem_append_right _ (List.mem_append_right _ (List.mem_append_right _ (List.mem_append_right _ (List.mem_append_right _ (List.mem_append_right _ (List.mem_append_right _ (List.mem_append_left _ h))))))))) g
set_option maxRecDepth 20000 in
theorem war_boolean : Cond.arrayClass .boolean ∈ gtbl := in_ch1_7 (List.mem_of_getElem? (i := 7) rfl) rfl
set_option maxRecDepth 20000 in
theorem wcl_X11_44 : Cond.classLink RX11 44 RX2 ∈ gtbl := in_ch1_7 (List.mem_of_getElem? (i := 8) rfl) rfl
set_option maxRecDepth 20000 in
theorem wins_X2 : Cond.instantiable RX2 6 ∈ gtbl := in_ch1_7 (List.mem_of_getElem? (i := 9) rfl) rfl
set_option maxRecDepth 20000 in
theorem wm_X11_46 : Cond.methodLink RX11 46 yX2_init ∈ gtbl := in_ch1_7 (List.mem_of_getElem? (i := 10) rfl) rfl
set_option maxRecDepth 20000 in
theorem wi_X2_init : Cond.instanceMethod yX2_init ∈ gtbl := in_ch1_7 (List.mem_of_getElem? (i := 11) rfl) rfl
set_option maxRecDepth 20000 in
theorem wco_X2_init : Cond.code yX2_init cX2_init 1 none ∈ gtbl := in_ch1_7 (List.mem_of_getElem? (i := 12) rfl) rfl
set_option maxRecDepth 20000 in
theorem wm_X2_3 : Cond.methodLink RX2 3 objectInit ∈ gtbl := in_ch1_7 (List.mem_of_getElem? (i := 13) rfl) rfl
set_option maxRecDepth 20000 in
theorem wf_X2_11 : Cond.fieldLink RX2 11 "DraughtWebs$Desk" "common" "[I" ∈ gtbl := in_ch1_7 (List.mem_of_getElem? (i := 14) rfl) rfl
set_option maxRecDepth 20000 in
theorem wf_X2_15 : Cond.fieldLink RX2 15 "DraughtWebs$Desk" "readings" "[I" ∈ gtbl := in_ch1_7 (List.mem_of_getElem? (i := 15) rfl) rfl
set_option maxRecDepth 20000 in
theorem in_ch1_8 {w : Cond} (h : w ∈ ch1_8) (g : goodWord w = true) : w ∈ gtbl := in_g (tt_1 (by rw [tb_1]; exact List.mem_append_right _ (List.mem_append_right _ (List.mem_append_right _ (List.mem_append_right _ (List.mem_append_right _ (List.mem_append_right _ (List.mem_append_right _ (List.mem_append_right _ (List.mem_append_left _ h)))))))))) g
set_option maxRecDepth 20000 in
theorem wf_X2_18 : Cond.fieldLink RX2 18 "DraughtWebs$Desk" "smoother" "[I" ∈ gtbl := in_ch1_8 (List.mem_of_getElem? (i := 0) rfl) rfl
set_option maxRecDepth 20000 in
theorem wf_X2_21 : Cond.fieldLink RX2 21 "DraughtWebs$Desk" "weights" "[I" ∈ gtbl := in_ch1_8 (List.mem_of_getElem? (i := 1) rfl) rfl
set_option maxRecDepth 20000 in
theorem wf_X2_24 : Cond.fieldLink RX2 24 "DraughtWebs$Desk" "lengths" "[I" ∈ gtbl := in_ch1_8 (List.mem_of_getElem? (i := 2) rfl) rfl
set_option maxRecDepth 20000 in
theorem wf_X2_27 : Cond.fieldLink RX2 27 "DraughtWebs$Desk" "used" "[Z" ∈ gtbl := in_ch1_8 (List.mem_of_getElem? (i := 3) rfl) rfl
set_option maxRecDepth 20000 in
theorem in_ch1_9 {w : Cond} (h : w ∈ ch1_9) (g : goodWord w = true) : w ∈ gtbl := in_g (tt_1 (by rw [tb_1]; exact List.mem_append_right _ (List.mem_append_right _ (List.mem_append_right _ (List.mem_append_right _ (List.mem_append_right _ (List.mem_append_right _ (List.mem_append_right _ (List.mem_append_right _ (List.mem_append_right _ (List.mem_append_left _ h))))))))))) g
set_option maxRecDepth 20000 in
theorem wcl_X11_51 : Cond.classLink RX11 51 RX10 ∈ gtbl := in_ch1_9 (List.mem_of_getElem? (i := 1) rfl) rfl
set_option maxRecDepth 20000 in
theorem wins_X10 : Cond.instantiable RX10 3 ∈ gtbl := in_ch1_9 (List.mem_of_getElem? (i := 2) rfl) rfl
set_option maxRecDepth 20000 in
theorem wm_X11_53 : Cond.methodLink RX11 53 yX10_init ∈ gtbl := in_ch1_9 (List.mem_of_getElem? (i := 3) rfl) rfl
set_option maxRecDepth 20000 in
theorem wi_X10_init : Cond.instanceMethod yX10_init ∈ gtbl := in_ch1_9 (List.mem_of_getElem? (i := 4) rfl) rfl
set_option maxRecDepth 20000 in
theorem wco_X10_init : Cond.code yX10_init cX10_init 1 none ∈ gtbl := in_ch1_9 (List.mem_of_getElem? (i := 5) rfl) rfl
set_option maxRecDepth 20000 in
theorem wm_X10_3 : Cond.methodLink RX10 3 objectInit ∈ gtbl := in_ch1_9 (List.mem_of_getElem? (i := 6) rfl) rfl
set_option maxRecDepth 20000 in
theorem wf_X10_11 : Cond.fieldLink RX10 11 "DraughtWebs$TornWeb" "ways" "[I" ∈ gtbl := in_ch1_9 (List.mem_of_getElem? (i := 7) rfl) rfl
set_option maxRecDepth 20000 in
theorem wf_X10_15 : Cond.fieldLink RX10 15 "DraughtWebs$TornWeb" "line" "[I" ∈ gtbl := in_ch1_9 (List.mem_of_getElem? (i := 8) rfl) rfl
set_option maxRecDepth 20000 in
theorem wf_X10_18 : Cond.fieldLink RX10 18 "DraughtWebs$TornWeb" "lined" "I" ∈ gtbl := in_ch1_9 (List.mem_of_getElem? (i := 9) rfl) rfl
set_option maxRecDepth 20000 in
theorem in_ch1_10 {w : Cond} (h : w ∈ ch1_10) (g : goodWord w = true) : w ∈ gtbl := in_g (tt_1 (by rw [tb_1]; exact List.mem_append_right _ (List.mem_append_right _ (List.mem_append_right _ (List.mem_append_right _ (List.mem_append_right _ (List.mem_append_right _ (List.mem_append_right _ (List.mem_append_right _ (List.mem_append_right _ (List.mem_append_right _ (List.mem_append_left _ h)))))))))))) g
set_option maxRecDepth 20000 in
theorem wcl_X11_58 : Cond.classLink RX11 58 RX3 ∈ gtbl := in_ch1_10 (List.mem_of_getElem? (i := 1) rfl) rfl
set_option maxRecDepth 20000 in
theorem wins_X3 : Cond.instantiable RX3 12 ∈ gtbl := in_ch1_10 (List.mem_of_getElem? (i := 2) rfl) rfl
set_option maxRecDepth 20000 in
theorem wm_X11_60 : Cond.methodLink RX11 60 yX3_init ∈ gtbl := in_ch1_10 (List.mem_of_getElem? (i := 3) rfl) rfl
set_option maxRecDepth 20000 in
theorem wi_X3_init : Cond.instanceMethod yX3_init ∈ gtbl := in_ch1_10 (List.mem_of_getElem? (i := 4) rfl) rfl
set_option maxRecDepth 20000 in
theorem wco_X3_init : Cond.code yX3_init cX3_init 1 none ∈ gtbl := in_ch1_10 (List.mem_of_getElem? (i := 5) rfl) rfl
set_option maxRecDepth 20000 in
theorem wm_X3_3 : Cond.methodLink RX3 3 objectInit ∈ gtbl := in_ch1_10 (List.mem_of_getElem? (i := 6) rfl) rfl
set_option maxRecDepth 20000 in
theorem wf_X3_9 : Cond.fieldLink RX3 9 "DraughtWebs$Law" "ruleCount" "I" ∈ gtbl := in_ch1_10 (List.mem_of_getElem? (i := 7) rfl) rfl
set_option maxRecDepth 20000 in
theorem wf_X3_15 : Cond.fieldLink RX3 15 "DraughtWebs$Law" "kinds" "[I" ∈ gtbl := in_ch1_10 (List.mem_of_getElem? (i := 8) rfl) rfl
set_option maxRecDepth 20000 in
theorem wf_X3_19 : Cond.fieldLink RX3 19 "DraughtWebs$Law" "worthStarts" "[I" ∈ gtbl := in_ch1_10 (List.mem_of_getElem? (i := 9) rfl) rfl
set_option maxRecDepth 20000 in
theorem wf_X3_22 : Cond.fieldLink RX3 22 "DraughtWebs$Law" "conditionStarts" "[I" ∈ gtbl := in_ch1_10 (List.mem_of_getElem? (i := 10) rfl) rfl
set_option maxRecDepth 20000 in
theorem wf_X3_25 : Cond.fieldLink RX3 25 "DraughtWebs$Law" "signCount" "I" ∈ gtbl := in_ch1_10 (List.mem_of_getElem? (i := 11) rfl) rfl
set_option maxRecDepth 20000 in
theorem wf_X3_28 : Cond.fieldLink RX3 28 "DraughtWebs$Law" "signs" "[I" ∈ gtbl := in_ch1_10 (List.mem_of_getElem? (i := 12) rfl) rfl
set_option maxRecDepth 20000 in
theorem wf_X3_31 : Cond.fieldLink RX3 31 "DraughtWebs$Law" "values" "[I" ∈ gtbl := in_ch1_10 (List.mem_of_getElem? (i := 13) rfl) rfl
set_option maxRecDepth 20000 in
theorem wf_X3_34 : Cond.fieldLink RX3 34 "DraughtWebs$Law" "seen" "[I" ∈ gtbl := in_ch1_10 (List.mem_of_getElem? (i := 14) rfl) rfl
set_option maxRecDepth 20000 in
theorem wf_X3_37 : Cond.fieldLink RX3 37 "DraughtWebs$Law" "heap" "[I" ∈ gtbl := in_ch1_10 (List.mem_of_getElem? (i := 15) rfl) rfl
set_option maxRecDepth 20000 in
theorem in_ch1_11 {w : Cond} (h : w ∈ ch1_11) (g : goodWord w = true) : w ∈ gtbl := in_g (tt_1 (by rw [tb_1]; exact List.mem_append_right _ (List.mem_append_right _ (List.mem_append_right _ (List.mem_append_right _ (List.mem_append_right _ (List.mem_append_right _ (List.mem_append_right _ (List.mem_append_right _ (List.mem_append_right _ (List.mem_append_right _ (List.mem_append_right _ (List.mem_append_left _ h))))))))))))) g
set_option maxRecDepth 20000 in
theorem wf_X3_40 : Cond.fieldLink RX3 40 "DraughtWebs$Law" "heaped" "I" ∈ gtbl := in_ch1_11 (List.mem_of_getElem? (i := 0) rfl) rfl
set_option maxRecDepth 20000 in
theorem wf_X3_43 : Cond.fieldLink RX3 43 "DraughtWebs$Law" "held" "Z" ∈ gtbl := in_ch1_11 (List.mem_of_getElem? (i := 1) rfl) rfl
set_option maxRecDepth 20000 in
theorem wf_X3_47 : Cond.fieldLink RX3 47 "DraughtWebs$Law" "refused" "Z" ∈ gtbl := in_ch1_11 (List.mem_of_getElem? (i := 2) rfl) rfl
set_option maxRecDepth 20000 in
theorem in_ch1_12 {w : Cond} (h : w ∈ ch1_12) (g : goodWord w = true) : w ∈ gtbl := in_g (tt_1 (by rw [tb_1]; exact List.mem_append_right _ (List.mem_append_right _ (List.mem_append_right _ (List.mem_append_right _ (List.mem_append_right _ (List.mem_append_right _ (List.mem_append_right _ (List.mem_append_right _ (List.mem_append_right _ (List.mem_append_right _ (List.mem_append_right _ (List.mem_append_right _ (List.mem_append_left _ h)))))))))))))) g
set_option maxRecDepth 20000 in
theorem wcl_X11_68 : Cond.classLink RX11 68 RX7 ∈ gtbl := in_ch1_12 (List.mem_of_getElem? (i := 12) rfl) rfl
set_option maxRecDepth 20000 in
theorem wins_X7 : Cond.instantiable RX7 11 ∈ gtbl := in_ch1_12 (List.mem_of_getElem? (i := 13) rfl) rfl
set_option maxRecDepth 20000 in
theorem wm_X11_70 : Cond.methodLink RX11 70 yX7_init ∈ gtbl := in_ch1_12 (List.mem_of_getElem? (i := 14) rfl) rfl
set_option maxRecDepth 20000 in
theorem wi_X7_init : Cond.instanceMethod yX7_init ∈ gtbl := in_ch1_12 (List.mem_of_getElem? (i := 15) rfl) rfl
set_option maxRecDepth 20000 in
theorem in_ch1_13 {w : Cond} (h : w ∈ ch1_13) (g : goodWord w = true) : w ∈ gtbl := in_g (tt_1 (by rw [tb_1]; exact List.mem_append_right _ (List.mem_append_right _ (List.mem_append_right _ (List.mem_append_right _ (List.mem_append_right _ (List.mem_append_right _ (List.mem_append_right _ (List.mem_append_right _ (List.mem_append_right _ (List.mem_append_right _ (List.mem_append_right _ (List.mem_append_right _ (List.mem_append_right _ (List.mem_append_left _ h))))))))))))))) g
set_option maxRecDepth 20000 in
theorem wco_X7_init : Cond.code yX7_init cX7_init 1 none ∈ gtbl := in_ch1_13 (List.mem_of_getElem? (i := 0) rfl) rfl
set_option maxRecDepth 20000 in
theorem wm_X7_3 : Cond.methodLink RX7 3 objectInit ∈ gtbl := in_ch1_13 (List.mem_of_getElem? (i := 1) rfl) rfl
set_option maxRecDepth 20000 in
theorem wf_X7_9 : Cond.fieldLink RX7 9 "DraughtWebs$Sea" "webs" "I" ∈ gtbl := in_ch1_13 (List.mem_of_getElem? (i := 2) rfl) rfl
set_option maxRecDepth 20000 in
theorem wf_X7_15 : Cond.fieldLink RX7 15 "DraughtWebs$Sea" "fleets" "I" ∈ gtbl := in_ch1_13 (List.mem_of_getElem? (i := 5) rfl) rfl
set_option maxRecDepth 20000 in
theorem wf_X7_18 : Cond.fieldLink RX7 18 "DraughtWebs$Sea" "webX" "[I" ∈ gtbl := in_ch1_13 (List.mem_of_getElem? (i := 7) rfl) rfl
set_option maxRecDepth 20000 in
theorem wf_X7_22 : Cond.fieldLink RX7 22 "DraughtWebs$Sea" "webY" "[I" ∈ gtbl := in_ch1_13 (List.mem_of_getElem? (i := 10) rfl) rfl
set_option maxRecDepth 20000 in
theorem wf_X7_25 : Cond.fieldLink RX7 25 "DraughtWebs$Sea" "tensions" "[I" ∈ gtbl := in_ch1_13 (List.mem_of_getElem? (i := 13) rfl) rfl
set_option maxRecDepth 20000 in
theorem wf_X7_28 : Cond.fieldLink RX7 28 "DraughtWebs$Sea" "fleetX" "[I" ∈ gtbl := in_ch1_13 (List.mem_of_getElem? (i := 15) rfl) rfl
set_option maxRecDepth 20000 in
theorem in_ch1_14 {w : Cond} (h : w ∈ ch1_14) (g : goodWord w = true) : w ∈ gtbl := in_g (tt_1 (by rw [tb_1]; exact List.mem_append_right _ (List.mem_append_right _ (List.mem_append_right _ (List.mem_append_right _ (List.mem_append_right _ (List.mem_append_right _ (List.mem_append_right _ (List.mem_append_right _ (List.mem_append_right _ (List.mem_append_right _ (List.mem_append_right _ (List.mem_append_right _ (List.mem_append_right _ (List.mem_append_right _ (List.mem_append_left _ h)))))))))))))))) g
set_option maxRecDepth 20000 in
theorem wf_X7_31 : Cond.fieldLink RX7 31 "DraughtWebs$Sea" "fleetY" "[I" ∈ gtbl := in_ch1_14 (List.mem_of_getElem? (i := 0) rfl) rfl
set_option maxRecDepth 20000 in
theorem wf_X7_34 : Cond.fieldLink RX7 34 "DraughtWebs$Sea" "forces" "[I" ∈ gtbl := in_ch1_14 (List.mem_of_getElem? (i := 1) rfl) rfl
set_option maxRecDepth 20000 in
theorem wf_X7_37 : Cond.fieldLink RX7 37 "DraughtWebs$Sea" "courses" "[I" ∈ gtbl := in_ch1_14 (List.mem_of_getElem? (i := 3) rfl) rfl
set_option maxRecDepth 20000 in
theorem wf_X7_40 : Cond.fieldLink RX7 40 "DraughtWebs$Sea" "hour" "I" ∈ gtbl := in_ch1_14 (List.mem_of_getElem? (i := 4) rfl) rfl
set_option maxRecDepth 20000 in
theorem wf_X7_43 : Cond.fieldLink RX7 43 "DraughtWebs$Sea" "drawn" "I" ∈ gtbl := in_ch1_14 (List.mem_of_getElem? (i := 6) rfl) rfl
set_option maxRecDepth 20000 in
theorem tt_2 {w : Cond} (h : w ∈ tables_1_2) : w ∈ lw_tbl := List.mem_append_right _ (List.mem_append_right _ (List.mem_append_left _ (h)))
set_option maxRecDepth 20000 in
theorem in_ch2_0 {w : Cond} (h : w ∈ ch2_0) (g : goodWord w = true) : w ∈ gtbl := in_g (tt_2 (by rw [tb_2]; exact List.mem_append_left _ h)) g
set_option maxRecDepth 20000 in
theorem wf_X11_10 : Cond.fieldLink RX11 10 "DraughtWebs" "tape" "LDraughtWebs$Tape;" ∈ gtbl := in_ch2_0 (List.mem_of_getElem? (i := 15) rfl) rfl
set_option maxRecDepth 20000 in
theorem in_ch2_1 {w : Cond} (h : w ∈ ch2_1) (g : goodWord w = true) : w ∈ gtbl := in_g (tt_2 (by rw [tb_2]; exact List.mem_append_right _ (List.mem_append_left _ h))) g
set_option maxRecDepth 20000 in
theorem wf_X11_19 : Cond.fieldLink RX11 19 "DraughtWebs" "lawReader" "LDraughtWebs$LawReader;" ∈ gtbl := in_ch2_1 (List.mem_of_getElem? (i := 0) rfl) rfl
set_option maxRecDepth 20000 in
theorem wf_X11_26 : Cond.fieldLink RX11 26 "DraughtWebs" "chartReader" "LDraughtWebs$ChartReader;" ∈ gtbl := in_ch2_1 (List.mem_of_getElem? (i := 1) rfl) rfl
set_option maxRecDepth 20000 in
theorem wf_X11_33 : Cond.fieldLink RX11 33 "DraughtWebs" "logBook" "LDraughtWebs$LogBook;" ∈ gtbl := in_ch2_1 (List.mem_of_getElem? (i := 2) rfl) rfl
set_option maxRecDepth 20000 in
theorem wf_X11_40 : Cond.fieldLink RX11 40 "DraughtWebs" "lookout" "LDraughtWebs$Lookout;" ∈ gtbl := in_ch2_1 (List.mem_of_getElem? (i := 3) rfl) rfl
set_option maxRecDepth 20000 in
theorem wf_X11_47 : Cond.fieldLink RX11 47 "DraughtWebs" "desk" "LDraughtWebs$Desk;" ∈ gtbl := in_ch2_1 (List.mem_of_getElem? (i := 4) rfl) rfl
set_option maxRecDepth 20000 in
theorem wf_X11_54 : Cond.fieldLink RX11 54 "DraughtWebs" "tornWeb" "LDraughtWebs$TornWeb;" ∈ gtbl := in_ch2_1 (List.mem_of_getElem? (i := 5) rfl) rfl
set_option maxRecDepth 20000 in
theorem wf_X11_61 : Cond.fieldLink RX11 61 "DraughtWebs" "rules" "LDraughtWebs$Law;" ∈ gtbl := in_ch2_1 (List.mem_of_getElem? (i := 6) rfl) rfl
set_option maxRecDepth 20000 in
theorem wf_X11_65 : Cond.fieldLink RX11 65 "DraughtWebs" "spareRules" "LDraughtWebs$Law;" ∈ gtbl := in_ch2_1 (List.mem_of_getElem? (i := 7) rfl) rfl
set_option maxRecDepth 20000 in
theorem wf_X11_71 : Cond.fieldLink RX11 71 "DraughtWebs" "sea" "LDraughtWebs$Sea;" ∈ gtbl := in_ch2_1 (List.mem_of_getElem? (i := 8) rfl) rfl
set_option maxRecDepth 20000 in
theorem wf_X11_75 : Cond.fieldLink RX11 75 "DraughtWebs" "spareSea" "LDraughtWebs$Sea;" ∈ gtbl := in_ch2_1 (List.mem_of_getElem? (i := 9) rfl) rfl
set_option maxRecDepth 20000 in
theorem wf_X11_78 : Cond.fieldLink RX11 78 "DraughtWebs" "kept" "LDraughtWebs$Sea;" ∈ gtbl := in_ch2_1 (List.mem_of_getElem? (i := 10) rfl) rfl
set_option maxRecDepth 20000 in
theorem wf_X11_81 : Cond.fieldLink RX11 81 "DraughtWebs" "anyKept" "Z" ∈ gtbl := in_ch2_1 (List.mem_of_getElem? (i := 11) rfl) rfl
set_option maxRecDepth 20000 in
theorem in_ch2_2 {w : Cond} (h : w ∈ ch2_2) (g : goodWord w = true) : w ∈ gtbl := in_g (tt_2 (by rw [tb_2]; exact List.mem_append_right _ (List.mem_append_right _ (List.mem_append_left _ h)))) g
set_option maxRecDepth 20000 in
theorem in_ch2_3 {w : Cond} (h : w ∈ ch2_3) (g : goodWord w = true) : w ∈ gtbl := in_g (tt_2 (by rw [tb_2]; exact List.mem_append_right _ (List.mem_append_right _ (List.mem_append_right _ (List.mem_append_left _ h))))) g
set_option maxRecDepth 20000 in
theorem wm_L_13 : Cond.methodLink RL 13 yX11_tension ∈ gtbl := in_ch2_3 (List.mem_of_getElem? (i := 7) rfl) rfl
set_option maxRecDepth 20000 in
theorem wi_X11_tension : Cond.instanceMethod yX11_tension ∈ gtbl := in_ch2_3 (List.mem_of_getElem? (i := 8) rfl) rfl
set_option maxRecDepth 20000 in
theorem wsl_X11_tension : Cond.selects RX11 yX11_tension yX11_tension ∈ gtbl := in_ch2_3 (List.mem_of_getElem? (i := 9) rfl) rfl
set_option maxRecDepth 20000 in
theorem wco_X11_tension : Cond.code yX11_tension cX11_tension 4 (some .boolean) ∈ gtbl := in_ch2_3 (List.mem_of_getElem? (i := 10) rfl) rfl
set_option maxRecDepth 20000 in
theorem wm_X11_85 : Cond.methodLink RX11 85 yX7_hasWeb ∈ gtbl := in_ch2_3 (List.mem_of_getElem? (i := 11) rfl) rfl
set_option maxRecDepth 20000 in
theorem wi_X7_hasWeb : Cond.instanceMethod yX7_hasWeb ∈ gtbl := in_ch2_3 (List.mem_of_getElem? (i := 12) rfl) rfl
set_option maxRecDepth 20000 in
theorem wsl_X7_hasWeb : Cond.selects RX7 yX7_hasWeb yX7_hasWeb ∈ gtbl := in_ch2_3 (List.mem_of_getElem? (i := 13) rfl) rfl
set_option maxRecDepth 20000 in
theorem wco_X7_hasWeb : Cond.code yX7_hasWeb cX7_hasWeb 2 (some .boolean) ∈ gtbl := in_ch2_3 (List.mem_of_getElem? (i := 14) rfl) rfl
set_option maxRecDepth 20000 in
theorem wm_X11_89 : Cond.methodLink RX11 89 yX11_within ∈ gtbl := in_ch2_3 (List.mem_of_getElem? (i := 15) rfl) rfl
set_option maxRecDepth 20000 in
theorem in_ch2_4 {w : Cond} (h : w ∈ ch2_4) (g : goodWord w = true) : w ∈ gtbl := in_g (tt_2 (by rw [tb_2]; exact List.mem_append_right _ (List.mem_append_right _ (List.mem_append_right _ (List.mem_append_right _ (List.mem_append_left _ h)))))) g
set_option maxRecDepth 20000 in
theorem wst_X11_within : Cond.static yX11_within ∈ gtbl := in_ch2_4 (List.mem_of_getElem? (i := 0) rfl) rfl
set_option maxRecDepth 20000 in
theorem wco_X11_within : Cond.code yX11_within cX11_within 3 (some .boolean) ∈ gtbl := in_ch2_4 (List.mem_of_getElem? (i := 1) rfl) rfl
set_option maxRecDepth 20000 in
theorem wm_L_18 : Cond.methodLink RL 18 yX11_feed ∈ gtbl := in_ch2_4 (List.mem_of_getElem? (i := 2) rfl) rfl
set_option maxRecDepth 20000 in
theorem wi_X11_feed : Cond.instanceMethod yX11_feed ∈ gtbl := in_ch2_4 (List.mem_of_getElem? (i := 3) rfl) rfl
set_option maxRecDepth 20000 in
theorem wsl_X11_feed : Cond.selects RX11 yX11_feed yX11_feed ∈ gtbl := in_ch2_4 (List.mem_of_getElem? (i := 4) rfl) rfl
set_option maxRecDepth 20000 in
theorem wco_X11_feed : Cond.code yX11_feed cX11_feed 6 (some .int) ∈ gtbl := in_ch2_4 (List.mem_of_getElem? (i := 5) rfl) rfl
set_option maxRecDepth 20000 in
theorem wm_X11_97 : Cond.methodLink RX11 97 yX8_hasRoomFor ∈ gtbl := in_ch2_4 (List.mem_of_getElem? (i := 6) rfl) rfl
set_option maxRecDepth 20000 in
theorem wi_X8_hasRoomFor : Cond.instanceMethod yX8_hasRoomFor ∈ gtbl := in_ch2_4 (List.mem_of_getElem? (i := 7) rfl) rfl
set_option maxRecDepth 20000 in
theorem wsl_X8_hasRoomFor : Cond.selects RX8 yX8_hasRoomFor yX8_hasRoomFor ∈ gtbl := in_ch2_4 (List.mem_of_getElem? (i := 8) rfl) rfl
set_option maxRecDepth 20000 in
theorem wco_X8_hasRoomFor : Cond.code yX8_hasRoomFor cX8_hasRoomFor 2 (some .boolean) ∈ gtbl := in_ch2_4 (List.mem_of_getElem? (i := 9) rfl) rfl
set_option maxRecDepth 20000 in
theorem wm_X11_100 : Cond.methodLink RX11 100 yX8_putInt ∈ gtbl := in_ch2_4 (List.mem_of_getElem? (i := 10) rfl) rfl
set_option maxRecDepth 20000 in
theorem wi_X8_putInt : Cond.instanceMethod yX8_putInt ∈ gtbl := in_ch2_4 (List.mem_of_getElem? (i := 11) rfl) rfl
set_option maxRecDepth 20000 in
theorem wsl_X8_putInt : Cond.selects RX8 yX8_putInt yX8_putInt ∈ gtbl := in_ch2_4 (List.mem_of_getElem? (i := 12) rfl) rfl
set_option maxRecDepth 20000 in
theorem wco_X8_putInt : Cond.code yX8_putInt cX8_putInt 2 none ∈ gtbl := in_ch2_4 (List.mem_of_getElem? (i := 13) rfl) rfl
set_option maxRecDepth 20000 in
theorem wm_X8_17 : Cond.methodLink RX8 17 yX8_put ∈ gtbl := in_ch2_4 (List.mem_of_getElem? (i := 14) rfl) rfl
set_option maxRecDepth 20000 in
theorem in_ch2_5 {w : Cond} (h : w ∈ ch2_5) (g : goodWord w = true) : w ∈ gtbl := in_g (tt_2 (by rw [tb_2]; exact List.mem_append_right _ (List.mem_append_right _ (List.mem_append_right _ (List.mem_append_right _ (List.mem_append_right _ (List.mem_append_left _ h))))))) g
set_option maxRecDepth 20000 in
theorem wi_X8_put : Cond.instanceMethod yX8_put ∈ gtbl := in_ch2_5 (List.mem_of_getElem? (i := 0) rfl) rfl
set_option maxRecDepth 20000 in
theorem wco_X8_put : Cond.code yX8_put cX8_put 2 none ∈ gtbl := in_ch2_5 (List.mem_of_getElem? (i := 1) rfl) rfl
set_option maxRecDepth 20000 in
theorem wm_X11_104 : Cond.methodLink RX11 104 yX8_size ∈ gtbl := in_ch2_5 (List.mem_of_getElem? (i := 2) rfl) rfl
set_option maxRecDepth 20000 in
theorem wi_X8_size : Cond.instanceMethod yX8_size ∈ gtbl := in_ch2_5 (List.mem_of_getElem? (i := 3) rfl) rfl
set_option maxRecDepth 20000 in
theorem wsl_X8_size : Cond.selects RX8 yX8_size yX8_size ∈ gtbl := in_ch2_5 (List.mem_of_getElem? (i := 4) rfl) rfl
set_option maxRecDepth 20000 in
theorem wco_X8_size : Cond.code yX8_size cX8_size 1 (some .int) ∈ gtbl := in_ch2_5 (List.mem_of_getElem? (i := 5) rfl) rfl
set_option maxRecDepth 20000 in
theorem wm_L_23 : Cond.methodLink RL 23 yX11_law ∈ gtbl := in_ch2_5 (List.mem_of_getElem? (i := 6) rfl) rfl
set_option maxRecDepth 20000 in
theorem wi_X11_law : Cond.instanceMethod yX11_law ∈ gtbl := in_ch2_5 (List.mem_of_getElem? (i := 7) rfl) rfl
set_option maxRecDepth 20000 in
theorem wsl_X11_law : Cond.selects RX11 yX11_law yX11_law ∈ gtbl := in_ch2_5 (List.mem_of_getElem? (i := 8) rfl) rfl
set_option maxRecDepth 20000 in
theorem wco_X11_law : Cond.code yX11_law cX11_law 4 (some .int) ∈ gtbl := in_ch2_5 (List.mem_of_getElem? (i := 9) rfl) rfl
set_option maxRecDepth 20000 in
theorem wm_X11_108 : Cond.methodLink RX11 108 yX8_has ∈ gtbl := in_ch2_5 (List.mem_of_getElem? (i := 10) rfl) rfl
set_option maxRecDepth 20000 in
theorem wi_X8_has : Cond.instanceMethod yX8_has ∈ gtbl := in_ch2_5 (List.mem_of_getElem? (i := 11) rfl) rfl
set_option maxRecDepth 20000 in
theorem wsl_X8_has : Cond.selects RX8 yX8_has yX8_has ∈ gtbl := in_ch2_5 (List.mem_of_getElem? (i := 12) rfl) rfl
set_option maxRecDepth 20000 in
theorem wco_X8_has : Cond.code yX8_has cX8_has 2 (some .boolean) ∈ gtbl := in_ch2_5 (List.mem_of_getElem? (i := 13) rfl) rfl
set_option maxRecDepth 20000 in
theorem wm_X11_111 : Cond.methodLink RX11 111 yX4_read ∈ gtbl := in_ch2_5 (List.mem_of_getElem? (i := 14) rfl) rfl
set_option maxRecDepth 20000 in
theorem wi_X4_read : Cond.instanceMethod yX4_read ∈ gtbl := in_ch2_5 (List.mem_of_getElem? (i := 15) rfl) rfl
set_option maxRecDepth 20000 in
theorem in_ch2_6 {w : Cond} (h : w ∈ ch2_6) (g : goodWord w = true) : w ∈ gtbl := in_g (tt_2 (by rw [tb_2]; exact List.mem_append_right _ (List.mem_append_right _ (List.mem_append_right _ (List.mem_append_right _ (List.mem_append_right _ (List.mem_append_right _ (List.mem_append_left _ h)))))))) g
set_option maxRecDepth 20000 in
theorem wsl_X4_read : Cond.selects RX4 yX4_read yX4_read ∈ gtbl := in_ch2_6 (List.mem_of_getElem? (i := 0) rfl) rfl
set_option maxRecDepth 20000 in
theorem wco_X4_read : Cond.code yX4_read cX4_read 5 (some .int) ∈ gtbl := in_ch2_6 (List.mem_of_getElem? (i := 1) rfl) rfl
set_option maxRecDepth 20000 in
theorem wm_X4_18 : Cond.methodLink RX4 18 yX9_take ∈ gtbl := in_ch2_6 (List.mem_of_getElem? (i := 2) rfl) rfl
set_option maxRecDepth 20000 in
theorem wi_X9_take : Cond.instanceMethod yX9_take ∈ gtbl := in_ch2_6 (List.mem_of_getElem? (i := 3) rfl) rfl
set_option maxRecDepth 20000 in
theorem wsl_X9_take : Cond.selects RX9 yX9_take yX9_take ∈ gtbl := in_ch2_6 (List.mem_of_getElem? (i := 4) rfl) rfl
set_option maxRecDepth 20000 in
theorem wco_X9_take : Cond.code yX9_take cX9_take 4 none ∈ gtbl := in_ch2_6 (List.mem_of_getElem? (i := 5) rfl) rfl
set_option maxRecDepth 20000 in
theorem wm_X9_25 : Cond.methodLink RX9 25 Lib.Math.min.name ∈ gtbl := in_ch2_6 (List.mem_of_getElem? (i := 6) rfl) rfl
set_option maxRecDepth 20000 in
theorem wst_Mmin : Cond.static Lib.Math.min.name ∈ gtbl := in_ch2_6 (List.mem_of_getElem? (i := 7) rfl) rfl
set_option maxRecDepth 20000 in
theorem wco_Mmin : Cond.code Lib.Math.min.name Lib.Math.min.code 2 (some .int) ∈ gtbl := in_ch2_6 (List.mem_of_getElem? (i := 8) rfl) rfl
set_option maxRecDepth 20000 in
theorem wm_X9_31 : Cond.methodLink RX9 31 yX8_at ∈ gtbl := in_ch2_6 (List.mem_of_getElem? (i := 9) rfl) rfl
set_option maxRecDepth 20000 in
theorem wi_X8_at : Cond.instanceMethod yX8_at ∈ gtbl := in_ch2_6 (List.mem_of_getElem? (i := 10) rfl) rfl
set_option maxRecDepth 20000 in
theorem wsl_X8_at : Cond.selects RX8 yX8_at yX8_at ∈ gtbl := in_ch2_6 (List.mem_of_getElem? (i := 11) rfl) rfl
set_option maxRecDepth 20000 in
theorem wco_X8_at : Cond.code yX8_at cX8_at 2 (some .int) ∈ gtbl := in_ch2_6 (List.mem_of_getElem? (i := 12) rfl) rfl
set_option maxRecDepth 20000 in
theorem wm_X4_22 : Cond.methodLink RX4 22 yX3_clearRules ∈ gtbl := in_ch2_6 (List.mem_of_getElem? (i := 14) rfl) rfl
set_option maxRecDepth 20000 in
theorem wi_X3_clearRules : Cond.instanceMethod yX3_clearRules ∈ gtbl := in_ch2_6 (List.mem_of_getElem? (i := 15) rfl) rfl
set_option maxRecDepth 20000 in
theorem in_ch2_7 {w : Cond} (h : w ∈ ch2_7) (g : goodWord w = true) : w ∈ gtbl := in_g (tt_2 (by rw [tb_2]; exact List.mem_append_right _ (List.mem_append_right _ (List.mem_append_right _ (List.mem_append_right _ (List.mem_append_right _ (List.mem_append_right _ (List.mem_append_right _ (List.mem_append_left _ h))))))))) g
set_option maxRecDepth 20000 in
theorem wsl_X3_clearRules : Cond.selects RX3 yX3_clearRules yX3_clearRules ∈ gtbl := in_ch2_7 (List.mem_of_getElem? (i := 0) rfl) rfl
set_option maxRecDepth 20000 in
theorem wco_X3_clearRules : Cond.code yX3_clearRules cX3_clearRules 1 none ∈ gtbl := in_ch2_7 (List.mem_of_getElem? (i := 1) rfl) rfl
set_option maxRecDepth 20000 in
theorem wm_X4_27 : Cond.methodLink RX4 27 yX4_rule ∈ gtbl := in_ch2_7 (List.mem_of_getElem? (i := 2) rfl) rfl
set_option maxRecDepth 20000 in
theorem wi_X4_rule : Cond.instanceMethod yX4_rule ∈ gtbl := in_ch2_7 (List.mem_of_getElem? (i := 4) rfl) rfl
set_option maxRecDepth 20000 in
theorem wco_X4_rule : Cond.code yX4_rule cX4_rule 3 (some .boolean) ∈ gtbl := in_ch2_7 (List.mem_of_getElem? (i := 5) rfl) rfl
set_option maxRecDepth 20000 in
theorem wm_X4_35 : Cond.methodLink RX4 35 yX9_peek ∈ gtbl := in_ch2_7 (List.mem_of_getElem? (i := 6) rfl) rfl
set_option maxRecDepth 20000 in
theorem wi_X9_peek : Cond.instanceMethod yX9_peek ∈ gtbl := in_ch2_7 (List.mem_of_getElem? (i := 7) rfl) rfl
set_option maxRecDepth 20000 in
theorem wsl_X9_peek : Cond.selects RX9 yX9_peek yX9_peek ∈ gtbl := in_ch2_7 (List.mem_of_getElem? (i := 8) rfl) rfl
set_option maxRecDepth 20000 in
theorem wco_X9_peek : Cond.code yX9_peek cX9_peek 1 (some .int) ∈ gtbl := in_ch2_7 (List.mem_of_getElem? (i := 9) rfl) rfl
set_option maxRecDepth 20000 in
theorem wm_X4_46 : Cond.methodLink RX4 46 yX9_fail ∈ gtbl := in_ch2_7 (List.mem_of_getElem? (i := 10) rfl) rfl
set_option maxRecDepth 20000 in
theorem wi_X9_fail : Cond.instanceMethod yX9_fail ∈ gtbl := in_ch2_7 (List.mem_of_getElem? (i := 11) rfl) rfl
set_option maxRecDepth 20000 in
theorem wsl_X9_fail : Cond.selects RX9 yX9_fail yX9_fail ∈ gtbl := in_ch2_7 (List.mem_of_getElem? (i := 12) rfl) rfl
set_option maxRecDepth 20000 in
theorem wco_X9_fail : Cond.code yX9_fail cX9_fail 2 (some .boolean) ∈ gtbl := in_ch2_7 (List.mem_of_getElem? (i := 13) rfl) rfl
set_option maxRecDepth 20000 in
theorem wm_X9_41 : Cond.methodLink RX9 41 yX9_failAt ∈ gtbl := in_ch2_7 (List.mem_of_getElem? (i := 14) rfl) rfl
set_option maxRecDepth 20000 in
theorem wi_X9_failAt : Cond.instanceMethod yX9_failAt ∈ gtbl := in_ch2_7 (List.mem_of_getElem? (i := 15) rfl) rfl
set_option maxRecDepth 20000 in
theorem in_ch2_8 {w : Cond} (h : w ∈ ch2_8) (g : goodWord w = true) : w ∈ gtbl := in_g (tt_2 (by rw [tb_2]; exact List.mem_append_right _ (List.mem_append_right _ (List.mem_append_right _ (List.mem_append_right _ (List.mem_append_right _ (List.mem_append_right _ (List.mem_append_right _ (List.mem_append_right _ (List.mem_append_left _ h)))))))))) g
set_option maxRecDepth 20000 in
theorem wsl_X9_failAt : Cond.selects RX9 yX9_failAt yX9_failAt ∈ gtbl := in_ch2_8 (List.mem_of_getElem? (i := 0) rfl) rfl
set_option maxRecDepth 20000 in
theorem wco_X9_failAt : Cond.code yX9_failAt cX9_failAt 3 (some .boolean) ∈ gtbl := in_ch2_8 (List.mem_of_getElem? (i := 1) rfl) rfl
set_option maxRecDepth 20000 in
theorem wm_X4_49 : Cond.methodLink RX4 49 yX3_isFull ∈ gtbl := in_ch2_8 (List.mem_of_getElem? (i := 2) rfl) rfl
set_option maxRecDepth 20000 in
theorem wi_X3_isFull : Cond.instanceMethod yX3_isFull ∈ gtbl := in_ch2_8 (List.mem_of_getElem? (i := 3) rfl) rfl
set_option maxRecDepth 20000 in
theorem wsl_X3_isFull : Cond.selects RX3 yX3_isFull yX3_isFull ∈ gtbl := in_ch2_8 (List.mem_of_getElem? (i := 4) rfl) rfl
set_option maxRecDepth 20000 in
theorem wco_X3_isFull : Cond.code yX3_isFull cX3_isFull 1 (some .boolean) ∈ gtbl := in_ch2_8 (List.mem_of_getElem? (i := 5) rfl) rfl
set_option maxRecDepth 20000 in
theorem wm_X4_53 : Cond.methodLink RX4 53 yX9_step ∈ gtbl := in_ch2_8 (List.mem_of_getElem? (i := 6) rfl) rfl
set_option maxRecDepth 20000 in
theorem wi_X9_step : Cond.instanceMethod yX9_step ∈ gtbl := in_ch2_8 (List.mem_of_getElem? (i := 7) rfl) rfl
set_option maxRecDepth 20000 in
theorem wsl_X9_step : Cond.selects RX9 yX9_step yX9_step ∈ gtbl := in_ch2_8 (List.mem_of_getElem? (i := 8) rfl) rfl
set_option maxRecDepth 20000 in
theorem wco_X9_step : Cond.code yX9_step cX9_step 1 none ∈ gtbl := in_ch2_8 (List.mem_of_getElem? (i := 9) rfl) rfl
set_option maxRecDepth 20000 in
theorem wm_X4_56 : Cond.methodLink RX4 56 yX3_beginRule ∈ gtbl := in_ch2_8 (List.mem_of_getElem? (i := 10) rfl) rfl
set_option maxRecDepth 20000 in
theorem wi_X3_beginRule : Cond.instanceMethod yX3_beginRule ∈ gtbl := in_ch2_8 (List.mem_of_getElem? (i := 11) rfl) rfl
set_option maxRecDepth 20000 in
theorem wsl_X3_beginRule : Cond.selects RX3 yX3_beginRule yX3_beginRule ∈ gtbl := in_ch2_8 (List.mem_of_getElem? (i := 12) rfl) rfl
set_option maxRecDepth 20000 in
theorem wco_X3_beginRule : Cond.code yX3_beginRule cX3_beginRule 2 none ∈ gtbl := in_ch2_8 (List.mem_of_getElem? (i := 13) rfl) rfl
set_option maxRecDepth 20000 in
theorem wm_X4_60 : Cond.methodLink RX4 60 yX4_sum ∈ gtbl := in_ch2_8 (List.mem_of_getElem? (i := 14) rfl) rfl
set_option maxRecDepth 20000 in
theorem in_ch2_9 {w : Cond} (h : w ∈ ch2_9) (g : goodWord w = true) : w ∈ gtbl := in_g (tt_2 (by rw [tb_2]; exact List.mem_append_right _ (List.mem_append_right _ (List.mem_append_right _ (List.mem_append_right _ (List.mem_append_right _ (List.mem_append_right _ (List.mem_append_right _ (List.mem_append_right _ (List.mem_append_right _ (List.mem_append_left _ h))))))))))) g
set_option maxRecDepth 20000 in
theorem wi_X4_sum : Cond.instanceMethod yX4_sum ∈ gtbl := in_ch2_9 (List.mem_of_getElem? (i := 0) rfl) rfl
set_option maxRecDepth 20000 in
theorem wco_X4_sum : Cond.code yX4_sum cX4_sum 5 (some .boolean) ∈ gtbl := in_ch2_9 (List.mem_of_getElem? (i := 1) rfl) rfl
set_option maxRecDepth 20000 in
theorem wm_X4_86 : Cond.methodLink RX4 86 yX4_term ∈ gtbl := in_ch2_9 (List.mem_of_getElem? (i := 2) rfl) rfl
set_option maxRecDepth 20000 in
theorem wi_X4_term : Cond.instanceMethod yX4_term ∈ gtbl := in_ch2_9 (List.mem_of_getElem? (i := 4) rfl) rfl
set_option maxRecDepth 20000 in
theorem wco_X4_term : Cond.code yX4_term cX4_term 5 (some .boolean) ∈ gtbl := in_ch2_9 (List.mem_of_getElem? (i := 5) rfl) rfl
set_option maxRecDepth 20000 in
theorem wm_X4_89 : Cond.methodLink RX4 89 yX4_factor ∈ gtbl := in_ch2_9 (List.mem_of_getElem? (i := 6) rfl) rfl
set_option maxRecDepth 20000 in
theorem wi_X4_factor : Cond.instanceMethod yX4_factor ∈ gtbl := in_ch2_9 (List.mem_of_getElem? (i := 8) rfl) rfl
set_option maxRecDepth 20000 in
theorem wco_X4_factor : Cond.code yX4_factor cX4_factor 4 (some .boolean) ∈ gtbl := in_ch2_9 (List.mem_of_getElem? (i := 9) rfl) rfl
set_option maxRecDepth 20000 in
theorem wm_X4_42 : Cond.methodLink RX4 42 yX9_stepOver ∈ gtbl := in_ch2_9 (List.mem_of_getElem? (i := 10) rfl) rfl
set_option maxRecDepth 20000 in
theorem wi_X9_stepOver : Cond.instanceMethod yX9_stepOver ∈ gtbl := in_ch2_9 (List.mem_of_getElem? (i := 11) rfl) rfl
set_option maxRecDepth 20000 in
theorem wsl_X9_stepOver : Cond.selects RX9 yX9_stepOver yX9_stepOver ∈ gtbl := in_ch2_9 (List.mem_of_getElem? (i := 12) rfl) rfl
set_option maxRecDepth 20000 in
theorem wco_X9_stepOver : Cond.code yX9_stepOver cX9_stepOver 2 (some .boolean) ∈ gtbl := in_ch2_9 (List.mem_of_getElem? (i := 13) rfl) rfl
set_option maxRecDepth 20000 in
theorem wm_X9_37 : Cond.methodLink RX9 37 yX9_peek ∈ gtbl := in_ch2_9 (List.mem_of_getElem? (i := 14) rfl) rfl
set_option maxRecDepth 20000 in
theorem wm_X9_45 : Cond.methodLink RX9 45 yX9_step ∈ gtbl := in_ch2_9 (List.mem_of_getElem? (i := 15) rfl) rfl
set_option maxRecDepth 20000 in
theorem in_ch2_10 {w : Cond} (h : w ∈ ch2_10) (g : goodWord w = true) : w ∈ gtbl := in_g (tt_2 (by rw [tb_2]; exact List.mem_append_right _ (List.mem_append_right _ (List.mem_append_right _ (List.mem_append_right _ (List.mem_append_right _ (List.mem_append_right _ (List.mem_append_right _ (List.mem_append_right _ (List.mem_append_right _ (List.mem_append_right _ (List.mem_append_left _ h)))))))))))) g
set_option maxRecDepth 20000 in
theorem wm_X4_92 : Cond.methodLink RX4 92 yX9_isAt ∈ gtbl := in_ch2_10 (List.mem_of_getElem? (i := 0) rfl) rfl
set_option maxRecDepth 20000 in
theorem wi_X9_isAt : Cond.instanceMethod yX9_isAt ∈ gtbl := in_ch2_10 (List.mem_of_getElem? (i := 1) rfl) rfl
set_option maxRecDepth 20000 in
theorem wsl_X9_isAt : Cond.selects RX9 yX9_isAt yX9_isAt ∈ gtbl := in_ch2_10 (List.mem_of_getElem? (i := 2) rfl) rfl
set_option maxRecDepth 20000 in
theorem wco_X9_isAt : Cond.code yX9_isAt cX9_isAt 3 (some .boolean) ∈ gtbl := in_ch2_10 (List.mem_of_getElem? (i := 3) rfl) rfl
set_option maxRecDepth 20000 in
theorem wm_X4_96 : Cond.methodLink RX4 96 yX9_number ∈ gtbl := in_ch2_10 (List.mem_of_getElem? (i := 4) rfl) rfl
set_option maxRecDepth 20000 in
theorem wi_X9_number : Cond.instanceMethod yX9_number ∈ gtbl := in_ch2_10 (List.mem_of_getElem? (i := 5) rfl) rfl
set_option maxRecDepth 20000 in
theorem wsl_X9_number : Cond.selects RX9 yX9_number yX9_number ∈ gtbl := in_ch2_10 (List.mem_of_getElem? (i := 6) rfl) rfl
set_option maxRecDepth 20000 in
theorem wco_X9_number : Cond.code yX9_number cX9_number 5 (some .int) ∈ gtbl := in_ch2_10 (List.mem_of_getElem? (i := 7) rfl) rfl
set_option maxRecDepth 20000 in
theorem wm_X9_48 : Cond.methodLink RX9 48 yX9_isAt ∈ gtbl := in_ch2_10 (List.mem_of_getElem? (i := 8) rfl) rfl
set_option maxRecDepth 20000 in
theorem wm_X4_100 : Cond.methodLink RX4 100 yX3_writeNumber ∈ gtbl := in_ch2_10 (List.mem_of_getElem? (i := 9) rfl) rfl
set_option maxRecDepth 20000 in
theorem wi_X3_writeNumber : Cond.instanceMethod yX3_writeNumber ∈ gtbl := in_ch2_10 (List.mem_of_getElem? (i := 10) rfl) rfl
set_option maxRecDepth 20000 in
theorem wsl_X3_writeNumber : Cond.selects RX3 yX3_writeNumber yX3_writeNumber ∈ gtbl := in_ch2_10 (List.mem_of_getElem? (i := 11) rfl) rfl
set_option maxRecDepth 20000 in
theorem wco_X3_writeNumber : Cond.code yX3_writeNumber cX3_writeNumber 2 none ∈ gtbl := in_ch2_10 (List.mem_of_getElem? (i := 12) rfl) rfl
set_option maxRecDepth 20000 in
theorem wm_X3_50 : Cond.methodLink RX3 50 yX3_write ∈ gtbl := in_ch2_10 (List.mem_of_getElem? (i := 13) rfl) rfl
set_option maxRecDepth 20000 in
theorem wi_X3_write : Cond.instanceMethod yX3_write ∈ gtbl := in_ch2_10 (List.mem_of_getElem? (i := 15) rfl) rfl
set_option maxRecDepth 20000 in
theorem in_ch2_11 {w : Cond} (h : w ∈ ch2_11) (g : goodWord w = true) : w ∈ gtbl := in_g (tt_2 (by rw [tb_2]; exact List.mem_append_right _ (List.mem_append_right _ (List.mem_append_right _ (List.mem_append_right _ (List.mem_append_right _ (List.mem_append_right _ (List.mem_append_right _ (List.mem_append_right _ (List.mem_append_right _ (List.mem_append_right _ (List.mem_append_right _ (List.mem_append_left _ h))))))))))))) g
set_option maxRecDepth 20000 in
theorem wco_X3_write : Cond.code yX3_write cX3_write 3 none ∈ gtbl := in_ch2_11 (List.mem_of_getElem? (i := 0) rfl) rfl
set_option maxRecDepth 20000 in
theorem wm_X4_103 : Cond.methodLink RX4 103 yX3_writeLetter ∈ gtbl := in_ch2_11 (List.mem_of_getElem? (i := 1) rfl) rfl
set_option maxRecDepth 20000 in
theorem wi_X3_writeLetter : Cond.instanceMethod yX3_writeLetter ∈ gtbl := in_ch2_11 (List.mem_of_getElem? (i := 2) rfl) rfl
set_option maxRecDepth 20000 in
theorem wsl_X3_writeLetter : Cond.selects RX3 yX3_writeLetter yX3_writeLetter ∈ gtbl := in_ch2_11 (List.mem_of_getElem? (i := 3) rfl) rfl
set_option maxRecDepth 20000 in
theorem wco_X3_writeLetter : Cond.code yX3_writeLetter cX3_writeLetter 3 (some .boolean) ∈ gtbl := in_ch2_11 (List.mem_of_getElem? (i := 4) rfl) rfl
set_option maxRecDepth 20000 in
theorem wf_X3_58 : Cond.fieldLink RX3 58 "DraughtWebs$Law" "LETTERS" "[I" ∈ gtbl := in_ch2_11 (List.mem_of_getElem? (i := 5) rfl) rfl
set_option maxRecDepth 20000 in
theorem wls_LETTERS : Cond.laysStatic "DraughtWebs$Law" "LETTERS" "[I" ∈ lw_tbl := tt_2 (by rw [tb_2]; exact List.mem_append_right _ (List.mem_append_right _ (List.mem_append_right _ (List.mem_append_right _ (List.mem_append_right _ (List.mem_append_right _ (List.mem_append_right _ (List.mem_append_right _ (List.mem_append_right _ (List.mem_append_right _ (List.mem_append_right _ (List.mem_append_left _ (List.mem_of_getElem? (i := 6) rfl)))))))))))))
set_option maxRecDepth 20000 in
theorem wm_X4_80 : Cond.methodLink RX4 80 yX3_writeSign ∈ gtbl := in_ch2_11 (List.mem_of_getElem? (i := 7) rfl) rfl
set_option maxRecDepth 20000 in
theorem wi_X3_writeSign : Cond.instanceMethod yX3_writeSign ∈ gtbl := in_ch2_11 (List.mem_of_getElem? (i := 8) rfl) rfl
set_option maxRecDepth 20000 in
theorem wsl_X3_writeSign : Cond.selects RX3 yX3_writeSign yX3_writeSign ∈ gtbl := in_ch2_11 (List.mem_of_getElem? (i := 9) rfl) rfl
set_option maxRecDepth 20000 in
theorem wco_X3_writeSign : Cond.code yX3_writeSign cX3_writeSign 2 none ∈ gtbl := in_ch2_11 (List.mem_of_getElem? (i := 10) rfl) rfl
set_option maxRecDepth 20000 in
theorem wm_X4_64 : Cond.methodLink RX4 64 yX3_endWorth ∈ gtbl := in_ch2_11 (List.mem_of_getElem? (i := 11) rfl) rfl
set_option maxRecDepth 20000 in
theorem wi_X3_endWorth : Cond.instanceMethod yX3_endWorth ∈ gtbl := in_ch2_11 (List.mem_of_getElem? (i := 12) rfl) rfl
set_option maxRecDepth 20000 in
theorem wsl_X3_endWorth : Cond.selects RX3 yX3_endWorth yX3_endWorth ∈ gtbl := in_ch2_11 (List.mem_of_getElem? (i := 13) rfl) rfl
set_option maxRecDepth 20000 in
theorem wco_X3_endWorth : Cond.code yX3_endWorth cX3_endWorth 1 none ∈ gtbl := in_ch2_11 (List.mem_of_getElem? (i := 14) rfl) rfl
set_option maxRecDepth 20000 in
theorem in_ch2_12 {w : Cond} (h : w ∈ ch2_12) (g : goodWord w = true) : w ∈ gtbl := in_g (tt_2 (by rw [tb_2]; exact List.mem_append_right _ (List.mem_append_right _ (List.mem_append_right _ (List.mem_append_right _ (List.mem_append_right _ (List.mem_append_right _ (List.mem_append_right _ (List.mem_append_right _ (List.mem_append_right _ (List.mem_append_right _ (List.mem_append_right _ (List.mem_append_right _ (List.mem_append_left _ h)))))))))))))) g
set_option maxRecDepth 20000 in
theorem wm_X4_67 : Cond.methodLink RX4 67 yX4_condition ∈ gtbl := in_ch2_12 (List.mem_of_getElem? (i := 0) rfl) rfl
set_option maxRecDepth 20000 in
theorem wi_X4_condition : Cond.instanceMethod yX4_condition ∈ gtbl := in_ch2_12 (List.mem_of_getElem? (i := 2) rfl) rfl
set_option maxRecDepth 20000 in
theorem wco_X4_condition : Cond.code yX4_condition cX4_condition 7 (some .boolean) ∈ gtbl := in_ch2_12 (List.mem_of_getElem? (i := 3) rfl) rfl
set_option maxRecDepth 20000 in
theorem wm_X4_74 : Cond.methodLink RX4 74 yX4_test ∈ gtbl := in_ch2_12 (List.mem_of_getElem? (i := 4) rfl) rfl
set_option maxRecDepth 20000 in
theorem wi_X4_test : Cond.instanceMethod yX4_test ∈ gtbl := in_ch2_12 (List.mem_of_getElem? (i := 6) rfl) rfl
set_option maxRecDepth 20000 in
theorem wco_X4_test : Cond.code yX4_test cX4_test 5 (some .boolean) ∈ gtbl := in_ch2_12 (List.mem_of_getElem? (i := 7) rfl) rfl
set_option maxRecDepth 20000 in
theorem wm_X4_77 : Cond.methodLink RX4 77 yX3_landJump ∈ gtbl := in_ch2_12 (List.mem_of_getElem? (i := 8) rfl) rfl
set_option maxRecDepth 20000 in
theorem wi_X3_landJump : Cond.instanceMethod yX3_landJump ∈ gtbl := in_ch2_12 (List.mem_of_getElem? (i := 9) rfl) rfl
set_option maxRecDepth 20000 in
theorem wsl_X3_landJump : Cond.selects RX3 yX3_landJump yX3_landJump ∈ gtbl := in_ch2_12 (List.mem_of_getElem? (i := 10) rfl) rfl
set_option maxRecDepth 20000 in
theorem wco_X3_landJump : Cond.code yX3_landJump cX3_landJump 2 none ∈ gtbl := in_ch2_12 (List.mem_of_getElem? (i := 11) rfl) rfl
set_option maxRecDepth 20000 in
theorem wm_X4_83 : Cond.methodLink RX4 83 yX3_lastSign ∈ gtbl := in_ch2_12 (List.mem_of_getElem? (i := 12) rfl) rfl
set_option maxRecDepth 20000 in
theorem wi_X3_lastSign : Cond.instanceMethod yX3_lastSign ∈ gtbl := in_ch2_12 (List.mem_of_getElem? (i := 13) rfl) rfl
set_option maxRecDepth 20000 in
theorem wsl_X3_lastSign : Cond.selects RX3 yX3_lastSign yX3_lastSign ∈ gtbl := in_ch2_12 (List.mem_of_getElem? (i := 14) rfl) rfl
set_option maxRecDepth 20000 in
theorem wco_X3_lastSign : Cond.code yX3_lastSign cX3_lastSign 1 (some .int) ∈ gtbl := in_ch2_12 (List.mem_of_getElem? (i := 15) rfl) rfl
set_option maxRecDepth 20000 in
theorem in_ch2_13 {w : Cond} (h : w ∈ ch2_13) (g : goodWord w = true) : w ∈ gtbl := in_g (tt_2 (by rw [tb_2]; exact List.mem_append_right _ (List.mem_append_right _ (List.mem_append_right _ (List.mem_append_right _ (List.mem_append_right _ (List.mem_append_right _ (List.mem_append_right _ (List.mem_append_right _ (List.mem_append_right _ (List.mem_append_right _ (List.mem_append_right _ (List.mem_append_right _ (List.mem_append_right _ (List.mem_append_left _ h))))))))))))))) g
set_option maxRecDepth 20000 in
theorem wm_X4_71 : Cond.methodLink RX4 71 yX3_endRule ∈ gtbl := in_ch2_13 (List.mem_of_getElem? (i := 0) rfl) rfl
set_option maxRecDepth 20000 in
theorem wi_X3_endRule : Cond.instanceMethod yX3_endRule ∈ gtbl := in_ch2_13 (List.mem_of_getElem? (i := 1) rfl) rfl
set_option maxRecDepth 20000 in
theorem wsl_X3_endRule : Cond.selects RX3 yX3_endRule yX3_endRule ∈ gtbl := in_ch2_13 (List.mem_of_getElem? (i := 2) rfl) rfl
set_option maxRecDepth 20000 in
theorem wco_X3_endRule : Cond.code yX3_endRule cX3_endRule 1 none ∈ gtbl := in_ch2_13 (List.mem_of_getElem? (i := 3) rfl) rfl
set_option maxRecDepth 20000 in
theorem wm_X4_39 : Cond.methodLink RX4 39 yX3_size ∈ gtbl := in_ch2_13 (List.mem_of_getElem? (i := 4) rfl) rfl
set_option maxRecDepth 20000 in
theorem wi_X3_size : Cond.instanceMethod yX3_size ∈ gtbl := in_ch2_13 (List.mem_of_getElem? (i := 5) rfl) rfl
set_option maxRecDepth 20000 in
theorem wsl_X3_size : Cond.selects RX3 yX3_size yX3_size ∈ gtbl := in_ch2_13 (List.mem_of_getElem? (i := 6) rfl) rfl
set_option maxRecDepth 20000 in
theorem wco_X3_size : Cond.code yX3_size cX3_size 1 (some .int) ∈ gtbl := in_ch2_13 (List.mem_of_getElem? (i := 7) rfl) rfl
set_option maxRecDepth 20000 in
theorem wm_X11_115 : Cond.methodLink RX11 115 yX8_empty ∈ gtbl := in_ch2_13 (List.mem_of_getElem? (i := 8) rfl) rfl
set_option maxRecDepth 20000 in
theorem wi_X8_empty : Cond.instanceMethod yX8_empty ∈ gtbl := in_ch2_13 (List.mem_of_getElem? (i := 9) rfl) rfl
set_option maxRecDepth 20000 in
theorem wsl_X8_empty : Cond.selects RX8 yX8_empty yX8_empty ∈ gtbl := in_ch2_13 (List.mem_of_getElem? (i := 10) rfl) rfl
set_option maxRecDepth 20000 in
theorem wco_X8_empty : Cond.code yX8_empty cX8_empty 1 none ∈ gtbl := in_ch2_13 (List.mem_of_getElem? (i := 11) rfl) rfl
set_option maxRecDepth 20000 in
theorem wm_L_28 : Cond.methodLink RL 28 yX11_chart ∈ gtbl := in_ch2_13 (List.mem_of_getElem? (i := 12) rfl) rfl
set_option maxRecDepth 20000 in
theorem wi_X11_chart : Cond.instanceMethod yX11_chart ∈ gtbl := in_ch2_13 (List.mem_of_getElem? (i := 13) rfl) rfl
set_option maxRecDepth 20000 in
theorem wsl_X11_chart : Cond.selects RX11 yX11_chart yX11_chart ∈ gtbl := in_ch2_13 (List.mem_of_getElem? (i := 14) rfl) rfl
set_option maxRecDepth 20000 in
theorem wco_X11_chart : Cond.code yX11_chart cX11_chart 4 (some .int) ∈ gtbl := in_ch2_13 (List.mem_of_getElem? (i := 15) rfl) rfl
set_option maxRecDepth 20000 in
theorem in_ch2_14 {w : Cond} (h : w ∈ ch2_14) (g : goodWord w = true) : w ∈ gtbl := in_g (tt_2 (by rw [tb_2]; exact List.mem_append_right _ (List.mem_append_right _ (List.mem_append_right _ (List.mem_append_right _ (List.mem_append_right _ (List.mem_append_right _ (List.mem_append_right _ (List.mem_append_right _ (List.mem_append_right _ (List.mem_append_right _ (List.mem_append_right _ (List.mem_append_right _ (List.mem_append_right _ (List.mem_append_right _ (List.mem_append_left _ h)))))))))))))))) g
set_option maxRecDepth 20000 in
theorem wm_X11_118 : Cond.methodLink RX11 118 yX0_read ∈ gtbl := in_ch2_14 (List.mem_of_getElem? (i := 0) rfl) rfl
set_option maxRecDepth 20000 in
theorem wi_X0_read : Cond.instanceMethod yX0_read ∈ gtbl := in_ch2_14 (List.mem_of_getElem? (i := 1) rfl) rfl
set_option maxRecDepth 20000 in
theorem wsl_X0_read : Cond.selects RX0 yX0_read yX0_read ∈ gtbl := in_ch2_14 (List.mem_of_getElem? (i := 2) rfl) rfl
set_option maxRecDepth 20000 in
theorem wco_X0_read : Cond.code yX0_read cX0_read 5 (some .int) ∈ gtbl := in_ch2_14 (List.mem_of_getElem? (i := 3) rfl) rfl
set_option maxRecDepth 20000 in
theorem wm_X0_18 : Cond.methodLink RX0 18 yX9_take ∈ gtbl := in_ch2_14 (List.mem_of_getElem? (i := 4) rfl) rfl
set_option maxRecDepth 20000 in
theorem wm_X0_22 : Cond.methodLink RX0 22 yX7_clearChart ∈ gtbl := in_ch2_14 (List.mem_of_getElem? (i := 5) rfl) rfl
set_option maxRecDepth 20000 in
theorem wi_X7_clearChart : Cond.instanceMethod yX7_clearChart ∈ gtbl := in_ch2_14 (List.mem_of_getElem? (i := 6) rfl) rfl
set_option maxRecDepth 20000 in
theorem wsl_X7_clearChart : Cond.selects RX7 yX7_clearChart yX7_clearChart ∈ gtbl := in_ch2_14 (List.mem_of_getElem? (i := 7) rfl) rfl
set_option maxRecDepth 20000 in
theorem wco_X7_clearChart : Cond.code yX7_clearChart cX7_clearChart 1 none ∈ gtbl := in_ch2_14 (List.mem_of_getElem? (i := 8) rfl) rfl
set_option maxRecDepth 20000 in
theorem wm_X0_27 : Cond.methodLink RX0 27 yX0_line ∈ gtbl := in_ch2_14 (List.mem_of_getElem? (i := 9) rfl) rfl
set_option maxRecDepth 20000 in
theorem wi_X0_line : Cond.instanceMethod yX0_line ∈ gtbl := in_ch2_14 (List.mem_of_getElem? (i := 11) rfl) rfl
set_option maxRecDepth 20000 in
theorem wco_X0_line : Cond.code yX0_line cX0_line 7 (some .boolean) ∈ gtbl := in_ch2_14 (List.mem_of_getElem? (i := 12) rfl) rfl
set_option maxRecDepth 20000 in
theorem wm_X0_43 : Cond.methodLink RX0 43 yX9_isAt ∈ gtbl := in_ch2_14 (List.mem_of_getElem? (i := 13) rfl) rfl
set_option maxRecDepth 20000 in
theorem wm_X0_47 : Cond.methodLink RX0 47 yX9_fail ∈ gtbl := in_ch2_14 (List.mem_of_getElem? (i := 14) rfl) rfl
set_option maxRecDepth 20000 in
theorem wm_X0_35 : Cond.methodLink RX0 35 yX9_peek ∈ gtbl := in_ch2_14 (List.mem_of_getElem? (i := 15) rfl) rfl
set_option maxRecDepth 20000 in
theorem tt_3 {w : Cond} (h : w ∈ tables_1_3) : w ∈ lw_tbl := List.mem_append_right _ (List.mem_append_right _ (List.mem_append_right _ (List.mem_append_left _ (h))))
set_option maxRecDepth 20000 in
theorem in_ch3_0 {w : Cond} (h : w ∈ ch3_0) (g : goodWord w = true) : w ∈ gtbl := in_g (tt_3 (by rw [tb_3]; exact List.mem_append_left _ h)) g
set_option maxRecDepth 20000 in
theorem wm_X0_50 : Cond.methodLink RX0 50 yX7_hasWeb ∈ gtbl := in_ch3_0 (List.mem_of_getElem? (i := 0) rfl) rfl
set_option maxRecDepth 20000 in
theorem wm_X0_53 : Cond.methodLink RX0 53 yX7_hasFleet ∈ gtbl := in_ch3_0 (List.mem_of_getElem? (i := 1) rfl) rfl
set_option maxRecDepth 20000 in
theorem wi_X7_hasFleet : Cond.instanceMethod yX7_hasFleet ∈ gtbl := in_ch3_0 (List.mem_of_getElem? (i := 2) rfl) rfl
set_option maxRecDepth 20000 in
theorem wsl_X7_hasFleet : Cond.selects RX7 yX7_hasFleet yX7_hasFleet ∈ gtbl := in_ch3_0 (List.mem_of_getElem? (i := 3) rfl) rfl
set_option maxRecDepth 20000 in
theorem wco_X7_hasFleet : Cond.code yX7_hasFleet cX7_hasFleet 2 (some .boolean) ∈ gtbl := in_ch3_0 (List.mem_of_getElem? (i := 4) rfl) rfl
set_option maxRecDepth 20000 in
theorem wm_X0_56 : Cond.methodLink RX0 56 yX9_step ∈ gtbl := in_ch3_0 (List.mem_of_getElem? (i := 5) rfl) rfl
set_option maxRecDepth 20000 in
theorem wm_X0_39 : Cond.methodLink RX0 39 yX9_stepOver ∈ gtbl := in_ch3_0 (List.mem_of_getElem? (i := 6) rfl) rfl
set_option maxRecDepth 20000 in
theorem wm_X0_59 : Cond.methodLink RX0 59 yX0_coordinate ∈ gtbl := in_ch3_0 (List.mem_of_getElem? (i := 7) rfl) rfl
set_option maxRecDepth 20000 in
theorem wi_X0_coordinate : Cond.instanceMethod yX0_coordinate ∈ gtbl := in_ch3_0 (List.mem_of_getElem? (i := 9) rfl) rfl
set_option maxRecDepth 20000 in
theorem wco_X0_coordinate : Cond.code yX0_coordinate cX0_coordinate 4 (some .int) ∈ gtbl := in_ch3_0 (List.mem_of_getElem? (i := 10) rfl) rfl
set_option maxRecDepth 20000 in
theorem wm_X0_74 : Cond.methodLink RX0 74 yX9_number ∈ gtbl := in_ch3_0 (List.mem_of_getElem? (i := 11) rfl) rfl
set_option maxRecDepth 20000 in
theorem wm_X0_77 : Cond.methodLink RX0 77 yX9_failAt ∈ gtbl := in_ch3_0 (List.mem_of_getElem? (i := 12) rfl) rfl
set_option maxRecDepth 20000 in
theorem wm_X0_63 : Cond.methodLink RX0 63 yX7_tellWeb ∈ gtbl := in_ch3_0 (List.mem_of_getElem? (i := 13) rfl) rfl
set_option maxRecDepth 20000 in
theorem wi_X7_tellWeb : Cond.instanceMethod yX7_tellWeb ∈ gtbl := in_ch3_0 (List.mem_of_getElem? (i := 14) rfl) rfl
set_option maxRecDepth 20000 in
theorem wsl_X7_tellWeb : Cond.selects RX7 yX7_tellWeb yX7_tellWeb ∈ gtbl := in_ch3_0 (List.mem_of_getElem? (i := 15) rfl) rfl
set_option maxRecDepth 20000 in
theorem in_ch3_1 {w : Cond} (h : w ∈ ch3_1) (g : goodWord w = true) : w ∈ gtbl := in_g (tt_3 (by rw [tb_3]; exact List.mem_append_right _ (List.mem_append_left _ h))) g
set_option maxRecDepth 20000 in
theorem wco_X7_tellWeb : Cond.code yX7_tellWeb cX7_tellWeb 5 none ∈ gtbl := in_ch3_1 (List.mem_of_getElem? (i := 0) rfl) rfl
set_option maxRecDepth 20000 in
theorem wm_X0_67 : Cond.methodLink RX0 67 yX0_fleet ∈ gtbl := in_ch3_1 (List.mem_of_getElem? (i := 2) rfl) rfl
set_option maxRecDepth 20000 in
theorem wi_X0_fleet : Cond.instanceMethod yX0_fleet ∈ gtbl := in_ch3_1 (List.mem_of_getElem? (i := 4) rfl) rfl
set_option maxRecDepth 20000 in
theorem wco_X0_fleet : Cond.code yX0_fleet cX0_fleet 7 (some .boolean) ∈ gtbl := in_ch3_1 (List.mem_of_getElem? (i := 5) rfl) rfl
set_option maxRecDepth 20000 in
theorem wm_X0_80 : Cond.methodLink RX0 80 yX7_tellFleet ∈ gtbl := in_ch3_1 (List.mem_of_getElem? (i := 6) rfl) rfl
set_option maxRecDepth 20000 in
theorem wi_X7_tellFleet : Cond.instanceMethod yX7_tellFleet ∈ gtbl := in_ch3_1 (List.mem_of_getElem? (i := 7) rfl) rfl
set_option maxRecDepth 20000 in
theorem wsl_X7_tellFleet : Cond.selects RX7 yX7_tellFleet yX7_tellFleet ∈ gtbl := in_ch3_1 (List.mem_of_getElem? (i := 8) rfl) rfl
set_option maxRecDepth 20000 in
theorem wco_X7_tellFleet : Cond.code yX7_tellFleet cX7_tellFleet 6 none ∈ gtbl := in_ch3_1 (List.mem_of_getElem? (i := 9) rfl) rfl
set_option maxRecDepth 20000 in
theorem wm_L_32 : Cond.methodLink RL 32 yX11_hours ∈ gtbl := in_ch3_1 (List.mem_of_getElem? (i := 10) rfl) rfl
set_option maxRecDepth 20000 in
theorem wi_X11_hours : Cond.instanceMethod yX11_hours ∈ gtbl := in_ch3_1 (List.mem_of_getElem? (i := 11) rfl) rfl
set_option maxRecDepth 20000 in
theorem wsl_X11_hours : Cond.selects RX11 yX11_hours yX11_hours ∈ gtbl := in_ch3_1 (List.mem_of_getElem? (i := 12) rfl) rfl
set_option maxRecDepth 20000 in
theorem wco_X11_hours : Cond.code yX11_hours cX11_hours 2 (some .int) ∈ gtbl := in_ch3_1 (List.mem_of_getElem? (i := 13) rfl) rfl
set_option maxRecDepth 20000 in
theorem wm_X11_128 : Cond.methodLink RX11 128 yX7_passHours ∈ gtbl := in_ch3_1 (List.mem_of_getElem? (i := 14) rfl) rfl
set_option maxRecDepth 20000 in
theorem wi_X7_passHours : Cond.instanceMethod yX7_passHours ∈ gtbl := in_ch3_1 (List.mem_of_getElem? (i := 15) rfl) rfl
set_option maxRecDepth 20000 in
theorem in_ch3_2 {w : Cond} (h : w ∈ ch3_2) (g : goodWord w = true) : w ∈ gtbl := in_g (tt_3 (by rw [tb_3]; exact List.mem_append_right _ (List.mem_append_right _ (List.mem_append_left _ h)))) g
set_option maxRecDepth 20000 in
theorem wsl_X7_passHours : Cond.selects RX7 yX7_passHours yX7_passHours ∈ gtbl := in_ch3_2 (List.mem_of_getElem? (i := 0) rfl) rfl
set_option maxRecDepth 20000 in
theorem wco_X7_passHours : Cond.code yX7_passHours cX7_passHours 6 (some .int) ∈ gtbl := in_ch3_2 (List.mem_of_getElem? (i := 1) rfl) rfl
set_option maxRecDepth 20000 in
theorem wm_X7_96 : Cond.methodLink RX7 96 yX7_moveFleet ∈ gtbl := in_ch3_2 (List.mem_of_getElem? (i := 2) rfl) rfl
set_option maxRecDepth 20000 in
theorem wi_X7_moveFleet : Cond.instanceMethod yX7_moveFleet ∈ gtbl := in_ch3_2 (List.mem_of_getElem? (i := 3) rfl) rfl
set_option maxRecDepth 20000 in
theorem wsl_X7_moveFleet : Cond.selects RX7 yX7_moveFleet yX7_moveFleet ∈ gtbl := in_ch3_2 (List.mem_of_getElem? (i := 4) rfl) rfl
set_option maxRecDepth 20000 in
theorem wco_X7_moveFleet : Cond.code yX7_moveFleet cX7_moveFleet 4 none ∈ gtbl := in_ch3_2 (List.mem_of_getElem? (i := 5) rfl) rfl
set_option maxRecDepth 20000 in
theorem wm_X7_60 : Cond.methodLink RX7 60 yX7_hasFleet ∈ gtbl := in_ch3_2 (List.mem_of_getElem? (i := 6) rfl) rfl
set_option maxRecDepth 20000 in
theorem wm_X7_104 : Cond.methodLink RX7 104 yX1_stepAcross ∈ gtbl := in_ch3_2 (List.mem_of_getElem? (i := 7) rfl) rfl
set_option maxRecDepth 20000 in
theorem wst_X1_stepAcross : Cond.static yX1_stepAcross ∈ gtbl := in_ch3_2 (List.mem_of_getElem? (i := 8) rfl) rfl
set_option maxRecDepth 20000 in
theorem wco_X1_stepAcross : Cond.code yX1_stepAcross cX1_stepAcross 1 (some .int) ∈ gtbl := in_ch3_2 (List.mem_of_getElem? (i := 9) rfl) rfl
set_option maxRecDepth 20000 in
theorem wf_X1_13 : Cond.fieldLink RX1 13 "DraughtWebs$Compass" "ACROSS" "[I" ∈ gtbl := in_ch3_2 (List.mem_of_getElem? (i := 11) rfl) rfl
set_option maxRecDepth 20000 in
theorem wls_ACROSS : Cond.laysStatic "DraughtWebs$Compass" "ACROSS" "[I" ∈ lw_tbl := tt_3 (by rw [tb_3]; exact List.mem_append_right _ (List.mem_append_right _ (List.mem_append_left _ (List.mem_of_getElem? (i := 12) rfl))))
set_option maxRecDepth 20000 in
theorem wm_X7_107 : Cond.methodLink RX7 107 yX1_stepAlong ∈ gtbl := in_ch3_2 (List.mem_of_getElem? (i := 13) rfl) rfl
set_option maxRecDepth 20000 in
theorem wst_X1_stepAlong : Cond.static yX1_stepAlong ∈ gtbl := in_ch3_2 (List.mem_of_getElem? (i := 14) rfl) rfl
set_option maxRecDepth 20000 in
theorem wco_X1_stepAlong : Cond.code yX1_stepAlong cX1_stepAlong 1 (some .int) ∈ gtbl := in_ch3_2 (List.mem_of_getElem? (i := 15) rfl) rfl
set_option maxRecDepth 20000 in
theorem in_ch3_3 {w : Cond} (h : w ∈ ch3_3) (g : goodWord w = true) : w ∈ gtbl := in_g (tt_3 (by rw [tb_3]; exact List.mem_append_right _ (List.mem_append_right _ (List.mem_append_right _ (List.mem_append_left _ h))))) g
set_option maxRecDepth 20000 in
theorem wf_X1_19 : Cond.fieldLink RX1 19 "DraughtWebs$Compass" "ALONG" "[I" ∈ gtbl := in_ch3_3 (List.mem_of_getElem? (i := 0) rfl) rfl
set_option maxRecDepth 20000 in
theorem wls_ALONG : Cond.laysStatic "DraughtWebs$Compass" "ALONG" "[I" ∈ lw_tbl := tt_3 (by rw [tb_3]; exact List.mem_append_right _ (List.mem_append_right _ (List.mem_append_right _ (List.mem_append_left _ (List.mem_of_getElem? (i := 1) rfl)))))
set_option maxRecDepth 20000 in
theorem wm_X7_110 : Cond.methodLink RX7 110 yX1_onChart ∈ gtbl := in_ch3_3 (List.mem_of_getElem? (i := 2) rfl) rfl
set_option maxRecDepth 20000 in
theorem wst_X1_onChart : Cond.static yX1_onChart ∈ gtbl := in_ch3_3 (List.mem_of_getElem? (i := 3) rfl) rfl
set_option maxRecDepth 20000 in
theorem wco_X1_onChart : Cond.code yX1_onChart cX1_onChart 2 (some .boolean) ∈ gtbl := in_ch3_3 (List.mem_of_getElem? (i := 4) rfl) rfl
set_option maxRecDepth 20000 in
theorem wm_X7_56 : Cond.methodLink RX7 56 yX7_hasWeb ∈ gtbl := in_ch3_3 (List.mem_of_getElem? (i := 5) rfl) rfl
set_option maxRecDepth 20000 in
theorem wm_X7_100 : Cond.methodLink RX7 100 yX7_passWeb ∈ gtbl := in_ch3_3 (List.mem_of_getElem? (i := 6) rfl) rfl
set_option maxRecDepth 20000 in
theorem wi_X7_passWeb : Cond.instanceMethod yX7_passWeb ∈ gtbl := in_ch3_3 (List.mem_of_getElem? (i := 8) rfl) rfl
set_option maxRecDepth 20000 in
theorem wco_X7_passWeb : Cond.code yX7_passWeb cX7_passWeb 7 (some .int) ∈ gtbl := in_ch3_3 (List.mem_of_getElem? (i := 9) rfl) rfl
set_option maxRecDepth 20000 in
theorem wm_X7_93 : Cond.methodLink RX7 93 yX7_felt ∈ gtbl := in_ch3_3 (List.mem_of_getElem? (i := 10) rfl) rfl
set_option maxRecDepth 20000 in
theorem wi_X7_felt : Cond.instanceMethod yX7_felt ∈ gtbl := in_ch3_3 (List.mem_of_getElem? (i := 11) rfl) rfl
set_option maxRecDepth 20000 in
theorem wsl_X7_felt : Cond.selects RX7 yX7_felt yX7_felt ∈ gtbl := in_ch3_3 (List.mem_of_getElem? (i := 12) rfl) rfl
set_option maxRecDepth 20000 in
theorem wco_X7_felt : Cond.code yX7_felt cX7_felt 3 (some .int) ∈ gtbl := in_ch3_3 (List.mem_of_getElem? (i := 13) rfl) rfl
set_option maxRecDepth 20000 in
theorem wm_X7_90 : Cond.methodLink RX7 90 yX7_distanceTo ∈ gtbl := in_ch3_3 (List.mem_of_getElem? (i := 14) rfl) rfl
set_option maxRecDepth 20000 in
theorem wi_X7_distanceTo : Cond.instanceMethod yX7_distanceTo ∈ gtbl := in_ch3_3 (List.mem_of_getElem? (i := 15) rfl) rfl
set_option maxRecDepth 20000 in
theorem in_ch3_4 {w : Cond} (h : w ∈ ch3_4) (g : goodWord w = true) : w ∈ gtbl := in_g (tt_3 (by rw [tb_3]; exact List.mem_append_right _ (List.mem_append_right _ (List.mem_append_right _ (List.mem_append_right _ (List.mem_append_left _ h)))))) g
set_option maxRecDepth 20000 in
theorem wsl_X7_distanceTo : Cond.selects RX7 yX7_distanceTo yX7_distanceTo ∈ gtbl := in_ch3_4 (List.mem_of_getElem? (i := 0) rfl) rfl
set_option maxRecDepth 20000 in
theorem wco_X7_distanceTo : Cond.code yX7_distanceTo cX7_distanceTo 3 (some .int) ∈ gtbl := in_ch3_4 (List.mem_of_getElem? (i := 1) rfl) rfl
set_option maxRecDepth 20000 in
theorem wm_X7_84 : Cond.methodLink RX7 84 yX1_distance ∈ gtbl := in_ch3_4 (List.mem_of_getElem? (i := 2) rfl) rfl
set_option maxRecDepth 20000 in
theorem wst_X1_distance : Cond.static yX1_distance ∈ gtbl := in_ch3_4 (List.mem_of_getElem? (i := 3) rfl) rfl
set_option maxRecDepth 20000 in
theorem wco_X1_distance : Cond.code yX1_distance cX1_distance 2 (some .int) ∈ gtbl := in_ch3_4 (List.mem_of_getElem? (i := 4) rfl) rfl
set_option maxRecDepth 20000 in
theorem wm_X1_22 : Cond.methodLink RX1 22 Lib.Math.abs.name ∈ gtbl := in_ch3_4 (List.mem_of_getElem? (i := 5) rfl) rfl
set_option maxRecDepth 20000 in
theorem wst_Mabs : Cond.static Lib.Math.abs.name ∈ gtbl := in_ch3_4 (List.mem_of_getElem? (i := 6) rfl) rfl
set_option maxRecDepth 20000 in
theorem wco_Mabs : Cond.code Lib.Math.abs.name Lib.Math.abs.code 1 (some .int) ∈ gtbl := in_ch3_4 (List.mem_of_getElem? (i := 7) rfl) rfl
set_option maxRecDepth 20000 in
theorem wm_X1_28 : Cond.methodLink RX1 28 Lib.Math.max.name ∈ gtbl := in_ch3_4 (List.mem_of_getElem? (i := 8) rfl) rfl
set_option maxRecDepth 20000 in
theorem wst_Mmax : Cond.static Lib.Math.max.name ∈ gtbl := in_ch3_4 (List.mem_of_getElem? (i := 9) rfl) rfl
set_option maxRecDepth 20000 in
theorem wco_Mmax : Cond.code Lib.Math.max.name Lib.Math.max.code 2 (some .int) ∈ gtbl := in_ch3_4 (List.mem_of_getElem? (i := 10) rfl) rfl
set_option maxRecDepth 20000 in
theorem wm_X7_114 : Cond.methodLink RX7 114 yX7_spokeTo ∈ gtbl := in_ch3_4 (List.mem_of_getElem? (i := 11) rfl) rfl
set_option maxRecDepth 20000 in
theorem wi_X7_spokeTo : Cond.instanceMethod yX7_spokeTo ∈ gtbl := in_ch3_4 (List.mem_of_getElem? (i := 12) rfl) rfl
set_option maxRecDepth 20000 in
theorem wsl_X7_spokeTo : Cond.selects RX7 yX7_spokeTo yX7_spokeTo ∈ gtbl := in_ch3_4 (List.mem_of_getElem? (i := 13) rfl) rfl
set_option maxRecDepth 20000 in
theorem wco_X7_spokeTo : Cond.code yX7_spokeTo cX7_spokeTo 3 (some .int) ∈ gtbl := in_ch3_4 (List.mem_of_getElem? (i := 14) rfl) rfl
set_option maxRecDepth 20000 in
theorem wm_X7_87 : Cond.methodLink RX7 87 yX1_spokeTowards ∈ gtbl := in_ch3_4 (List.mem_of_getElem? (i := 15) rfl) rfl
set_option maxRecDepth 20000 in
theorem in_ch3_5 {w : Cond} (h : w ∈ ch3_5) (g : goodWord w = true) : w ∈ gtbl := in_g (tt_3 (by rw [tb_3]; exact List.mem_append_right _ (List.mem_append_right _ (List.mem_append_right _ (List.mem_append_right _ (List.mem_append_right _ (List.mem_append_left _ h))))))) g
set_option maxRecDepth 20000 in
theorem wst_X1_spokeTowards : Cond.static yX1_spokeTowards ∈ gtbl := in_ch3_5 (List.mem_of_getElem? (i := 0) rfl) rfl
set_option maxRecDepth 20000 in
theorem wco_X1_spokeTowards : Cond.code yX1_spokeTowards cX1_spokeTowards 4 (some .int) ∈ gtbl := in_ch3_5 (List.mem_of_getElem? (i := 1) rfl) rfl
set_option maxRecDepth 20000 in
theorem wm_X7_117 : Cond.methodLink RX7 117 yX7_touch ∈ gtbl := in_ch3_5 (List.mem_of_getElem? (i := 2) rfl) rfl
set_option maxRecDepth 20000 in
theorem wi_X7_touch : Cond.instanceMethod yX7_touch ∈ gtbl := in_ch3_5 (List.mem_of_getElem? (i := 4) rfl) rfl
set_option maxRecDepth 20000 in
theorem wco_X7_touch : Cond.code yX7_touch cX7_touch 6 (some .boolean) ∈ gtbl := in_ch3_5 (List.mem_of_getElem? (i := 5) rfl) rfl
set_option maxRecDepth 20000 in
theorem wcn_X7_125 : Cond.constant RX7 125 (65536) ∈ gtbl := in_ch3_5 (List.mem_of_getElem? (i := 6) rfl) rfl
set_option maxRecDepth 20000 in
theorem wm_X7_78 : Cond.methodLink RX7 78 yX7_slackSpokes ∈ gtbl := in_ch3_5 (List.mem_of_getElem? (i := 7) rfl) rfl
set_option maxRecDepth 20000 in
theorem wi_X7_slackSpokes : Cond.instanceMethod yX7_slackSpokes ∈ gtbl := in_ch3_5 (List.mem_of_getElem? (i := 8) rfl) rfl
set_option maxRecDepth 20000 in
theorem wsl_X7_slackSpokes : Cond.selects RX7 yX7_slackSpokes yX7_slackSpokes ∈ gtbl := in_ch3_5 (List.mem_of_getElem? (i := 9) rfl) rfl
set_option maxRecDepth 20000 in
theorem wco_X7_slackSpokes : Cond.code yX7_slackSpokes cX7_slackSpokes 2 (some .int) ∈ gtbl := in_ch3_5 (List.mem_of_getElem? (i := 10) rfl) rfl
set_option maxRecDepth 20000 in
theorem wm_X7_69 : Cond.methodLink RX7 69 yX7_slackBits ∈ gtbl := in_ch3_5 (List.mem_of_getElem? (i := 11) rfl) rfl
set_option maxRecDepth 20000 in
theorem wi_X7_slackBits : Cond.instanceMethod yX7_slackBits ∈ gtbl := in_ch3_5 (List.mem_of_getElem? (i := 12) rfl) rfl
set_option maxRecDepth 20000 in
theorem wsl_X7_slackBits : Cond.selects RX7 yX7_slackBits yX7_slackBits ∈ gtbl := in_ch3_5 (List.mem_of_getElem? (i := 13) rfl) rfl
set_option maxRecDepth 20000 in
theorem wco_X7_slackBits : Cond.code yX7_slackBits cX7_slackBits 4 (some .int) ∈ gtbl := in_ch3_5 (List.mem_of_getElem? (i := 14) rfl) rfl
set_option maxRecDepth 20000 in
theorem wm_X7_73 : Cond.methodLink RX7 73 yJ6_bitCount_0f7a4 ∈ gtbl := in_ch3_5 (List.mem_of_getElem? (i := 15) rfl) rfl
set_option maxRecDepth 20000 in
theorem in_ch3_6 {w : Cond} (h : w ∈ ch3_6) (g : goodWord w = true) : w ∈ gtbl := in_g (tt_3 (by rw [tb_3]; exact List.mem_append_right _ (List.mem_append_right _ (List.mem_append_right _ (List.mem_append_right _ (List.mem_append_right _ (List.mem_append_right _ (List.mem_append_left _ h)))))))) g
set_option maxRecDepth 20000 in
theorem wst_J6_bitCount_0f7a4 : Cond.static yJ6_bitCount_0f7a4 ∈ gtbl := in_ch3_6 (List.mem_of_getElem? (i := 0) rfl) rfl
set_option maxRecDepth 20000 in
theorem wco_J6_bitCount_0f7a4 : Cond.code yJ6_bitCount_0f7a4 cJ6_bitCount_0f7a4 1 (some .int) ∈ gtbl := in_ch3_6 (List.mem_of_getElem? (i := 1) rfl) rfl
set_option maxRecDepth 20000 in
theorem wcn_J6_265 : Cond.constant RJ6 265 (1431655765) ∈ gtbl := in_ch3_6 (List.mem_of_getElem? (i := 2) rfl) rfl
set_option maxRecDepth 20000 in
theorem wcn_J6_266 : Cond.constant RJ6 266 (858993459) ∈ gtbl := in_ch3_6 (List.mem_of_getElem? (i := 3) rfl) rfl
set_option maxRecDepth 20000 in
theorem wcn_J6_267 : Cond.constant RJ6 267 (252645135) ∈ gtbl := in_ch3_6 (List.mem_of_getElem? (i := 4) rfl) rfl
set_option maxRecDepth 20000 in
theorem wm_X7_126 : Cond.methodLink RX7 126 yX3_seeWeb ∈ gtbl := in_ch3_6 (List.mem_of_getElem? (i := 5) rfl) rfl
set_option maxRecDepth 20000 in
theorem wi_X3_seeWeb : Cond.instanceMethod yX3_seeWeb ∈ gtbl := in_ch3_6 (List.mem_of_getElem? (i := 6) rfl) rfl
set_option maxRecDepth 20000 in
theorem wsl_X3_seeWeb : Cond.selects RX3 yX3_seeWeb yX3_seeWeb ∈ gtbl := in_ch3_6 (List.mem_of_getElem? (i := 7) rfl) rfl
set_option maxRecDepth 20000 in
theorem wco_X3_seeWeb : Cond.code yX3_seeWeb cX3_seeWeb 6 none ∈ gtbl := in_ch3_6 (List.mem_of_getElem? (i := 8) rfl) rfl
set_option maxRecDepth 20000 in
theorem wm_X7_132 : Cond.methodLink RX7 132 yX3_seeFleet ∈ gtbl := in_ch3_6 (List.mem_of_getElem? (i := 9) rfl) rfl
set_option maxRecDepth 20000 in
theorem wi_X3_seeFleet : Cond.instanceMethod yX3_seeFleet ∈ gtbl := in_ch3_6 (List.mem_of_getElem? (i := 10) rfl) rfl
set_option maxRecDepth 20000 in
theorem wsl_X3_seeFleet : Cond.selects RX3 yX3_seeFleet yX3_seeFleet ∈ gtbl := in_ch3_6 (List.mem_of_getElem? (i := 11) rfl) rfl
set_option maxRecDepth 20000 in
theorem wco_X3_seeFleet : Cond.code yX3_seeFleet cX3_seeFleet 6 none ∈ gtbl := in_ch3_6 (List.mem_of_getElem? (i := 12) rfl) rfl
set_option maxRecDepth 20000 in
theorem wm_X7_135 : Cond.methodLink RX7 135 yX3_firstRule ∈ gtbl := in_ch3_6 (List.mem_of_getElem? (i := 13) rfl) rfl
set_option maxRecDepth 20000 in
theorem wi_X3_firstRule : Cond.instanceMethod yX3_firstRule ∈ gtbl := in_ch3_6 (List.mem_of_getElem? (i := 14) rfl) rfl
set_option maxRecDepth 20000 in
theorem wsl_X3_firstRule : Cond.selects RX3 yX3_firstRule yX3_firstRule ∈ gtbl := in_ch3_6 (List.mem_of_getElem? (i := 15) rfl) rfl
set_option maxRecDepth 20000 in
theorem in_ch3_7 {w : Cond} (h : w ∈ ch3_7) (g : goodWord w = true) : w ∈ gtbl := in_g (tt_3 (by rw [tb_3]; exact List.mem_append_right _ (List.mem_append_right _ (List.mem_append_right _ (List.mem_append_right _ (List.mem_append_right _ (List.mem_append_right _ (List.mem_append_right _ (List.mem_append_left _ h))))))))) g
set_option maxRecDepth 20000 in
theorem wco_X3_firstRule : Cond.code yX3_firstRule cX3_firstRule 3 (some .int) ∈ gtbl := in_ch3_7 (List.mem_of_getElem? (i := 0) rfl) rfl
set_option maxRecDepth 20000 in
theorem wm_X3_65 : Cond.methodLink RX3 65 yX3_run ∈ gtbl := in_ch3_7 (List.mem_of_getElem? (i := 1) rfl) rfl
set_option maxRecDepth 20000 in
theorem wi_X3_run : Cond.instanceMethod yX3_run ∈ gtbl := in_ch3_7 (List.mem_of_getElem? (i := 3) rfl) rfl
set_option maxRecDepth 20000 in
theorem wco_X3_run : Cond.code yX3_run cX3_run 6 none ∈ gtbl := in_ch3_7 (List.mem_of_getElem? (i := 4) rfl) rfl
set_option maxRecDepth 20000 in
theorem wm_X3_78 : Cond.methodLink RX3 78 yX3_heapUp ∈ gtbl := in_ch3_7 (List.mem_of_getElem? (i := 5) rfl) rfl
set_option maxRecDepth 20000 in
theorem wi_X3_heapUp : Cond.instanceMethod yX3_heapUp ∈ gtbl := in_ch3_7 (List.mem_of_getElem? (i := 7) rfl) rfl
set_option maxRecDepth 20000 in
theorem wco_X3_heapUp : Cond.code yX3_heapUp cX3_heapUp 2 none ∈ gtbl := in_ch3_7 (List.mem_of_getElem? (i := 8) rfl) rfl
set_option maxRecDepth 20000 in
theorem wm_X3_81 : Cond.methodLink RX3 81 yX3_compare ∈ gtbl := in_ch3_7 (List.mem_of_getElem? (i := 9) rfl) rfl
set_option maxRecDepth 20000 in
theorem wi_X3_compare : Cond.instanceMethod yX3_compare ∈ gtbl := in_ch3_7 (List.mem_of_getElem? (i := 11) rfl) rfl
set_option maxRecDepth 20000 in
theorem wco_X3_compare : Cond.code yX3_compare cX3_compare 4 none ∈ gtbl := in_ch3_7 (List.mem_of_getElem? (i := 12) rfl) rfl
set_option maxRecDepth 20000 in
theorem wm_X3_84 : Cond.methodLink RX3 84 yX3_reckon ∈ gtbl := in_ch3_7 (List.mem_of_getElem? (i := 13) rfl) rfl
set_option maxRecDepth 20000 in
theorem wi_X3_reckon : Cond.instanceMethod yX3_reckon ∈ gtbl := in_ch3_7 (List.mem_of_getElem? (i := 15) rfl) rfl
set_option maxRecDepth 20000 in
theorem in_ch3_8 {w : Cond} (h : w ∈ ch3_8) (g : goodWord w = true) : w ∈ gtbl := in_g (tt_3 (by rw [tb_3]; exact List.mem_append_right _ (List.mem_append_right _ (List.mem_append_right _ (List.mem_append_right _ (List.mem_append_right _ (List.mem_append_right _ (List.mem_append_right _ (List.mem_append_right _ (List.mem_append_left _ h)))))))))) g
set_option maxRecDepth 20000 in
theorem wco_X3_reckon : Cond.code yX3_reckon cX3_reckon 4 none ∈ gtbl := in_ch3_8 (List.mem_of_getElem? (i := 0) rfl) rfl
set_option maxRecDepth 20000 in
theorem wm_X7_138 : Cond.methodLink RX7 138 yX3_worthOf ∈ gtbl := in_ch3_8 (List.mem_of_getElem? (i := 1) rfl) rfl
set_option maxRecDepth 20000 in
theorem wi_X3_worthOf : Cond.instanceMethod yX3_worthOf ∈ gtbl := in_ch3_8 (List.mem_of_getElem? (i := 2) rfl) rfl
set_option maxRecDepth 20000 in
theorem wsl_X3_worthOf : Cond.selects RX3 yX3_worthOf yX3_worthOf ∈ gtbl := in_ch3_8 (List.mem_of_getElem? (i := 3) rfl) rfl
set_option maxRecDepth 20000 in
theorem wco_X3_worthOf : Cond.code yX3_worthOf cX3_worthOf 2 (some .int) ∈ gtbl := in_ch3_8 (List.mem_of_getElem? (i := 4) rfl) rfl
set_option maxRecDepth 20000 in
theorem wm_X3_69 : Cond.methodLink RX3 69 Lib.Math.min.name ∈ gtbl := in_ch3_8 (List.mem_of_getElem? (i := 5) rfl) rfl
set_option maxRecDepth 20000 in
theorem wm_X3_75 : Cond.methodLink RX3 75 Lib.Math.max.name ∈ gtbl := in_ch3_8 (List.mem_of_getElem? (i := 6) rfl) rfl
set_option maxRecDepth 20000 in
theorem wm_X7_141 : Cond.methodLink RX7 141 Lib.Math.max.name ∈ gtbl := in_ch3_8 (List.mem_of_getElem? (i := 7) rfl) rfl
set_option maxRecDepth 20000 in
theorem wm_X7_121 : Cond.methodLink RX7 121 yX7_mend ∈ gtbl := in_ch3_8 (List.mem_of_getElem? (i := 8) rfl) rfl
set_option maxRecDepth 20000 in
theorem wi_X7_mend : Cond.instanceMethod yX7_mend ∈ gtbl := in_ch3_8 (List.mem_of_getElem? (i := 10) rfl) rfl
set_option maxRecDepth 20000 in
theorem wco_X7_mend : Cond.code yX7_mend cX7_mend 6 none ∈ gtbl := in_ch3_8 (List.mem_of_getElem? (i := 11) rfl) rfl
set_option maxRecDepth 20000 in
theorem wm_X7_146 : Cond.methodLink RX7 146 yX3_seeNoFleet ∈ gtbl := in_ch3_8 (List.mem_of_getElem? (i := 12) rfl) rfl
set_option maxRecDepth 20000 in
theorem wi_X3_seeNoFleet : Cond.instanceMethod yX3_seeNoFleet ∈ gtbl := in_ch3_8 (List.mem_of_getElem? (i := 13) rfl) rfl
set_option maxRecDepth 20000 in
theorem wsl_X3_seeNoFleet : Cond.selects RX3 yX3_seeNoFleet yX3_seeNoFleet ∈ gtbl := in_ch3_8 (List.mem_of_getElem? (i := 14) rfl) rfl
set_option maxRecDepth 20000 in
theorem wco_X3_seeNoFleet : Cond.code yX3_seeNoFleet cX3_seeNoFleet 1 none ∈ gtbl := in_ch3_8 (List.mem_of_getElem? (i := 15) rfl) rfl
set_option maxRecDepth 20000 in
theorem in_ch3_9 {w : Cond} (h : w ∈ ch3_9) (g : goodWord w = true) : w ∈ gtbl := in_g (tt_3 (by rw [tb_3]; exact List.mem_append_right _ (List.mem_append_right _ (List.mem_append_right _ (List.mem_append_right _ (List.mem_append_right _ (List.mem_append_right _ (List.mem_append_right _ (List.mem_append_right _ (List.mem_append_right _ (List.mem_append_left _ h))))))))))) g
set_option maxRecDepth 20000 in
theorem wm_X3_61 : Cond.methodLink RX3 61 yX3_seeFleet ∈ gtbl := in_ch3_9 (List.mem_of_getElem? (i := 0) rfl) rfl
set_option maxRecDepth 20000 in
theorem wm_X7_149 : Cond.methodLink RX7 149 Lib.Math.min.name ∈ gtbl := in_ch3_9 (List.mem_of_getElem? (i := 1) rfl) rfl
set_option maxRecDepth 20000 in
theorem wm_L_36 : Cond.methodLink RL 36 yX11_tried ∈ gtbl := in_ch3_9 (List.mem_of_getElem? (i := 2) rfl) rfl
set_option maxRecDepth 20000 in
theorem wi_X11_tried : Cond.instanceMethod yX11_tried ∈ gtbl := in_ch3_9 (List.mem_of_getElem? (i := 3) rfl) rfl
set_option maxRecDepth 20000 in
theorem wsl_X11_tried : Cond.selects RX11 yX11_tried yX11_tried ∈ gtbl := in_ch3_9 (List.mem_of_getElem? (i := 4) rfl) rfl
set_option maxRecDepth 20000 in
theorem wco_X11_tried : Cond.code yX11_tried cX11_tried 4 (some .int) ∈ gtbl := in_ch3_9 (List.mem_of_getElem? (i := 5) rfl) rfl
set_option maxRecDepth 20000 in
theorem wm_X11_132 : Cond.methodLink RX11 132 yX11_canBeTried ∈ gtbl := in_ch3_9 (List.mem_of_getElem? (i := 6) rfl) rfl
set_option maxRecDepth 20000 in
theorem wi_X11_canBeTried : Cond.instanceMethod yX11_canBeTried ∈ gtbl := in_ch3_9 (List.mem_of_getElem? (i := 8) rfl) rfl
set_option maxRecDepth 20000 in
theorem wco_X11_canBeTried : Cond.code yX11_canBeTried cX11_canBeTried 2 (some .boolean) ∈ gtbl := in_ch3_9 (List.mem_of_getElem? (i := 9) rfl) rfl
set_option maxRecDepth 20000 in
theorem wm_X11_152 : Cond.methodLink RX11 152 yX7_hasFleet ∈ gtbl := in_ch3_9 (List.mem_of_getElem? (i := 10) rfl) rfl
set_option maxRecDepth 20000 in
theorem wm_X11_135 : Cond.methodLink RX11 135 yX7_copyFrom ∈ gtbl := in_ch3_9 (List.mem_of_getElem? (i := 11) rfl) rfl
set_option maxRecDepth 20000 in
theorem wi_X7_copyFrom : Cond.instanceMethod yX7_copyFrom ∈ gtbl := in_ch3_9 (List.mem_of_getElem? (i := 12) rfl) rfl
set_option maxRecDepth 20000 in
theorem wsl_X7_copyFrom : Cond.selects RX7 yX7_copyFrom yX7_copyFrom ∈ gtbl := in_ch3_9 (List.mem_of_getElem? (i := 13) rfl) rfl
set_option maxRecDepth 20000 in
theorem wco_X7_copyFrom : Cond.code yX7_copyFrom cX7_copyFrom 2 none ∈ gtbl := in_ch3_9 (List.mem_of_getElem? (i := 14) rfl) rfl
set_option maxRecDepth 20000 in
theorem wm_X7_50 : Cond.methodLink RX7 50 arraycopyName ∈ gtbl := in_ch3_9 (List.mem_of_getElem? (i := 15) rfl) rfl
set_option maxRecDepth 20000 in
theorem in_ch3_10 {w : Cond} (h : w ∈ ch3_10) (g : goodWord w = true) : w ∈ gtbl := in_g (tt_3 (by rw [tb_3]; exact List.mem_append_right _ (List.mem_append_right _ (List.mem_append_right _ (List.mem_append_right _ (List.mem_append_right _ (List.mem_append_right _ (List.mem_append_right _ (List.mem_append_right _ (List.mem_append_right _ (List.mem_append_right _ (List.mem_append_left _ h)))))))))))) g
set_option maxRecDepth 20000 in
theorem wst_arraycopy : Cond.static arraycopyName ∈ gtbl := in_ch3_10 (List.mem_of_getElem? (i := 0) rfl) rfl
set_option maxRecDepth 20000 in
theorem wnat_arraycopy : Cond.native arraycopyName ∈ gtbl := in_ch3_10 (List.mem_of_getElem? (i := 1) rfl) rfl
set_option maxRecDepth 20000 in
theorem wm_X11_139 : Cond.methodLink RX11 139 yX7_allSlackSpokes ∈ gtbl := in_ch3_10 (List.mem_of_getElem? (i := 2) rfl) rfl
set_option maxRecDepth 20000 in
theorem wi_X7_allSlackSpokes : Cond.instanceMethod yX7_allSlackSpokes ∈ gtbl := in_ch3_10 (List.mem_of_getElem? (i := 3) rfl) rfl
set_option maxRecDepth 20000 in
theorem wsl_X7_allSlackSpokes : Cond.selects RX7 yX7_allSlackSpokes yX7_allSlackSpokes ∈ gtbl := in_ch3_10 (List.mem_of_getElem? (i := 4) rfl) rfl
set_option maxRecDepth 20000 in
theorem wco_X7_allSlackSpokes : Cond.code yX7_allSlackSpokes cX7_allSlackSpokes 3 (some .int) ∈ gtbl := in_ch3_10 (List.mem_of_getElem? (i := 5) rfl) rfl
set_option maxRecDepth 20000 in
theorem wm_X11_142 : Cond.methodLink RX11 142 yX7_tensionsOf ∈ gtbl := in_ch3_10 (List.mem_of_getElem? (i := 6) rfl) rfl
set_option maxRecDepth 20000 in
theorem wi_X7_tensionsOf : Cond.instanceMethod yX7_tensionsOf ∈ gtbl := in_ch3_10 (List.mem_of_getElem? (i := 7) rfl) rfl
set_option maxRecDepth 20000 in
theorem wsl_X7_tensionsOf : Cond.selects RX7 yX7_tensionsOf yX7_tensionsOf ∈ gtbl := in_ch3_10 (List.mem_of_getElem? (i := 8) rfl) rfl
set_option maxRecDepth 20000 in
theorem wco_X7_tensionsOf : Cond.code yX7_tensionsOf cX7_tensionsOf 4 (some .int) ∈ gtbl := in_ch3_10 (List.mem_of_getElem? (i := 9) rfl) rfl
set_option maxRecDepth 20000 in
theorem wm_X11_146 : Cond.methodLink RX11 146 yX7_placeOfFleet ∈ gtbl := in_ch3_10 (List.mem_of_getElem? (i := 10) rfl) rfl
set_option maxRecDepth 20000 in
theorem wi_X7_placeOfFleet : Cond.instanceMethod yX7_placeOfFleet ∈ gtbl := in_ch3_10 (List.mem_of_getElem? (i := 11) rfl) rfl
set_option maxRecDepth 20000 in
theorem wsl_X7_placeOfFleet : Cond.selects RX7 yX7_placeOfFleet yX7_placeOfFleet ∈ gtbl := in_ch3_10 (List.mem_of_getElem? (i := 12) rfl) rfl
set_option maxRecDepth 20000 in
theorem wco_X7_placeOfFleet : Cond.code yX7_placeOfFleet cX7_placeOfFleet 2 (some .int) ∈ gtbl := in_ch3_10 (List.mem_of_getElem? (i := 13) rfl) rfl
set_option maxRecDepth 20000 in
theorem wm_X7_63 : Cond.methodLink RX7 63 yX1_place ∈ gtbl := in_ch3_10 (List.mem_of_getElem? (i := 14) rfl) rfl
set_option maxRecDepth 20000 in
theorem wst_X1_place : Cond.static yX1_place ∈ gtbl := in_ch3_10 (List.mem_of_getElem? (i := 15) rfl) rfl
set_option maxRecDepth 20000 in
theorem in_ch3_11 {w : Cond} (h : w ∈ ch3_11) (g : goodWord w = true) : w ∈ gtbl := in_g (tt_3 (by rw [tb_3]; exact List.mem_append_right _ (List.mem_append_right _ (List.mem_append_right _ (List.mem_append_right _ (List.mem_append_right _ (List.mem_append_right _ (List.mem_append_right _ (List.mem_append_right _ (List.mem_append_right _ (List.mem_append_right _ (List.mem_append_right _ (List.mem_append_left _ h))))))))))))) g
set_option maxRecDepth 20000 in
theorem wco_X1_place : Cond.code yX1_place cX1_place 2 (some .int) ∈ gtbl := in_ch3_11 (List.mem_of_getElem? (i := 0) rfl) rfl
set_option maxRecDepth 20000 in
theorem wm_X11_149 : Cond.methodLink RX11 149 yX7_toldCourse ∈ gtbl := in_ch3_11 (List.mem_of_getElem? (i := 1) rfl) rfl
set_option maxRecDepth 20000 in
theorem wi_X7_toldCourse : Cond.instanceMethod yX7_toldCourse ∈ gtbl := in_ch3_11 (List.mem_of_getElem? (i := 2) rfl) rfl
set_option maxRecDepth 20000 in
theorem wsl_X7_toldCourse : Cond.selects RX7 yX7_toldCourse yX7_toldCourse ∈ gtbl := in_ch3_11 (List.mem_of_getElem? (i := 3) rfl) rfl
set_option maxRecDepth 20000 in
theorem wco_X7_toldCourse : Cond.code yX7_toldCourse cX7_toldCourse 2 (some .int) ∈ gtbl := in_ch3_11 (List.mem_of_getElem? (i := 4) rfl) rfl
set_option maxRecDepth 20000 in
theorem wm_L_41 : Cond.methodLink RL 41 yX11_webIs ∈ gtbl := in_ch3_11 (List.mem_of_getElem? (i := 5) rfl) rfl
set_option maxRecDepth 20000 in
theorem wi_X11_webIs : Cond.instanceMethod yX11_webIs ∈ gtbl := in_ch3_11 (List.mem_of_getElem? (i := 6) rfl) rfl
set_option maxRecDepth 20000 in
theorem wsl_X11_webIs : Cond.selects RX11 yX11_webIs yX11_webIs ∈ gtbl := in_ch3_11 (List.mem_of_getElem? (i := 7) rfl) rfl
set_option maxRecDepth 20000 in
theorem wco_X11_webIs : Cond.code yX11_webIs cX11_webIs 3 (some .int) ∈ gtbl := in_ch3_11 (List.mem_of_getElem? (i := 8) rfl) rfl
set_option maxRecDepth 20000 in
theorem wm_X11_161 : Cond.methodLink RX11 161 yX1_place ∈ gtbl := in_ch3_11 (List.mem_of_getElem? (i := 9) rfl) rfl
set_option maxRecDepth 20000 in
theorem wm_X11_167 : Cond.methodLink RX11 167 yX7_slackBits ∈ gtbl := in_ch3_11 (List.mem_of_getElem? (i := 10) rfl) rfl
set_option maxRecDepth 20000 in
theorem wm_L_45 : Cond.methodLink RL 45 yX11_fleetIs ∈ gtbl := in_ch3_11 (List.mem_of_getElem? (i := 11) rfl) rfl
set_option maxRecDepth 20000 in
theorem wi_X11_fleetIs : Cond.instanceMethod yX11_fleetIs ∈ gtbl := in_ch3_11 (List.mem_of_getElem? (i := 12) rfl) rfl
set_option maxRecDepth 20000 in
theorem wsl_X11_fleetIs : Cond.selects RX11 yX11_fleetIs yX11_fleetIs ∈ gtbl := in_ch3_11 (List.mem_of_getElem? (i := 13) rfl) rfl
set_option maxRecDepth 20000 in
theorem wco_X11_fleetIs : Cond.code yX11_fleetIs cX11_fleetIs 3 (some .int) ∈ gtbl := in_ch3_11 (List.mem_of_getElem? (i := 14) rfl) rfl
set_option maxRecDepth 20000 in
theorem wm_L_49 : Cond.methodLink RL 49 yX11_feels ∈ gtbl := in_ch3_11 (List.mem_of_getElem? (i := 15) rfl) rfl
set_option maxRecDepth 20000 in
theorem in_ch3_12 {w : Cond} (h : w ∈ ch3_12) (g : goodWord w = true) : w ∈ gtbl := in_g (tt_3 (by rw [tb_3]; exact List.mem_append_right _ (List.mem_append_right _ (List.mem_append_right _ (List.mem_append_right _ (List.mem_append_right _ (List.mem_append_right _ (List.mem_append_right _ (List.mem_append_right _ (List.mem_append_right _ (List.mem_append_right _ (List.mem_append_right _ (List.mem_append_right _ (List.mem_append_left _ h)))))))))))))) g
set_option maxRecDepth 20000 in
theorem wi_X11_feels : Cond.instanceMethod yX11_feels ∈ gtbl := in_ch3_12 (List.mem_of_getElem? (i := 0) rfl) rfl
set_option maxRecDepth 20000 in
theorem wsl_X11_feels : Cond.selects RX11 yX11_feels yX11_feels ∈ gtbl := in_ch3_12 (List.mem_of_getElem? (i := 1) rfl) rfl
set_option maxRecDepth 20000 in
theorem wco_X11_feels : Cond.code yX11_feels cX11_feels 4 (some .int) ∈ gtbl := in_ch3_12 (List.mem_of_getElem? (i := 2) rfl) rfl
set_option maxRecDepth 20000 in
theorem wm_X11_173 : Cond.methodLink RX11 173 yX7_strongestFleet ∈ gtbl := in_ch3_12 (List.mem_of_getElem? (i := 3) rfl) rfl
set_option maxRecDepth 20000 in
theorem wi_X7_strongestFleet : Cond.instanceMethod yX7_strongestFleet ∈ gtbl := in_ch3_12 (List.mem_of_getElem? (i := 4) rfl) rfl
set_option maxRecDepth 20000 in
theorem wsl_X7_strongestFleet : Cond.selects RX7 yX7_strongestFleet yX7_strongestFleet ∈ gtbl := in_ch3_12 (List.mem_of_getElem? (i := 5) rfl) rfl
set_option maxRecDepth 20000 in
theorem wco_X7_strongestFleet : Cond.code yX7_strongestFleet cX7_strongestFleet 5 (some .int) ∈ gtbl := in_ch3_12 (List.mem_of_getElem? (i := 6) rfl) rfl
set_option maxRecDepth 20000 in
theorem wm_X11_176 : Cond.methodLink RX11 176 yX7_spokeTo ∈ gtbl := in_ch3_12 (List.mem_of_getElem? (i := 7) rfl) rfl
set_option maxRecDepth 20000 in
theorem wm_X11_179 : Cond.methodLink RX11 179 yX7_felt ∈ gtbl := in_ch3_12 (List.mem_of_getElem? (i := 8) rfl) rfl
set_option maxRecDepth 20000 in
theorem wm_L_53 : Cond.methodLink RL 53 yX11_when ∈ gtbl := in_ch3_12 (List.mem_of_getElem? (i := 9) rfl) rfl
set_option maxRecDepth 20000 in
theorem wi_X11_when : Cond.instanceMethod yX11_when ∈ gtbl := in_ch3_12 (List.mem_of_getElem? (i := 10) rfl) rfl
set_option maxRecDepth 20000 in
theorem wsl_X11_when : Cond.selects RX11 yX11_when yX11_when ∈ gtbl := in_ch3_12 (List.mem_of_getElem? (i := 11) rfl) rfl
set_option maxRecDepth 20000 in
theorem wco_X11_when : Cond.code yX11_when cX11_when 5 (some .int) ∈ gtbl := in_ch3_12 (List.mem_of_getElem? (i := 12) rfl) rfl
set_option maxRecDepth 20000 in
theorem wm_X11_182 : Cond.methodLink RX11 182 yX7_moveFleet ∈ gtbl := in_ch3_12 (List.mem_of_getElem? (i := 13) rfl) rfl
set_option maxRecDepth 20000 in
theorem wm_L_58 : Cond.methodLink RL 58 yX11_fix ∈ gtbl := in_ch3_12 (List.mem_of_getElem? (i := 14) rfl) rfl
set_option maxRecDepth 20000 in
theorem wi_X11_fix : Cond.instanceMethod yX11_fix ∈ gtbl := in_ch3_12 (List.mem_of_getElem? (i := 15) rfl) rfl
set_option maxRecDepth 20000 in
theorem in_ch3_13 {w : Cond} (h : w ∈ ch3_13) (g : goodWord w = true) : w ∈ gtbl := in_g (tt_3 (by rw [tb_3]; exact List.mem_append_right _ (List.mem_append_right _ (List.mem_append_right _ (List.mem_append_right _ (List.mem_append_right _ (List.mem_append_right _ (List.mem_append_right _ (List.mem_append_right _ (List.mem_append_right _ (List.mem_append_right _ (List.mem_append_right _ (List.mem_append_right _ (List.mem_append_right _ (List.mem_append_left _ h))))))))))))))) g
set_option maxRecDepth 20000 in
theorem wsl_X11_fix : Cond.selects RX11 yX11_fix yX11_fix ∈ gtbl := in_ch3_13 (List.mem_of_getElem? (i := 0) rfl) rfl
set_option maxRecDepth 20000 in
theorem wco_X11_fix : Cond.code yX11_fix cX11_fix 4 (some .int) ∈ gtbl := in_ch3_13 (List.mem_of_getElem? (i := 1) rfl) rfl
set_option maxRecDepth 20000 in
theorem wm_X11_185 : Cond.methodLink RX11 185 yX6_fixBy ∈ gtbl := in_ch3_13 (List.mem_of_getElem? (i := 2) rfl) rfl
set_option maxRecDepth 20000 in
theorem wi_X6_fixBy : Cond.instanceMethod yX6_fixBy ∈ gtbl := in_ch3_13 (List.mem_of_getElem? (i := 3) rfl) rfl
set_option maxRecDepth 20000 in
theorem wsl_X6_fixBy : Cond.selects RX6 yX6_fixBy yX6_fixBy ∈ gtbl := in_ch3_13 (List.mem_of_getElem? (i := 4) rfl) rfl
set_option maxRecDepth 20000 in
theorem wco_X6_fixBy : Cond.code yX6_fixBy cX6_fixBy 7 (some .int) ∈ gtbl := in_ch3_13 (List.mem_of_getElem? (i := 5) rfl) rfl
set_option maxRecDepth 20000 in
theorem wm_X6_23 : Cond.methodLink RX6 23 yX8_at ∈ gtbl := in_ch3_13 (List.mem_of_getElem? (i := 6) rfl) rfl
set_option maxRecDepth 20000 in
theorem wm_X6_29 : Cond.methodLink RX6 29 yX7_hasWeb ∈ gtbl := in_ch3_13 (List.mem_of_getElem? (i := 7) rfl) rfl
set_option maxRecDepth 20000 in
theorem wm_X6_35 : Cond.methodLink RX6 35 yX6_isToward ∈ gtbl := in_ch3_13 (List.mem_of_getElem? (i := 8) rfl) rfl
set_option maxRecDepth 20000 in
theorem wi_X6_isToward : Cond.instanceMethod yX6_isToward ∈ gtbl := in_ch3_13 (List.mem_of_getElem? (i := 10) rfl) rfl
set_option maxRecDepth 20000 in
theorem wco_X6_isToward : Cond.code yX6_isToward cX6_isToward 9 (some .boolean) ∈ gtbl := in_ch3_13 (List.mem_of_getElem? (i := 11) rfl) rfl
set_option maxRecDepth 20000 in
theorem wm_X6_45 : Cond.methodLink RX6 45 yX1_spokeTowards ∈ gtbl := in_ch3_13 (List.mem_of_getElem? (i := 12) rfl) rfl
set_option maxRecDepth 20000 in
theorem wm_L_62 : Cond.methodLink RL 62 yX11_bearings ∈ gtbl := in_ch3_13 (List.mem_of_getElem? (i := 13) rfl) rfl
set_option maxRecDepth 20000 in
theorem wi_X11_bearings : Cond.instanceMethod yX11_bearings ∈ gtbl := in_ch3_13 (List.mem_of_getElem? (i := 14) rfl) rfl
set_option maxRecDepth 20000 in
theorem wsl_X11_bearings : Cond.selects RX11 yX11_bearings yX11_bearings ∈ gtbl := in_ch3_13 (List.mem_of_getElem? (i := 15) rfl) rfl
set_option maxRecDepth 20000 in
theorem in_ch3_14 {w : Cond} (h : w ∈ ch3_14) (g : goodWord w = true) : w ∈ gtbl := in_g (tt_3 (by rw [tb_3]; exact List.mem_append_right _ (List.mem_append_right _ (List.mem_append_right _ (List.mem_append_right _ (List.mem_append_right _ (List.mem_append_right _ (List.mem_append_right _ (List.mem_append_right _ (List.mem_append_right _ (List.mem_append_right _ (List.mem_append_right _ (List.mem_append_right _ (List.mem_append_right _ (List.mem_append_right _ (List.mem_append_left _ h)))))))))))))))) g
set_option maxRecDepth 20000 in
theorem wco_X11_bearings : Cond.code yX11_bearings cX11_bearings 5 (some .int) ∈ gtbl := in_ch3_14 (List.mem_of_getElem? (i := 0) rfl) rfl
set_option maxRecDepth 20000 in
theorem wm_X11_189 : Cond.methodLink RX11 189 yX6_crossing ∈ gtbl := in_ch3_14 (List.mem_of_getElem? (i := 1) rfl) rfl
set_option maxRecDepth 20000 in
theorem wi_X6_crossing : Cond.instanceMethod yX6_crossing ∈ gtbl := in_ch3_14 (List.mem_of_getElem? (i := 2) rfl) rfl
set_option maxRecDepth 20000 in
theorem wsl_X6_crossing : Cond.selects RX6 yX6_crossing yX6_crossing ∈ gtbl := in_ch3_14 (List.mem_of_getElem? (i := 3) rfl) rfl
set_option maxRecDepth 20000 in
theorem wco_X6_crossing : Cond.code yX6_crossing cX6_crossing 9 (some .int) ∈ gtbl := in_ch3_14 (List.mem_of_getElem? (i := 4) rfl) rfl
set_option maxRecDepth 20000 in
theorem wm_X6_51 : Cond.methodLink RX6 51 yX1_stepAcross ∈ gtbl := in_ch3_14 (List.mem_of_getElem? (i := 5) rfl) rfl
set_option maxRecDepth 20000 in
theorem wm_X6_54 : Cond.methodLink RX6 54 yX1_stepAlong ∈ gtbl := in_ch3_14 (List.mem_of_getElem? (i := 6) rfl) rfl
set_option maxRecDepth 20000 in
theorem wm_X6_57 : Cond.methodLink RX6 57 yX1_onChart ∈ gtbl := in_ch3_14 (List.mem_of_getElem? (i := 7) rfl) rfl
set_option maxRecDepth 20000 in
theorem wm_X6_61 : Cond.methodLink RX6 61 yX6_isOnWay ∈ gtbl := in_ch3_14 (List.mem_of_getElem? (i := 8) rfl) rfl
set_option maxRecDepth 20000 in
theorem wst_X6_isOnWay : Cond.static yX6_isOnWay ∈ gtbl := in_ch3_14 (List.mem_of_getElem? (i := 9) rfl) rfl
set_option maxRecDepth 20000 in
theorem wco_X6_isOnWay : Cond.code yX6_isOnWay cX6_isOnWay 4 (some .boolean) ∈ gtbl := in_ch3_14 (List.mem_of_getElem? (i := 10) rfl) rfl
set_option maxRecDepth 20000 in
theorem wm_X6_68 : Cond.methodLink RX6 68 yX1_distance ∈ gtbl := in_ch3_14 (List.mem_of_getElem? (i := 11) rfl) rfl
set_option maxRecDepth 20000 in
theorem wm_X6_65 : Cond.methodLink RX6 65 yX1_place ∈ gtbl := in_ch3_14 (List.mem_of_getElem? (i := 12) rfl) rfl
set_option maxRecDepth 20000 in
theorem wm_L_67 : Cond.methodLink RL 67 yX11_allTheSea ∈ gtbl := in_ch3_14 (List.mem_of_getElem? (i := 13) rfl) rfl
set_option maxRecDepth 20000 in
theorem wi_X11_allTheSea : Cond.instanceMethod yX11_allTheSea ∈ gtbl := in_ch3_14 (List.mem_of_getElem? (i := 14) rfl) rfl
set_option maxRecDepth 20000 in
theorem wsl_X11_allTheSea : Cond.selects RX11 yX11_allTheSea yX11_allTheSea ∈ gtbl := in_ch3_14 (List.mem_of_getElem? (i := 15) rfl) rfl
set_option maxRecDepth 20000 in
theorem tt_4 {w : Cond} (h : w ∈ tables_1_4) : w ∈ lw_tbl := List.mem_append_right _ (List.mem_append_right _ (List.mem_append_right _ (List.mem_append_right _ (List.mem_append_left _ (h)))))
set_option maxRecDepth 20000 in
theorem in_ch4_0 {w : Cond} (h : w ∈ ch4_0) (g : goodWord w = true) : w ∈ gtbl := in_g (tt_4 (by rw [tb_4]; exact List.mem_append_left _ h)) g
set_option maxRecDepth 20000 in
theorem wco_X11_allTheSea : Cond.code yX11_allTheSea cX11_allTheSea 4 (some .int) ∈ gtbl := in_ch4_0 (List.mem_of_getElem? (i := 0) rfl) rfl
set_option maxRecDepth 20000 in
theorem wm_X11_193 : Cond.methodLink RX11 193 yX6_fewestWebs ∈ gtbl := in_ch4_0 (List.mem_of_getElem? (i := 1) rfl) rfl
set_option maxRecDepth 20000 in
theorem wi_X6_fewestWebs : Cond.instanceMethod yX6_fewestWebs ∈ gtbl := in_ch4_0 (List.mem_of_getElem? (i := 2) rfl) rfl
set_option maxRecDepth 20000 in
theorem wsl_X6_fewestWebs : Cond.selects RX6 yX6_fewestWebs yX6_fewestWebs ∈ gtbl := in_ch4_0 (List.mem_of_getElem? (i := 3) rfl) rfl
set_option maxRecDepth 20000 in
theorem wco_X6_fewestWebs : Cond.code yX6_fewestWebs cX6_fewestWebs 6 (some .int) ∈ gtbl := in_ch4_0 (List.mem_of_getElem? (i := 4) rfl) rfl
set_option maxRecDepth 20000 in
theorem wm_X6_71 : Cond.methodLink RX6 71 yX6_listReachers ∈ gtbl := in_ch4_0 (List.mem_of_getElem? (i := 5) rfl) rfl
set_option maxRecDepth 20000 in
theorem wi_X6_listReachers : Cond.instanceMethod yX6_listReachers ∈ gtbl := in_ch4_0 (List.mem_of_getElem? (i := 7) rfl) rfl
set_option maxRecDepth 20000 in
theorem wco_X6_listReachers : Cond.code yX6_listReachers cX6_listReachers 5 none ∈ gtbl := in_ch4_0 (List.mem_of_getElem? (i := 8) rfl) rfl
set_option maxRecDepth 20000 in
theorem wm_X6_86 : Cond.methodLink RX6 86 yX6_reachersOf ∈ gtbl := in_ch4_0 (List.mem_of_getElem? (i := 9) rfl) rfl
set_option maxRecDepth 20000 in
theorem wi_X6_reachersOf : Cond.instanceMethod yX6_reachersOf ∈ gtbl := in_ch4_0 (List.mem_of_getElem? (i := 11) rfl) rfl
set_option maxRecDepth 20000 in
theorem wco_X6_reachersOf : Cond.code yX6_reachersOf cX6_reachersOf 6 (some .int) ∈ gtbl := in_ch4_0 (List.mem_of_getElem? (i := 12) rfl) rfl
set_option maxRecDepth 20000 in
theorem wm_X6_93 : Cond.methodLink RX6 93 yX6_wayTo ∈ gtbl := in_ch4_0 (List.mem_of_getElem? (i := 13) rfl) rfl
set_option maxRecDepth 20000 in
theorem wi_X6_wayTo : Cond.instanceMethod yX6_wayTo ∈ gtbl := in_ch4_0 (List.mem_of_getElem? (i := 15) rfl) rfl
set_option maxRecDepth 20000 in
theorem in_ch4_1 {w : Cond} (h : w ∈ ch4_1) (g : goodWord w = true) : w ∈ gtbl := in_g (tt_4 (by rw [tb_4]; exact List.mem_append_right _ (List.mem_append_left _ h))) g
set_option maxRecDepth 20000 in
theorem wco_X6_wayTo : Cond.code yX6_wayTo cX6_wayTo 5 (some .int) ∈ gtbl := in_ch4_1 (List.mem_of_getElem? (i := 0) rfl) rfl
set_option maxRecDepth 20000 in
theorem wm_X6_78 : Cond.methodLink RX6 78 yJ6_bitCount_0f7a4 ∈ gtbl := in_ch4_1 (List.mem_of_getElem? (i := 2) rfl) rfl
set_option maxRecDepth 20000 in
theorem wm_X6_83 : Cond.methodLink RX6 83 yX6_meetsAll ∈ gtbl := in_ch4_1 (List.mem_of_getElem? (i := 3) rfl) rfl
set_option maxRecDepth 20000 in
theorem wi_X6_meetsAll : Cond.instanceMethod yX6_meetsAll ∈ gtbl := in_ch4_1 (List.mem_of_getElem? (i := 5) rfl) rfl
set_option maxRecDepth 20000 in
theorem wco_X6_meetsAll : Cond.code yX6_meetsAll cX6_meetsAll 3 (some .boolean) ∈ gtbl := in_ch4_1 (List.mem_of_getElem? (i := 6) rfl) rfl
set_option maxRecDepth 20000 in
theorem wm_X11_197 : Cond.methodLink RX11 197 yJ6_bitCount_0f7a4 ∈ gtbl := in_ch4_1 (List.mem_of_getElem? (i := 7) rfl) rfl
set_option maxRecDepth 20000 in
theorem wm_L_71 : Cond.methodLink RL 71 yX11_quiet ∈ gtbl := in_ch4_1 (List.mem_of_getElem? (i := 8) rfl) rfl
set_option maxRecDepth 20000 in
theorem wi_X11_quiet : Cond.instanceMethod yX11_quiet ∈ gtbl := in_ch4_1 (List.mem_of_getElem? (i := 9) rfl) rfl
set_option maxRecDepth 20000 in
theorem wsl_X11_quiet : Cond.selects RX11 yX11_quiet yX11_quiet ∈ gtbl := in_ch4_1 (List.mem_of_getElem? (i := 10) rfl) rfl
set_option maxRecDepth 20000 in
theorem wco_X11_quiet : Cond.code yX11_quiet cX11_quiet 3 (some .int) ∈ gtbl := in_ch4_1 (List.mem_of_getElem? (i := 11) rfl) rfl
set_option maxRecDepth 20000 in
theorem wm_X11_202 : Cond.methodLink RX11 202 yX6_quietPlaces ∈ gtbl := in_ch4_1 (List.mem_of_getElem? (i := 12) rfl) rfl
set_option maxRecDepth 20000 in
theorem wi_X6_quietPlaces : Cond.instanceMethod yX6_quietPlaces ∈ gtbl := in_ch4_1 (List.mem_of_getElem? (i := 13) rfl) rfl
set_option maxRecDepth 20000 in
theorem wsl_X6_quietPlaces : Cond.selects RX6 yX6_quietPlaces yX6_quietPlaces ∈ gtbl := in_ch4_1 (List.mem_of_getElem? (i := 14) rfl) rfl
set_option maxRecDepth 20000 in
theorem wco_X6_quietPlaces : Cond.code yX6_quietPlaces cX6_quietPlaces 5 (some .int) ∈ gtbl := in_ch4_1 (List.mem_of_getElem? (i := 15) rfl) rfl
set_option maxRecDepth 20000 in
theorem in_ch4_2 {w : Cond} (h : w ∈ ch4_2) (g : goodWord w = true) : w ∈ gtbl := in_g (tt_4 (by rw [tb_4]; exact List.mem_append_right _ (List.mem_append_right _ (List.mem_append_left _ h)))) g
set_option maxRecDepth 20000 in
theorem wm_X11_205 : Cond.methodLink RX11 205 yX6_firstQuiet ∈ gtbl := in_ch4_2 (List.mem_of_getElem? (i := 0) rfl) rfl
set_option maxRecDepth 20000 in
theorem wi_X6_firstQuiet : Cond.instanceMethod yX6_firstQuiet ∈ gtbl := in_ch4_2 (List.mem_of_getElem? (i := 1) rfl) rfl
set_option maxRecDepth 20000 in
theorem wsl_X6_firstQuiet : Cond.selects RX6 yX6_firstQuiet yX6_firstQuiet ∈ gtbl := in_ch4_2 (List.mem_of_getElem? (i := 2) rfl) rfl
set_option maxRecDepth 20000 in
theorem wco_X6_firstQuiet : Cond.code yX6_firstQuiet cX6_firstQuiet 4 (some .int) ∈ gtbl := in_ch4_2 (List.mem_of_getElem? (i := 3) rfl) rfl
set_option maxRecDepth 20000 in
theorem wm_L_75 : Cond.methodLink RL 75 yX11_nearest ∈ gtbl := in_ch4_2 (List.mem_of_getElem? (i := 4) rfl) rfl
set_option maxRecDepth 20000 in
theorem wi_X11_nearest : Cond.instanceMethod yX11_nearest ∈ gtbl := in_ch4_2 (List.mem_of_getElem? (i := 5) rfl) rfl
set_option maxRecDepth 20000 in
theorem wsl_X11_nearest : Cond.selects RX11 yX11_nearest yX11_nearest ∈ gtbl := in_ch4_2 (List.mem_of_getElem? (i := 6) rfl) rfl
set_option maxRecDepth 20000 in
theorem wco_X11_nearest : Cond.code yX11_nearest cX11_nearest 3 (some .int) ∈ gtbl := in_ch4_2 (List.mem_of_getElem? (i := 7) rfl) rfl
set_option maxRecDepth 20000 in
theorem wm_X11_208 : Cond.methodLink RX11 208 yX1_onChart ∈ gtbl := in_ch4_2 (List.mem_of_getElem? (i := 8) rfl) rfl
set_option maxRecDepth 20000 in
theorem wm_X11_212 : Cond.methodLink RX11 212 yX6_webNearTo ∈ gtbl := in_ch4_2 (List.mem_of_getElem? (i := 9) rfl) rfl
set_option maxRecDepth 20000 in
theorem wi_X6_webNearTo : Cond.instanceMethod yX6_webNearTo ∈ gtbl := in_ch4_2 (List.mem_of_getElem? (i := 10) rfl) rfl
set_option maxRecDepth 20000 in
theorem wsl_X6_webNearTo : Cond.selects RX6 yX6_webNearTo yX6_webNearTo ∈ gtbl := in_ch4_2 (List.mem_of_getElem? (i := 11) rfl) rfl
set_option maxRecDepth 20000 in
theorem wco_X6_webNearTo : Cond.code yX6_webNearTo cX6_webNearTo 7 (some .int) ∈ gtbl := in_ch4_2 (List.mem_of_getElem? (i := 12) rfl) rfl
set_option maxRecDepth 20000 in
theorem wm_L_79 : Cond.methodLink RL 79 yX11_share ∈ gtbl := in_ch4_2 (List.mem_of_getElem? (i := 13) rfl) rfl
set_option maxRecDepth 20000 in
theorem wi_X11_share : Cond.instanceMethod yX11_share ∈ gtbl := in_ch4_2 (List.mem_of_getElem? (i := 14) rfl) rfl
set_option maxRecDepth 20000 in
theorem wsl_X11_share : Cond.selects RX11 yX11_share yX11_share ∈ gtbl := in_ch4_2 (List.mem_of_getElem? (i := 15) rfl) rfl
set_option maxRecDepth 20000 in
theorem in_ch4_3 {w : Cond} (h : w ∈ ch4_3) (g : goodWord w = true) : w ∈ gtbl := in_g (tt_4 (by rw [tb_4]; exact List.mem_append_right _ (List.mem_append_right _ (List.mem_append_right _ (List.mem_append_left _ h))))) g
set_option maxRecDepth 20000 in
theorem wco_X11_share : Cond.code yX11_share cX11_share 2 (some .int) ∈ gtbl := in_ch4_3 (List.mem_of_getElem? (i := 0) rfl) rfl
set_option maxRecDepth 20000 in
theorem wm_X11_216 : Cond.methodLink RX11 216 yX6_placesNearTo ∈ gtbl := in_ch4_3 (List.mem_of_getElem? (i := 1) rfl) rfl
set_option maxRecDepth 20000 in
theorem wi_X6_placesNearTo : Cond.instanceMethod yX6_placesNearTo ∈ gtbl := in_ch4_3 (List.mem_of_getElem? (i := 2) rfl) rfl
set_option maxRecDepth 20000 in
theorem wsl_X6_placesNearTo : Cond.selects RX6 yX6_placesNearTo yX6_placesNearTo ∈ gtbl := in_ch4_3 (List.mem_of_getElem? (i := 3) rfl) rfl
set_option maxRecDepth 20000 in
theorem wco_X6_placesNearTo : Cond.code yX6_placesNearTo cX6_placesNearTo 5 (some .int) ∈ gtbl := in_ch4_3 (List.mem_of_getElem? (i := 4) rfl) rfl
set_option maxRecDepth 20000 in
theorem wm_X6_97 : Cond.methodLink RX6 97 yX6_webNearTo ∈ gtbl := in_ch4_3 (List.mem_of_getElem? (i := 5) rfl) rfl
set_option maxRecDepth 20000 in
theorem wm_L_83 : Cond.methodLink RL 83 yX11_log ∈ gtbl := in_ch4_3 (List.mem_of_getElem? (i := 6) rfl) rfl
set_option maxRecDepth 20000 in
theorem wi_X11_log : Cond.instanceMethod yX11_log ∈ gtbl := in_ch4_3 (List.mem_of_getElem? (i := 7) rfl) rfl
set_option maxRecDepth 20000 in
theorem wsl_X11_log : Cond.selects RX11 yX11_log yX11_log ∈ gtbl := in_ch4_3 (List.mem_of_getElem? (i := 8) rfl) rfl
set_option maxRecDepth 20000 in
theorem wco_X11_log : Cond.code yX11_log cX11_log 5 (some .int) ∈ gtbl := in_ch4_3 (List.mem_of_getElem? (i := 9) rfl) rfl
set_option maxRecDepth 20000 in
theorem wm_X11_219 : Cond.methodLink RX11 219 yX5_read ∈ gtbl := in_ch4_3 (List.mem_of_getElem? (i := 10) rfl) rfl
set_option maxRecDepth 20000 in
theorem wi_X5_read : Cond.instanceMethod yX5_read ∈ gtbl := in_ch4_3 (List.mem_of_getElem? (i := 11) rfl) rfl
set_option maxRecDepth 20000 in
theorem wsl_X5_read : Cond.selects RX5 yX5_read yX5_read ∈ gtbl := in_ch4_3 (List.mem_of_getElem? (i := 12) rfl) rfl
set_option maxRecDepth 20000 in
theorem wco_X5_read : Cond.code yX5_read cX5_read 3 (some .int) ∈ gtbl := in_ch4_3 (List.mem_of_getElem? (i := 13) rfl) rfl
set_option maxRecDepth 20000 in
theorem wm_X5_26 : Cond.methodLink RX5 26 yX9_take ∈ gtbl := in_ch4_3 (List.mem_of_getElem? (i := 14) rfl) rfl
set_option maxRecDepth 20000 in
theorem wm_X5_30 : Cond.methodLink RX5 30 yX5_row ∈ gtbl := in_ch4_3 (List.mem_of_getElem? (i := 15) rfl) rfl
set_option maxRecDepth 20000 in
theorem in_ch4_4 {w : Cond} (h : w ∈ ch4_4) (g : goodWord w = true) : w ∈ gtbl := in_g (tt_4 (by rw [tb_4]; exact List.mem_append_right _ (List.mem_append_right _ (List.mem_append_right _ (List.mem_append_right _ (List.mem_append_left _ h)))))) g
set_option maxRecDepth 20000 in
theorem wi_X5_row : Cond.instanceMethod yX5_row ∈ gtbl := in_ch4_4 (List.mem_of_getElem? (i := 1) rfl) rfl
set_option maxRecDepth 20000 in
theorem wco_X5_row : Cond.code yX5_row cX5_row 4 (some .boolean) ∈ gtbl := in_ch4_4 (List.mem_of_getElem? (i := 2) rfl) rfl
set_option maxRecDepth 20000 in
theorem wm_X5_37 : Cond.methodLink RX5 37 yX9_peek ∈ gtbl := in_ch4_4 (List.mem_of_getElem? (i := 3) rfl) rfl
set_option maxRecDepth 20000 in
theorem wm_X5_41 : Cond.methodLink RX5 41 yX5_innerRow ∈ gtbl := in_ch4_4 (List.mem_of_getElem? (i := 4) rfl) rfl
set_option maxRecDepth 20000 in
theorem wi_X5_innerRow : Cond.instanceMethod yX5_innerRow ∈ gtbl := in_ch4_4 (List.mem_of_getElem? (i := 6) rfl) rfl
set_option maxRecDepth 20000 in
theorem wco_X5_innerRow : Cond.code yX5_innerRow cX5_innerRow 6 (some .boolean) ∈ gtbl := in_ch4_4 (List.mem_of_getElem? (i := 7) rfl) rfl
set_option maxRecDepth 20000 in
theorem wm_X5_48 : Cond.methodLink RX5 48 yX9_fail ∈ gtbl := in_ch4_4 (List.mem_of_getElem? (i := 8) rfl) rfl
set_option maxRecDepth 20000 in
theorem wm_X5_55 : Cond.methodLink RX5 55 yX9_step ∈ gtbl := in_ch4_4 (List.mem_of_getElem? (i := 9) rfl) rfl
set_option maxRecDepth 20000 in
theorem wm_X5_61 : Cond.methodLink RX5 61 yX9_stepOver ∈ gtbl := in_ch4_4 (List.mem_of_getElem? (i := 10) rfl) rfl
set_option maxRecDepth 20000 in
theorem wm_X5_51 : Cond.methodLink RX5 51 yX9_isAt ∈ gtbl := in_ch4_4 (List.mem_of_getElem? (i := 11) rfl) rfl
set_option maxRecDepth 20000 in
theorem wm_X5_64 : Cond.methodLink RX5 64 yX9_failAt ∈ gtbl := in_ch4_4 (List.mem_of_getElem? (i := 12) rfl) rfl
set_option maxRecDepth 20000 in
theorem wm_X5_67 : Cond.methodLink RX5 67 yX5_repeat ∈ gtbl := in_ch4_4 (List.mem_of_getElem? (i := 13) rfl) rfl
set_option maxRecDepth 20000 in
theorem wi_X5_repeat : Cond.instanceMethod yX5_repeat ∈ gtbl := in_ch4_4 (List.mem_of_getElem? (i := 15) rfl) rfl
set_option maxRecDepth 20000 in
theorem in_ch4_5 {w : Cond} (h : w ∈ ch4_5) (g : goodWord w = true) : w ∈ gtbl := in_g (tt_4 (by rw [tb_4]; exact List.mem_append_right _ (List.mem_append_right _ (List.mem_append_right _ (List.mem_append_right _ (List.mem_append_right _ (List.mem_append_left _ h))))))) g
set_option maxRecDepth 20000 in
theorem wco_X5_repeat : Cond.code yX5_repeat cX5_repeat 4 none ∈ gtbl := in_ch4_5 (List.mem_of_getElem? (i := 0) rfl) rfl
set_option maxRecDepth 20000 in
theorem wm_X5_44 : Cond.methodLink RX5 44 yX5_spoke ∈ gtbl := in_ch4_5 (List.mem_of_getElem? (i := 2) rfl) rfl
set_option maxRecDepth 20000 in
theorem wi_X5_spoke : Cond.instanceMethod yX5_spoke ∈ gtbl := in_ch4_5 (List.mem_of_getElem? (i := 4) rfl) rfl
set_option maxRecDepth 20000 in
theorem wco_X5_spoke : Cond.code yX5_spoke cX5_spoke 1 (some .boolean) ∈ gtbl := in_ch4_5 (List.mem_of_getElem? (i := 5) rfl) rfl
set_option maxRecDepth 20000 in
theorem wm_X11_222 : Cond.methodLink RX11 222 yX5_answer ∈ gtbl := in_ch4_5 (List.mem_of_getElem? (i := 6) rfl) rfl
set_option maxRecDepth 20000 in
theorem wi_X5_answer : Cond.instanceMethod yX5_answer ∈ gtbl := in_ch4_5 (List.mem_of_getElem? (i := 7) rfl) rfl
set_option maxRecDepth 20000 in
theorem wsl_X5_answer : Cond.selects RX5 yX5_answer yX5_answer ∈ gtbl := in_ch4_5 (List.mem_of_getElem? (i := 8) rfl) rfl
set_option maxRecDepth 20000 in
theorem wco_X5_answer : Cond.code yX5_answer cX5_answer 2 (some .int) ∈ gtbl := in_ch4_5 (List.mem_of_getElem? (i := 9) rfl) rfl
set_option maxRecDepth 20000 in
theorem wm_X5_75 : Cond.methodLink RX5 75 yX5_commonest ∈ gtbl := in_ch4_5 (List.mem_of_getElem? (i := 10) rfl) rfl
set_option maxRecDepth 20000 in
theorem wi_X5_commonest : Cond.instanceMethod yX5_commonest ∈ gtbl := in_ch4_5 (List.mem_of_getElem? (i := 12) rfl) rfl
set_option maxRecDepth 20000 in
theorem wco_X5_commonest : Cond.code yX5_commonest cX5_commonest 3 (some .int) ∈ gtbl := in_ch4_5 (List.mem_of_getElem? (i := 13) rfl) rfl
set_option maxRecDepth 20000 in
theorem wm_X5_87 : Cond.methodLink RX5 87 yX5_timesOf ∈ gtbl := in_ch4_5 (List.mem_of_getElem? (i := 14) rfl) rfl
set_option maxRecDepth 20000 in
theorem in_ch4_6 {w : Cond} (h : w ∈ ch4_6) (g : goodWord w = true) : w ∈ gtbl := in_g (tt_4 (by rw [tb_4]; exact List.mem_append_right _ (List.mem_append_right _ (List.mem_append_right _ (List.mem_append_right _ (List.mem_append_right _ (List.mem_append_right _ (List.mem_append_left _ h)))))))) g
set_option maxRecDepth 20000 in
theorem wi_X5_timesOf : Cond.instanceMethod yX5_timesOf ∈ gtbl := in_ch4_6 (List.mem_of_getElem? (i := 0) rfl) rfl
set_option maxRecDepth 20000 in
theorem wco_X5_timesOf : Cond.code yX5_timesOf cX5_timesOf 4 (some .int) ∈ gtbl := in_ch4_6 (List.mem_of_getElem? (i := 1) rfl) rfl
set_option maxRecDepth 20000 in
theorem wm_X5_78 : Cond.methodLink RX5 78 yX5_longestRow ∈ gtbl := in_ch4_6 (List.mem_of_getElem? (i := 2) rfl) rfl
set_option maxRecDepth 20000 in
theorem wi_X5_longestRow : Cond.instanceMethod yX5_longestRow ∈ gtbl := in_ch4_6 (List.mem_of_getElem? (i := 4) rfl) rfl
set_option maxRecDepth 20000 in
theorem wco_X5_longestRow : Cond.code yX5_longestRow cX5_longestRow 4 (some .int) ∈ gtbl := in_ch4_6 (List.mem_of_getElem? (i := 5) rfl) rfl
set_option maxRecDepth 20000 in
theorem wm_X5_91 : Cond.methodLink RX5 91 Lib.Math.max.name ∈ gtbl := in_ch4_6 (List.mem_of_getElem? (i := 6) rfl) rfl
set_option maxRecDepth 20000 in
theorem wm_X5_81 : Cond.methodLink RX5 81 yX5_turns ∈ gtbl := in_ch4_6 (List.mem_of_getElem? (i := 7) rfl) rfl
set_option maxRecDepth 20000 in
theorem wi_X5_turns : Cond.instanceMethod yX5_turns ∈ gtbl := in_ch4_6 (List.mem_of_getElem? (i := 9) rfl) rfl
set_option maxRecDepth 20000 in
theorem wco_X5_turns : Cond.code yX5_turns cX5_turns 4 (some .int) ∈ gtbl := in_ch4_6 (List.mem_of_getElem? (i := 10) rfl) rfl
set_option maxRecDepth 20000 in
theorem wm_X5_84 : Cond.methodLink RX5 84 yX5_period ∈ gtbl := in_ch4_6 (List.mem_of_getElem? (i := 11) rfl) rfl
set_option maxRecDepth 20000 in
theorem wi_X5_period : Cond.instanceMethod yX5_period ∈ gtbl := in_ch4_6 (List.mem_of_getElem? (i := 13) rfl) rfl
set_option maxRecDepth 20000 in
theorem wco_X5_period : Cond.code yX5_period cX5_period 2 (some .int) ∈ gtbl := in_ch4_6 (List.mem_of_getElem? (i := 14) rfl) rfl
set_option maxRecDepth 20000 in
theorem wm_X5_97 : Cond.methodLink RX5 97 yX5_goesOnBy ∈ gtbl := in_ch4_6 (List.mem_of_getElem? (i := 15) rfl) rfl
set_option maxRecDepth 20000 in
theorem in_ch4_7 {w : Cond} (h : w ∈ ch4_7) (g : goodWord w = true) : w ∈ gtbl := in_g (tt_4 (by rw [tb_4]; exact List.mem_append_right _ (List.mem_append_right _ (List.mem_append_right _ (List.mem_append_right _ (List.mem_append_right _ (List.mem_append_right _ (List.mem_append_right _ (List.mem_append_left _ h))))))))) g
set_option maxRecDepth 20000 in
theorem wi_X5_goesOnBy : Cond.instanceMethod yX5_goesOnBy ∈ gtbl := in_ch4_7 (List.mem_of_getElem? (i := 1) rfl) rfl
set_option maxRecDepth 20000 in
theorem wco_X5_goesOnBy : Cond.code yX5_goesOnBy cX5_goesOnBy 3 (some .boolean) ∈ gtbl := in_ch4_7 (List.mem_of_getElem? (i := 2) rfl) rfl
set_option maxRecDepth 20000 in
theorem wm_L_87 : Cond.methodLink RL 87 yX11_inCommon ∈ gtbl := in_ch4_7 (List.mem_of_getElem? (i := 3) rfl) rfl
set_option maxRecDepth 20000 in
theorem wi_X11_inCommon : Cond.instanceMethod yX11_inCommon ∈ gtbl := in_ch4_7 (List.mem_of_getElem? (i := 4) rfl) rfl
set_option maxRecDepth 20000 in
theorem wsl_X11_inCommon : Cond.selects RX11 yX11_inCommon yX11_inCommon ∈ gtbl := in_ch4_7 (List.mem_of_getElem? (i := 5) rfl) rfl
set_option maxRecDepth 20000 in
theorem wco_X11_inCommon : Cond.code yX11_inCommon cX11_inCommon 4 (some .int) ∈ gtbl := in_ch4_7 (List.mem_of_getElem? (i := 6) rfl) rfl
set_option maxRecDepth 20000 in
theorem wm_X11_225 : Cond.methodLink RX11 225 yX2_commonBytes ∈ gtbl := in_ch4_7 (List.mem_of_getElem? (i := 7) rfl) rfl
set_option maxRecDepth 20000 in
theorem wi_X2_commonBytes : Cond.instanceMethod yX2_commonBytes ∈ gtbl := in_ch4_7 (List.mem_of_getElem? (i := 8) rfl) rfl
set_option maxRecDepth 20000 in
theorem wsl_X2_commonBytes : Cond.selects RX2 yX2_commonBytes yX2_commonBytes ∈ gtbl := in_ch4_7 (List.mem_of_getElem? (i := 9) rfl) rfl
set_option maxRecDepth 20000 in
theorem wco_X2_commonBytes : Cond.code yX2_commonBytes cX2_commonBytes 10 (some .int) ∈ gtbl := in_ch4_7 (List.mem_of_getElem? (i := 10) rfl) rfl
set_option maxRecDepth 20000 in
theorem wm_X2_31 : Cond.methodLink RX2 31 Lib.Math.min.name ∈ gtbl := in_ch4_7 (List.mem_of_getElem? (i := 11) rfl) rfl
set_option maxRecDepth 20000 in
theorem wm_X2_37 : Cond.methodLink RX2 37 yX8_at ∈ gtbl := in_ch4_7 (List.mem_of_getElem? (i := 12) rfl) rfl
set_option maxRecDepth 20000 in
theorem wm_X2_43 : Cond.methodLink RX2 43 Lib.Math.max.name ∈ gtbl := in_ch4_7 (List.mem_of_getElem? (i := 13) rfl) rfl
set_option maxRecDepth 20000 in
theorem wm_L_91 : Cond.methodLink RL 91 yX11_code ∈ gtbl := in_ch4_7 (List.mem_of_getElem? (i := 14) rfl) rfl
set_option maxRecDepth 20000 in
theorem wi_X11_code : Cond.instanceMethod yX11_code ∈ gtbl := in_ch4_7 (List.mem_of_getElem? (i := 15) rfl) rfl
set_option maxRecDepth 20000 in
theorem in_ch4_8 {w : Cond} (h : w ∈ ch4_8) (g : goodWord w = true) : w ∈ gtbl := in_g (tt_4 (by rw [tb_4]; exact List.mem_append_right _ (List.mem_append_right _ (List.mem_append_right _ (List.mem_append_right _ (List.mem_append_right _ (List.mem_append_right _ (List.mem_append_right _ (List.mem_append_right _ (List.mem_append_left _ h)))))))))) g
set_option maxRecDepth 20000 in
theorem wsl_X11_code : Cond.selects RX11 yX11_code yX11_code ∈ gtbl := in_ch4_8 (List.mem_of_getElem? (i := 0) rfl) rfl
set_option maxRecDepth 20000 in
theorem wco_X11_code : Cond.code yX11_code cX11_code 4 (some .int) ∈ gtbl := in_ch4_8 (List.mem_of_getElem? (i := 1) rfl) rfl
set_option maxRecDepth 20000 in
theorem wm_X11_229 : Cond.methodLink RX11 229 yX2_shortestCode ∈ gtbl := in_ch4_8 (List.mem_of_getElem? (i := 2) rfl) rfl
set_option maxRecDepth 20000 in
theorem wi_X2_shortestCode : Cond.instanceMethod yX2_shortestCode ∈ gtbl := in_ch4_8 (List.mem_of_getElem? (i := 3) rfl) rfl
set_option maxRecDepth 20000 in
theorem wsl_X2_shortestCode : Cond.selects RX2 yX2_shortestCode yX2_shortestCode ∈ gtbl := in_ch4_8 (List.mem_of_getElem? (i := 4) rfl) rfl
set_option maxRecDepth 20000 in
theorem wco_X2_shortestCode : Cond.code yX2_shortestCode cX2_shortestCode 9 (some .int) ∈ gtbl := in_ch4_8 (List.mem_of_getElem? (i := 5) rfl) rfl
set_option maxRecDepth 20000 in
theorem wm_X2_46 : Cond.methodLink RX2 46 yX2_takeRarest ∈ gtbl := in_ch4_8 (List.mem_of_getElem? (i := 6) rfl) rfl
set_option maxRecDepth 20000 in
theorem wi_X2_takeRarest : Cond.instanceMethod yX2_takeRarest ∈ gtbl := in_ch4_8 (List.mem_of_getElem? (i := 8) rfl) rfl
set_option maxRecDepth 20000 in
theorem wco_X2_takeRarest : Cond.code yX2_takeRarest cX2_takeRarest 4 (some .int) ∈ gtbl := in_ch4_8 (List.mem_of_getElem? (i := 9) rfl) rfl
set_option maxRecDepth 20000 in
theorem wm_L_95 : Cond.methodLink RL 95 yX11_crawls ∈ gtbl := in_ch4_8 (List.mem_of_getElem? (i := 10) rfl) rfl
set_option maxRecDepth 20000 in
theorem wi_X11_crawls : Cond.instanceMethod yX11_crawls ∈ gtbl := in_ch4_8 (List.mem_of_getElem? (i := 11) rfl) rfl
set_option maxRecDepth 20000 in
theorem wsl_X11_crawls : Cond.selects RX11 yX11_crawls yX11_crawls ∈ gtbl := in_ch4_8 (List.mem_of_getElem? (i := 12) rfl) rfl
set_option maxRecDepth 20000 in
theorem wco_X11_crawls : Cond.code yX11_crawls cX11_crawls 5 (some .int) ∈ gtbl := in_ch4_8 (List.mem_of_getElem? (i := 13) rfl) rfl
set_option maxRecDepth 20000 in
theorem wm_X11_232 : Cond.methodLink RX11 232 yX10_threadsTo ∈ gtbl := in_ch4_8 (List.mem_of_getElem? (i := 14) rfl) rfl
set_option maxRecDepth 20000 in
theorem wi_X10_threadsTo : Cond.instanceMethod yX10_threadsTo ∈ gtbl := in_ch4_8 (List.mem_of_getElem? (i := 15) rfl) rfl
set_option maxRecDepth 20000 in
theorem in_ch4_9 {w : Cond} (h : w ∈ ch4_9) (g : goodWord w = true) : w ∈ gtbl := in_g (tt_4 (by rw [tb_4]; exact List.mem_append_right _ (List.mem_append_right _ (List.mem_append_right _ (List.mem_append_right _ (List.mem_append_right _ (List.mem_append_right _ (List.mem_append_right _ (List.mem_append_right _ (List.mem_append_right _ (List.mem_append_left _ h))))))))))) g
set_option maxRecDepth 20000 in
theorem wsl_X10_threadsTo : Cond.selects RX10 yX10_threadsTo yX10_threadsTo ∈ gtbl := in_ch4_9 (List.mem_of_getElem? (i := 0) rfl) rfl
set_option maxRecDepth 20000 in
theorem wco_X10_threadsTo : Cond.code yX10_threadsTo cX10_threadsTo 6 (some .int) ∈ gtbl := in_ch4_9 (List.mem_of_getElem? (i := 1) rfl) rfl
set_option maxRecDepth 20000 in
theorem wm_X10_22 : Cond.methodLink RX10 22 yX10_reach ∈ gtbl := in_ch4_9 (List.mem_of_getElem? (i := 2) rfl) rfl
set_option maxRecDepth 20000 in
theorem wi_X10_reach : Cond.instanceMethod yX10_reach ∈ gtbl := in_ch4_9 (List.mem_of_getElem? (i := 4) rfl) rfl
set_option maxRecDepth 20000 in
theorem wco_X10_reach : Cond.code yX10_reach cX10_reach 3 none ∈ gtbl := in_ch4_9 (List.mem_of_getElem? (i := 5) rfl) rfl
set_option maxRecDepth 20000 in
theorem wm_X10_26 : Cond.methodLink RX10 26 yX10_leaveMiddle ∈ gtbl := in_ch4_9 (List.mem_of_getElem? (i := 7) rfl) rfl
set_option maxRecDepth 20000 in
theorem wi_X10_leaveMiddle : Cond.instanceMethod yX10_leaveMiddle ∈ gtbl := in_ch4_9 (List.mem_of_getElem? (i := 9) rfl) rfl
set_option maxRecDepth 20000 in
theorem wco_X10_leaveMiddle : Cond.code yX10_leaveMiddle cX10_leaveMiddle 3 none ∈ gtbl := in_ch4_9 (List.mem_of_getElem? (i := 10) rfl) rfl
set_option maxRecDepth 20000 in
theorem wm_X10_38 : Cond.methodLink RX10 38 yX10_isTorn ∈ gtbl := in_ch4_9 (List.mem_of_getElem? (i := 11) rfl) rfl
set_option maxRecDepth 20000 in
theorem wst_X10_isTorn : Cond.static yX10_isTorn ∈ gtbl := in_ch4_9 (List.mem_of_getElem? (i := 12) rfl) rfl
set_option maxRecDepth 20000 in
theorem wco_X10_isTorn : Cond.code yX10_isTorn cX10_isTorn 3 (some .boolean) ∈ gtbl := in_ch4_9 (List.mem_of_getElem? (i := 13) rfl) rfl
set_option maxRecDepth 20000 in
theorem wm_X10_42 : Cond.methodLink RX10 42 yX8_at ∈ gtbl := in_ch4_9 (List.mem_of_getElem? (i := 14) rfl) rfl
set_option maxRecDepth 20000 in
theorem wm_X10_30 : Cond.methodLink RX10 30 yX10_leaveKnot ∈ gtbl := in_ch4_9 (List.mem_of_getElem? (i := 15) rfl) rfl
set_option maxRecDepth 20000 in
theorem in_ch4_10 {w : Cond} (h : w ∈ ch4_10) (g : goodWord w = true) : w ∈ gtbl := in_g (tt_4 (by rw [tb_4]; exact List.mem_append_right _ (List.mem_append_right _ (List.mem_append_right _ (List.mem_append_right _ (List.mem_append_right _ (List.mem_append_right _ (List.mem_append_right _ (List.mem_append_right _ (List.mem_append_right _ (List.mem_append_right _ (List.mem_append_left _ h)))))))))))) g
set_option maxRecDepth 20000 in
theorem wi_X10_leaveKnot : Cond.instanceMethod yX10_leaveKnot ∈ gtbl := in_ch4_10 (List.mem_of_getElem? (i := 1) rfl) rfl
set_option maxRecDepth 20000 in
theorem wco_X10_leaveKnot : Cond.code yX10_leaveKnot cX10_leaveKnot 9 none ∈ gtbl := in_ch4_10 (List.mem_of_getElem? (i := 2) rfl) rfl
set_option maxRecDepth 20000 in
theorem wm_X10_34 : Cond.methodLink RX10 34 yX10_wayTo ∈ gtbl := in_ch4_10 (List.mem_of_getElem? (i := 3) rfl) rfl
set_option maxRecDepth 20000 in
theorem wi_X10_wayTo : Cond.instanceMethod yX10_wayTo ∈ gtbl := in_ch4_10 (List.mem_of_getElem? (i := 5) rfl) rfl
set_option maxRecDepth 20000 in
theorem wco_X10_wayTo : Cond.code yX10_wayTo cX10_wayTo 2 (some .int) ∈ gtbl := in_ch4_10 (List.mem_of_getElem? (i := 6) rfl) rfl
set_option maxRecDepth 20000 in
theorem wm_L_99 : Cond.methodLink RL 99 yX11_hangs ∈ gtbl := in_ch4_10 (List.mem_of_getElem? (i := 7) rfl) rfl
set_option maxRecDepth 20000 in
theorem wi_X11_hangs : Cond.instanceMethod yX11_hangs ∈ gtbl := in_ch4_10 (List.mem_of_getElem? (i := 8) rfl) rfl
set_option maxRecDepth 20000 in
theorem wsl_X11_hangs : Cond.selects RX11 yX11_hangs yX11_hangs ∈ gtbl := in_ch4_10 (List.mem_of_getElem? (i := 9) rfl) rfl
set_option maxRecDepth 20000 in
theorem wco_X11_hangs : Cond.code yX11_hangs cX11_hangs 9 (some .long) ∈ gtbl := in_ch4_10 (List.mem_of_getElem? (i := 10) rfl) rfl
set_option maxRecDepth 20000 in
theorem wcn_X11_236 : Cond.constantLong RX11 236 (-1) ∈ gtbl := in_ch4_10 (List.mem_of_getElem? (i := 11) rfl) rfl
set_option maxRecDepth 20000 in
theorem wcn_X11_238 : Cond.constantLong RX11 238 (2) ∈ gtbl := in_ch4_10 (List.mem_of_getElem? (i := 12) rfl) rfl
set_option maxRecDepth 20000 in
theorem wm_L_104 : Cond.methodLink RL 104 yX11_smoothed ∈ gtbl := in_ch4_10 (List.mem_of_getElem? (i := 13) rfl) rfl
set_option maxRecDepth 20000 in
theorem wi_X11_smoothed : Cond.instanceMethod yX11_smoothed ∈ gtbl := in_ch4_10 (List.mem_of_getElem? (i := 14) rfl) rfl
set_option maxRecDepth 20000 in
theorem wsl_X11_smoothed : Cond.selects RX11 yX11_smoothed yX11_smoothed ∈ gtbl := in_ch4_10 (List.mem_of_getElem? (i := 15) rfl) rfl
set_option maxRecDepth 20000 in
theorem in_ch4_11 {w : Cond} (h : w ∈ ch4_11) (g : goodWord w = true) : w ∈ gtbl := in_g (tt_4 (by rw [tb_4]; exact List.mem_append_right _ (List.mem_append_right _ (List.mem_append_right _ (List.mem_append_right _ (List.mem_append_right _ (List.mem_append_right _ (List.mem_append_right _ (List.mem_append_right _ (List.mem_append_right _ (List.mem_append_right _ (List.mem_append_right _ (List.mem_append_left _ h))))))))))))) g
set_option maxRecDepth 20000 in
theorem wco_X11_smoothed : Cond.code yX11_smoothed cX11_smoothed 4 (some .int) ∈ gtbl := in_ch4_11 (List.mem_of_getElem? (i := 0) rfl) rfl
set_option maxRecDepth 20000 in
theorem wm_X11_240 : Cond.methodLink RX11 240 yX2_smooth ∈ gtbl := in_ch4_11 (List.mem_of_getElem? (i := 1) rfl) rfl
set_option maxRecDepth 20000 in
theorem wi_X2_smooth : Cond.instanceMethod yX2_smooth ∈ gtbl := in_ch4_11 (List.mem_of_getElem? (i := 2) rfl) rfl
set_option maxRecDepth 20000 in
theorem wsl_X2_smooth : Cond.selects RX2 yX2_smooth yX2_smooth ∈ gtbl := in_ch4_11 (List.mem_of_getElem? (i := 3) rfl) rfl
set_option maxRecDepth 20000 in
theorem wco_X2_smooth : Cond.code yX2_smooth cX2_smooth 8 (some .int) ∈ gtbl := in_ch4_11 (List.mem_of_getElem? (i := 4) rfl) rfl
set_option maxRecDepth 20000 in
theorem wm_X2_49 : Cond.methodLink RX2 49 yX2_smoothOnce ∈ gtbl := in_ch4_11 (List.mem_of_getElem? (i := 5) rfl) rfl
set_option maxRecDepth 20000 in
theorem wi_X2_smoothOnce : Cond.instanceMethod yX2_smoothOnce ∈ gtbl := in_ch4_11 (List.mem_of_getElem? (i := 7) rfl) rfl
set_option maxRecDepth 20000 in
theorem wco_X2_smoothOnce : Cond.code yX2_smoothOnce cX2_smoothOnce 4 (some .boolean) ∈ gtbl := in_ch4_11 (List.mem_of_getElem? (i := 8) rfl) rfl
set_option maxRecDepth 20000 in
theorem wm_X2_53 : Cond.methodLink RX2 53 yX2_middle ∈ gtbl := in_ch4_11 (List.mem_of_getElem? (i := 9) rfl) rfl
set_option maxRecDepth 20000 in
theorem wst_X2_middle : Cond.static yX2_middle ∈ gtbl := in_ch4_11 (List.mem_of_getElem? (i := 10) rfl) rfl
set_option maxRecDepth 20000 in
theorem wco_X2_middle : Cond.code yX2_middle cX2_middle 3 (some .int) ∈ gtbl := in_ch4_11 (List.mem_of_getElem? (i := 11) rfl) rfl
set_option maxRecDepth 20000 in
theorem wm_L_108 : Cond.methodLink RL 108 yX11_spell ∈ gtbl := in_ch4_11 (List.mem_of_getElem? (i := 12) rfl) rfl
set_option maxRecDepth 20000 in
theorem wi_X11_spell : Cond.instanceMethod yX11_spell ∈ gtbl := in_ch4_11 (List.mem_of_getElem? (i := 13) rfl) rfl
set_option maxRecDepth 20000 in
theorem wsl_X11_spell : Cond.selects RX11 yX11_spell yX11_spell ∈ gtbl := in_ch4_11 (List.mem_of_getElem? (i := 14) rfl) rfl
set_option maxRecDepth 20000 in
theorem wco_X11_spell : Cond.code yX11_spell cX11_spell 4 (some .int) ∈ gtbl := in_ch4_11 (List.mem_of_getElem? (i := 15) rfl) rfl
set_option maxRecDepth 20000 in
theorem in_ch4_12 {w : Cond} (h : w ∈ ch4_12) (g : goodWord w = true) : w ∈ gtbl := in_g (tt_4 (by rw [tb_4]; exact List.mem_append_right _ (List.mem_append_right _ (List.mem_append_right _ (List.mem_append_right _ (List.mem_append_right _ (List.mem_append_right _ (List.mem_append_right _ (List.mem_append_right _ (List.mem_append_right _ (List.mem_append_right _ (List.mem_append_right _ (List.mem_append_right _ (List.mem_append_left _ h)))))))))))))) g
set_option maxRecDepth 20000 in
theorem wcn_X11_243 : Cond.constant RX11 243 (-1000000) ∈ gtbl := in_ch4_12 (List.mem_of_getElem? (i := 0) rfl) rfl
set_option maxRecDepth 20000 in
theorem wm_X11_244 : Cond.methodLink RX11 244 yX2_worstSpell ∈ gtbl := in_ch4_12 (List.mem_of_getElem? (i := 1) rfl) rfl
set_option maxRecDepth 20000 in
theorem wi_X2_worstSpell : Cond.instanceMethod yX2_worstSpell ∈ gtbl := in_ch4_12 (List.mem_of_getElem? (i := 2) rfl) rfl
set_option maxRecDepth 20000 in
theorem wsl_X2_worstSpell : Cond.selects RX2 yX2_worstSpell yX2_worstSpell ∈ gtbl := in_ch4_12 (List.mem_of_getElem? (i := 3) rfl) rfl
set_option maxRecDepth 20000 in
theorem wco_X2_worstSpell : Cond.code yX2_worstSpell cX2_worstSpell 10 (some .int) ∈ gtbl := in_ch4_12 (List.mem_of_getElem? (i := 4) rfl) rfl
set_option maxRecDepth 20000 in
theorem wcn_X2_57 : Cond.constant RX2 57 (-1000000) ∈ gtbl := in_ch4_12 (List.mem_of_getElem? (i := 5) rfl) rfl
set_option maxRecDepth 20000 in
theorem wm_L_112 : Cond.methodLink RL 112 yX11_salutes ∈ gtbl := in_ch4_12 (List.mem_of_getElem? (i := 6) rfl) rfl
set_option maxRecDepth 20000 in
theorem wi_X11_salutes : Cond.instanceMethod yX11_salutes ∈ gtbl := in_ch4_12 (List.mem_of_getElem? (i := 7) rfl) rfl
set_option maxRecDepth 20000 in
theorem wsl_X11_salutes : Cond.selects RX11 yX11_salutes yX11_salutes ∈ gtbl := in_ch4_12 (List.mem_of_getElem? (i := 8) rfl) rfl
set_option maxRecDepth 20000 in
theorem wco_X11_salutes : Cond.code yX11_salutes cX11_salutes 3 (some .int) ∈ gtbl := in_ch4_12 (List.mem_of_getElem? (i := 9) rfl) rfl
set_option maxRecDepth 20000 in
theorem wm_X11_247 : Cond.methodLink RX11 247 yX2_mostSalutes ∈ gtbl := in_ch4_12 (List.mem_of_getElem? (i := 10) rfl) rfl
set_option maxRecDepth 20000 in
theorem wi_X2_mostSalutes : Cond.instanceMethod yX2_mostSalutes ∈ gtbl := in_ch4_12 (List.mem_of_getElem? (i := 11) rfl) rfl
set_option maxRecDepth 20000 in
theorem wsl_X2_mostSalutes : Cond.selects RX2 yX2_mostSalutes yX2_mostSalutes ∈ gtbl := in_ch4_12 (List.mem_of_getElem? (i := 12) rfl) rfl
set_option maxRecDepth 20000 in
theorem wco_X2_mostSalutes : Cond.code yX2_mostSalutes cX2_mostSalutes 7 (some .int) ∈ gtbl := in_ch4_12 (List.mem_of_getElem? (i := 13) rfl) rfl
set_option maxRecDepth 20000 in
theorem wm_X2_58 : Cond.methodLink RX2 58 yX2_firstEnd ∈ gtbl := in_ch4_12 (List.mem_of_getElem? (i := 14) rfl) rfl
set_option maxRecDepth 20000 in
theorem in_ch4_13 {w : Cond} (h : w ∈ ch4_13) (g : goodWord w = true) : w ∈ gtbl := in_g (tt_4 (by rw [tb_4]; exact List.mem_append_right _ (List.mem_append_right _ (List.mem_append_right _ (List.mem_append_right _ (List.mem_append_right _ (List.mem_append_right _ (List.mem_append_right _ (List.mem_append_right _ (List.mem_append_right _ (List.mem_append_right _ (List.mem_append_right _ (List.mem_append_right _ (List.mem_append_right _ (List.mem_append_left _ h))))))))))))))) g
set_option maxRecDepth 20000 in
theorem wi_X2_firstEnd : Cond.instanceMethod yX2_firstEnd ∈ gtbl := in_ch4_13 (List.mem_of_getElem? (i := 0) rfl) rfl
set_option maxRecDepth 20000 in
theorem wco_X2_firstEnd : Cond.code yX2_firstEnd cX2_firstEnd 7 (some .int) ∈ gtbl := in_ch4_13 (List.mem_of_getElem? (i := 1) rfl) rfl
set_option maxRecDepth 20000 in
theorem wm_L_116 : Cond.methodLink RL 116 yX11_rent ∈ gtbl := in_ch4_13 (List.mem_of_getElem? (i := 2) rfl) rfl
set_option maxRecDepth 20000 in
theorem wi_X11_rent : Cond.instanceMethod yX11_rent ∈ gtbl := in_ch4_13 (List.mem_of_getElem? (i := 3) rfl) rfl
set_option maxRecDepth 20000 in
theorem wsl_X11_rent : Cond.selects RX11 yX11_rent yX11_rent ∈ gtbl := in_ch4_13 (List.mem_of_getElem? (i := 4) rfl) rfl
set_option maxRecDepth 20000 in
theorem wco_X11_rent : Cond.code yX11_rent cX11_rent 4 (some .int) ∈ gtbl := in_ch4_13 (List.mem_of_getElem? (i := 5) rfl) rfl
set_option maxRecDepth 20000 in
theorem wm_X11_250 : Cond.methodLink RX11 250 yX2_highestOffer ∈ gtbl := in_ch4_13 (List.mem_of_getElem? (i := 6) rfl) rfl
set_option maxRecDepth 20000 in
theorem wi_X2_highestOffer : Cond.instanceMethod yX2_highestOffer ∈ gtbl := in_ch4_13 (List.mem_of_getElem? (i := 7) rfl) rfl
set_option maxRecDepth 20000 in
theorem wsl_X2_highestOffer : Cond.selects RX2 yX2_highestOffer yX2_highestOffer ∈ gtbl := in_ch4_13 (List.mem_of_getElem? (i := 8) rfl) rfl
set_option maxRecDepth 20000 in
theorem wco_X2_highestOffer : Cond.code yX2_highestOffer cX2_highestOffer 7 (some .int) ∈ gtbl := in_ch4_13 (List.mem_of_getElem? (i := 9) rfl) rfl
set_option maxRecDepth 20000 in
theorem wm_L_120 : Cond.methodLink RL 120 yX11_seed ∈ gtbl := in_ch4_13 (List.mem_of_getElem? (i := 10) rfl) rfl
set_option maxRecDepth 20000 in
theorem wi_X11_seed : Cond.instanceMethod yX11_seed ∈ gtbl := in_ch4_13 (List.mem_of_getElem? (i := 11) rfl) rfl
set_option maxRecDepth 20000 in
theorem wsl_X11_seed : Cond.selects RX11 yX11_seed yX11_seed ∈ gtbl := in_ch4_13 (List.mem_of_getElem? (i := 12) rfl) rfl
set_option maxRecDepth 20000 in
theorem wco_X11_seed : Cond.code yX11_seed cX11_seed 2 (some .boolean) ∈ gtbl := in_ch4_13 (List.mem_of_getElem? (i := 13) rfl) rfl
set_option maxRecDepth 20000 in
theorem wcn_X11_253 : Cond.constant RX11 253 (65535) ∈ gtbl := in_ch4_13 (List.mem_of_getElem? (i := 14) rfl) rfl
set_option maxRecDepth 20000 in
theorem wm_L_125 : Cond.methodLink RL 125 yX11_keep ∈ gtbl := in_ch4_13 (List.mem_of_getElem? (i := 15) rfl) rfl
set_option maxRecDepth 20000 in
theorem in_ch4_14 {w : Cond} (h : w ∈ ch4_14) (g : goodWord w = true) : w ∈ gtbl := in_g (tt_4 (by rw [tb_4]; exact List.mem_append_right _ (List.mem_append_right _ (List.mem_append_right _ (List.mem_append_right _ (List.mem_append_right _ (List.mem_append_right _ (List.mem_append_right _ (List.mem_append_right _ (List.mem_append_right _ (List.mem_append_right _ (List.mem_append_right _ (List.mem_append_right _ (List.mem_append_right _ (List.mem_append_right _ (List.mem_append_left _ h)))))))))))))))) g
set_option maxRecDepth 20000 in
theorem wi_X11_keep : Cond.instanceMethod yX11_keep ∈ gtbl := in_ch4_14 (List.mem_of_getElem? (i := 0) rfl) rfl
set_option maxRecDepth 20000 in
theorem wsl_X11_keep : Cond.selects RX11 yX11_keep yX11_keep ∈ gtbl := in_ch4_14 (List.mem_of_getElem? (i := 1) rfl) rfl
set_option maxRecDepth 20000 in
theorem wco_X11_keep : Cond.code yX11_keep cX11_keep 1 (some .int) ∈ gtbl := in_ch4_14 (List.mem_of_getElem? (i := 2) rfl) rfl
set_option maxRecDepth 20000 in
theorem wm_L_130 : Cond.methodLink RL 130 yX11_undo ∈ gtbl := in_ch4_14 (List.mem_of_getElem? (i := 3) rfl) rfl
set_option maxRecDepth 20000 in
theorem wi_X11_undo : Cond.instanceMethod yX11_undo ∈ gtbl := in_ch4_14 (List.mem_of_getElem? (i := 4) rfl) rfl
set_option maxRecDepth 20000 in
theorem wsl_X11_undo : Cond.selects RX11 yX11_undo yX11_undo ∈ gtbl := in_ch4_14 (List.mem_of_getElem? (i := 5) rfl) rfl
set_option maxRecDepth 20000 in
theorem wco_X11_undo : Cond.code yX11_undo cX11_undo 1 (some .boolean) ∈ gtbl := in_ch4_14 (List.mem_of_getElem? (i := 6) rfl) rfl
set_option maxRecDepth 20000 in
theorem wm_X11_254 : Cond.methodLink RX11 254 yX7_takeBack ∈ gtbl := in_ch4_14 (List.mem_of_getElem? (i := 7) rfl) rfl
set_option maxRecDepth 20000 in
theorem wi_X7_takeBack : Cond.instanceMethod yX7_takeBack ∈ gtbl := in_ch4_14 (List.mem_of_getElem? (i := 8) rfl) rfl
set_option maxRecDepth 20000 in
theorem wsl_X7_takeBack : Cond.selects RX7 yX7_takeBack yX7_takeBack ∈ gtbl := in_ch4_14 (List.mem_of_getElem? (i := 9) rfl) rfl
set_option maxRecDepth 20000 in
theorem wco_X7_takeBack : Cond.code yX7_takeBack cX7_takeBack 3 none ∈ gtbl := in_ch4_14 (List.mem_of_getElem? (i := 10) rfl) rfl
set_option maxRecDepth 20000 in
theorem wm_L_135 : Cond.methodLink RL 135 yX11_check ∈ gtbl := in_ch4_14 (List.mem_of_getElem? (i := 11) rfl) rfl
set_option maxRecDepth 20000 in
theorem wi_X11_check : Cond.instanceMethod yX11_check ∈ gtbl := in_ch4_14 (List.mem_of_getElem? (i := 12) rfl) rfl
set_option maxRecDepth 20000 in
theorem wsl_X11_check : Cond.selects RX11 yX11_check yX11_check ∈ gtbl := in_ch4_14 (List.mem_of_getElem? (i := 13) rfl) rfl
set_option maxRecDepth 20000 in
theorem wco_X11_check : Cond.code yX11_check cX11_check 5 (some .int) ∈ gtbl := in_ch4_14 (List.mem_of_getElem? (i := 14) rfl) rfl
set_option maxRecDepth 20000 in
theorem wm_X11_257 : Cond.methodLink RX11 257 yX7_slackSpokes ∈ gtbl := in_ch4_14 (List.mem_of_getElem? (i := 15) rfl) rfl
set_option maxRecDepth 20000 in
theorem tt_5 {w : Cond} (h : w ∈ tables_1_5) : w ∈ lw_tbl := List.mem_append_right _ (List.mem_append_right _ (List.mem_append_right _ (List.mem_append_right _ (List.mem_append_right _ (List.mem_append_left _ (h))))))
set_option maxRecDepth 20000 in
theorem in_ch5_0 {w : Cond} (h : w ∈ ch5_0) (g : goodWord w = true) : w ∈ gtbl := in_g (tt_5 (by rw [tb_5]; exact List.mem_append_left _ h)) g
set_option maxRecDepth 20000 in
theorem wm_X11_260 : Cond.methodLink RX11 260 yX8_at ∈ gtbl := in_ch5_0 (List.mem_of_getElem? (i := 0) rfl) rfl
set_option maxRecDepth 20000 in
theorem wm_L_139 : Cond.methodLink RL 139 yX11_count ∈ gtbl := in_ch5_0 (List.mem_of_getElem? (i := 1) rfl) rfl
set_option maxRecDepth 20000 in
theorem wi_X11_count : Cond.instanceMethod yX11_count ∈ gtbl := in_ch5_0 (List.mem_of_getElem? (i := 2) rfl) rfl
set_option maxRecDepth 20000 in
theorem wsl_X11_count : Cond.selects RX11 yX11_count yX11_count ∈ gtbl := in_ch5_0 (List.mem_of_getElem? (i := 3) rfl) rfl
set_option maxRecDepth 20000 in
theorem wco_X11_count : Cond.code yX11_count cX11_count 2 (some .int) ∈ gtbl := in_ch5_0 (List.mem_of_getElem? (i := 4) rfl) rfl
set_option maxRecDepth 20000 in
theorem wm_X11_269 : Cond.methodLink RX11 269 yX3_size ∈ gtbl := in_ch5_0 (List.mem_of_getElem? (i := 5) rfl) rfl
set_option maxRecDepth 20000 in
theorem wm_X11_270 : Cond.methodLink RX11 270 yX7_allTensions ∈ gtbl := in_ch5_0 (List.mem_of_getElem? (i := 6) rfl) rfl
set_option maxRecDepth 20000 in
theorem wi_X7_allTensions : Cond.instanceMethod yX7_allTensions ∈ gtbl := in_ch5_0 (List.mem_of_getElem? (i := 7) rfl) rfl
set_option maxRecDepth 20000 in
theorem wsl_X7_allTensions : Cond.selects RX7 yX7_allTensions yX7_allTensions ∈ gtbl := in_ch5_0 (List.mem_of_getElem? (i := 8) rfl) rfl
set_option maxRecDepth 20000 in
theorem wco_X7_allTensions : Cond.code yX7_allTensions cX7_allTensions 3 (some .int) ∈ gtbl := in_ch5_0 (List.mem_of_getElem? (i := 9) rfl) rfl
set_option maxRecDepth 20000 in
theorem wm_X7_81 : Cond.methodLink RX7 81 yX7_tensionsOf ∈ gtbl := in_ch5_0 (List.mem_of_getElem? (i := 10) rfl) rfl
set_option maxRecDepth 20000 in
theorem wcl_L_10 : Cond.classLink RL 10 RX12 ∈ gtbl := in_ch5_0 (List.mem_of_getElem? (i := 11) rfl) rfl
set_option maxRecDepth 20000 in
theorem wins_X12 : Cond.instantiable RX12 57 ∈ gtbl := in_ch5_0 (List.mem_of_getElem? (i := 12) rfl) rfl
set_option maxRecDepth 20000 in
theorem wm_L_12 : Cond.methodLink RL 12 yX12_init ∈ gtbl := in_ch5_0 (List.mem_of_getElem? (i := 13) rfl) rfl
set_option maxRecDepth 20000 in
theorem wi_X12_init : Cond.instanceMethod yX12_init ∈ gtbl := in_ch5_0 (List.mem_of_getElem? (i := 14) rfl) rfl
set_option maxRecDepth 20000 in
theorem wco_X12_init : Cond.code yX12_init cX12_init 1 none ∈ gtbl := in_ch5_0 (List.mem_of_getElem? (i := 15) rfl) rfl
set_option maxRecDepth 20000 in
theorem in_ch5_1 {w : Cond} (h : w ∈ ch5_1) (g : goodWord w = true) : w ∈ gtbl := in_g (tt_5 (by rw [tb_5]; exact List.mem_append_right _ (List.mem_append_left _ h))) g
set_option maxRecDepth 20000 in
theorem wm_X12_1 : Cond.methodLink RX12 1 objectInit ∈ gtbl := in_ch5_1 (List.mem_of_getElem? (i := 0) rfl) rfl
set_option maxRecDepth 20000 in
theorem wf_X12_7 : Cond.fieldLink RX12 7 "DraughtWebsModel" "now" "[I" ∈ gtbl := in_ch5_1 (List.mem_of_getElem? (i := 1) rfl) rfl
set_option maxRecDepth 20000 in
theorem wf_X12_13 : Cond.fieldLink RX12 13 "DraughtWebsModel" "aside" "[I" ∈ gtbl := in_ch5_1 (List.mem_of_getElem? (i := 2) rfl) rfl
set_option maxRecDepth 20000 in
theorem wf_X12_16 : Cond.fieldLink RX12 16 "DraughtWebsModel" "kept" "[I" ∈ gtbl := in_ch5_1 (List.mem_of_getElem? (i := 3) rfl) rfl
set_option maxRecDepth 20000 in
theorem wf_X12_19 : Cond.fieldLink RX12 19 "DraughtWebsModel" "webAt" "[I" ∈ gtbl := in_ch5_1 (List.mem_of_getElem? (i := 4) rfl) rfl
set_option maxRecDepth 20000 in
theorem wf_X12_22 : Cond.fieldLink RX12 22 "DraughtWebsModel" "forceOf" "[I" ∈ gtbl := in_ch5_1 (List.mem_of_getElem? (i := 5) rfl) rfl
set_option maxRecDepth 20000 in
theorem wf_X12_114 : Cond.fieldLink RX12 114 "DraughtWebsModel" "webs" "I" ∈ gtbl := in_ch5_1 (List.mem_of_getElem? (i := 6) rfl) rfl
set_option maxRecDepth 20000 in
theorem wf_X12_122 : Cond.fieldLink RX12 122 "DraughtWebsModel" "fleets" "I" ∈ gtbl := in_ch5_1 (List.mem_of_getElem? (i := 7) rfl) rfl
set_option maxRecDepth 20000 in
theorem wf_X12_25 : Cond.fieldLink RX12 25 "DraughtWebsModel" "tape" "[B" ∈ gtbl := in_ch5_1 (List.mem_of_getElem? (i := 8) rfl) rfl
set_option maxRecDepth 20000 in
theorem wf_X12_143 : Cond.fieldLink RX12 143 "DraughtWebsModel" "taped" "I" ∈ gtbl := in_ch5_1 (List.mem_of_getElem? (i := 9) rfl) rfl
set_option maxRecDepth 20000 in
theorem wf_X12_150 : Cond.fieldLink RX12 150 "DraughtWebsModel" "place0" "I" ∈ gtbl := in_ch5_1 (List.mem_of_getElem? (i := 10) rfl) rfl
set_option maxRecDepth 20000 in
theorem wf_X12_153 : Cond.fieldLink RX12 153 "DraughtWebsModel" "length0" "I" ∈ gtbl := in_ch5_1 (List.mem_of_getElem? (i := 11) rfl) rfl
set_option maxRecDepth 20000 in
theorem wf_X12_160 : Cond.fieldLink RX12 160 "DraughtWebsModel" "fault" "I" ∈ gtbl := in_ch5_1 (List.mem_of_getElem? (i := 12) rfl) rfl
set_option maxRecDepth 20000 in
theorem wf_X12_166 : Cond.fieldLink RX12 166 "DraughtWebsModel" "number0" "I" ∈ gtbl := in_ch5_1 (List.mem_of_getElem? (i := 13) rfl) rfl
set_option maxRecDepth 20000 in
theorem wf_X12_177 : Cond.fieldLink RX12 177 "DraughtWebsModel" "open" "I" ∈ gtbl := in_ch5_1 (List.mem_of_getElem? (i := 14) rfl) rfl
set_option maxRecDepth 20000 in
theorem wf_X12_173 : Cond.fieldLink RX12 173 "DraughtWebsModel" "codeMany" "I" ∈ gtbl := in_ch5_1 (List.mem_of_getElem? (i := 15) rfl) rfl
set_option maxRecDepth 20000 in
theorem in_ch5_2 {w : Cond} (h : w ∈ ch5_2) (g : goodWord w = true) : w ∈ gtbl := in_g (tt_5 (by rw [tb_5]; exact List.mem_append_right _ (List.mem_append_right _ (List.mem_append_left _ h)))) g
set_option maxRecDepth 20000 in
theorem wf_X12_180 : Cond.fieldLink RX12 180 "DraughtWebsModel" "waiting" "I" ∈ gtbl := in_ch5_2 (List.mem_of_getElem? (i := 0) rfl) rfl
set_option maxRecDepth 20000 in
theorem wf_X12_227 : Cond.fieldLink RX12 227 "DraughtWebsModel" "saidMany" "I" ∈ gtbl := in_ch5_2 (List.mem_of_getElem? (i := 1) rfl) rfl
set_option maxRecDepth 20000 in
theorem wf_X12_242 : Cond.fieldLink RX12 242 "DraughtWebsModel" "clauses" "I" ∈ gtbl := in_ch5_2 (List.mem_of_getElem? (i := 2) rfl) rfl
set_option maxRecDepth 20000 in
theorem wf_X12_29 : Cond.fieldLink RX12 29 "DraughtWebsModel" "said" "[I" ∈ gtbl := in_ch5_2 (List.mem_of_getElem? (i := 3) rfl) rfl
set_option maxRecDepth 20000 in
theorem wf_X12_32 : Cond.fieldLink RX12 32 "DraughtWebsModel" "waitsAt" "[I" ∈ gtbl := in_ch5_2 (List.mem_of_getElem? (i := 4) rfl) rfl
set_option maxRecDepth 20000 in
theorem wf_X12_35 : Cond.fieldLink RX12 35 "DraughtWebsModel" "saidLetter" "[I" ∈ gtbl := in_ch5_2 (List.mem_of_getElem? (i := 5) rfl) rfl
set_option maxRecDepth 20000 in
theorem wf_X12_38 : Cond.fieldLink RX12 38 "DraughtWebsModel" "saidFrom" "[I" ∈ gtbl := in_ch5_2 (List.mem_of_getElem? (i := 6) rfl) rfl
set_option maxRecDepth 20000 in
theorem wf_X12_41 : Cond.fieldLink RX12 41 "DraughtWebsModel" "saidHalf" "[I" ∈ gtbl := in_ch5_2 (List.mem_of_getElem? (i := 7) rfl) rfl
set_option maxRecDepth 20000 in
theorem wf_X12_44 : Cond.fieldLink RX12 44 "DraughtWebsModel" "saidTo" "[I" ∈ gtbl := in_ch5_2 (List.mem_of_getElem? (i := 8) rfl) rfl
set_option maxRecDepth 20000 in
theorem wf_X12_47 : Cond.fieldLink RX12 47 "DraughtWebsModel" "codes" "[I" ∈ gtbl := in_ch5_2 (List.mem_of_getElem? (i := 9) rfl) rfl
set_option maxRecDepth 20000 in
theorem wf_X12_50 : Cond.fieldLink RX12 50 "DraughtWebsModel" "clauseOf" "[I" ∈ gtbl := in_ch5_2 (List.mem_of_getElem? (i := 10) rfl) rfl
set_option maxRecDepth 20000 in
theorem wf_X12_53 : Cond.fieldLink RX12 53 "DraughtWebsModel" "codeFrom" "[I" ∈ gtbl := in_ch5_2 (List.mem_of_getElem? (i := 11) rfl) rfl
set_option maxRecDepth 20000 in
theorem wf_X12_56 : Cond.fieldLink RX12 56 "DraughtWebsModel" "codeHalf" "[I" ∈ gtbl := in_ch5_2 (List.mem_of_getElem? (i := 12) rfl) rfl
set_option maxRecDepth 20000 in
theorem wf_X12_59 : Cond.fieldLink RX12 59 "DraughtWebsModel" "codeTo" "[I" ∈ gtbl := in_ch5_2 (List.mem_of_getElem? (i := 13) rfl) rfl
set_option maxRecDepth 20000 in
theorem wf_X12_62 : Cond.fieldLink RX12 62 "DraughtWebsModel" "stack" "[I" ∈ gtbl := in_ch5_2 (List.mem_of_getElem? (i := 14) rfl) rfl
set_option maxRecDepth 20000 in
theorem wf_X12_65 : Cond.fieldLink RX12 65 "DraughtWebsModel" "facts" "[I" ∈ gtbl := in_ch5_2 (List.mem_of_getElem? (i := 15) rfl) rfl
set_option maxRecDepth 20000 in
theorem in_ch5_3 {w : Cond} (h : w ∈ ch5_3) (g : goodWord w = true) : w ∈ gtbl := in_g (tt_5 (by rw [tb_5]; exact List.mem_append_right _ (List.mem_append_right _ (List.mem_append_right _ (List.mem_append_left _ h))))) g
set_option maxRecDepth 20000 in
theorem wf_X12_68 : Cond.fieldLink RX12 68 "DraughtWebsModel" "newWeb" "[I" ∈ gtbl := in_ch5_3 (List.mem_of_getElem? (i := 0) rfl) rfl
set_option maxRecDepth 20000 in
theorem wf_X12_71 : Cond.fieldLink RX12 71 "DraughtWebsModel" "newPlace" "[I" ∈ gtbl := in_ch5_3 (List.mem_of_getElem? (i := 1) rfl) rfl
set_option maxRecDepth 20000 in
theorem wf_X12_74 : Cond.fieldLink RX12 74 "DraughtWebsModel" "newForce" "[I" ∈ gtbl := in_ch5_3 (List.mem_of_getElem? (i := 2) rfl) rfl
set_option maxRecDepth 20000 in
theorem wf_X12_77 : Cond.fieldLink RX12 77 "DraughtWebsModel" "newCourse" "[I" ∈ gtbl := in_ch5_3 (List.mem_of_getElem? (i := 3) rfl) rfl
set_option maxRecDepth 20000 in
theorem wf_X12_270 : Cond.fieldLink RX12 270 "DraughtWebsModel" "newWebs" "I" ∈ gtbl := in_ch5_3 (List.mem_of_getElem? (i := 4) rfl) rfl
set_option maxRecDepth 20000 in
theorem wf_X12_273 : Cond.fieldLink RX12 273 "DraughtWebsModel" "newFleets" "I" ∈ gtbl := in_ch5_3 (List.mem_of_getElem? (i := 5) rfl) rfl
set_option maxRecDepth 20000 in
theorem wf_X12_267 : Cond.fieldLink RX12 267 "DraughtWebsModel" "lines" "I" ∈ gtbl := in_ch5_3 (List.mem_of_getElem? (i := 6) rfl) rfl
set_option maxRecDepth 20000 in
theorem wf_X12_255 : Cond.fieldLink RX12 255 "DraughtWebsModel" "spot0" "I" ∈ gtbl := in_ch5_3 (List.mem_of_getElem? (i := 7) rfl) rfl
set_option maxRecDepth 20000 in
theorem wf_X12_314 : Cond.fieldLink RX12 314 "DraughtWebsModel" "touchesNow" "I" ∈ gtbl := in_ch5_3 (List.mem_of_getElem? (i := 8) rfl) rfl
set_option maxRecDepth 20000 in
theorem wf_X12_311 : Cond.fieldLink RX12 311 "DraughtWebsModel" "touchedSet" "I" ∈ gtbl := in_ch5_3 (List.mem_of_getElem? (i := 9) rfl) rfl
set_option maxRecDepth 20000 in
theorem wf_X12_80 : Cond.fieldLink RX12 80 "DraughtWebsModel" "logged" "[I" ∈ gtbl := in_ch5_3 (List.mem_of_getElem? (i := 10) rfl) rfl
set_option maxRecDepth 20000 in
theorem wf_X12_83 : Cond.fieldLink RX12 83 "DraughtWebsModel" "roundPlace" "[I" ∈ gtbl := in_ch5_3 (List.mem_of_getElem? (i := 11) rfl) rfl
set_option maxRecDepth 20000 in
theorem wf_X12_86 : Cond.fieldLink RX12 86 "DraughtWebsModel" "roundAt" "[I" ∈ gtbl := in_ch5_3 (List.mem_of_getElem? (i := 12) rfl) rfl
set_option maxRecDepth 20000 in
theorem wf_X12_369 : Cond.fieldLink RX12 369 "DraughtWebsModel" "logMany" "I" ∈ gtbl := in_ch5_3 (List.mem_of_getElem? (i := 13) rfl) rfl
set_option maxRecDepth 20000 in
theorem wf_X12_366 : Cond.fieldLink RX12 366 "DraughtWebsModel" "rounds" "I" ∈ gtbl := in_ch5_3 (List.mem_of_getElem? (i := 14) rfl) rfl
set_option maxRecDepth 20000 in
theorem wf_X12_89 : Cond.fieldLink RX12 89 "DraughtWebsModel" "commonTo" "[I" ∈ gtbl := in_ch5_3 (List.mem_of_getElem? (i := 15) rfl) rfl
set_option maxRecDepth 20000 in
theorem in_ch5_4 {w : Cond} (h : w ∈ ch5_4) (g : goodWord w = true) : w ∈ gtbl := in_g (tt_5 (by rw [tb_5]; exact List.mem_append_right _ (List.mem_append_right _ (List.mem_append_right _ (List.mem_append_right _ (List.mem_append_left _ h)))))) g
set_option maxRecDepth 20000 in
theorem wf_X12_92 : Cond.fieldLink RX12 92 "DraughtWebsModel" "weightOf" "[I" ∈ gtbl := in_ch5_4 (List.mem_of_getElem? (i := 0) rfl) rfl
set_option maxRecDepth 20000 in
theorem wf_X12_95 : Cond.fieldLink RX12 95 "DraughtWebsModel" "depthOf" "[I" ∈ gtbl := in_ch5_4 (List.mem_of_getElem? (i := 1) rfl) rfl
set_option maxRecDepth 20000 in
theorem wf_X12_98 : Cond.fieldLink RX12 98 "DraughtWebsModel" "threadsTo" "[I" ∈ gtbl := in_ch5_4 (List.mem_of_getElem? (i := 2) rfl) rfl
set_option maxRecDepth 20000 in
theorem wf_X12_101 : Cond.fieldLink RX12 101 "DraughtWebsModel" "line" "[I" ∈ gtbl := in_ch5_4 (List.mem_of_getElem? (i := 3) rfl) rfl
set_option maxRecDepth 20000 in
theorem wf_X12_399 : Cond.fieldLink RX12 399 "DraughtWebsModel" "lineMany" "I" ∈ gtbl := in_ch5_4 (List.mem_of_getElem? (i := 4) rfl) rfl
set_option maxRecDepth 20000 in
theorem wf_X12_104 : Cond.fieldLink RX12 104 "DraughtWebsModel" "readNow" "[I" ∈ gtbl := in_ch5_4 (List.mem_of_getElem? (i := 5) rfl) rfl
set_option maxRecDepth 20000 in
theorem wf_X12_107 : Cond.fieldLink RX12 107 "DraughtWebsModel" "readThen" "[I" ∈ gtbl := in_ch5_4 (List.mem_of_getElem? (i := 6) rfl) rfl
set_option maxRecDepth 20000 in
theorem wf_X12_420 : Cond.fieldLink RX12 420 "DraughtWebsModel" "isKept" "Z" ∈ gtbl := in_ch5_4 (List.mem_of_getElem? (i := 7) rfl) rfl
set_option maxRecDepth 20000 in
theorem wf_X12_424 : Cond.fieldLink RX12 424 "DraughtWebsModel" "keptWebs" "I" ∈ gtbl := in_ch5_4 (List.mem_of_getElem? (i := 8) rfl) rfl
set_option maxRecDepth 20000 in
theorem wf_X12_427 : Cond.fieldLink RX12 427 "DraughtWebsModel" "keptFleets" "I" ∈ gtbl := in_ch5_4 (List.mem_of_getElem? (i := 9) rfl) rfl
set_option maxRecDepth 20000 in
theorem in_ch5_5 {w : Cond} (h : w ∈ ch5_5) (g : goodWord w = true) : w ∈ gtbl := in_g (tt_5 (by rw [tb_5]; exact List.mem_append_right _ (List.mem_append_right _ (List.mem_append_right _ (List.mem_append_right _ (List.mem_append_right _ (List.mem_append_left _ h))))))) g
set_option maxRecDepth 20000 in
theorem in_ch5_6 {w : Cond} (h : w ∈ ch5_6) (g : goodWord w = true) : w ∈ gtbl := in_g (tt_5 (by rw [tb_5]; exact List.mem_append_right _ (List.mem_append_right _ (List.mem_append_right _ (List.mem_append_right _ (List.mem_append_right _ (List.mem_append_right _ (List.mem_append_left _ h)))))))) g
set_option maxRecDepth 20000 in
theorem in_ch5_7 {w : Cond} (h : w ∈ ch5_7) (g : goodWord w = true) : w ∈ gtbl := in_g (tt_5 (by rw [tb_5]; exact List.mem_append_right _ (List.mem_append_right _ (List.mem_append_right _ (List.mem_append_right _ (List.mem_append_right _ (List.mem_append_right _ (List.mem_append_right _ (List.mem_append_left _ h))))))))) g
set_option maxRecDepth 20000 in
theorem in_ch5_8 {w : Cond} (h : w ∈ ch5_8) (g : goodWord w = true) : w ∈ gtbl := in_g (tt_5 (by rw [tb_5]; exact List.mem_append_right _ (List.mem_append_right _ (List.mem_append_right _ (List.mem_append_right _ (List.mem_append_right _ (List.mem_append_right _ (List.mem_append_right _ (List.mem_append_right _ (List.mem_append_left _ h)))))))))) g
set_option maxRecDepth 20000 in
theorem in_ch5_9 {w : Cond} (h : w ∈ ch5_9) (g : goodWord w = true) : w ∈ gtbl := in_g (tt_5 (by rw [tb_5]; exact List.mem_append_right _ (List.mem_append_right _ (List.mem_append_right _ (List.mem_append_right _ (List.mem_append_right _ (List.mem_append_right _ (List.mem_append_right _ (List.mem_append_right _ (List.mem_append_right _ (List.mem_append_left _ h))))))))))) g
set_option maxRecDepth 20000 in
theorem in_ch5_10 {w : Cond} (h : w ∈ ch5_10) (g : goodWord w = true) : w ∈ gtbl := in_g (tt_5 (by rw [tb_5]; exact List.mem_append_right _ (List.mem_append_right _ (List.mem_append_right _ (List.mem_append_right _ (List.mem_append_right _ (List.mem_append_right _ (List.mem_append_right _ (List.mem_append_right _ (List.mem_append_right _ (List.mem_append_right _ (List.mem_append_left _ h)))))))))))) g
set_option maxRecDepth 20000 in
theorem in_ch5_11 {w : Cond} (h : w ∈ ch5_11) (g : goodWord w = true) : w ∈ gtbl := in_g (tt_5 (by rw [tb_5]; exact List.mem_append_right _ (List.mem_append_right _ (List.mem_append_right _ (List.mem_append_right _ (List.mem_append_right _ (List.mem_append_right _ (List.mem_append_right _ (List.mem_append_right _ (List.mem_append_right _ (List.mem_append_right _ (List.mem_append_right _ (List.mem_append_left _ h))))))))))))) g
set_option maxRecDepth 20000 in
theorem war_byte : Cond.arrayClass .byte ∈ gtbl := in_ch5_11 (List.mem_of_getElem? (i := 13) rfl) rfl
set_option maxRecDepth 20000 in
theorem wm_L_17 : Cond.methodLink RL 17 yX12_tension ∈ gtbl := in_ch5_11 (List.mem_of_getElem? (i := 14) rfl) rfl
set_option maxRecDepth 20000 in
theorem wi_X12_tension : Cond.instanceMethod yX12_tension ∈ gtbl := in_ch5_11 (List.mem_of_getElem? (i := 15) rfl) rfl
set_option maxRecDepth 20000 in
theorem in_ch5_12 {w : Cond} (h : w ∈ ch5_12) (g : goodWord w = true) : w ∈ gtbl := in_g (tt_5 (by rw [tb_5]; exact List.mem_append_right _ (List.mem_append_right _ (List.mem_append_right _ (List.mem_append_right _ (List.mem_append_right _ (List.mem_append_right _ (List.mem_append_right _ (List.mem_append_right _ (List.mem_append_right _ (List.mem_append_right _ (List.mem_append_right _ (List.mem_append_right _ (List.mem_append_left _ h)))))))))))))) g
set_option maxRecDepth 20000 in
theorem wsl_X12_tension : Cond.selects RX12 yX12_tension yX12_tension ∈ gtbl := in_ch5_12 (List.mem_of_getElem? (i := 0) rfl) rfl
set_option maxRecDepth 20000 in
theorem wco_X12_tension : Cond.code yX12_tension cX12_tension 4 (some .boolean) ∈ gtbl := in_ch5_12 (List.mem_of_getElem? (i := 1) rfl) rfl
set_option maxRecDepth 20000 in
theorem wm_X12_139 : Cond.methodLink RX12 139 yX12_isWeb ∈ gtbl := in_ch5_12 (List.mem_of_getElem? (i := 2) rfl) rfl
set_option maxRecDepth 20000 in
theorem wi_X12_isWeb : Cond.instanceMethod yX12_isWeb ∈ gtbl := in_ch5_12 (List.mem_of_getElem? (i := 4) rfl) rfl
set_option maxRecDepth 20000 in
theorem wco_X12_isWeb : Cond.code yX12_isWeb cX12_isWeb 2 (some .boolean) ∈ gtbl := in_ch5_12 (List.mem_of_getElem? (i := 5) rfl) rfl
set_option maxRecDepth 20000 in
theorem wm_X12_110 : Cond.methodLink RX12 110 yX12_in ∈ gtbl := in_ch5_12 (List.mem_of_getElem? (i := 6) rfl) rfl
set_option maxRecDepth 20000 in
theorem wst_X12_in : Cond.static yX12_in ∈ gtbl := in_ch5_12 (List.mem_of_getElem? (i := 7) rfl) rfl
set_option maxRecDepth 20000 in
theorem wco_X12_in : Cond.code yX12_in cX12_in 3 (some .boolean) ∈ gtbl := in_ch5_12 (List.mem_of_getElem? (i := 8) rfl) rfl
set_option maxRecDepth 20000 in
theorem wm_X12_118 : Cond.methodLink RX12 118 yX12_has ∈ gtbl := in_ch5_12 (List.mem_of_getElem? (i := 9) rfl) rfl
set_option maxRecDepth 20000 in
theorem wst_X12_has : Cond.static yX12_has ∈ gtbl := in_ch5_12 (List.mem_of_getElem? (i := 10) rfl) rfl
set_option maxRecDepth 20000 in
theorem wco_X12_has : Cond.code yX12_has cX12_has 2 (some .boolean) ∈ gtbl := in_ch5_12 (List.mem_of_getElem? (i := 11) rfl) rfl
set_option maxRecDepth 20000 in
theorem wm_L_22 : Cond.methodLink RL 22 yX12_feed ∈ gtbl := in_ch5_12 (List.mem_of_getElem? (i := 12) rfl) rfl
set_option maxRecDepth 20000 in
theorem wi_X12_feed : Cond.instanceMethod yX12_feed ∈ gtbl := in_ch5_12 (List.mem_of_getElem? (i := 13) rfl) rfl
set_option maxRecDepth 20000 in
theorem wsl_X12_feed : Cond.selects RX12 yX12_feed yX12_feed ∈ gtbl := in_ch5_12 (List.mem_of_getElem? (i := 14) rfl) rfl
set_option maxRecDepth 20000 in
theorem wco_X12_feed : Cond.code yX12_feed cX12_feed 6 (some .int) ∈ gtbl := in_ch5_12 (List.mem_of_getElem? (i := 15) rfl) rfl
set_option maxRecDepth 20000 in
theorem in_ch5_13 {w : Cond} (h : w ∈ ch5_13) (g : goodWord w = true) : w ∈ gtbl := in_g (tt_5 (by rw [tb_5]; exact List.mem_append_right _ (List.mem_append_right _ (List.mem_append_right _ (List.mem_append_right _ (List.mem_append_right _ (List.mem_append_right _ (List.mem_append_right _ (List.mem_append_right _ (List.mem_append_right _ (List.mem_append_right _ (List.mem_append_right _ (List.mem_append_right _ (List.mem_append_right _ (List.mem_append_left _ h))))))))))))))) g
set_option maxRecDepth 20000 in
theorem wm_X12_146 : Cond.methodLink RX12 146 yX12_types ∈ gtbl := in_ch5_13 (List.mem_of_getElem? (i := 0) rfl) rfl
set_option maxRecDepth 20000 in
theorem wi_X12_types : Cond.instanceMethod yX12_types ∈ gtbl := in_ch5_13 (List.mem_of_getElem? (i := 2) rfl) rfl
set_option maxRecDepth 20000 in
theorem wco_X12_types : Cond.code yX12_types cX12_types 3 none ∈ gtbl := in_ch5_13 (List.mem_of_getElem? (i := 3) rfl) rfl
set_option maxRecDepth 20000 in
theorem wm_L_27 : Cond.methodLink RL 27 yX12_law ∈ gtbl := in_ch5_13 (List.mem_of_getElem? (i := 4) rfl) rfl
set_option maxRecDepth 20000 in
theorem wi_X12_law : Cond.instanceMethod yX12_law ∈ gtbl := in_ch5_13 (List.mem_of_getElem? (i := 5) rfl) rfl
set_option maxRecDepth 20000 in
theorem wsl_X12_law : Cond.selects RX12 yX12_law yX12_law ∈ gtbl := in_ch5_13 (List.mem_of_getElem? (i := 6) rfl) rfl
set_option maxRecDepth 20000 in
theorem wco_X12_law : Cond.code yX12_law cX12_law 4 (some .int) ∈ gtbl := in_ch5_13 (List.mem_of_getElem? (i := 7) rfl) rfl
set_option maxRecDepth 20000 in
theorem wm_X12_233 : Cond.methodLink RX12 233 yX12_beginsText ∈ gtbl := in_ch5_13 (List.mem_of_getElem? (i := 8) rfl) rfl
set_option maxRecDepth 20000 in
theorem wi_X12_beginsText : Cond.instanceMethod yX12_beginsText ∈ gtbl := in_ch5_13 (List.mem_of_getElem? (i := 10) rfl) rfl
set_option maxRecDepth 20000 in
theorem wco_X12_beginsText : Cond.code yX12_beginsText cX12_beginsText 2 none ∈ gtbl := in_ch5_13 (List.mem_of_getElem? (i := 11) rfl) rfl
set_option maxRecDepth 20000 in
theorem wm_X12_236 : Cond.methodLink RX12 236 yX12_readsRule ∈ gtbl := in_ch5_13 (List.mem_of_getElem? (i := 12) rfl) rfl
set_option maxRecDepth 20000 in
theorem wi_X12_readsRule : Cond.instanceMethod yX12_readsRule ∈ gtbl := in_ch5_13 (List.mem_of_getElem? (i := 14) rfl) rfl
set_option maxRecDepth 20000 in
theorem wco_X12_readsRule : Cond.code yX12_readsRule cX12_readsRule 2 (some .boolean) ∈ gtbl := in_ch5_13 (List.mem_of_getElem? (i := 15) rfl) rfl
set_option maxRecDepth 20000 in
theorem in_ch5_14 {w : Cond} (h : w ∈ ch5_14) (g : goodWord w = true) : w ∈ gtbl := in_g (tt_5 (by rw [tb_5]; exact List.mem_append_right _ (List.mem_append_right _ (List.mem_append_right _ (List.mem_append_right _ (List.mem_append_right _ (List.mem_append_right _ (List.mem_append_right _ (List.mem_append_right _ (List.mem_append_right _ (List.mem_append_right _ (List.mem_append_right _ (List.mem_append_right _ (List.mem_append_right _ (List.mem_append_right _ (List.mem_append_left _ h)))))))))))))))) g
set_option maxRecDepth 20000 in
theorem wm_X12_156 : Cond.methodLink RX12 156 yX12_here ∈ gtbl := in_ch5_14 (List.mem_of_getElem? (i := 0) rfl) rfl
set_option maxRecDepth 20000 in
theorem wi_X12_here : Cond.instanceMethod yX12_here ∈ gtbl := in_ch5_14 (List.mem_of_getElem? (i := 2) rfl) rfl
set_option maxRecDepth 20000 in
theorem wco_X12_here : Cond.code yX12_here cX12_here 1 (some .int) ∈ gtbl := in_ch5_14 (List.mem_of_getElem? (i := 3) rfl) rfl
set_option maxRecDepth 20000 in
theorem wm_X12_163 : Cond.methodLink RX12 163 yX12_wrongAt ∈ gtbl := in_ch5_14 (List.mem_of_getElem? (i := 4) rfl) rfl
set_option maxRecDepth 20000 in
theorem wi_X12_wrongAt : Cond.instanceMethod yX12_wrongAt ∈ gtbl := in_ch5_14 (List.mem_of_getElem? (i := 6) rfl) rfl
set_option maxRecDepth 20000 in
theorem wco_X12_wrongAt : Cond.code yX12_wrongAt cX12_wrongAt 3 (some .boolean) ∈ gtbl := in_ch5_14 (List.mem_of_getElem? (i := 7) rfl) rfl
set_option maxRecDepth 20000 in
theorem wm_X12_212 : Cond.methodLink RX12 212 yX12_readsSum ∈ gtbl := in_ch5_14 (List.mem_of_getElem? (i := 8) rfl) rfl
set_option maxRecDepth 20000 in
theorem wi_X12_readsSum : Cond.instanceMethod yX12_readsSum ∈ gtbl := in_ch5_14 (List.mem_of_getElem? (i := 10) rfl) rfl
set_option maxRecDepth 20000 in
theorem wco_X12_readsSum : Cond.code yX12_readsSum cX12_readsSum 3 (some .boolean) ∈ gtbl := in_ch5_14 (List.mem_of_getElem? (i := 11) rfl) rfl
set_option maxRecDepth 20000 in
theorem wm_X12_199 : Cond.methodLink RX12 199 yX12_readsFactor ∈ gtbl := in_ch5_14 (List.mem_of_getElem? (i := 12) rfl) rfl
set_option maxRecDepth 20000 in
theorem wi_X12_readsFactor : Cond.instanceMethod yX12_readsFactor ∈ gtbl := in_ch5_14 (List.mem_of_getElem? (i := 14) rfl) rfl
set_option maxRecDepth 20000 in
theorem wco_X12_readsFactor : Cond.code yX12_readsFactor cX12_readsFactor 2 (some .boolean) ∈ gtbl := in_ch5_14 (List.mem_of_getElem? (i := 15) rfl) rfl
set_option maxRecDepth 20000 in
theorem tt_6 {w : Cond} (h : w ∈ tables_1_6) : w ∈ lw_tbl := List.mem_append_right _ (List.mem_append_right _ (List.mem_append_right _ (List.mem_append_right _ (List.mem_append_right _ (List.mem_append_right _ (List.mem_append_left _ (h)))))))
set_option maxRecDepth 20000 in
theorem in_ch6_0 {w : Cond} (h : w ∈ ch6_0) (g : goodWord w = true) : w ∈ gtbl := in_g (tt_6 (by rw [tb_6]; exact List.mem_append_left _ h)) g
set_option maxRecDepth 20000 in
theorem wm_X12_190 : Cond.methodLink RX12 190 yX12_opens ∈ gtbl := in_ch6_0 (List.mem_of_getElem? (i := 0) rfl) rfl
set_option maxRecDepth 20000 in
theorem wi_X12_opens : Cond.instanceMethod yX12_opens ∈ gtbl := in_ch6_0 (List.mem_of_getElem? (i := 2) rfl) rfl
set_option maxRecDepth 20000 in
theorem wco_X12_opens : Cond.code yX12_opens cX12_opens 2 (some .boolean) ∈ gtbl := in_ch6_0 (List.mem_of_getElem? (i := 3) rfl) rfl
set_option maxRecDepth 20000 in
theorem wcn_X12_176 : Cond.constant RX12 176 (1048576) ∈ gtbl := in_ch6_0 (List.mem_of_getElem? (i := 4) rfl) rfl
set_option maxRecDepth 20000 in
theorem wm_X12_169 : Cond.methodLink RX12 169 yX12_isDigit ∈ gtbl := in_ch6_0 (List.mem_of_getElem? (i := 5) rfl) rfl
set_option maxRecDepth 20000 in
theorem wi_X12_isDigit : Cond.instanceMethod yX12_isDigit ∈ gtbl := in_ch6_0 (List.mem_of_getElem? (i := 7) rfl) rfl
set_option maxRecDepth 20000 in
theorem wco_X12_isDigit : Cond.code yX12_isDigit cX12_isDigit 1 (some .boolean) ∈ gtbl := in_ch6_0 (List.mem_of_getElem? (i := 8) rfl) rfl
set_option maxRecDepth 20000 in
theorem wm_X12_193 : Cond.methodLink RX12 193 yX12_readsNumber ∈ gtbl := in_ch6_0 (List.mem_of_getElem? (i := 9) rfl) rfl
set_option maxRecDepth 20000 in
theorem wi_X12_readsNumber : Cond.instanceMethod yX12_readsNumber ∈ gtbl := in_ch6_0 (List.mem_of_getElem? (i := 11) rfl) rfl
set_option maxRecDepth 20000 in
theorem wco_X12_readsNumber : Cond.code yX12_readsNumber cX12_readsNumber 2 (some .boolean) ∈ gtbl := in_ch6_0 (List.mem_of_getElem? (i := 12) rfl) rfl
set_option maxRecDepth 20000 in
theorem wm_X12_186 : Cond.methodLink RX12 186 yX12_notes ∈ gtbl := in_ch6_0 (List.mem_of_getElem? (i := 13) rfl) rfl
set_option maxRecDepth 20000 in
theorem wi_X12_notes : Cond.instanceMethod yX12_notes ∈ gtbl := in_ch6_0 (List.mem_of_getElem? (i := 15) rfl) rfl
set_option maxRecDepth 20000 in
theorem in_ch6_1 {w : Cond} (h : w ∈ ch6_1) (g : goodWord w = true) : w ∈ gtbl := in_g (tt_6 (by rw [tb_6]; exact List.mem_append_right _ (List.mem_append_left _ h))) g
set_option maxRecDepth 20000 in
theorem wco_X12_notes : Cond.code yX12_notes cX12_notes 3 none ∈ gtbl := in_ch6_1 (List.mem_of_getElem? (i := 0) rfl) rfl
set_option maxRecDepth 20000 in
theorem wm_X12_196 : Cond.methodLink RX12 196 yX12_factOf ∈ gtbl := in_ch6_1 (List.mem_of_getElem? (i := 1) rfl) rfl
set_option maxRecDepth 20000 in
theorem wst_X12_factOf : Cond.static yX12_factOf ∈ gtbl := in_ch6_1 (List.mem_of_getElem? (i := 2) rfl) rfl
set_option maxRecDepth 20000 in
theorem wco_X12_factOf : Cond.code yX12_factOf cX12_factOf 1 (some .int) ∈ gtbl := in_ch6_1 (List.mem_of_getElem? (i := 3) rfl) rfl
set_option maxRecDepth 20000 in
theorem wm_X12_202 : Cond.methodLink RX12 202 yX12_sumSign ∈ gtbl := in_ch6_1 (List.mem_of_getElem? (i := 4) rfl) rfl
set_option maxRecDepth 20000 in
theorem wst_X12_sumSign : Cond.static yX12_sumSign ∈ gtbl := in_ch6_1 (List.mem_of_getElem? (i := 5) rfl) rfl
set_option maxRecDepth 20000 in
theorem wco_X12_sumSign : Cond.code yX12_sumSign cX12_sumSign 1 (some .int) ∈ gtbl := in_ch6_1 (List.mem_of_getElem? (i := 6) rfl) rfl
set_option maxRecDepth 20000 in
theorem wm_X12_205 : Cond.methodLink RX12 205 yX12_closesSums ∈ gtbl := in_ch6_1 (List.mem_of_getElem? (i := 7) rfl) rfl
set_option maxRecDepth 20000 in
theorem wi_X12_closesSums : Cond.instanceMethod yX12_closesSums ∈ gtbl := in_ch6_1 (List.mem_of_getElem? (i := 9) rfl) rfl
set_option maxRecDepth 20000 in
theorem wco_X12_closesSums : Cond.code yX12_closesSums cX12_closesSums 2 none ∈ gtbl := in_ch6_1 (List.mem_of_getElem? (i := 10) rfl) rfl
set_option maxRecDepth 20000 in
theorem wm_X12_183 : Cond.methodLink RX12 183 yX12_waitTop ∈ gtbl := in_ch6_1 (List.mem_of_getElem? (i := 11) rfl) rfl
set_option maxRecDepth 20000 in
theorem wi_X12_waitTop : Cond.instanceMethod yX12_waitTop ∈ gtbl := in_ch6_1 (List.mem_of_getElem? (i := 13) rfl) rfl
set_option maxRecDepth 20000 in
theorem wco_X12_waitTop : Cond.code yX12_waitTop cX12_waitTop 1 (some .int) ∈ gtbl := in_ch6_1 (List.mem_of_getElem? (i := 14) rfl) rfl
set_option maxRecDepth 20000 in
theorem wm_X12_209 : Cond.methodLink RX12 209 yX12_hasOpenSum ∈ gtbl := in_ch6_1 (List.mem_of_getElem? (i := 15) rfl) rfl
set_option maxRecDepth 20000 in
theorem in_ch6_2 {w : Cond} (h : w ∈ ch6_2) (g : goodWord w = true) : w ∈ gtbl := in_g (tt_6 (by rw [tb_6]; exact List.mem_append_right _ (List.mem_append_right _ (List.mem_append_left _ h)))) g
set_option maxRecDepth 20000 in
theorem wi_X12_hasOpenSum : Cond.instanceMethod yX12_hasOpenSum ∈ gtbl := in_ch6_2 (List.mem_of_getElem? (i := 1) rfl) rfl
set_option maxRecDepth 20000 in
theorem wco_X12_hasOpenSum : Cond.code yX12_hasOpenSum cX12_hasOpenSum 3 (some .boolean) ∈ gtbl := in_ch6_2 (List.mem_of_getElem? (i := 2) rfl) rfl
set_option maxRecDepth 20000 in
theorem wm_X12_230 : Cond.methodLink RX12 230 yX12_readsCondition ∈ gtbl := in_ch6_2 (List.mem_of_getElem? (i := 3) rfl) rfl
set_option maxRecDepth 20000 in
theorem wi_X12_readsCondition : Cond.instanceMethod yX12_readsCondition ∈ gtbl := in_ch6_2 (List.mem_of_getElem? (i := 5) rfl) rfl
set_option maxRecDepth 20000 in
theorem wco_X12_readsCondition : Cond.code yX12_readsCondition cX12_readsCondition 1 (some .boolean) ∈ gtbl := in_ch6_2 (List.mem_of_getElem? (i := 6) rfl) rfl
set_option maxRecDepth 20000 in
theorem wm_X12_218 : Cond.methodLink RX12 218 yX12_readsCompared ∈ gtbl := in_ch6_2 (List.mem_of_getElem? (i := 7) rfl) rfl
set_option maxRecDepth 20000 in
theorem wi_X12_readsCompared : Cond.instanceMethod yX12_readsCompared ∈ gtbl := in_ch6_2 (List.mem_of_getElem? (i := 9) rfl) rfl
set_option maxRecDepth 20000 in
theorem wco_X12_readsCompared : Cond.code yX12_readsCompared cX12_readsCompared 2 (some .boolean) ∈ gtbl := in_ch6_2 (List.mem_of_getElem? (i := 10) rfl) rfl
set_option maxRecDepth 20000 in
theorem wm_X12_215 : Cond.methodLink RX12 215 yX12_endsPiece ∈ gtbl := in_ch6_2 (List.mem_of_getElem? (i := 11) rfl) rfl
set_option maxRecDepth 20000 in
theorem wi_X12_endsPiece : Cond.instanceMethod yX12_endsPiece ∈ gtbl := in_ch6_2 (List.mem_of_getElem? (i := 13) rfl) rfl
set_option maxRecDepth 20000 in
theorem wco_X12_endsPiece : Cond.code yX12_endsPiece cX12_endsPiece 1 none ∈ gtbl := in_ch6_2 (List.mem_of_getElem? (i := 14) rfl) rfl
set_option maxRecDepth 20000 in
theorem wm_X12_221 : Cond.methodLink RX12 221 yX12_lands ∈ gtbl := in_ch6_2 (List.mem_of_getElem? (i := 15) rfl) rfl
set_option maxRecDepth 20000 in
theorem in_ch6_3 {w : Cond} (h : w ∈ ch6_3) (g : goodWord w = true) : w ∈ gtbl := in_g (tt_6 (by rw [tb_6]; exact List.mem_append_right _ (List.mem_append_right _ (List.mem_append_right _ (List.mem_append_left _ h))))) g
set_option maxRecDepth 20000 in
theorem wi_X12_lands : Cond.instanceMethod yX12_lands ∈ gtbl := in_ch6_3 (List.mem_of_getElem? (i := 1) rfl) rfl
set_option maxRecDepth 20000 in
theorem wco_X12_lands : Cond.code yX12_lands cX12_lands 3 none ∈ gtbl := in_ch6_3 (List.mem_of_getElem? (i := 2) rfl) rfl
set_option maxRecDepth 20000 in
theorem wm_X12_224 : Cond.methodLink RX12 224 yX12_jumps ∈ gtbl := in_ch6_3 (List.mem_of_getElem? (i := 3) rfl) rfl
set_option maxRecDepth 20000 in
theorem wi_X12_jumps : Cond.instanceMethod yX12_jumps ∈ gtbl := in_ch6_3 (List.mem_of_getElem? (i := 5) rfl) rfl
set_option maxRecDepth 20000 in
theorem wco_X12_jumps : Cond.code yX12_jumps cX12_jumps 2 none ∈ gtbl := in_ch6_3 (List.mem_of_getElem? (i := 6) rfl) rfl
set_option maxRecDepth 20000 in
theorem wm_X12_239 : Cond.methodLink RX12 239 yX12_takes ∈ gtbl := in_ch6_3 (List.mem_of_getElem? (i := 7) rfl) rfl
set_option maxRecDepth 20000 in
theorem wi_X12_takes : Cond.instanceMethod yX12_takes ∈ gtbl := in_ch6_3 (List.mem_of_getElem? (i := 9) rfl) rfl
set_option maxRecDepth 20000 in
theorem wco_X12_takes : Cond.code yX12_takes cX12_takes 2 (some .boolean) ∈ gtbl := in_ch6_3 (List.mem_of_getElem? (i := 10) rfl) rfl
set_option maxRecDepth 20000 in
theorem wm_L_31 : Cond.methodLink RL 31 yX12_chart ∈ gtbl := in_ch6_3 (List.mem_of_getElem? (i := 11) rfl) rfl
set_option maxRecDepth 20000 in
theorem wi_X12_chart : Cond.instanceMethod yX12_chart ∈ gtbl := in_ch6_3 (List.mem_of_getElem? (i := 12) rfl) rfl
set_option maxRecDepth 20000 in
theorem wsl_X12_chart : Cond.selects RX12 yX12_chart yX12_chart ∈ gtbl := in_ch6_3 (List.mem_of_getElem? (i := 13) rfl) rfl
set_option maxRecDepth 20000 in
theorem wco_X12_chart : Cond.code yX12_chart cX12_chart 4 (some .int) ∈ gtbl := in_ch6_3 (List.mem_of_getElem? (i := 14) rfl) rfl
set_option maxRecDepth 20000 in
theorem wm_X12_279 : Cond.methodLink RX12 279 yX12_readsLine ∈ gtbl := in_ch6_3 (List.mem_of_getElem? (i := 15) rfl) rfl
set_option maxRecDepth 20000 in
theorem in_ch6_4 {w : Cond} (h : w ∈ ch6_4) (g : goodWord w = true) : w ∈ gtbl := in_g (tt_6 (by rw [tb_6]; exact List.mem_append_right _ (List.mem_append_right _ (List.mem_append_right _ (List.mem_append_right _ (List.mem_append_left _ h)))))) g
set_option maxRecDepth 20000 in
theorem wi_X12_readsLine : Cond.instanceMethod yX12_readsLine ∈ gtbl := in_ch6_4 (List.mem_of_getElem? (i := 1) rfl) rfl
set_option maxRecDepth 20000 in
theorem wco_X12_readsLine : Cond.code yX12_readsLine cX12_readsLine 3 (some .boolean) ∈ gtbl := in_ch6_4 (List.mem_of_getElem? (i := 2) rfl) rfl
set_option maxRecDepth 20000 in
theorem wm_X12_261 : Cond.methodLink RX12 261 yX12_isWebLetter ∈ gtbl := in_ch6_4 (List.mem_of_getElem? (i := 3) rfl) rfl
set_option maxRecDepth 20000 in
theorem wi_X12_isWebLetter : Cond.instanceMethod yX12_isWebLetter ∈ gtbl := in_ch6_4 (List.mem_of_getElem? (i := 5) rfl) rfl
set_option maxRecDepth 20000 in
theorem wco_X12_isWebLetter : Cond.code yX12_isWebLetter cX12_isWebLetter 1 (some .boolean) ∈ gtbl := in_ch6_4 (List.mem_of_getElem? (i := 6) rfl) rfl
set_option maxRecDepth 20000 in
theorem wm_X12_264 : Cond.methodLink RX12 264 yX12_isFleetLetter ∈ gtbl := in_ch6_4 (List.mem_of_getElem? (i := 7) rfl) rfl
set_option maxRecDepth 20000 in
theorem wi_X12_isFleetLetter : Cond.instanceMethod yX12_isFleetLetter ∈ gtbl := in_ch6_4 (List.mem_of_getElem? (i := 9) rfl) rfl
set_option maxRecDepth 20000 in
theorem wco_X12_isFleetLetter : Cond.code yX12_isFleetLetter cX12_isFleetLetter 1 (some .boolean) ∈ gtbl := in_ch6_4 (List.mem_of_getElem? (i := 10) rfl) rfl
set_option maxRecDepth 20000 in
theorem wm_X12_276 : Cond.methodLink RX12 276 yX12_readsFleet ∈ gtbl := in_ch6_4 (List.mem_of_getElem? (i := 11) rfl) rfl
set_option maxRecDepth 20000 in
theorem wi_X12_readsFleet : Cond.instanceMethod yX12_readsFleet ∈ gtbl := in_ch6_4 (List.mem_of_getElem? (i := 13) rfl) rfl
set_option maxRecDepth 20000 in
theorem wco_X12_readsFleet : Cond.code yX12_readsFleet cX12_readsFleet 2 (some .boolean) ∈ gtbl := in_ch6_4 (List.mem_of_getElem? (i := 14) rfl) rfl
set_option maxRecDepth 20000 in
theorem wm_X12_258 : Cond.methodLink RX12 258 yX12_readsSpot ∈ gtbl := in_ch6_4 (List.mem_of_getElem? (i := 15) rfl) rfl
set_option maxRecDepth 20000 in
theorem in_ch6_5 {w : Cond} (h : w ∈ ch6_5) (g : goodWord w = true) : w ∈ gtbl := in_g (tt_6 (by rw [tb_6]; exact List.mem_append_right _ (List.mem_append_right _ (List.mem_append_right _ (List.mem_append_right _ (List.mem_append_right _ (List.mem_append_left _ h))))))) g
set_option maxRecDepth 20000 in
theorem wi_X12_readsSpot : Cond.instanceMethod yX12_readsSpot ∈ gtbl := in_ch6_5 (List.mem_of_getElem? (i := 1) rfl) rfl
set_option maxRecDepth 20000 in
theorem wco_X12_readsSpot : Cond.code yX12_readsSpot cX12_readsSpot 2 (some .boolean) ∈ gtbl := in_ch6_5 (List.mem_of_getElem? (i := 2) rfl) rfl
set_option maxRecDepth 20000 in
theorem wm_X12_252 : Cond.methodLink RX12 252 yX12_readsWithin ∈ gtbl := in_ch6_5 (List.mem_of_getElem? (i := 3) rfl) rfl
set_option maxRecDepth 20000 in
theorem wi_X12_readsWithin : Cond.instanceMethod yX12_readsWithin ∈ gtbl := in_ch6_5 (List.mem_of_getElem? (i := 5) rfl) rfl
set_option maxRecDepth 20000 in
theorem wco_X12_readsWithin : Cond.code yX12_readsWithin cX12_readsWithin 3 (some .boolean) ∈ gtbl := in_ch6_5 (List.mem_of_getElem? (i := 6) rfl) rfl
set_option maxRecDepth 20000 in
theorem wm_L_35 : Cond.methodLink RL 35 yX12_hours ∈ gtbl := in_ch6_5 (List.mem_of_getElem? (i := 7) rfl) rfl
set_option maxRecDepth 20000 in
theorem wi_X12_hours : Cond.instanceMethod yX12_hours ∈ gtbl := in_ch6_5 (List.mem_of_getElem? (i := 8) rfl) rfl
set_option maxRecDepth 20000 in
theorem wsl_X12_hours : Cond.selects RX12 yX12_hours yX12_hours ∈ gtbl := in_ch6_5 (List.mem_of_getElem? (i := 9) rfl) rfl
set_option maxRecDepth 20000 in
theorem wco_X12_hours : Cond.code yX12_hours cX12_hours 2 (some .int) ∈ gtbl := in_ch6_5 (List.mem_of_getElem? (i := 10) rfl) rfl
set_option maxRecDepth 20000 in
theorem wm_X12_332 : Cond.methodLink RX12 332 yX12_hoursGo ∈ gtbl := in_ch6_5 (List.mem_of_getElem? (i := 11) rfl) rfl
set_option maxRecDepth 20000 in
theorem wi_X12_hoursGo : Cond.instanceMethod yX12_hoursGo ∈ gtbl := in_ch6_5 (List.mem_of_getElem? (i := 13) rfl) rfl
set_option maxRecDepth 20000 in
theorem wco_X12_hoursGo : Cond.code yX12_hoursGo cX12_hoursGo 3 none ∈ gtbl := in_ch6_5 (List.mem_of_getElem? (i := 14) rfl) rfl
set_option maxRecDepth 20000 in
theorem wm_X12_329 : Cond.methodLink RX12 329 yX12_hourGoes ∈ gtbl := in_ch6_5 (List.mem_of_getElem? (i := 15) rfl) rfl
set_option maxRecDepth 20000 in
theorem in_ch6_6 {w : Cond} (h : w ∈ ch6_6) (g : goodWord w = true) : w ∈ gtbl := in_g (tt_6 (by rw [tb_6]; exact List.mem_append_right _ (List.mem_append_right _ (List.mem_append_right _ (List.mem_append_right _ (List.mem_append_right _ (List.mem_append_right _ (List.mem_append_left _ h)))))))) g
set_option maxRecDepth 20000 in
theorem wi_X12_hourGoes : Cond.instanceMethod yX12_hourGoes ∈ gtbl := in_ch6_6 (List.mem_of_getElem? (i := 1) rfl) rfl
set_option maxRecDepth 20000 in
theorem wco_X12_hourGoes : Cond.code yX12_hourGoes cX12_hourGoes 3 none ∈ gtbl := in_ch6_6 (List.mem_of_getElem? (i := 2) rfl) rfl
set_option maxRecDepth 20000 in
theorem wm_X12_320 : Cond.methodLink RX12 320 yX12_sails ∈ gtbl := in_ch6_6 (List.mem_of_getElem? (i := 3) rfl) rfl
set_option maxRecDepth 20000 in
theorem wi_X12_sails : Cond.instanceMethod yX12_sails ∈ gtbl := in_ch6_6 (List.mem_of_getElem? (i := 5) rfl) rfl
set_option maxRecDepth 20000 in
theorem wco_X12_sails : Cond.code yX12_sails cX12_sails 3 none ∈ gtbl := in_ch6_6 (List.mem_of_getElem? (i := 6) rfl) rfl
set_option maxRecDepth 20000 in
theorem wm_X12_282 : Cond.methodLink RX12 282 yX12_isFleet ∈ gtbl := in_ch6_6 (List.mem_of_getElem? (i := 7) rfl) rfl
set_option maxRecDepth 20000 in
theorem wi_X12_isFleet : Cond.instanceMethod yX12_isFleet ∈ gtbl := in_ch6_6 (List.mem_of_getElem? (i := 9) rfl) rfl
set_option maxRecDepth 20000 in
theorem wco_X12_isFleet : Cond.code yX12_isFleet cX12_isFleet 2 (some .boolean) ∈ gtbl := in_ch6_6 (List.mem_of_getElem? (i := 10) rfl) rfl
set_option maxRecDepth 20000 in
theorem wm_X12_285 : Cond.methodLink RX12 285 yX12_stepOn ∈ gtbl := in_ch6_6 (List.mem_of_getElem? (i := 11) rfl) rfl
set_option maxRecDepth 20000 in
theorem wst_X12_stepOn : Cond.static yX12_stepOn ∈ gtbl := in_ch6_6 (List.mem_of_getElem? (i := 12) rfl) rfl
set_option maxRecDepth 20000 in
theorem wco_X12_stepOn : Cond.code yX12_stepOn cX12_stepOn 4 (some .int) ∈ gtbl := in_ch6_6 (List.mem_of_getElem? (i := 13) rfl) rfl
set_option maxRecDepth 20000 in
theorem wm_X12_133 : Cond.methodLink RX12 133 yX12_stepAcross ∈ gtbl := in_ch6_6 (List.mem_of_getElem? (i := 14) rfl) rfl
set_option maxRecDepth 20000 in
theorem wst_X12_stepAcross : Cond.static yX12_stepAcross ∈ gtbl := in_ch6_6 (List.mem_of_getElem? (i := 15) rfl) rfl
set_option maxRecDepth 20000 in
theorem in_ch6_7 {w : Cond} (h : w ∈ ch6_7) (g : goodWord w = true) : w ∈ gtbl := in_g (tt_6 (by rw [tb_6]; exact List.mem_append_right _ (List.mem_append_right _ (List.mem_append_right _ (List.mem_append_right _ (List.mem_append_right _ (List.mem_append_right _ (List.mem_append_right _ (List.mem_append_left _ h))))))))) g
set_option maxRecDepth 20000 in
theorem wco_X12_stepAcross : Cond.code yX12_stepAcross cX12_stepAcross 1 (some .int) ∈ gtbl := in_ch6_7 (List.mem_of_getElem? (i := 0) rfl) rfl
set_option maxRecDepth 20000 in
theorem wm_X12_136 : Cond.methodLink RX12 136 yX12_stepAlong ∈ gtbl := in_ch6_7 (List.mem_of_getElem? (i := 1) rfl) rfl
set_option maxRecDepth 20000 in
theorem wst_X12_stepAlong : Cond.static yX12_stepAlong ∈ gtbl := in_ch6_7 (List.mem_of_getElem? (i := 2) rfl) rfl
set_option maxRecDepth 20000 in
theorem wco_X12_stepAlong : Cond.code yX12_stepAlong cX12_stepAlong 1 (some .int) ∈ gtbl := in_ch6_7 (List.mem_of_getElem? (i := 3) rfl) rfl
set_option maxRecDepth 20000 in
theorem wm_X12_323 : Cond.methodLink RX12 323 yX12_touches ∈ gtbl := in_ch6_7 (List.mem_of_getElem? (i := 4) rfl) rfl
set_option maxRecDepth 20000 in
theorem wi_X12_touches : Cond.instanceMethod yX12_touches ∈ gtbl := in_ch6_7 (List.mem_of_getElem? (i := 6) rfl) rfl
set_option maxRecDepth 20000 in
theorem wco_X12_touches : Cond.code yX12_touches cX12_touches 6 none ∈ gtbl := in_ch6_7 (List.mem_of_getElem? (i := 7) rfl) rfl
set_option maxRecDepth 20000 in
theorem wm_X12_294 : Cond.methodLink RX12 294 yX12_distance ∈ gtbl := in_ch6_7 (List.mem_of_getElem? (i := 8) rfl) rfl
set_option maxRecDepth 20000 in
theorem wst_X12_distance : Cond.static yX12_distance ∈ gtbl := in_ch6_7 (List.mem_of_getElem? (i := 9) rfl) rfl
set_option maxRecDepth 20000 in
theorem wco_X12_distance : Cond.code yX12_distance cX12_distance 2 (some .int) ∈ gtbl := in_ch6_7 (List.mem_of_getElem? (i := 10) rfl) rfl
set_option maxRecDepth 20000 in
theorem wm_X12_125 : Cond.methodLink RX12 125 yX12_size ∈ gtbl := in_ch6_7 (List.mem_of_getElem? (i := 11) rfl) rfl
set_option maxRecDepth 20000 in
theorem wst_X12_size : Cond.static yX12_size ∈ gtbl := in_ch6_7 (List.mem_of_getElem? (i := 12) rfl) rfl
set_option maxRecDepth 20000 in
theorem wco_X12_size : Cond.code yX12_size cX12_size 1 (some .int) ∈ gtbl := in_ch6_7 (List.mem_of_getElem? (i := 13) rfl) rfl
set_option maxRecDepth 20000 in
theorem wm_X12_129 : Cond.methodLink RX12 129 yX12_max ∈ gtbl := in_ch6_7 (List.mem_of_getElem? (i := 14) rfl) rfl
set_option maxRecDepth 20000 in
theorem wst_X12_max : Cond.static yX12_max ∈ gtbl := in_ch6_7 (List.mem_of_getElem? (i := 15) rfl) rfl
set_option maxRecDepth 20000 in
theorem in_ch6_8 {w : Cond} (h : w ∈ ch6_8) (g : goodWord w = true) : w ∈ gtbl := in_g (tt_6 (by rw [tb_6]; exact List.mem_append_right _ (List.mem_append_right _ (List.mem_append_right _ (List.mem_append_right _ (List.mem_append_right _ (List.mem_append_right _ (List.mem_append_right _ (List.mem_append_right _ (List.mem_append_left _ h)))))))))) g
set_option maxRecDepth 20000 in
theorem wco_X12_max : Cond.code yX12_max cX12_max 2 (some .int) ∈ gtbl := in_ch6_8 (List.mem_of_getElem? (i := 0) rfl) rfl
set_option maxRecDepth 20000 in
theorem wm_X12_297 : Cond.methodLink RX12 297 yX12_towards ∈ gtbl := in_ch6_8 (List.mem_of_getElem? (i := 1) rfl) rfl
set_option maxRecDepth 20000 in
theorem wst_X12_towards : Cond.static yX12_towards ∈ gtbl := in_ch6_8 (List.mem_of_getElem? (i := 2) rfl) rfl
set_option maxRecDepth 20000 in
theorem wco_X12_towards : Cond.code yX12_towards cX12_towards 4 (some .int) ∈ gtbl := in_ch6_8 (List.mem_of_getElem? (i := 3) rfl) rfl
set_option maxRecDepth 20000 in
theorem wcn_X12_300 : Cond.constant RX12 300 (65536) ∈ gtbl := in_ch6_8 (List.mem_of_getElem? (i := 4) rfl) rfl
set_option maxRecDepth 20000 in
theorem wm_X12_301 : Cond.methodLink RX12 301 yX12_sets ∈ gtbl := in_ch6_8 (List.mem_of_getElem? (i := 5) rfl) rfl
set_option maxRecDepth 20000 in
theorem wi_X12_sets : Cond.instanceMethod yX12_sets ∈ gtbl := in_ch6_8 (List.mem_of_getElem? (i := 7) rfl) rfl
set_option maxRecDepth 20000 in
theorem wco_X12_sets : Cond.code yX12_sets cX12_sets 4 none ∈ gtbl := in_ch6_8 (List.mem_of_getElem? (i := 8) rfl) rfl
set_option maxRecDepth 20000 in
theorem wm_X12_288 : Cond.methodLink RX12 288 yX12_slackOf ∈ gtbl := in_ch6_8 (List.mem_of_getElem? (i := 9) rfl) rfl
set_option maxRecDepth 20000 in
theorem wi_X12_slackOf : Cond.instanceMethod yX12_slackOf ∈ gtbl := in_ch6_8 (List.mem_of_getElem? (i := 11) rfl) rfl
set_option maxRecDepth 20000 in
theorem wco_X12_slackOf : Cond.code yX12_slackOf cX12_slackOf 4 (some .int) ∈ gtbl := in_ch6_8 (List.mem_of_getElem? (i := 12) rfl) rfl
set_option maxRecDepth 20000 in
theorem wm_X12_291 : Cond.methodLink RX12 291 yX12_bits ∈ gtbl := in_ch6_8 (List.mem_of_getElem? (i := 13) rfl) rfl
set_option maxRecDepth 20000 in
theorem wst_X12_bits : Cond.static yX12_bits ∈ gtbl := in_ch6_8 (List.mem_of_getElem? (i := 14) rfl) rfl
set_option maxRecDepth 20000 in
theorem wco_X12_bits : Cond.code yX12_bits cX12_bits 3 (some .int) ∈ gtbl := in_ch6_8 (List.mem_of_getElem? (i := 15) rfl) rfl
set_option maxRecDepth 20000 in
theorem in_ch6_9 {w : Cond} (h : w ∈ ch6_9) (g : goodWord w = true) : w ∈ gtbl := in_g (tt_6 (by rw [tb_6]; exact List.mem_append_right _ (List.mem_append_right _ (List.mem_append_right _ (List.mem_append_right _ (List.mem_append_right _ (List.mem_append_right _ (List.mem_append_right _ (List.mem_append_right _ (List.mem_append_right _ (List.mem_append_left _ h))))))))))) g
set_option maxRecDepth 20000 in
theorem wm_X12_305 : Cond.methodLink RX12 305 yX12_holdsAny ∈ gtbl := in_ch6_9 (List.mem_of_getElem? (i := 0) rfl) rfl
set_option maxRecDepth 20000 in
theorem wi_X12_holdsAny : Cond.instanceMethod yX12_holdsAny ∈ gtbl := in_ch6_9 (List.mem_of_getElem? (i := 2) rfl) rfl
set_option maxRecDepth 20000 in
theorem wco_X12_holdsAny : Cond.code yX12_holdsAny cX12_holdsAny 3 (some .boolean) ∈ gtbl := in_ch6_9 (List.mem_of_getElem? (i := 3) rfl) rfl
set_option maxRecDepth 20000 in
theorem wm_X12_249 : Cond.methodLink RX12 249 yX12_reckonsTo ∈ gtbl := in_ch6_9 (List.mem_of_getElem? (i := 4) rfl) rfl
set_option maxRecDepth 20000 in
theorem wi_X12_reckonsTo : Cond.instanceMethod yX12_reckonsTo ∈ gtbl := in_ch6_9 (List.mem_of_getElem? (i := 6) rfl) rfl
set_option maxRecDepth 20000 in
theorem wco_X12_reckonsTo : Cond.code yX12_reckonsTo cX12_reckonsTo 8 (some .int) ∈ gtbl := in_ch6_9 (List.mem_of_getElem? (i := 7) rfl) rfl
set_option maxRecDepth 20000 in
theorem wm_X12_245 : Cond.methodLink RX12 245 yX12_reckon ∈ gtbl := in_ch6_9 (List.mem_of_getElem? (i := 8) rfl) rfl
set_option maxRecDepth 20000 in
theorem wst_X12_reckon : Cond.static yX12_reckon ∈ gtbl := in_ch6_9 (List.mem_of_getElem? (i := 9) rfl) rfl
set_option maxRecDepth 20000 in
theorem wco_X12_reckon : Cond.code yX12_reckon cX12_reckon 3 (some .int) ∈ gtbl := in_ch6_9 (List.mem_of_getElem? (i := 10) rfl) rfl
set_option maxRecDepth 20000 in
theorem wm_X12_308 : Cond.methodLink RX12 308 yX12_byLaw ∈ gtbl := in_ch6_9 (List.mem_of_getElem? (i := 11) rfl) rfl
set_option maxRecDepth 20000 in
theorem wi_X12_byLaw : Cond.instanceMethod yX12_byLaw ∈ gtbl := in_ch6_9 (List.mem_of_getElem? (i := 13) rfl) rfl
set_option maxRecDepth 20000 in
theorem wco_X12_byLaw : Cond.code yX12_byLaw cX12_byLaw 4 (some .int) ∈ gtbl := in_ch6_9 (List.mem_of_getElem? (i := 14) rfl) rfl
set_option maxRecDepth 20000 in
theorem wm_X12_326 : Cond.methodLink RX12 326 yX12_isMended ∈ gtbl := in_ch6_9 (List.mem_of_getElem? (i := 15) rfl) rfl
set_option maxRecDepth 20000 in
theorem in_ch6_10 {w : Cond} (h : w ∈ ch6_10) (g : goodWord w = true) : w ∈ gtbl := in_g (tt_6 (by rw [tb_6]; exact List.mem_append_right _ (List.mem_append_right _ (List.mem_append_right _ (List.mem_append_right _ (List.mem_append_right _ (List.mem_append_right _ (List.mem_append_right _ (List.mem_append_right _ (List.mem_append_right _ (List.mem_append_right _ (List.mem_append_left _ h)))))))))))) g
set_option maxRecDepth 20000 in
theorem wi_X12_isMended : Cond.instanceMethod yX12_isMended ∈ gtbl := in_ch6_10 (List.mem_of_getElem? (i := 1) rfl) rfl
set_option maxRecDepth 20000 in
theorem wco_X12_isMended : Cond.code yX12_isMended cX12_isMended 4 none ∈ gtbl := in_ch6_10 (List.mem_of_getElem? (i := 2) rfl) rfl
set_option maxRecDepth 20000 in
theorem wm_X12_317 : Cond.methodLink RX12 317 yX12_min ∈ gtbl := in_ch6_10 (List.mem_of_getElem? (i := 3) rfl) rfl
set_option maxRecDepth 20000 in
theorem wst_X12_min : Cond.static yX12_min ∈ gtbl := in_ch6_10 (List.mem_of_getElem? (i := 4) rfl) rfl
set_option maxRecDepth 20000 in
theorem wco_X12_min : Cond.code yX12_min cX12_min 2 (some .int) ∈ gtbl := in_ch6_10 (List.mem_of_getElem? (i := 5) rfl) rfl
set_option maxRecDepth 20000 in
theorem wm_L_40 : Cond.methodLink RL 40 yX12_tried ∈ gtbl := in_ch6_10 (List.mem_of_getElem? (i := 6) rfl) rfl
set_option maxRecDepth 20000 in
theorem wi_X12_tried : Cond.instanceMethod yX12_tried ∈ gtbl := in_ch6_10 (List.mem_of_getElem? (i := 7) rfl) rfl
set_option maxRecDepth 20000 in
theorem wsl_X12_tried : Cond.selects RX12 yX12_tried yX12_tried ∈ gtbl := in_ch6_10 (List.mem_of_getElem? (i := 8) rfl) rfl
set_option maxRecDepth 20000 in
theorem wco_X12_tried : Cond.code yX12_tried cX12_tried 4 (some .int) ∈ gtbl := in_ch6_10 (List.mem_of_getElem? (i := 9) rfl) rfl
set_option maxRecDepth 20000 in
theorem wm_X12_335 : Cond.methodLink RX12 335 yX12_copies ∈ gtbl := in_ch6_10 (List.mem_of_getElem? (i := 10) rfl) rfl
set_option maxRecDepth 20000 in
theorem wst_X12_copies : Cond.static yX12_copies ∈ gtbl := in_ch6_10 (List.mem_of_getElem? (i := 11) rfl) rfl
set_option maxRecDepth 20000 in
theorem wco_X12_copies : Cond.code yX12_copies cX12_copies 3 none ∈ gtbl := in_ch6_10 (List.mem_of_getElem? (i := 12) rfl) rfl
set_option maxRecDepth 20000 in
theorem wm_X12_339 : Cond.methodLink RX12 339 yX12_slackOfAll ∈ gtbl := in_ch6_10 (List.mem_of_getElem? (i := 13) rfl) rfl
set_option maxRecDepth 20000 in
theorem wi_X12_slackOfAll : Cond.instanceMethod yX12_slackOfAll ∈ gtbl := in_ch6_10 (List.mem_of_getElem? (i := 15) rfl) rfl
set_option maxRecDepth 20000 in
theorem in_ch6_11 {w : Cond} (h : w ∈ ch6_11) (g : goodWord w = true) : w ∈ gtbl := in_g (tt_6 (by rw [tb_6]; exact List.mem_append_right _ (List.mem_append_right _ (List.mem_append_right _ (List.mem_append_right _ (List.mem_append_right _ (List.mem_append_right _ (List.mem_append_right _ (List.mem_append_right _ (List.mem_append_right _ (List.mem_append_right _ (List.mem_append_right _ (List.mem_append_left _ h))))))))))))) g
set_option maxRecDepth 20000 in
theorem wco_X12_slackOfAll : Cond.code yX12_slackOfAll cX12_slackOfAll 3 (some .int) ∈ gtbl := in_ch6_11 (List.mem_of_getElem? (i := 0) rfl) rfl
set_option maxRecDepth 20000 in
theorem wm_X12_342 : Cond.methodLink RX12 342 yX12_tensionsOf ∈ gtbl := in_ch6_11 (List.mem_of_getElem? (i := 1) rfl) rfl
set_option maxRecDepth 20000 in
theorem wi_X12_tensionsOf : Cond.instanceMethod yX12_tensionsOf ∈ gtbl := in_ch6_11 (List.mem_of_getElem? (i := 3) rfl) rfl
set_option maxRecDepth 20000 in
theorem wco_X12_tensionsOf : Cond.code yX12_tensionsOf cX12_tensionsOf 4 (some .int) ∈ gtbl := in_ch6_11 (List.mem_of_getElem? (i := 4) rfl) rfl
set_option maxRecDepth 20000 in
theorem wm_X12_345 : Cond.methodLink RX12 345 yX12_orNone ∈ gtbl := in_ch6_11 (List.mem_of_getElem? (i := 5) rfl) rfl
set_option maxRecDepth 20000 in
theorem wst_X12_orNone : Cond.static yX12_orNone ∈ gtbl := in_ch6_11 (List.mem_of_getElem? (i := 6) rfl) rfl
set_option maxRecDepth 20000 in
theorem wco_X12_orNone : Cond.code yX12_orNone cX12_orNone 1 (some .int) ∈ gtbl := in_ch6_11 (List.mem_of_getElem? (i := 7) rfl) rfl
set_option maxRecDepth 20000 in
theorem wm_L_44 : Cond.methodLink RL 44 yX12_webIs ∈ gtbl := in_ch6_11 (List.mem_of_getElem? (i := 8) rfl) rfl
set_option maxRecDepth 20000 in
theorem wi_X12_webIs : Cond.instanceMethod yX12_webIs ∈ gtbl := in_ch6_11 (List.mem_of_getElem? (i := 9) rfl) rfl
set_option maxRecDepth 20000 in
theorem wsl_X12_webIs : Cond.selects RX12 yX12_webIs yX12_webIs ∈ gtbl := in_ch6_11 (List.mem_of_getElem? (i := 10) rfl) rfl
set_option maxRecDepth 20000 in
theorem wco_X12_webIs : Cond.code yX12_webIs cX12_webIs 3 (some .int) ∈ gtbl := in_ch6_11 (List.mem_of_getElem? (i := 11) rfl) rfl
set_option maxRecDepth 20000 in
theorem wm_L_48 : Cond.methodLink RL 48 yX12_fleetIs ∈ gtbl := in_ch6_11 (List.mem_of_getElem? (i := 12) rfl) rfl
set_option maxRecDepth 20000 in
theorem wi_X12_fleetIs : Cond.instanceMethod yX12_fleetIs ∈ gtbl := in_ch6_11 (List.mem_of_getElem? (i := 13) rfl) rfl
set_option maxRecDepth 20000 in
theorem wsl_X12_fleetIs : Cond.selects RX12 yX12_fleetIs yX12_fleetIs ∈ gtbl := in_ch6_11 (List.mem_of_getElem? (i := 14) rfl) rfl
set_option maxRecDepth 20000 in
theorem wco_X12_fleetIs : Cond.code yX12_fleetIs cX12_fleetIs 3 (some .int) ∈ gtbl := in_ch6_11 (List.mem_of_getElem? (i := 15) rfl) rfl
set_option maxRecDepth 20000 in
theorem in_ch6_12 {w : Cond} (h : w ∈ ch6_12) (g : goodWord w = true) : w ∈ gtbl := in_g (tt_6 (by rw [tb_6]; exact List.mem_append_right _ (List.mem_append_right _ (List.mem_append_right _ (List.mem_append_right _ (List.mem_append_right _ (List.mem_append_right _ (List.mem_append_right _ (List.mem_append_right _ (List.mem_append_right _ (List.mem_append_right _ (List.mem_append_right _ (List.mem_append_right _ (List.mem_append_left _ h)))))))))))))) g
set_option maxRecDepth 20000 in
theorem wm_L_52 : Cond.methodLink RL 52 yX12_feels ∈ gtbl := in_ch6_12 (List.mem_of_getElem? (i := 0) rfl) rfl
set_option maxRecDepth 20000 in
theorem wi_X12_feels : Cond.instanceMethod yX12_feels ∈ gtbl := in_ch6_12 (List.mem_of_getElem? (i := 1) rfl) rfl
set_option maxRecDepth 20000 in
theorem wsl_X12_feels : Cond.selects RX12 yX12_feels yX12_feels ∈ gtbl := in_ch6_12 (List.mem_of_getElem? (i := 2) rfl) rfl
set_option maxRecDepth 20000 in
theorem wco_X12_feels : Cond.code yX12_feels cX12_feels 6 (some .int) ∈ gtbl := in_ch6_12 (List.mem_of_getElem? (i := 3) rfl) rfl
set_option maxRecDepth 20000 in
theorem wm_X12_348 : Cond.methodLink RX12 348 yX12_feltBy ∈ gtbl := in_ch6_12 (List.mem_of_getElem? (i := 4) rfl) rfl
set_option maxRecDepth 20000 in
theorem wi_X12_feltBy : Cond.instanceMethod yX12_feltBy ∈ gtbl := in_ch6_12 (List.mem_of_getElem? (i := 6) rfl) rfl
set_option maxRecDepth 20000 in
theorem wco_X12_feltBy : Cond.code yX12_feltBy cX12_feltBy 3 (some .int) ∈ gtbl := in_ch6_12 (List.mem_of_getElem? (i := 7) rfl) rfl
set_option maxRecDepth 20000 in
theorem wm_L_57 : Cond.methodLink RL 57 yX12_when ∈ gtbl := in_ch6_12 (List.mem_of_getElem? (i := 8) rfl) rfl
set_option maxRecDepth 20000 in
theorem wi_X12_when : Cond.instanceMethod yX12_when ∈ gtbl := in_ch6_12 (List.mem_of_getElem? (i := 9) rfl) rfl
set_option maxRecDepth 20000 in
theorem wsl_X12_when : Cond.selects RX12 yX12_when yX12_when ∈ gtbl := in_ch6_12 (List.mem_of_getElem? (i := 10) rfl) rfl
set_option maxRecDepth 20000 in
theorem wco_X12_when : Cond.code yX12_when cX12_when 6 (some .int) ∈ gtbl := in_ch6_12 (List.mem_of_getElem? (i := 11) rfl) rfl
set_option maxRecDepth 20000 in
theorem wm_L_61 : Cond.methodLink RL 61 yX12_fix ∈ gtbl := in_ch6_12 (List.mem_of_getElem? (i := 12) rfl) rfl
set_option maxRecDepth 20000 in
theorem wi_X12_fix : Cond.instanceMethod yX12_fix ∈ gtbl := in_ch6_12 (List.mem_of_getElem? (i := 13) rfl) rfl
set_option maxRecDepth 20000 in
theorem wsl_X12_fix : Cond.selects RX12 yX12_fix yX12_fix ∈ gtbl := in_ch6_12 (List.mem_of_getElem? (i := 14) rfl) rfl
set_option maxRecDepth 20000 in
theorem wco_X12_fix : Cond.code yX12_fix cX12_fix 8 (some .int) ∈ gtbl := in_ch6_12 (List.mem_of_getElem? (i := 15) rfl) rfl
set_option maxRecDepth 20000 in
theorem in_ch6_13 {w : Cond} (h : w ∈ ch6_13) (g : goodWord w = true) : w ∈ gtbl := in_g (tt_6 (by rw [tb_6]; exact List.mem_append_right _ (List.mem_append_right _ (List.mem_append_right _ (List.mem_append_right _ (List.mem_append_right _ (List.mem_append_right _ (List.mem_append_right _ (List.mem_append_right _ (List.mem_append_right _ (List.mem_append_right _ (List.mem_append_right _ (List.mem_append_right _ (List.mem_append_right _ (List.mem_append_left _ h))))))))))))))) g
set_option maxRecDepth 20000 in
theorem wm_X12_351 : Cond.methodLink RX12 351 yX12_octet ∈ gtbl := in_ch6_13 (List.mem_of_getElem? (i := 0) rfl) rfl
set_option maxRecDepth 20000 in
theorem wi_X12_octet : Cond.instanceMethod yX12_octet ∈ gtbl := in_ch6_13 (List.mem_of_getElem? (i := 2) rfl) rfl
set_option maxRecDepth 20000 in
theorem wco_X12_octet : Cond.code yX12_octet cX12_octet 2 (some .int) ∈ gtbl := in_ch6_13 (List.mem_of_getElem? (i := 3) rfl) rfl
set_option maxRecDepth 20000 in
theorem wm_L_66 : Cond.methodLink RL 66 yX12_bearings ∈ gtbl := in_ch6_13 (List.mem_of_getElem? (i := 4) rfl) rfl
set_option maxRecDepth 20000 in
theorem wi_X12_bearings : Cond.instanceMethod yX12_bearings ∈ gtbl := in_ch6_13 (List.mem_of_getElem? (i := 5) rfl) rfl
set_option maxRecDepth 20000 in
theorem wsl_X12_bearings : Cond.selects RX12 yX12_bearings yX12_bearings ∈ gtbl := in_ch6_13 (List.mem_of_getElem? (i := 6) rfl) rfl
set_option maxRecDepth 20000 in
theorem wco_X12_bearings : Cond.code yX12_bearings cX12_bearings 6 (some .int) ∈ gtbl := in_ch6_13 (List.mem_of_getElem? (i := 7) rfl) rfl
set_option maxRecDepth 20000 in
theorem wm_X12_354 : Cond.methodLink RX12 354 yX12_isOnWay ∈ gtbl := in_ch6_13 (List.mem_of_getElem? (i := 8) rfl) rfl
set_option maxRecDepth 20000 in
theorem wi_X12_isOnWay : Cond.instanceMethod yX12_isOnWay ∈ gtbl := in_ch6_13 (List.mem_of_getElem? (i := 10) rfl) rfl
set_option maxRecDepth 20000 in
theorem wco_X12_isOnWay : Cond.code yX12_isOnWay cX12_isOnWay 5 (some .boolean) ∈ gtbl := in_ch6_13 (List.mem_of_getElem? (i := 11) rfl) rfl
set_option maxRecDepth 20000 in
theorem wm_L_70 : Cond.methodLink RL 70 yX12_allTheSea ∈ gtbl := in_ch6_13 (List.mem_of_getElem? (i := 12) rfl) rfl
set_option maxRecDepth 20000 in
theorem wi_X12_allTheSea : Cond.instanceMethod yX12_allTheSea ∈ gtbl := in_ch6_13 (List.mem_of_getElem? (i := 13) rfl) rfl
set_option maxRecDepth 20000 in
theorem wsl_X12_allTheSea : Cond.selects RX12 yX12_allTheSea yX12_allTheSea ∈ gtbl := in_ch6_13 (List.mem_of_getElem? (i := 14) rfl) rfl
set_option maxRecDepth 20000 in
theorem wco_X12_allTheSea : Cond.code yX12_allTheSea cX12_allTheSea 5 (some .int) ∈ gtbl := in_ch6_13 (List.mem_of_getElem? (i := 15) rfl) rfl
set_option maxRecDepth 20000 in
theorem in_ch6_14 {w : Cond} (h : w ∈ ch6_14) (g : goodWord w = true) : w ∈ gtbl := in_g (tt_6 (by rw [tb_6]; exact List.mem_append_right _ (List.mem_append_right _ (List.mem_append_right _ (List.mem_append_right _ (List.mem_append_right _ (List.mem_append_right _ (List.mem_append_right _ (List.mem_append_right _ (List.mem_append_right _ (List.mem_append_right _ (List.mem_append_right _ (List.mem_append_right _ (List.mem_append_right _ (List.mem_append_right _ (List.mem_append_left _ h)))))))))))))))) g
set_option maxRecDepth 20000 in
theorem wm_X12_360 : Cond.methodLink RX12 360 yX12_feelsAll ∈ gtbl := in_ch6_14 (List.mem_of_getElem? (i := 0) rfl) rfl
set_option maxRecDepth 20000 in
theorem wi_X12_feelsAll : Cond.instanceMethod yX12_feelsAll ∈ gtbl := in_ch6_14 (List.mem_of_getElem? (i := 2) rfl) rfl
set_option maxRecDepth 20000 in
theorem wco_X12_feelsAll : Cond.code yX12_feelsAll cX12_feelsAll 4 (some .boolean) ∈ gtbl := in_ch6_14 (List.mem_of_getElem? (i := 3) rfl) rfl
set_option maxRecDepth 20000 in
theorem wm_X12_357 : Cond.methodLink RX12 357 yX12_isFelt ∈ gtbl := in_ch6_14 (List.mem_of_getElem? (i := 4) rfl) rfl
set_option maxRecDepth 20000 in
theorem wi_X12_isFelt : Cond.instanceMethod yX12_isFelt ∈ gtbl := in_ch6_14 (List.mem_of_getElem? (i := 6) rfl) rfl
set_option maxRecDepth 20000 in
theorem wco_X12_isFelt : Cond.code yX12_isFelt cX12_isFelt 5 (some .boolean) ∈ gtbl := in_ch6_14 (List.mem_of_getElem? (i := 7) rfl) rfl
set_option maxRecDepth 20000 in
theorem wm_L_74 : Cond.methodLink RL 74 yX12_quiet ∈ gtbl := in_ch6_14 (List.mem_of_getElem? (i := 8) rfl) rfl
set_option maxRecDepth 20000 in
theorem wi_X12_quiet : Cond.instanceMethod yX12_quiet ∈ gtbl := in_ch6_14 (List.mem_of_getElem? (i := 9) rfl) rfl
set_option maxRecDepth 20000 in
theorem wsl_X12_quiet : Cond.selects RX12 yX12_quiet yX12_quiet ∈ gtbl := in_ch6_14 (List.mem_of_getElem? (i := 10) rfl) rfl
set_option maxRecDepth 20000 in
theorem wco_X12_quiet : Cond.code yX12_quiet cX12_quiet 6 (some .int) ∈ gtbl := in_ch6_14 (List.mem_of_getElem? (i := 11) rfl) rfl
set_option maxRecDepth 20000 in
theorem wm_L_78 : Cond.methodLink RL 78 yX12_nearest ∈ gtbl := in_ch6_14 (List.mem_of_getElem? (i := 12) rfl) rfl
set_option maxRecDepth 20000 in
theorem wi_X12_nearest : Cond.instanceMethod yX12_nearest ∈ gtbl := in_ch6_14 (List.mem_of_getElem? (i := 13) rfl) rfl
set_option maxRecDepth 20000 in
theorem wsl_X12_nearest : Cond.selects RX12 yX12_nearest yX12_nearest ∈ gtbl := in_ch6_14 (List.mem_of_getElem? (i := 14) rfl) rfl
set_option maxRecDepth 20000 in
theorem wco_X12_nearest : Cond.code yX12_nearest cX12_nearest 3 (some .int) ∈ gtbl := in_ch6_14 (List.mem_of_getElem? (i := 15) rfl) rfl
set_option maxRecDepth 20000 in
theorem tt_7 {w : Cond} (h : w ∈ tables_1_7) : w ∈ lw_tbl := List.mem_append_right _ (List.mem_append_right _ (List.mem_append_right _ (List.mem_append_right _ (List.mem_append_right _ (List.mem_append_right _ (List.mem_append_right _ (h)))))))
set_option maxRecDepth 20000 in
theorem in_ch7_0 {w : Cond} (h : w ∈ ch7_0) (g : goodWord w = true) : w ∈ gtbl := in_g (tt_7 (by rw [tb_7]; exact List.mem_append_left _ h)) g
set_option maxRecDepth 20000 in
theorem wm_X12_363 : Cond.methodLink RX12 363 yX12_nearestTo ∈ gtbl := in_ch7_0 (List.mem_of_getElem? (i := 0) rfl) rfl
set_option maxRecDepth 20000 in
theorem wi_X12_nearestTo : Cond.instanceMethod yX12_nearestTo ∈ gtbl := in_ch7_0 (List.mem_of_getElem? (i := 2) rfl) rfl
set_option maxRecDepth 20000 in
theorem wco_X12_nearestTo : Cond.code yX12_nearestTo cX12_nearestTo 4 (some .int) ∈ gtbl := in_ch7_0 (List.mem_of_getElem? (i := 3) rfl) rfl
set_option maxRecDepth 20000 in
theorem wm_L_82 : Cond.methodLink RL 82 yX12_share ∈ gtbl := in_ch7_0 (List.mem_of_getElem? (i := 4) rfl) rfl
set_option maxRecDepth 20000 in
theorem wi_X12_share : Cond.instanceMethod yX12_share ∈ gtbl := in_ch7_0 (List.mem_of_getElem? (i := 5) rfl) rfl
set_option maxRecDepth 20000 in
theorem wsl_X12_share : Cond.selects RX12 yX12_share yX12_share ∈ gtbl := in_ch7_0 (List.mem_of_getElem? (i := 6) rfl) rfl
set_option maxRecDepth 20000 in
theorem wco_X12_share : Cond.code yX12_share cX12_share 4 (some .int) ∈ gtbl := in_ch7_0 (List.mem_of_getElem? (i := 7) rfl) rfl
set_option maxRecDepth 20000 in
theorem wm_L_86 : Cond.methodLink RL 86 yX12_log ∈ gtbl := in_ch7_0 (List.mem_of_getElem? (i := 8) rfl) rfl
set_option maxRecDepth 20000 in
theorem wi_X12_log : Cond.instanceMethod yX12_log ∈ gtbl := in_ch7_0 (List.mem_of_getElem? (i := 9) rfl) rfl
set_option maxRecDepth 20000 in
theorem wsl_X12_log : Cond.selects RX12 yX12_log yX12_log ∈ gtbl := in_ch7_0 (List.mem_of_getElem? (i := 10) rfl) rfl
set_option maxRecDepth 20000 in
theorem wco_X12_log : Cond.code yX12_log cX12_log 4 (some .int) ∈ gtbl := in_ch7_0 (List.mem_of_getElem? (i := 11) rfl) rfl
set_option maxRecDepth 20000 in
theorem wm_X12_381 : Cond.methodLink RX12 381 yX12_readsSpoke ∈ gtbl := in_ch7_0 (List.mem_of_getElem? (i := 12) rfl) rfl
set_option maxRecDepth 20000 in
theorem wi_X12_readsSpoke : Cond.instanceMethod yX12_readsSpoke ∈ gtbl := in_ch7_0 (List.mem_of_getElem? (i := 14) rfl) rfl
set_option maxRecDepth 20000 in
theorem wco_X12_readsSpoke : Cond.code yX12_readsSpoke cX12_readsSpoke 1 (some .boolean) ∈ gtbl := in_ch7_0 (List.mem_of_getElem? (i := 15) rfl) rfl
set_option maxRecDepth 20000 in
theorem in_ch7_1 {w : Cond} (h : w ∈ ch7_1) (g : goodWord w = true) : w ∈ gtbl := in_g (tt_7 (by rw [tb_7]; exact List.mem_append_right _ (List.mem_append_left _ h))) g
set_option maxRecDepth 20000 in
theorem wm_X12_372 : Cond.methodLink RX12 372 yX12_readsRoundEnd ∈ gtbl := in_ch7_1 (List.mem_of_getElem? (i := 0) rfl) rfl
set_option maxRecDepth 20000 in
theorem wi_X12_readsRoundEnd : Cond.instanceMethod yX12_readsRoundEnd ∈ gtbl := in_ch7_1 (List.mem_of_getElem? (i := 2) rfl) rfl
set_option maxRecDepth 20000 in
theorem wco_X12_readsRoundEnd : Cond.code yX12_readsRoundEnd cX12_readsRoundEnd 5 (some .boolean) ∈ gtbl := in_ch7_1 (List.mem_of_getElem? (i := 3) rfl) rfl
set_option maxRecDepth 20000 in
theorem wm_X12_384 : Cond.methodLink RX12 384 yX12_mostOften ∈ gtbl := in_ch7_1 (List.mem_of_getElem? (i := 4) rfl) rfl
set_option maxRecDepth 20000 in
theorem wi_X12_mostOften : Cond.instanceMethod yX12_mostOften ∈ gtbl := in_ch7_1 (List.mem_of_getElem? (i := 6) rfl) rfl
set_option maxRecDepth 20000 in
theorem wco_X12_mostOften : Cond.code yX12_mostOften cX12_mostOften 3 (some .int) ∈ gtbl := in_ch7_1 (List.mem_of_getElem? (i := 7) rfl) rfl
set_option maxRecDepth 20000 in
theorem wm_X12_375 : Cond.methodLink RX12 375 yX12_oftenOf ∈ gtbl := in_ch7_1 (List.mem_of_getElem? (i := 8) rfl) rfl
set_option maxRecDepth 20000 in
theorem wi_X12_oftenOf : Cond.instanceMethod yX12_oftenOf ∈ gtbl := in_ch7_1 (List.mem_of_getElem? (i := 10) rfl) rfl
set_option maxRecDepth 20000 in
theorem wco_X12_oftenOf : Cond.code yX12_oftenOf cX12_oftenOf 4 (some .int) ∈ gtbl := in_ch7_1 (List.mem_of_getElem? (i := 11) rfl) rfl
set_option maxRecDepth 20000 in
theorem wm_X12_387 : Cond.methodLink RX12 387 yX12_longestRow ∈ gtbl := in_ch7_1 (List.mem_of_getElem? (i := 12) rfl) rfl
set_option maxRecDepth 20000 in
theorem wi_X12_longestRow : Cond.instanceMethod yX12_longestRow ∈ gtbl := in_ch7_1 (List.mem_of_getElem? (i := 14) rfl) rfl
set_option maxRecDepth 20000 in
theorem wco_X12_longestRow : Cond.code yX12_longestRow cX12_longestRow 4 (some .int) ∈ gtbl := in_ch7_1 (List.mem_of_getElem? (i := 15) rfl) rfl
set_option maxRecDepth 20000 in
theorem in_ch7_2 {w : Cond} (h : w ∈ ch7_2) (g : goodWord w = true) : w ∈ gtbl := in_g (tt_7 (by rw [tb_7]; exact List.mem_append_right _ (List.mem_append_right _ (List.mem_append_left _ h)))) g
set_option maxRecDepth 20000 in
theorem wm_X12_390 : Cond.methodLink RX12 390 yX12_turnsOf ∈ gtbl := in_ch7_2 (List.mem_of_getElem? (i := 0) rfl) rfl
set_option maxRecDepth 20000 in
theorem wi_X12_turnsOf : Cond.instanceMethod yX12_turnsOf ∈ gtbl := in_ch7_2 (List.mem_of_getElem? (i := 2) rfl) rfl
set_option maxRecDepth 20000 in
theorem wco_X12_turnsOf : Cond.code yX12_turnsOf cX12_turnsOf 4 (some .int) ∈ gtbl := in_ch7_2 (List.mem_of_getElem? (i := 3) rfl) rfl
set_option maxRecDepth 20000 in
theorem wm_X12_393 : Cond.methodLink RX12 393 yX12_periodOf ∈ gtbl := in_ch7_2 (List.mem_of_getElem? (i := 4) rfl) rfl
set_option maxRecDepth 20000 in
theorem wi_X12_periodOf : Cond.instanceMethod yX12_periodOf ∈ gtbl := in_ch7_2 (List.mem_of_getElem? (i := 6) rfl) rfl
set_option maxRecDepth 20000 in
theorem wco_X12_periodOf : Cond.code yX12_periodOf cX12_periodOf 2 (some .int) ∈ gtbl := in_ch7_2 (List.mem_of_getElem? (i := 7) rfl) rfl
set_option maxRecDepth 20000 in
theorem wm_X12_378 : Cond.methodLink RX12 378 yX12_goesOnBy ∈ gtbl := in_ch7_2 (List.mem_of_getElem? (i := 8) rfl) rfl
set_option maxRecDepth 20000 in
theorem wi_X12_goesOnBy : Cond.instanceMethod yX12_goesOnBy ∈ gtbl := in_ch7_2 (List.mem_of_getElem? (i := 10) rfl) rfl
set_option maxRecDepth 20000 in
theorem wco_X12_goesOnBy : Cond.code yX12_goesOnBy cX12_goesOnBy 3 (some .boolean) ∈ gtbl := in_ch7_2 (List.mem_of_getElem? (i := 11) rfl) rfl
set_option maxRecDepth 20000 in
theorem wm_L_90 : Cond.methodLink RL 90 yX12_inCommon ∈ gtbl := in_ch7_2 (List.mem_of_getElem? (i := 12) rfl) rfl
set_option maxRecDepth 20000 in
theorem wi_X12_inCommon : Cond.instanceMethod yX12_inCommon ∈ gtbl := in_ch7_2 (List.mem_of_getElem? (i := 13) rfl) rfl
set_option maxRecDepth 20000 in
theorem wsl_X12_inCommon : Cond.selects RX12 yX12_inCommon yX12_inCommon ∈ gtbl := in_ch7_2 (List.mem_of_getElem? (i := 14) rfl) rfl
set_option maxRecDepth 20000 in
theorem wco_X12_inCommon : Cond.code yX12_inCommon cX12_inCommon 6 (some .int) ∈ gtbl := in_ch7_2 (List.mem_of_getElem? (i := 15) rfl) rfl
set_option maxRecDepth 20000 in
theorem in_ch7_3 {w : Cond} (h : w ∈ ch7_3) (g : goodWord w = true) : w ∈ gtbl := in_g (tt_7 (by rw [tb_7]; exact List.mem_append_right _ (List.mem_append_right _ (List.mem_append_right _ (List.mem_append_left _ h))))) g
set_option maxRecDepth 20000 in
theorem wm_L_94 : Cond.methodLink RL 94 yX12_code ∈ gtbl := in_ch7_3 (List.mem_of_getElem? (i := 0) rfl) rfl
set_option maxRecDepth 20000 in
theorem wi_X12_code : Cond.instanceMethod yX12_code ∈ gtbl := in_ch7_3 (List.mem_of_getElem? (i := 1) rfl) rfl
set_option maxRecDepth 20000 in
theorem wsl_X12_code : Cond.selects RX12 yX12_code yX12_code ∈ gtbl := in_ch7_3 (List.mem_of_getElem? (i := 2) rfl) rfl
set_option maxRecDepth 20000 in
theorem wco_X12_code : Cond.code yX12_code cX12_code 7 (some .int) ∈ gtbl := in_ch7_3 (List.mem_of_getElem? (i := 3) rfl) rfl
set_option maxRecDepth 20000 in
theorem wm_X12_396 : Cond.methodLink RX12 396 yX12_rarest ∈ gtbl := in_ch7_3 (List.mem_of_getElem? (i := 4) rfl) rfl
set_option maxRecDepth 20000 in
theorem wi_X12_rarest : Cond.instanceMethod yX12_rarest ∈ gtbl := in_ch7_3 (List.mem_of_getElem? (i := 6) rfl) rfl
set_option maxRecDepth 20000 in
theorem wco_X12_rarest : Cond.code yX12_rarest cX12_rarest 4 (some .int) ∈ gtbl := in_ch7_3 (List.mem_of_getElem? (i := 7) rfl) rfl
set_option maxRecDepth 20000 in
theorem wm_L_98 : Cond.methodLink RL 98 yX12_crawls ∈ gtbl := in_ch7_3 (List.mem_of_getElem? (i := 8) rfl) rfl
set_option maxRecDepth 20000 in
theorem wi_X12_crawls : Cond.instanceMethod yX12_crawls ∈ gtbl := in_ch7_3 (List.mem_of_getElem? (i := 9) rfl) rfl
set_option maxRecDepth 20000 in
theorem wsl_X12_crawls : Cond.selects RX12 yX12_crawls yX12_crawls ∈ gtbl := in_ch7_3 (List.mem_of_getElem? (i := 10) rfl) rfl
set_option maxRecDepth 20000 in
theorem wco_X12_crawls : Cond.code yX12_crawls cX12_crawls 5 (some .int) ∈ gtbl := in_ch7_3 (List.mem_of_getElem? (i := 11) rfl) rfl
set_option maxRecDepth 20000 in
theorem wm_X12_402 : Cond.methodLink RX12 402 yX12_crawlsTo ∈ gtbl := in_ch7_3 (List.mem_of_getElem? (i := 12) rfl) rfl
set_option maxRecDepth 20000 in
theorem wi_X12_crawlsTo : Cond.instanceMethod yX12_crawlsTo ∈ gtbl := in_ch7_3 (List.mem_of_getElem? (i := 14) rfl) rfl
set_option maxRecDepth 20000 in
theorem wco_X12_crawlsTo : Cond.code yX12_crawlsTo cX12_crawlsTo 3 none ∈ gtbl := in_ch7_3 (List.mem_of_getElem? (i := 15) rfl) rfl
set_option maxRecDepth 20000 in
theorem in_ch7_4 {w : Cond} (h : w ∈ ch7_4) (g : goodWord w = true) : w ∈ gtbl := in_g (tt_7 (by rw [tb_7]; exact List.mem_append_right _ (List.mem_append_right _ (List.mem_append_right _ (List.mem_append_right _ (List.mem_append_left _ h)))))) g
set_option maxRecDepth 20000 in
theorem wm_X12_405 : Cond.methodLink RX12 405 yX12_crawlsFrom ∈ gtbl := in_ch7_4 (List.mem_of_getElem? (i := 0) rfl) rfl
set_option maxRecDepth 20000 in
theorem wi_X12_crawlsFrom : Cond.instanceMethod yX12_crawlsFrom ∈ gtbl := in_ch7_4 (List.mem_of_getElem? (i := 2) rfl) rfl
set_option maxRecDepth 20000 in
theorem wco_X12_crawlsFrom : Cond.code yX12_crawlsFrom cX12_crawlsFrom 6 none ∈ gtbl := in_ch7_4 (List.mem_of_getElem? (i := 3) rfl) rfl
set_option maxRecDepth 20000 in
theorem wm_L_103 : Cond.methodLink RL 103 yX12_hangs ∈ gtbl := in_ch7_4 (List.mem_of_getElem? (i := 4) rfl) rfl
set_option maxRecDepth 20000 in
theorem wi_X12_hangs : Cond.instanceMethod yX12_hangs ∈ gtbl := in_ch7_4 (List.mem_of_getElem? (i := 5) rfl) rfl
set_option maxRecDepth 20000 in
theorem wsl_X12_hangs : Cond.selects RX12 yX12_hangs yX12_hangs ∈ gtbl := in_ch7_4 (List.mem_of_getElem? (i := 6) rfl) rfl
set_option maxRecDepth 20000 in
theorem wco_X12_hangs : Cond.code yX12_hangs cX12_hangs 9 (some .long) ∈ gtbl := in_ch7_4 (List.mem_of_getElem? (i := 7) rfl) rfl
set_option maxRecDepth 20000 in
theorem wcn_X12_408 : Cond.constantLong RX12 408 (-1) ∈ gtbl := in_ch7_4 (List.mem_of_getElem? (i := 8) rfl) rfl
set_option maxRecDepth 20000 in
theorem wcn_X12_410 : Cond.constantLong RX12 410 (2) ∈ gtbl := in_ch7_4 (List.mem_of_getElem? (i := 9) rfl) rfl
set_option maxRecDepth 20000 in
theorem wm_L_107 : Cond.methodLink RL 107 yX12_smoothed ∈ gtbl := in_ch7_4 (List.mem_of_getElem? (i := 10) rfl) rfl
set_option maxRecDepth 20000 in
theorem wi_X12_smoothed : Cond.instanceMethod yX12_smoothed ∈ gtbl := in_ch7_4 (List.mem_of_getElem? (i := 11) rfl) rfl
set_option maxRecDepth 20000 in
theorem wsl_X12_smoothed : Cond.selects RX12 yX12_smoothed yX12_smoothed ∈ gtbl := in_ch7_4 (List.mem_of_getElem? (i := 12) rfl) rfl
set_option maxRecDepth 20000 in
theorem wco_X12_smoothed : Cond.code yX12_smoothed cX12_smoothed 6 (some .int) ∈ gtbl := in_ch7_4 (List.mem_of_getElem? (i := 13) rfl) rfl
set_option maxRecDepth 20000 in
theorem wm_X12_415 : Cond.methodLink RX12 415 yX12_smooths ∈ gtbl := in_ch7_4 (List.mem_of_getElem? (i := 14) rfl) rfl
set_option maxRecDepth 20000 in
theorem in_ch7_5 {w : Cond} (h : w ∈ ch7_5) (g : goodWord w = true) : w ∈ gtbl := in_g (tt_7 (by rw [tb_7]; exact List.mem_append_right _ (List.mem_append_right _ (List.mem_append_right _ (List.mem_append_right _ (List.mem_append_right _ (List.mem_append_left _ h))))))) g
set_option maxRecDepth 20000 in
theorem wi_X12_smooths : Cond.instanceMethod yX12_smooths ∈ gtbl := in_ch7_5 (List.mem_of_getElem? (i := 0) rfl) rfl
set_option maxRecDepth 20000 in
theorem wco_X12_smooths : Cond.code yX12_smooths cX12_smooths 4 (some .boolean) ∈ gtbl := in_ch7_5 (List.mem_of_getElem? (i := 1) rfl) rfl
set_option maxRecDepth 20000 in
theorem wm_X12_412 : Cond.methodLink RX12 412 yX12_middle ∈ gtbl := in_ch7_5 (List.mem_of_getElem? (i := 2) rfl) rfl
set_option maxRecDepth 20000 in
theorem wst_X12_middle : Cond.static yX12_middle ∈ gtbl := in_ch7_5 (List.mem_of_getElem? (i := 3) rfl) rfl
set_option maxRecDepth 20000 in
theorem wco_X12_middle : Cond.code yX12_middle cX12_middle 3 (some .int) ∈ gtbl := in_ch7_5 (List.mem_of_getElem? (i := 4) rfl) rfl
set_option maxRecDepth 20000 in
theorem wm_L_111 : Cond.methodLink RL 111 yX12_spell ∈ gtbl := in_ch7_5 (List.mem_of_getElem? (i := 5) rfl) rfl
set_option maxRecDepth 20000 in
theorem wi_X12_spell : Cond.instanceMethod yX12_spell ∈ gtbl := in_ch7_5 (List.mem_of_getElem? (i := 6) rfl) rfl
set_option maxRecDepth 20000 in
theorem wsl_X12_spell : Cond.selects RX12 yX12_spell yX12_spell ∈ gtbl := in_ch7_5 (List.mem_of_getElem? (i := 7) rfl) rfl
set_option maxRecDepth 20000 in
theorem wco_X12_spell : Cond.code yX12_spell cX12_spell 9 (some .int) ∈ gtbl := in_ch7_5 (List.mem_of_getElem? (i := 8) rfl) rfl
set_option maxRecDepth 20000 in
theorem wcn_X12_418 : Cond.constant RX12 418 (-1000000) ∈ gtbl := in_ch7_5 (List.mem_of_getElem? (i := 9) rfl) rfl
set_option maxRecDepth 20000 in
theorem wm_L_115 : Cond.methodLink RL 115 yX12_salutes ∈ gtbl := in_ch7_5 (List.mem_of_getElem? (i := 10) rfl) rfl
set_option maxRecDepth 20000 in
theorem wi_X12_salutes : Cond.instanceMethod yX12_salutes ∈ gtbl := in_ch7_5 (List.mem_of_getElem? (i := 11) rfl) rfl
set_option maxRecDepth 20000 in
theorem wsl_X12_salutes : Cond.selects RX12 yX12_salutes yX12_salutes ∈ gtbl := in_ch7_5 (List.mem_of_getElem? (i := 12) rfl) rfl
set_option maxRecDepth 20000 in
theorem wco_X12_salutes : Cond.code yX12_salutes cX12_salutes 7 (some .int) ∈ gtbl := in_ch7_5 (List.mem_of_getElem? (i := 13) rfl) rfl
set_option maxRecDepth 20000 in
theorem wm_L_119 : Cond.methodLink RL 119 yX12_rent ∈ gtbl := in_ch7_5 (List.mem_of_getElem? (i := 14) rfl) rfl
set_option maxRecDepth 20000 in
theorem wi_X12_rent : Cond.instanceMethod yX12_rent ∈ gtbl := in_ch7_5 (List.mem_of_getElem? (i := 15) rfl) rfl
set_option maxRecDepth 20000 in
theorem in_ch7_6 {w : Cond} (h : w ∈ ch7_6) (g : goodWord w = true) : w ∈ gtbl := in_g (tt_7 (by rw [tb_7]; exact List.mem_append_right _ (List.mem_append_right _ (List.mem_append_right _ (List.mem_append_right _ (List.mem_append_right _ (List.mem_append_right _ (List.mem_append_left _ h)))))))) g
set_option maxRecDepth 20000 in
theorem wsl_X12_rent : Cond.selects RX12 yX12_rent yX12_rent ∈ gtbl := in_ch7_6 (List.mem_of_getElem? (i := 0) rfl) rfl
set_option maxRecDepth 20000 in
theorem wco_X12_rent : Cond.code yX12_rent cX12_rent 6 (some .int) ∈ gtbl := in_ch7_6 (List.mem_of_getElem? (i := 1) rfl) rfl
set_option maxRecDepth 20000 in
theorem wm_L_124 : Cond.methodLink RL 124 yX12_seed ∈ gtbl := in_ch7_6 (List.mem_of_getElem? (i := 2) rfl) rfl
set_option maxRecDepth 20000 in
theorem wi_X12_seed : Cond.instanceMethod yX12_seed ∈ gtbl := in_ch7_6 (List.mem_of_getElem? (i := 3) rfl) rfl
set_option maxRecDepth 20000 in
theorem wsl_X12_seed : Cond.selects RX12 yX12_seed yX12_seed ∈ gtbl := in_ch7_6 (List.mem_of_getElem? (i := 4) rfl) rfl
set_option maxRecDepth 20000 in
theorem wco_X12_seed : Cond.code yX12_seed cX12_seed 2 (some .boolean) ∈ gtbl := in_ch7_6 (List.mem_of_getElem? (i := 5) rfl) rfl
set_option maxRecDepth 20000 in
theorem wcn_X12_419 : Cond.constant RX12 419 (65535) ∈ gtbl := in_ch7_6 (List.mem_of_getElem? (i := 6) rfl) rfl
set_option maxRecDepth 20000 in
theorem wm_L_129 : Cond.methodLink RL 129 yX12_keep ∈ gtbl := in_ch7_6 (List.mem_of_getElem? (i := 7) rfl) rfl
set_option maxRecDepth 20000 in
theorem wi_X12_keep : Cond.instanceMethod yX12_keep ∈ gtbl := in_ch7_6 (List.mem_of_getElem? (i := 8) rfl) rfl
set_option maxRecDepth 20000 in
theorem wsl_X12_keep : Cond.selects RX12 yX12_keep yX12_keep ∈ gtbl := in_ch7_6 (List.mem_of_getElem? (i := 9) rfl) rfl
set_option maxRecDepth 20000 in
theorem wco_X12_keep : Cond.code yX12_keep cX12_keep 1 (some .int) ∈ gtbl := in_ch7_6 (List.mem_of_getElem? (i := 10) rfl) rfl
set_option maxRecDepth 20000 in
theorem wm_L_134 : Cond.methodLink RL 134 yX12_undo ∈ gtbl := in_ch7_6 (List.mem_of_getElem? (i := 11) rfl) rfl
set_option maxRecDepth 20000 in
theorem wi_X12_undo : Cond.instanceMethod yX12_undo ∈ gtbl := in_ch7_6 (List.mem_of_getElem? (i := 12) rfl) rfl
set_option maxRecDepth 20000 in
theorem wsl_X12_undo : Cond.selects RX12 yX12_undo yX12_undo ∈ gtbl := in_ch7_6 (List.mem_of_getElem? (i := 13) rfl) rfl
set_option maxRecDepth 20000 in
theorem wco_X12_undo : Cond.code yX12_undo cX12_undo 3 (some .boolean) ∈ gtbl := in_ch7_6 (List.mem_of_getElem? (i := 14) rfl) rfl
set_option maxRecDepth 20000 in
theorem wm_L_138 : Cond.methodLink RL 138 yX12_check ∈ gtbl := in_ch7_6 (List.mem_of_getElem? (i := 15) rfl) rfl
set_option maxRecDepth 20000 in
theorem in_ch7_7 {w : Cond} (h : w ∈ ch7_7) (g : goodWord w = true) : w ∈ gtbl := in_g (tt_7 (by rw [tb_7]; exact List.mem_append_right _ (List.mem_append_right _ (List.mem_append_right _ (List.mem_append_right _ (List.mem_append_right _ (List.mem_append_right _ (List.mem_append_right _ (List.mem_append_left _ h))))))))) g
set_option maxRecDepth 20000 in
theorem wi_X12_check : Cond.instanceMethod yX12_check ∈ gtbl := in_ch7_7 (List.mem_of_getElem? (i := 0) rfl) rfl
set_option maxRecDepth 20000 in
theorem wsl_X12_check : Cond.selects RX12 yX12_check yX12_check ∈ gtbl := in_ch7_7 (List.mem_of_getElem? (i := 1) rfl) rfl
set_option maxRecDepth 20000 in
theorem wco_X12_check : Cond.code yX12_check cX12_check 3 (some .int) ∈ gtbl := in_ch7_7 (List.mem_of_getElem? (i := 2) rfl) rfl
set_option maxRecDepth 20000 in
theorem wm_L_142 : Cond.methodLink RL 142 yX12_count ∈ gtbl := in_ch7_7 (List.mem_of_getElem? (i := 3) rfl) rfl
set_option maxRecDepth 20000 in
theorem wi_X12_count : Cond.instanceMethod yX12_count ∈ gtbl := in_ch7_7 (List.mem_of_getElem? (i := 4) rfl) rfl
set_option maxRecDepth 20000 in
theorem wsl_X12_count : Cond.selects RX12 yX12_count yX12_count ∈ gtbl := in_ch7_7 (List.mem_of_getElem? (i := 5) rfl) rfl
set_option maxRecDepth 20000 in
theorem wco_X12_count : Cond.code yX12_count cX12_count 2 (some .int) ∈ gtbl := in_ch7_7 (List.mem_of_getElem? (i := 6) rfl) rfl
set_option maxRecDepth 20000 in
theorem wm_X12_430 : Cond.methodLink RX12 430 yX12_tensionsOfAll ∈ gtbl := in_ch7_7 (List.mem_of_getElem? (i := 7) rfl) rfl
set_option maxRecDepth 20000 in
theorem wi_X12_tensionsOfAll : Cond.instanceMethod yX12_tensionsOfAll ∈ gtbl := in_ch7_7 (List.mem_of_getElem? (i := 9) rfl) rfl
set_option maxRecDepth 20000 in
theorem wco_X12_tensionsOfAll : Cond.code yX12_tensionsOfAll cX12_tensionsOfAll 3 (some .int) ∈ gtbl := in_ch7_7 (List.mem_of_getElem? (i := 10) rfl) rfl
set_option maxRecDepth 20000 in
theorem in_X0 : ∀ w ∈ u_ws RX0 TX0 1, w ∈ gtbl := by
  show ∀ w ∈ [Cond.laysFinal "DraughtWebs$ChartReader" "DraughtWebs$ChartReader" "text" "LDraughtWebs$Text;"], w ∈ gtbl
  exact List.forall_mem_cons.mpr ⟨in_ch1_5 (List.mem_of_getElem? (i := 2) rfl) rfl, fun _ h => absurd h List.not_mem_nil⟩
set_option maxRecDepth 20000 in
theorem in_X2 : ∀ w ∈ u_ws RX2 TX2 6, w ∈ gtbl := by
  show ∀ w ∈ [Cond.laysFinal "DraughtWebs$Desk" "DraughtWebs$Desk" "common" "[I", Cond.laysFinal "DraughtWebs$Desk" "DraughtWebs$Desk" "readings" "[I", Cond.laysFinal "DraughtWebs$Desk" "DraughtWebs$Desk" "smoother" "[I", Cond.laysFinal "DraughtWebs$Desk" "DraughtWebs$Desk" "weights" "[I", Cond.laysFinal "DraughtWebs$Desk" "DraughtWebs$Desk" "lengths" "[I", Cond.laysFinal "DraughtWebs$Desk" "DraughtWebs$Desk" "used" "[Z"], w ∈ gtbl
  exact List.forall_mem_cons.mpr ⟨in_ch1_8 (List.mem_of_getElem? (i := 4) rfl) rfl, List.forall_mem_cons.mpr ⟨in_ch1_8 (List.mem_of_getElem? (i := 6) rfl) rfl, List.forall_mem_cons.mpr ⟨in_ch1_8 (List.mem_of_getElem? (i := 8) rfl) rfl, List.forall_mem_cons.mpr ⟨in_ch1_8 (List.mem_of_getElem? (i := 10) rfl) rfl, List.forall_mem_cons.mpr ⟨in_ch1_8 (List.mem_of_getElem? (i := 12) rfl) rfl, List.forall_mem_cons.mpr ⟨in_ch1_8 (List.mem_of_getElem? (i := 14) rfl) rfl, fun _ h => absurd h List.not_mem_nil⟩⟩⟩⟩⟩⟩
set_option maxRecDepth 20000 in
theorem in_X3 : ∀ w ∈ u_ws RX3 TX3 12, w ∈ gtbl := by
  show ∀ w ∈ [Cond.lays "DraughtWebs$Law" "DraughtWebs$Law" "ruleCount" "I", Cond.laysFinal "DraughtWebs$Law" "DraughtWebs$Law" "kinds" "[I", Cond.laysFinal "DraughtWebs$Law" "DraughtWebs$Law" "worthStarts" "[I", Cond.laysFinal "DraughtWebs$Law" "DraughtWebs$Law" "conditionStarts" "[I", Cond.lays "DraughtWebs$Law" "DraughtWebs$Law" "signCount" "I", Cond.laysFinal "DraughtWebs$Law" "DraughtWebs$Law" "signs" "[I", Cond.laysFinal "DraughtWebs$Law" "DraughtWebs$Law" "values" "[I", Cond.laysFinal "DraughtWebs$Law" "DraughtWebs$Law" "seen" "[I", Cond.laysFinal "DraughtWebs$Law" "DraughtWebs$Law" "heap" "[I", Cond.lays "DraughtWebs$Law" "DraughtWebs$Law" "heaped" "I", Cond.lays "DraughtWebs$Law" "DraughtWebs$Law" "held" "Z", Cond.lays "DraughtWebs$Law" "DraughtWebs$Law" "refused" "Z"], w ∈ gtbl
  exact List.forall_mem_cons.mpr ⟨in_ch1_11 (List.mem_of_getElem? (i := 3) rfl) rfl, List.forall_mem_cons.mpr ⟨in_ch1_11 (List.mem_of_getElem? (i := 5) rfl) rfl, List.forall_mem_cons.mpr ⟨in_ch1_11 (List.mem_of_getElem? (i := 7) rfl) rfl, List.forall_mem_cons.mpr ⟨in_ch1_11 (List.mem_of_getElem? (i := 9) rfl) rfl, List.forall_mem_cons.mpr ⟨in_ch1_11 (List.mem_of_getElem? (i := 11) rfl) rfl, List.forall_mem_cons.mpr ⟨in_ch1_11 (List.mem_of_getElem? (i := 13) rfl) rfl, List.forall_mem_cons.mpr ⟨in_ch1_11 (List.mem_of_getElem? (i := 15) rfl) rfl, List.forall_mem_cons.mpr ⟨in_ch1_12 (List.mem_of_getElem? (i := 1) rfl) rfl, List.forall_mem_cons.mpr ⟨in_ch1_12 (List.mem_of_getElem? (i := 3) rfl) rfl, List.forall_mem_cons.mpr ⟨in_ch1_12 (List.mem_of_getElem? (i := 5) rfl) rfl, List.forall_mem_cons.mpr ⟨in_ch1_12 (List.mem_of_getElem? (i := 7) rfl) rfl, List.forall_mem_cons.mpr ⟨in_ch1_12 (List.mem_of_getElem? (i := 9) rfl) rfl, fun _ h => absurd h List.not_mem_nil⟩⟩⟩⟩⟩⟩⟩⟩⟩⟩⟩⟩
set_option maxRecDepth 20000 in
theorem in_X4 : ∀ w ∈ u_ws RX4 TX4 1, w ∈ gtbl := by
  show ∀ w ∈ [Cond.laysFinal "DraughtWebs$LawReader" "DraughtWebs$LawReader" "text" "LDraughtWebs$Text;"], w ∈ gtbl
  exact List.forall_mem_cons.mpr ⟨in_ch1_4 (List.mem_of_getElem? (i := 6) rfl) rfl, fun _ h => absurd h List.not_mem_nil⟩
set_option maxRecDepth 20000 in
theorem in_X5 : ∀ w ∈ u_ws RX5 TX5 3, w ∈ gtbl := by
  show ∀ w ∈ [Cond.laysFinal "DraughtWebs$LogBook" "DraughtWebs$LogBook" "text" "LDraughtWebs$Text;", Cond.laysFinal "DraughtWebs$LogBook" "DraughtWebs$LogBook" "spokes" "[I", Cond.lays "DraughtWebs$LogBook" "DraughtWebs$LogBook" "size" "I"], w ∈ gtbl
  exact List.forall_mem_cons.mpr ⟨in_ch1_6 (List.mem_of_getElem? (i := 0) rfl) rfl, List.forall_mem_cons.mpr ⟨in_ch1_6 (List.mem_of_getElem? (i := 2) rfl) rfl, List.forall_mem_cons.mpr ⟨in_ch1_6 (List.mem_of_getElem? (i := 4) rfl) rfl, fun _ h => absurd h List.not_mem_nil⟩⟩⟩
set_option maxRecDepth 20000 in
theorem in_X6 : ∀ w ∈ u_ws RX6 TX6 3, w ∈ gtbl := by
  show ∀ w ∈ [Cond.laysFinal "DraughtWebs$Lookout" "DraughtWebs$Lookout" "reachers" "[I", Cond.laysFinal "DraughtWebs$Lookout" "DraughtWebs$Lookout" "listed" "[Z", Cond.lays "DraughtWebs$Lookout" "DraughtWebs$Lookout" "reacherCount" "I"], w ∈ gtbl
  exact List.forall_mem_cons.mpr ⟨in_ch1_7 (List.mem_of_getElem? (i := 0) rfl) rfl, List.forall_mem_cons.mpr ⟨in_ch1_7 (List.mem_of_getElem? (i := 2) rfl) rfl, List.forall_mem_cons.mpr ⟨in_ch1_7 (List.mem_of_getElem? (i := 4) rfl) rfl, fun _ h => absurd h List.not_mem_nil⟩⟩⟩
set_option maxRecDepth 20000 in
theorem in_X7 : ∀ w ∈ u_ws RX7 TX7 11, w ∈ gtbl := by
  show ∀ w ∈ [Cond.lays "DraughtWebs$Sea" "DraughtWebs$Sea" "webs" "I", Cond.lays "DraughtWebs$Sea" "DraughtWebs$Sea" "fleets" "I", Cond.laysFinal "DraughtWebs$Sea" "DraughtWebs$Sea" "webX" "[I", Cond.laysFinal "DraughtWebs$Sea" "DraughtWebs$Sea" "webY" "[I", Cond.laysFinal "DraughtWebs$Sea" "DraughtWebs$Sea" "tensions" "[I", Cond.laysFinal "DraughtWebs$Sea" "DraughtWebs$Sea" "fleetX" "[I", Cond.laysFinal "DraughtWebs$Sea" "DraughtWebs$Sea" "fleetY" "[I", Cond.laysFinal "DraughtWebs$Sea" "DraughtWebs$Sea" "forces" "[I", Cond.laysFinal "DraughtWebs$Sea" "DraughtWebs$Sea" "courses" "[I", Cond.lays "DraughtWebs$Sea" "DraughtWebs$Sea" "hour" "I", Cond.lays "DraughtWebs$Sea" "DraughtWebs$Sea" "drawn" "I"], w ∈ gtbl
  exact List.forall_mem_cons.mpr ⟨in_ch1_14 (List.mem_of_getElem? (i := 8) rfl) rfl, List.forall_mem_cons.mpr ⟨in_ch1_14 (List.mem_of_getElem? (i := 10) rfl) rfl, List.forall_mem_cons.mpr ⟨in_ch1_14 (List.mem_of_getElem? (i := 12) rfl) rfl, List.forall_mem_cons.mpr ⟨in_ch1_14 (List.mem_of_getElem? (i := 14) rfl) rfl, List.forall_mem_cons.mpr ⟨in_ch2_0 (List.mem_of_getElem? (i := 0) rfl) rfl, List.forall_mem_cons.mpr ⟨in_ch2_0 (List.mem_of_getElem? (i := 2) rfl) rfl, List.forall_mem_cons.mpr ⟨in_ch2_0 (List.mem_of_getElem? (i := 4) rfl) rfl, List.forall_mem_cons.mpr ⟨in_ch2_0 (List.mem_of_getElem? (i := 6) rfl) rfl, List.forall_mem_cons.mpr ⟨in_ch2_0 (List.mem_of_getElem? (i := 8) rfl) rfl, List.forall_mem_cons.mpr ⟨in_ch2_0 (List.mem_of_getElem? (i := 10) rfl) rfl, List.forall_mem_cons.mpr ⟨in_ch2_0 (List.mem_of_getElem? (i := 12) rfl) rfl, fun _ h => absurd h List.not_mem_nil⟩⟩⟩⟩⟩⟩⟩⟩⟩⟩⟩
set_option maxRecDepth 20000 in
theorem in_X8 : ∀ w ∈ u_ws RX8 TX8 2, w ∈ gtbl := by
  show ∀ w ∈ [Cond.laysFinal "DraughtWebs$Tape" "DraughtWebs$Tape" "bytes" "[I", Cond.lays "DraughtWebs$Tape" "DraughtWebs$Tape" "size" "I"], w ∈ gtbl
  exact List.forall_mem_cons.mpr ⟨in_ch1_2 (List.mem_of_getElem? (i := 1) rfl) rfl, List.forall_mem_cons.mpr ⟨in_ch1_2 (List.mem_of_getElem? (i := 3) rfl) rfl, fun _ h => absurd h List.not_mem_nil⟩⟩
set_option maxRecDepth 20000 in
theorem in_X9 : ∀ w ∈ u_ws RX9 TX9 4, w ∈ gtbl := by
  show ∀ w ∈ [Cond.laysFinal "DraughtWebs$Text" "DraughtWebs$Text" "signs" "[I", Cond.lays "DraughtWebs$Text" "DraughtWebs$Text" "length" "I", Cond.lays "DraughtWebs$Text" "DraughtWebs$Text" "place" "I", Cond.lays "DraughtWebs$Text" "DraughtWebs$Text" "fault" "I"], w ∈ gtbl
  exact List.forall_mem_cons.mpr ⟨in_ch1_3 (List.mem_of_getElem? (i := 12) rfl) rfl, List.forall_mem_cons.mpr ⟨in_ch1_3 (List.mem_of_getElem? (i := 14) rfl) rfl, List.forall_mem_cons.mpr ⟨in_ch1_4 (List.mem_of_getElem? (i := 0) rfl) rfl, List.forall_mem_cons.mpr ⟨in_ch1_4 (List.mem_of_getElem? (i := 2) rfl) rfl, fun _ h => absurd h List.not_mem_nil⟩⟩⟩⟩
set_option maxRecDepth 20000 in
theorem in_X10 : ∀ w ∈ u_ws RX10 TX10 3, w ∈ gtbl := by
  show ∀ w ∈ [Cond.laysFinal "DraughtWebs$TornWeb" "DraughtWebs$TornWeb" "ways" "[I", Cond.laysFinal "DraughtWebs$TornWeb" "DraughtWebs$TornWeb" "line" "[I", Cond.lays "DraughtWebs$TornWeb" "DraughtWebs$TornWeb" "lined" "I"], w ∈ gtbl
  exact List.forall_mem_cons.mpr ⟨in_ch1_9 (List.mem_of_getElem? (i := 10) rfl) rfl, List.forall_mem_cons.mpr ⟨in_ch1_9 (List.mem_of_getElem? (i := 12) rfl) rfl, List.forall_mem_cons.mpr ⟨in_ch1_9 (List.mem_of_getElem? (i := 14) rfl) rfl, fun _ h => absurd h List.not_mem_nil⟩⟩⟩
set_option maxRecDepth 20000 in
theorem in_X11 : ∀ w ∈ u_ws RX11 TX11 13, w ∈ gtbl := by
  show ∀ w ∈ [Cond.laysFinal "DraughtWebs" "DraughtWebs" "tape" "LDraughtWebs$Tape;", Cond.laysFinal "DraughtWebs" "DraughtWebs" "lawReader" "LDraughtWebs$LawReader;", Cond.laysFinal "DraughtWebs" "DraughtWebs" "chartReader" "LDraughtWebs$ChartReader;", Cond.laysFinal "DraughtWebs" "DraughtWebs" "logBook" "LDraughtWebs$LogBook;", Cond.laysFinal "DraughtWebs" "DraughtWebs" "lookout" "LDraughtWebs$Lookout;", Cond.laysFinal "DraughtWebs" "DraughtWebs" "desk" "LDraughtWebs$Desk;", Cond.laysFinal "DraughtWebs" "DraughtWebs" "tornWeb" "LDraughtWebs$TornWeb;", Cond.lays "DraughtWebs" "DraughtWebs" "rules" "LDraughtWebs$Law;", Cond.lays "DraughtWebs" "DraughtWebs" "spareRules" "LDraughtWebs$Law;", Cond.lays "DraughtWebs" "DraughtWebs" "sea" "LDraughtWebs$Sea;", Cond.lays "DraughtWebs" "DraughtWebs" "spareSea" "LDraughtWebs$Sea;", Cond.laysFinal "DraughtWebs" "DraughtWebs" "kept" "LDraughtWebs$Sea;", Cond.lays "DraughtWebs" "DraughtWebs" "anyKept" "Z"], w ∈ gtbl
  exact List.forall_mem_cons.mpr ⟨in_ch2_1 (List.mem_of_getElem? (i := 12) rfl) rfl, List.forall_mem_cons.mpr ⟨in_ch2_1 (List.mem_of_getElem? (i := 14) rfl) rfl, List.forall_mem_cons.mpr ⟨in_ch2_2 (List.mem_of_getElem? (i := 0) rfl) rfl, List.forall_mem_cons.mpr ⟨in_ch2_2 (List.mem_of_getElem? (i := 2) rfl) rfl, List.forall_mem_cons.mpr ⟨in_ch2_2 (List.mem_of_getElem? (i := 4) rfl) rfl, List.forall_mem_cons.mpr ⟨in_ch2_2 (List.mem_of_getElem? (i := 6) rfl) rfl, List.forall_mem_cons.mpr ⟨in_ch2_2 (List.mem_of_getElem? (i := 8) rfl) rfl, List.forall_mem_cons.mpr ⟨in_ch2_2 (List.mem_of_getElem? (i := 10) rfl) rfl, List.forall_mem_cons.mpr ⟨in_ch2_2 (List.mem_of_getElem? (i := 12) rfl) rfl, List.forall_mem_cons.mpr ⟨in_ch2_2 (List.mem_of_getElem? (i := 14) rfl) rfl, List.forall_mem_cons.mpr ⟨in_ch2_3 (List.mem_of_getElem? (i := 0) rfl) rfl, List.forall_mem_cons.mpr ⟨in_ch2_3 (List.mem_of_getElem? (i := 2) rfl) rfl, List.forall_mem_cons.mpr ⟨in_ch2_3 (List.mem_of_getElem? (i := 4) rfl) rfl, fun _ h => absurd h List.not_mem_nil⟩⟩⟩⟩⟩⟩⟩⟩⟩⟩⟩⟩⟩
set_option maxRecDepth 20000 in
theorem in_X12 : ∀ w ∈ u_ws RX12 TX12 57, w ∈ gtbl := by
  show ∀ w ∈ [Cond.laysFinal "DraughtWebsModel" "DraughtWebsModel" "now" "[I", Cond.laysFinal "DraughtWebsModel" "DraughtWebsModel" "aside" "[I", Cond.laysFinal "DraughtWebsModel" "DraughtWebsModel" "kept" "[I", Cond.laysFinal "DraughtWebsModel" "DraughtWebsModel" "webAt" "[I", Cond.laysFinal "DraughtWebsModel" "DraughtWebsModel" "forceOf" "[I", Cond.lays "DraughtWebsModel" "DraughtWebsModel" "webs" "I", Cond.lays "DraughtWebsModel" "DraughtWebsModel" "fleets" "I", Cond.laysFinal "DraughtWebsModel" "DraughtWebsModel" "tape" "[B", Cond.lays "DraughtWebsModel" "DraughtWebsModel" "taped" "I", Cond.lays "DraughtWebsModel" "DraughtWebsModel" "place0" "I", Cond.lays "DraughtWebsModel" "DraughtWebsModel" "length0" "I", Cond.lays "DraughtWebsModel" "DraughtWebsModel" "fault" "I", Cond.lays "DraughtWebsModel" "DraughtWebsModel" "number0" "I", Cond.lays "DraughtWebsModel" "DraughtWebsModel" "open" "I", Cond.lays "DraughtWebsModel" "DraughtWebsModel" "codeMany" "I", Cond.lays "DraughtWebsModel" "DraughtWebsModel" "waiting" "I", Cond.lays "DraughtWebsModel" "DraughtWebsModel" "saidMany" "I", Cond.lays "DraughtWebsModel" "DraughtWebsModel" "clauses" "I", Cond.laysFinal "DraughtWebsModel" "DraughtWebsModel" "said" "[I", Cond.laysFinal "DraughtWebsModel" "DraughtWebsModel" "waitsAt" "[I", Cond.laysFinal "DraughtWebsModel" "DraughtWebsModel" "saidLetter" "[I", Cond.laysFinal "DraughtWebsModel" "DraughtWebsModel" "saidFrom" "[I", Cond.laysFinal "DraughtWebsModel" "DraughtWebsModel" "saidHalf" "[I", Cond.laysFinal "DraughtWebsModel" "DraughtWebsModel" "saidTo" "[I", Cond.laysFinal "DraughtWebsModel" "DraughtWebsModel" "codes" "[I", Cond.laysFinal "DraughtWebsModel" "DraughtWebsModel" "clauseOf" "[I", Cond.laysFinal "DraughtWebsModel" "DraughtWebsModel" "codeFrom" "[I", Cond.laysFinal "DraughtWebsModel" "DraughtWebsModel" "codeHalf" "[I", Cond.laysFinal "DraughtWebsModel" "DraughtWebsModel" "codeTo" "[I", Cond.laysFinal "DraughtWebsModel" "DraughtWebsModel" "stack" "[I", Cond.laysFinal "DraughtWebsModel" "DraughtWebsModel" "facts" "[I", Cond.laysFinal "DraughtWebsModel" "DraughtWebsModel" "newWeb" "[I", Cond.laysFinal "DraughtWebsModel" "DraughtWebsModel" "newPlace" "[I", Cond.laysFinal "DraughtWebsModel" "DraughtWebsModel" "newForce" "[I", Cond.laysFinal "DraughtWebsModel" "DraughtWebsModel" "newCourse" "[I", Cond.lays "DraughtWebsModel" "DraughtWebsModel" "newWebs" "I", Cond.lays "DraughtWebsModel" "DraughtWebsModel" "newFleets" "I", Cond.lays "DraughtWebsModel" "DraughtWebsModel" "lines" "I", Cond.lays "DraughtWebsModel" "DraughtWebsModel" "spot0" "I", Cond.lays "DraughtWebsModel" "DraughtWebsModel" "touchesNow" "I", Cond.lays "DraughtWebsModel" "DraughtWebsModel" "touchedSet" "I", Cond.laysFinal "DraughtWebsModel" "DraughtWebsModel" "logged" "[I", Cond.laysFinal "DraughtWebsModel" "DraughtWebsModel" "roundPlace" "[I", Cond.laysFinal "DraughtWebsModel" "DraughtWebsModel" "roundAt" "[I", Cond.lays "DraughtWebsModel" "DraughtWebsModel" "logMany" "I", Cond.lays "DraughtWebsModel" "DraughtWebsModel" "rounds" "I", Cond.laysFinal "DraughtWebsModel" "DraughtWebsModel" "commonTo" "[I", Cond.laysFinal "DraughtWebsModel" "DraughtWebsModel" "weightOf" "[I", Cond.laysFinal "DraughtWebsModel" "DraughtWebsModel" "depthOf" "[I", Cond.laysFinal "DraughtWebsModel" "DraughtWebsModel" "threadsTo" "[I", Cond.laysFinal "DraughtWebsModel" "DraughtWebsModel" "line" "[I", Cond.lays "DraughtWebsModel" "DraughtWebsModel" "lineMany" "I", Cond.laysFinal "DraughtWebsModel" "DraughtWebsModel" "readNow" "[I", Cond.laysFinal "DraughtWebsModel" "DraughtWebsModel" "readThen" "[I", Cond.lays "DraughtWebsModel" "DraughtWebsModel" "isKept" "Z", Cond.lays "DraughtWebsModel" "DraughtWebsModel" "keptWebs" "I", Cond.lays "DraughtWebsModel" "DraughtWebsModel" "keptFleets" "I"], w ∈ gtbl
  exact List.forall_mem_cons.mpr ⟨in_ch5_4 (List.mem_of_getElem? (i := 10) rfl) rfl, List.forall_mem_cons.mpr ⟨in_ch5_4 (List.mem_of_getElem? (i := 12) rfl) rfl, List.forall_mem_cons.mpr ⟨in_ch5_4 (List.mem_of_getElem? (i := 14) rfl) rfl, List.forall_mem_cons.mpr ⟨in_ch5_5 (List.mem_of_getElem? (i := 0) rfl) rfl, List.forall_mem_cons.mpr ⟨in_ch5_5 (List.mem_of_getElem? (i := 2) rfl) rfl, List.forall_mem_cons.mpr ⟨in_ch5_5 (List.mem_of_getElem? (i := 4) rfl) rfl, List.forall_mem_cons.mpr ⟨in_ch5_5 (List.mem_of_getElem? (i := 6) rfl) rfl, List.forall_mem_cons.mpr ⟨in_ch5_5 (List.mem_of_getElem? (i := 8) rfl) rfl, List.forall_mem_cons.mpr ⟨in_ch5_5 (List.mem_of_getElem? (i := 10) rfl) rfl, List.forall_mem_cons.mpr ⟨in_ch5_5 (List.mem_of_getElem? (i := 12) rfl) rfl, List.forall_mem_cons.mpr ⟨in_ch5_5 (List.mem_of_getElem? (i := 14) rfl) rfl, List.forall_mem_cons.mpr ⟨in_ch5_6 (List.mem_of_getElem? (i := 0) rfl) rfl, List.forall_mem_cons.mpr ⟨in_ch5_6 (List.mem_of_getElem? (i := 2) rfl) rfl, List.forall_mem_cons.mpr ⟨in_ch5_6 (List.mem_of_getElem? (i := 4) rfl) rfl, List.forall_mem_cons.mpr ⟨in_ch5_6 (List.mem_of_getElem? (i := 6) rfl) rfl, List.forall_mem_cons.mpr ⟨in_ch5_6 (List.mem_of_getElem? (i := 8) rfl) rfl, List.forall_mem_cons.mpr ⟨in_ch5_6 (List.mem_of_getElem? (i := 10) rfl) rfl, List.forall_mem_cons.mpr ⟨in_ch5_6 (List.mem_of_getElem? (i := 12) rfl) rfl, List.forall_mem_cons.mpr ⟨in_ch5_6 (List.mem_of_getElem? (i := 14) rfl) rfl, List.forall_mem_cons.mpr ⟨in_ch5_7 (List.mem_of_getElem? (i := 0) rfl) rfl, List.forall_mem_cons.mpr ⟨in_ch5_7 (List.mem_of_getElem? (i := 2) rfl) rfl, List.forall_mem_cons.mpr ⟨in_ch5_7 (List.mem_of_getElem? (i := 4) rfl) rfl, List.forall_mem_cons.mpr ⟨in_ch5_7 (List.mem_of_getElem? (i := 6) rfl) rfl, List.forall_mem_cons.mpr ⟨in_ch5_7 (List.mem_of_getElem? (i := 8) rfl) rfl, List.forall_mem_cons.mpr ⟨in_ch5_7 (List.mem_of_getElem? (i := 10) rfl) rfl, List.forall_mem_cons.mpr ⟨in_ch5_7 (List.mem_of_getElem? (i := 12) rfl) rfl, List.forall_mem_cons.mpr ⟨in_ch5_7 (List.mem_of_getElem? (i := 14) rfl) rfl, List.forall_mem_cons.mpr ⟨in_ch5_8 (List.mem_of_getElem? (i := 0) rfl) rfl, List.forall_mem_cons.mpr ⟨in_ch5_8 (List.mem_of_getElem? (i := 2) rfl) rfl, List.forall_mem_cons.mpr ⟨in_ch5_8 (List.mem_of_getElem? (i := 4) rfl) rfl, List.forall_mem_cons.mpr ⟨in_ch5_8 (List.mem_of_getElem? (i := 6) rfl) rfl, List.forall_mem_cons.mpr ⟨in_ch5_8 (List.mem_of_getElem? (i := 8) rfl) rfl, List.forall_mem_cons.mpr ⟨in_ch5_8 (List.mem_of_getElem? (i := 10) rfl) rfl, List.forall_mem_cons.mpr ⟨in_ch5_8 (List.mem_of_getElem? (i := 12) rfl) rfl, List.forall_mem_cons.mpr ⟨in_ch5_8 (List.mem_of_getElem? (i := 14) rfl) rfl, List.forall_mem_cons.mpr ⟨in_ch5_9 (List.mem_of_getElem? (i := 0) rfl) rfl, List.forall_mem_cons.mpr ⟨in_ch5_9 (List.mem_of_getElem? (i := 2) rfl) rfl, List.forall_mem_cons.mpr ⟨in_ch5_9 (List.mem_of_getElem? (i := 4) rfl) rfl, List.forall_mem_cons.mpr ⟨in_ch5_9 (List.mem_of_getElem? (i := 6) rfl) rfl, List.forall_mem_cons.mpr ⟨in_ch5_9 (List.mem_of_getElem? (i := 8) rfl) rfl, List.forall_mem_cons.mpr ⟨in_ch5_9 (List.mem_of_getElem? (i := 10) rfl) rfl, List.forall_mem_cons.mpr ⟨in_ch5_9 (List.mem_of_getElem? (i := 12) rfl) rfl, List.forall_mem_cons.mpr ⟨in_ch5_9 (List.mem_of_getElem? (i := 14) rfl) rfl, List.forall_mem_cons.mpr ⟨in_ch5_10 (List.mem_of_getElem? (i := 0) rfl) rfl, List.forall_mem_cons.mpr ⟨in_ch5_10 (List.mem_of_getElem? (i := 2) rfl) rfl, List.forall_mem_cons.mpr ⟨in_ch5_10 (List.mem_of_getElem? (i := 4) rfl) rfl, List.forall_mem_cons.mpr ⟨in_ch5_10 (List.mem_of_getElem? (i := 6) rfl) rfl, List.forall_mem_cons.mpr ⟨in_ch5_10 (List.mem_of_getElem? (i := 8) rfl) rfl, List.forall_mem_cons.mpr ⟨in_ch5_10 (List.mem_of_getElem? (i := 10) rfl) rfl, List.forall_mem_cons.mpr ⟨in_ch5_10 (List.mem_of_getElem? (i := 12) rfl) rfl, List.forall_mem_cons.mpr ⟨in_ch5_10 (List.mem_of_getElem? (i := 14) rfl) rfl, List.forall_mem_cons.mpr ⟨in_ch5_11 (List.mem_of_getElem? (i := 0) rfl) rfl, List.forall_mem_cons.mpr ⟨in_ch5_11 (List.mem_of_getElem? (i := 2) rfl) rfl, List.forall_mem_cons.mpr ⟨in_ch5_11 (List.mem_of_getElem? (i := 4) rfl) rfl, List.forall_mem_cons.mpr ⟨in_ch5_11 (List.mem_of_getElem? (i := 6) rfl) rfl, List.forall_mem_cons.mpr ⟨in_ch5_11 (List.mem_of_getElem? (i := 8) rfl) rfl, List.forall_mem_cons.mpr ⟨in_ch5_11 (List.mem_of_getElem? (i := 10) rfl) rfl, fun _ h => absurd h List.not_mem_nil⟩⟩⟩⟩⟩⟩⟩⟩⟩⟩⟩⟩⟩⟩⟩⟩⟩⟩⟩⟩⟩⟩⟩⟩⟩⟩⟩⟩⟩⟩⟩⟩⟩⟩⟩⟩⟩⟩⟩⟩⟩⟩⟩⟩⟩⟩⟩⟩⟩⟩⟩⟩⟩⟩⟩⟩⟩
def nestF : List (String × Nat × String × String × String × String) := [(RX0, 71, "DraughtWebs$Text", "place", "I", "DraughtWebs"), (RX5, 58, "DraughtWebs$Text", "place", "I", "DraughtWebs"), (RX5, 34, "DraughtWebs$Text", "fault", "I", "DraughtWebs"), (RX4, 31, "DraughtWebs$Text", "fault", "I", "DraughtWebs"), (RX0, 31, "DraughtWebs$Text", "fault", "I", "DraughtWebs"), (RX6, 75, "DraughtWebs$Sea", "webs", "I", "DraughtWebs"), (RX11, 263, "DraughtWebs$Sea", "webs", "I", "DraughtWebs"), (RX11, 266, "DraughtWebs$Sea", "fleets", "I", "DraughtWebs"), (RX6, 39, "DraughtWebs$Sea", "webX", "[I", "DraughtWebs"), (RX11, 155, "DraughtWebs$Sea", "webX", "[I", "DraughtWebs"), (RX6, 42, "DraughtWebs$Sea", "webY", "[I", "DraughtWebs"), (RX11, 158, "DraughtWebs$Sea", "webY", "[I", "DraughtWebs"), (RX11, 93, "DraughtWebs$Sea", "tensions", "[I", "DraughtWebs"), (RX11, 170, "DraughtWebs$Sea", "forces", "[I", "DraughtWebs"), (RX11, 121, "DraughtWebs$Sea", "hour", "I", "DraughtWebs"), (RX11, 125, "DraughtWebs$Sea", "drawn", "I", "DraughtWebs")]
def nestM : List (String × Nat × MethodName × String) := [(RX8, 21, yX11_within, "DraughtWebs"), (RX3, 54, yX11_within, "DraughtWebs"), (RX7, 46, yX11_within, "DraughtWebs"), (RX1, 9, yX11_within, "DraughtWebs"), (RX6, 90, yX11_within, "DraughtWebs"), (RX5, 71, yX11_within, "DraughtWebs"), (RX10, 47, yX11_within, "DraughtWebs")]
/-- the nest words hold at a state -/
def nwOk (U : State) : Prop := (∀ q ∈ nestF, va_Nw (.fieldLinkNest q.1 q.2.1 q.2.2.1 q.2.2.2.1 q.2.2.2.2.1 q.2.2.2.2.2) U) ∧ ∀ q ∈ nestM, va_Nw (.methodLinkNest q.1 q.2.1 q.2.2.1 q.2.2.2) U
theorem nwOk.warm {s U : State} (hW : s.WarmedH U.vm) (h : nwOk s) : nwOk U := ⟨fun q hq => va_Nw.warmF hW (h.1 q hq), fun q hq => va_Nw.warmM hW (h.2 q hq)⟩
theorem nwOk.same {s U : State} (hv : s.vm = U.vm) (h : nwOk s) : nwOk U := ⟨fun q hq => va_Nw.same rfl hv (h.1 q hq), fun q hq => va_Nw.same rfl hv (h.2 q hq)⟩
set_option maxRecDepth 20000 in
theorem nf_X0_71 {U : State} (h : nwOk U) : va_Nw (Cond.fieldLinkNest RX0 71 "DraughtWebs$Text" "place" "I" "DraughtWebs") U := h.1 _ (List.mem_of_getElem? (i := 0) rfl)
set_option maxRecDepth 20000 in
theorem nf_X5_58 {U : State} (h : nwOk U) : va_Nw (Cond.fieldLinkNest RX5 58 "DraughtWebs$Text" "place" "I" "DraughtWebs") U := h.1 _ (List.mem_of_getElem? (i := 1) rfl)
set_option maxRecDepth 20000 in
theorem nf_X5_34 {U : State} (h : nwOk U) : va_Nw (Cond.fieldLinkNest RX5 34 "DraughtWebs$Text" "fault" "I" "DraughtWebs") U := h.1 _ (List.mem_of_getElem? (i := 2) rfl)
set_option maxRecDepth 20000 in
theorem nf_X4_31 {U : State} (h : nwOk U) : va_Nw (Cond.fieldLinkNest RX4 31 "DraughtWebs$Text" "fault" "I" "DraughtWebs") U := h.1 _ (List.mem_of_getElem? (i := 3) rfl)
set_option maxRecDepth 20000 in
theorem nf_X0_31 {U : State} (h : nwOk U) : va_Nw (Cond.fieldLinkNest RX0 31 "DraughtWebs$Text" "fault" "I" "DraughtWebs") U := h.1 _ (List.mem_of_getElem? (i := 4) rfl)
set_option maxRecDepth 20000 in
theorem nf_X6_75 {U : State} (h : nwOk U) : va_Nw (Cond.fieldLinkNest RX6 75 "DraughtWebs$Sea" "webs" "I" "DraughtWebs") U := h.1 _ (List.mem_of_getElem? (i := 5) rfl)
set_option maxRecDepth 20000 in
theorem nf_X11_263 {U : State} (h : nwOk U) : va_Nw (Cond.fieldLinkNest RX11 263 "DraughtWebs$Sea" "webs" "I" "DraughtWebs") U := h.1 _ (List.mem_of_getElem? (i := 6) rfl)
set_option maxRecDepth 20000 in
theorem nf_X11_266 {U : State} (h : nwOk U) : va_Nw (Cond.fieldLinkNest RX11 266 "DraughtWebs$Sea" "fleets" "I" "DraughtWebs") U := h.1 _ (List.mem_of_getElem? (i := 7) rfl)
set_option maxRecDepth 20000 in
theorem nf_X6_39 {U : State} (h : nwOk U) : va_Nw (Cond.fieldLinkNest RX6 39 "DraughtWebs$Sea" "webX" "[I" "DraughtWebs") U := h.1 _ (List.mem_of_getElem? (i := 8) rfl)
set_option maxRecDepth 20000 in
theorem nf_X11_155 {U : State} (h : nwOk U) : va_Nw (Cond.fieldLinkNest RX11 155 "DraughtWebs$Sea" "webX" "[I" "DraughtWebs") U := h.1 _ (List.mem_of_getElem? (i := 9) rfl)
set_option maxRecDepth 20000 in
theorem nf_X6_42 {U : State} (h : nwOk U) : va_Nw (Cond.fieldLinkNest RX6 42 "DraughtWebs$Sea" "webY" "[I" "DraughtWebs") U := h.1 _ (List.mem_of_getElem? (i := 10) rfl)
set_option maxRecDepth 20000 in
theorem nf_X11_158 {U : State} (h : nwOk U) : va_Nw (Cond.fieldLinkNest RX11 158 "DraughtWebs$Sea" "webY" "[I" "DraughtWebs") U := h.1 _ (List.mem_of_getElem? (i := 11) rfl)
set_option maxRecDepth 20000 in
theorem nf_X11_93 {U : State} (h : nwOk U) : va_Nw (Cond.fieldLinkNest RX11 93 "DraughtWebs$Sea" "tensions" "[I" "DraughtWebs") U := h.1 _ (List.mem_of_getElem? (i := 12) rfl)
set_option maxRecDepth 20000 in
theorem nf_X11_170 {U : State} (h : nwOk U) : va_Nw (Cond.fieldLinkNest RX11 170 "DraughtWebs$Sea" "forces" "[I" "DraughtWebs") U := h.1 _ (List.mem_of_getElem? (i := 13) rfl)
set_option maxRecDepth 20000 in
theorem nf_X11_121 {U : State} (h : nwOk U) : va_Nw (Cond.fieldLinkNest RX11 121 "DraughtWebs$Sea" "hour" "I" "DraughtWebs") U := h.1 _ (List.mem_of_getElem? (i := 14) rfl)
set_option maxRecDepth 20000 in
theorem nf_X11_125 {U : State} (h : nwOk U) : va_Nw (Cond.fieldLinkNest RX11 125 "DraughtWebs$Sea" "drawn" "I" "DraughtWebs") U := h.1 _ (List.mem_of_getElem? (i := 15) rfl)
set_option maxRecDepth 20000 in
theorem nm_X8_21 {U : State} (h : nwOk U) : va_Nw (Cond.methodLinkNest RX8 21 yX11_within "DraughtWebs") U := h.2 _ (List.mem_of_getElem? (i := 0) rfl)
set_option maxRecDepth 20000 in
theorem nm_X3_54 {U : State} (h : nwOk U) : va_Nw (Cond.methodLinkNest RX3 54 yX11_within "DraughtWebs") U := h.2 _ (List.mem_of_getElem? (i := 1) rfl)
set_option maxRecDepth 20000 in
theorem nm_X7_46 {U : State} (h : nwOk U) : va_Nw (Cond.methodLinkNest RX7 46 yX11_within "DraughtWebs") U := h.2 _ (List.mem_of_getElem? (i := 2) rfl)
set_option maxRecDepth 20000 in
theorem nm_X1_9 {U : State} (h : nwOk U) : va_Nw (Cond.methodLinkNest RX1 9 yX11_within "DraughtWebs") U := h.2 _ (List.mem_of_getElem? (i := 3) rfl)
set_option maxRecDepth 20000 in
theorem nm_X6_90 {U : State} (h : nwOk U) : va_Nw (Cond.methodLinkNest RX6 90 yX11_within "DraughtWebs") U := h.2 _ (List.mem_of_getElem? (i := 4) rfl)
set_option maxRecDepth 20000 in
theorem nm_X5_71 {U : State} (h : nwOk U) : va_Nw (Cond.methodLinkNest RX5 71 yX11_within "DraughtWebs") U := h.2 _ (List.mem_of_getElem? (i := 5) rfl)
set_option maxRecDepth 20000 in
theorem nm_X10_47 {U : State} (h : nwOk U) : va_Nw (Cond.methodLinkNest RX10 47 yX11_within "DraughtWebs") U := h.2 _ (List.mem_of_getElem? (i := 6) rfl)
set_option maxRecDepth 20000 in
theorem nw_of {args : Array Value} {s : State} (hts : ∀ w ∈ lw_tbl, w.before args s = true) : nwOk s :=
  ⟨List.forall_mem_cons.mpr ⟨va_Nw.of rfl (hts _ (tt_1 (by rw [tb_1]; exact List.mem_append_right _ (List.mem_append_right _ (List.mem_append_right _ (List.mem_append_left _ (List.mem_of_getElem? (i := 6) rfl))))))), List.forall_mem_cons.mpr ⟨va_Nw.of rfl (hts _ (tt_1 (by rw [tb_1]; exact List.mem_append_right _ (List.mem_append_right _ (List.mem_append_right _ (List.mem_append_left _ (List.mem_of_getElem? (i := 7) rfl))))))), List.forall_mem_cons.mpr ⟨va_Nw.of rfl (hts _ (tt_1 (by rw [tb_1]; exact List.mem_append_right _ (List.mem_append_right _ (List.mem_append_right _ (List.mem_append_left _ (List.mem_of_getElem? (i := 9) rfl))))))), List.forall_mem_cons.mpr ⟨va_Nw.of rfl (hts _ (tt_1 (by rw [tb_1]; exact List.mem_append_right _ (List.mem_append_right _ (List.mem_append_right _ (List.mem_append_left _ (List.mem_of_getElem? (i := 10) rfl))))))), List.forall_mem_cons.mpr ⟨va_Nw.of rfl (hts _ (tt_1 (by rw [tb_1]; exact List.mem_append_right _ (List.mem_append_right _ (List.mem_append_right _ (List.mem_append_left _ (List.mem_of_getElem? (i := 11) rfl))))))), List.forall_mem_cons.mpr ⟨va_Nw.of rfl (hts _ (tt_1 (by rw [tb_1]; exact List.mem_append_right _ (List.mem_append_right _ (List.mem_append_right _ (List.mem_append_right _ (List.mem_append_right _ (List.mem_append_right _ (List.mem_append_right _ (List.mem_append_right _ (List.mem_append_right _ (List.mem_append_right _ (List.mem_append_right _ (List.mem_append_right _ (List.mem_append_right _ (List.mem_append_left _ (List.mem_of_getElem? (i := 3) rfl))))))))))))))))), List.forall_mem_cons.mpr ⟨va_Nw.of rfl (hts _ (tt_1 (by rw [tb_1]; exact List.mem_append_right _ (List.mem_append_right _ (List.mem_append_right _ (List.mem_append_right _ (List.mem_append_right _ (List.mem_append_right _ (List.mem_append_right _ (List.mem_append_right _ (List.mem_append_right _ (List.mem_append_right _ (List.mem_append_right _ (List.mem_append_right _ (List.mem_append_right _ (List.mem_append_left _ (List.mem_of_getElem? (i := 4) rfl))))))))))))))))), List.forall_mem_cons.mpr ⟨va_Nw.of rfl (hts _ (tt_1 (by rw [tb_1]; exact List.mem_append_right _ (List.mem_append_right _ (List.mem_append_right _ (List.mem_append_right _ (List.mem_append_right _ (List.mem_append_right _ (List.mem_append_right _ (List.mem_append_right _ (List.mem_append_right _ (List.mem_append_right _ (List.mem_append_right _ (List.mem_append_right _ (List.mem_append_right _ (List.mem_append_left _ (List.mem_of_getElem? (i := 6) rfl))))))))))))))))), List.forall_mem_cons.mpr ⟨va_Nw.of rfl (hts _ (tt_1 (by rw [tb_1]; exact List.mem_append_right _ (List.mem_append_right _ (List.mem_append_right _ (List.mem_append_right _ (List.mem_append_right _ (List.mem_append_right _ (List.mem_append_right _ (List.mem_append_right _ (List.mem_append_right _ (List.mem_append_right _ (List.mem_append_right _ (List.mem_append_right _ (List.mem_append_right _ (List.mem_append_left _ (List.mem_of_getElem? (i := 8) rfl))))))))))))))))), List.forall_mem_cons.mpr ⟨va_Nw.of rfl (hts _ (tt_1 (by rw [tb_1]; exact List.mem_append_right _ (List.mem_append_right _ (List.mem_append_right _ (List.mem_append_right _ (List.mem_append_right _ (List.mem_append_right _ (List.mem_append_right _ (List.mem_append_right _ (List.mem_append_right _ (List.mem_append_right _ (List.mem_append_right _ (List.mem_append_right _ (List.mem_append_right _ (List.mem_append_left _ (List.mem_of_getElem? (i := 9) rfl))))))))))))))))), List.forall_mem_cons.mpr ⟨va_Nw.of rfl (hts _ (tt_1 (by rw [tb_1]; exact List.mem_append_right _ (List.mem_append_right _ (List.mem_append_right _ (List.mem_append_right _ (List.mem_append_right _ (List.mem_append_right _ (List.mem_append_right _ (List.mem_append_right _ (List.mem_append_right _ (List.mem_append_right _ (List.mem_append_right _ (List.mem_append_right _ (List.mem_append_right _ (List.mem_append_left _ (List.mem_of_getElem? (i := 11) rfl))))))))))))))))), List.forall_mem_cons.mpr ⟨va_Nw.of rfl (hts _ (tt_1 (by rw [tb_1]; exact List.mem_append_right _ (List.mem_append_right _ (List.mem_append_right _ (List.mem_append_right _ (List.mem_append_right _ (List.mem_append_right _ (List.mem_append_right _ (List.mem_append_right _ (List.mem_append_right _ (List.mem_append_right _ (List.mem_append_right _ (List.mem_append_right _ (List.mem_append_right _ (List.mem_append_left _ (List.mem_of_getElem? (i := 12) rfl))))))))))))))))), List.forall_mem_cons.mpr ⟨va_Nw.of rfl (hts _ (tt_1 (by rw [tb_1]; exact List.mem_append_right _ (List.mem_append_right _ (List.mem_append_right _ (List.mem_append_right _ (List.mem_append_right _ (List.mem_append_right _ (List.mem_append_right _ (List.mem_append_right _ (List.mem_append_right _ (List.mem_append_right _ (List.mem_append_right _ (List.mem_append_right _ (List.mem_append_right _ (List.mem_append_left _ (List.mem_of_getElem? (i := 14) rfl))))))))))))))))), List.forall_mem_cons.mpr ⟨va_Nw.of rfl (hts _ (tt_1 (by rw [tb_1]; exact List.mem_append_right _ (List.mem_append_right _ (List.mem_append_right _ (List.mem_append_right _ (List.mem_append_right _ (List.mem_append_right _ (List.mem_append_right _ (List.mem_append_right _ (List.mem_append_right _ (List.mem_append_right _ (List.mem_append_right _ (List.mem_append_right _ (List.mem_append_right _ (List.mem_append_right _ (List.mem_append_left _ (List.mem_of_getElem? (i := 2) rfl)))))))))))))))))), List.forall_mem_cons.mpr ⟨va_Nw.of rfl (hts _ (tt_1 (by rw [tb_1]; exact List.mem_append_right _ (List.mem_append_right _ (List.mem_append_right _ (List.mem_append_right _ (List.mem_append_right _ (List.mem_append_right _ (List.mem_append_right _ (List.mem_append_right _ (List.mem_append_right _ (List.mem_append_right _ (List.mem_append_right _ (List.mem_append_right _ (List.mem_append_right _ (List.mem_append_right _ (List.mem_append_left _ (List.mem_of_getElem? (i := 5) rfl)))))))))))))))))), List.forall_mem_cons.mpr ⟨va_Nw.of rfl (hts _ (tt_1 (by rw [tb_1]; exact List.mem_append_right _ (List.mem_append_right _ (List.mem_append_right _ (List.mem_append_right _ (List.mem_append_right _ (List.mem_append_right _ (List.mem_append_right _ (List.mem_append_right _ (List.mem_append_right _ (List.mem_append_right _ (List.mem_append_right _ (List.mem_append_right _ (List.mem_append_right _ (List.mem_append_right _ (List.mem_append_left _ (List.mem_of_getElem? (i := 7) rfl)))))))))))))))))), fun _ h => absurd h List.not_mem_nil⟩⟩⟩⟩⟩⟩⟩⟩⟩⟩⟩⟩⟩⟩⟩⟩,
   List.forall_mem_cons.mpr ⟨va_Nw.of rfl (hts _ (tt_2 (by rw [tb_2]; exact List.mem_append_right _ (List.mem_append_right _ (List.mem_append_right _ (List.mem_append_right _ (List.mem_append_right _ (List.mem_append_right _ (List.mem_append_left _ (List.mem_of_getElem? (i := 13) rfl)))))))))), List.forall_mem_cons.mpr ⟨va_Nw.of rfl (hts _ (tt_2 (by rw [tb_2]; exact List.mem_append_right _ (List.mem_append_right _ (List.mem_append_right _ (List.mem_append_right _ (List.mem_append_right _ (List.mem_append_right _ (List.mem_append_right _ (List.mem_append_right _ (List.mem_append_right _ (List.mem_append_right _ (List.mem_append_right _ (List.mem_append_left _ (List.mem_of_getElem? (i := 15) rfl))))))))))))))), List.forall_mem_cons.mpr ⟨va_Nw.of rfl (hts _ (tt_3 (by rw [tb_3]; exact List.mem_append_right _ (List.mem_append_left _ (List.mem_of_getElem? (i := 1) rfl))))), List.forall_mem_cons.mpr ⟨va_Nw.of rfl (hts _ (tt_3 (by rw [tb_3]; exact List.mem_append_right _ (List.mem_append_right _ (List.mem_append_left _ (List.mem_of_getElem? (i := 10) rfl)))))), List.forall_mem_cons.mpr ⟨va_Nw.of rfl (hts _ (tt_4 (by rw [tb_4]; exact List.mem_append_right _ (List.mem_append_left _ (List.mem_of_getElem? (i := 1) rfl))))), List.forall_mem_cons.mpr ⟨va_Nw.of rfl (hts _ (tt_4 (by rw [tb_4]; exact List.mem_append_right _ (List.mem_append_right _ (List.mem_append_right _ (List.mem_append_right _ (List.mem_append_right _ (List.mem_append_left _ (List.mem_of_getElem? (i := 1) rfl))))))))), List.forall_mem_cons.mpr ⟨va_Nw.of rfl (hts _ (tt_4 (by rw [tb_4]; exact List.mem_append_right _ (List.mem_append_right _ (List.mem_append_right _ (List.mem_append_right _ (List.mem_append_right _ (List.mem_append_right _ (List.mem_append_right _ (List.mem_append_right _ (List.mem_append_right _ (List.mem_append_left _ (List.mem_of_getElem? (i := 6) rfl))))))))))))), fun _ h => absurd h List.not_mem_nil⟩⟩⟩⟩⟩⟩⟩⟩
