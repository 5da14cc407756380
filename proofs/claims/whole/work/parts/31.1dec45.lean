/-! The code tables are the bytes, by program. -/
set_option maxRecDepth 100000 in
theorem dc_End_strike : dcB prog_3_method_25_code cd_End_strike = true := by decide +kernel
set_option maxRecDepth 100000 in
theorem dc_End_settleTimers : dcB prog_3_method_26_code cd_End_settleTimers = true := by decide +kernel
set_option maxRecDepth 100000 in
theorem dc_End_pathFor : dcB prog_3_method_27_code cd_End_pathFor = true := by decide +kernel
set_option maxRecDepth 100000 in
theorem dc_End_mayGo : dcB prog_3_method_28_code cd_End_mayGo = true := by decide +kernel
set_option maxRecDepth 100000 in
theorem dc_End_putOut : dcB prog_3_method_29_code cd_End_putOut = true := by decide +kernel
set_option maxRecDepth 100000 in
theorem dc_End_passPathTick : dcB prog_3_method_30_code cd_End_passPathTick = true := by decide +kernel
set_option maxRecDepth 100000 in
theorem dc_End_postBeat : dcB prog_3_method_31_code cd_End_postBeat = true := by decide +kernel
set_option maxRecDepth 100000 in
theorem dc_End_addError : dcB prog_3_method_32_code cd_End_addError = true := by decide +kernel
set_option maxRecDepth 100000 in
theorem dc_Inbox_new : dcB prog_4_method_1_code cd_Inbox_new = true := by decide +kernel
set_option maxRecDepth 100000 in
theorem dc_Inbox_reset : dcB prog_4_method_2_code cd_Inbox_reset = true := by decide +kernel
set_option maxRecDepth 100000 in
theorem dc_Inbox_kept : dcB prog_4_method_3_code cd_Inbox_kept = true := by decide +kernel
set_option maxRecDepth 100000 in
theorem dc_Inbox_window : dcB prog_4_method_4_code cd_Inbox_window = true := by decide +kernel
set_option maxRecDepth 100000 in
theorem dc_Inbox_gaps : dcB prog_4_method_5_code cd_Inbox_gaps = true := by decide +kernel
set_option maxRecDepth 100000 in
theorem dc_Inbox_take : dcB prog_4_method_6_code cd_Inbox_take = true := by decide +kernel
set_option maxRecDepth 100000 in
theorem dc_Inbox_isDropped : dcB prog_4_method_7_code cd_Inbox_isDropped = true := by decide +kernel
set_option maxRecDepth 100000 in
theorem dc_Inbox_slotOf : dcB prog_4_method_8_code cd_Inbox_slotOf = true := by decide +kernel
set_option maxRecDepth 100000 in
theorem dc_Inbox_has : dcB prog_4_method_9_code cd_Inbox_has = true := by decide +kernel
set_option maxRecDepth 100000 in
theorem dc_Inbox_makeReady : dcB prog_4_method_10_code cd_Inbox_makeReady = true := by decide +kernel
set_option maxRecDepth 100000 in
theorem dc_Inbox_wholeLength : dcB prog_4_method_11_code cd_Inbox_wholeLength = true := by decide +kernel
set_option maxRecDepth 100000 in
theorem dc_Inbox_mayBeReady : dcB prog_4_method_12_code cd_Inbox_mayBeReady = true := by decide +kernel
