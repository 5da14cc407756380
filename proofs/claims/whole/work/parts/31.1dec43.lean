/-! The code tables are the bytes, by program. -/
set_option maxRecDepth 100000 in
theorem dc_M_wholeTo : dcB prog_14_method_34_code cd_M_wholeTo = true := by decide +kernel
set_option maxRecDepth 100000 in
theorem dc_M_isStream : dcB prog_14_method_35_code cd_M_isStream = true := by decide +kernel
set_option maxRecDepth 100000 in
theorem dc_M_read : dcB prog_14_method_36_code cd_M_read = true := by decide +kernel
set_option maxRecDepth 100000 in
theorem dc_M_ready : dcB prog_14_method_37_code cd_M_ready = true := by decide +kernel
set_option maxRecDepth 100000 in
theorem dc_M_length : dcB prog_14_method_38_code cd_M_length = true := by decide +kernel
set_option maxRecDepth 100000 in
theorem dc_M_forge : dcB prog_14_method_39_code cd_M_forge = true := by decide +kernel
set_option maxRecDepth 100000 in
theorem dc_M_fail : dcB prog_14_method_40_code cd_M_fail = true := by decide +kernel
set_option maxRecDepth 100000 in
theorem dc_M_again : dcB prog_14_method_41_code cd_M_again = true := by decide +kernel
set_option maxRecDepth 100000 in
theorem dc_M_tickPath : dcB prog_14_method_42_code cd_M_tickPath = true := by decide +kernel
set_option maxRecDepth 100000 in
theorem dc_M_tick : dcB prog_14_method_43_code cd_M_tick = true := by decide +kernel
set_option maxRecDepth 100000 in
theorem dc_M_about : dcB prog_14_method_44_code cd_M_about = true := by decide +kernel
set_option maxRecDepth 100000 in
theorem dc_M_path : dcB prog_14_method_45_code cd_M_path = true := by decide +kernel
set_option maxRecDepth 100000 in
theorem dc_M_word : dcB prog_14_method_46_code cd_M_word = true := by decide +kernel
set_option maxRecDepth 100000 in
theorem dc_Cookie_new : dcB prog_2_method_1_code cd_Cookie_new = true := by decide +kernel
set_option maxRecDepth 100000 in
theorem dc_Cookie_set : dcB prog_2_method_2_code cd_Cookie_set = true := by decide +kernel
set_option maxRecDepth 100000 in
theorem dc_Cookie_copyFrom : dcB prog_2_method_3_code cd_Cookie_copyFrom = true := by decide +kernel
set_option maxRecDepth 100000 in
theorem dc_End_new : dcB prog_3_method_1_code cd_End_new = true := by decide +kernel
set_option maxRecDepth 100000 in
theorem dc_End_startOpening : dcB prog_3_method_2_code cd_End_startOpening = true := by decide +kernel
set_option maxRecDepth 100000 in
theorem dc_End_comeUp : dcB prog_3_method_3_code cd_End_comeUp = true := by decide +kernel
set_option maxRecDepth 100000 in
theorem dc_End_close : dcB prog_3_method_4_code cd_End_close = true := by decide +kernel
