/-! The code tables are the bytes, by program. -/
set_option maxRecDepth 100000 in
theorem dc_L_new : dcB prog_1_method_1_code cd_L_new = true := by decide +kernel
set_option maxRecDepth 100000 in
theorem dc_L_open : dcB prog_1_method_2_code cd_L_open = true := by decide +kernel
set_option maxRecDepth 100000 in
theorem dc_L_send : dcB prog_1_method_3_code cd_L_send = true := by decide +kernel
set_option maxRecDepth 100000 in
theorem dc_L_deliver : dcB prog_1_method_4_code cd_L_deliver = true := by decide +kernel
set_option maxRecDepth 100000 in
theorem dc_L_alter : dcB prog_1_method_5_code cd_L_alter = true := by decide +kernel
set_option maxRecDepth 100000 in
theorem dc_L_forge : dcB prog_1_method_6_code cd_L_forge = true := by decide +kernel
set_option maxRecDepth 100000 in
theorem dc_L_tick : dcB prog_1_method_7_code cd_L_tick = true := by decide +kernel
set_option maxRecDepth 100000 in
theorem dc_L_read : dcB prog_1_method_8_code cd_L_read = true := by decide +kernel
set_option maxRecDepth 100000 in
theorem dc_L_ready : dcB prog_1_method_9_code cd_L_ready = true := by decide +kernel
set_option maxRecDepth 100000 in
theorem dc_L_length : dcB prog_1_method_10_code cd_L_length = true := by decide +kernel
set_option maxRecDepth 100000 in
theorem dc_L_abort : dcB prog_1_method_11_code cd_L_abort = true := by decide +kernel
set_option maxRecDepth 100000 in
theorem dc_L_primary : dcB prog_1_method_12_code cd_L_primary = true := by decide +kernel
set_option maxRecDepth 100000 in
theorem dc_L_about : dcB prog_1_method_13_code cd_L_about = true := by decide +kernel
set_option maxRecDepth 100000 in
theorem dc_L_path : dcB prog_1_method_14_code cd_L_path = true := by decide +kernel
set_option maxRecDepth 100000 in
theorem dc_L_waiting : dcB prog_1_method_15_code cd_L_waiting = true := by decide +kernel
set_option maxRecDepth 100000 in
theorem dc_L_word : dcB prog_1_method_16_code cd_L_word = true := by decide +kernel
set_option maxRecDepth 100000 in
theorem dc_L_isEnd : dcB prog_1_method_17_code cd_L_isEnd = true := by decide +kernel
set_option maxRecDepth 100000 in
theorem dc_L_isPath : dcB prog_1_method_18_code cd_L_isPath = true := by decide +kernel
set_option maxRecDepth 100000 in
theorem dc_L_isStream : dcB prog_1_method_19_code cd_L_isStream = true := by decide +kernel
set_option maxRecDepth 100000 in
theorem dc_L_isSet : dcB prog_1_method_20_code cd_L_isSet = true := by decide +kernel
