/-! The code tables are the bytes, by program. -/
set_option maxRecDepth 100000 in
theorem dc_M_empty : dcB prog_14_method_14_code cd_M_empty = true := by decide +kernel
set_option maxRecDepth 100000 in
theorem dc_M_comeUp : dcB prog_14_method_15_code cd_M_comeUp = true := by decide +kernel
set_option maxRecDepth 100000 in
theorem dc_M_close : dcB prog_14_method_16_code cd_M_close = true := by decide +kernel
set_option maxRecDepth 100000 in
theorem dc_M_pathToUse : dcB prog_14_method_17_code cd_M_pathToUse = true := by decide +kernel
set_option maxRecDepth 100000 in
theorem dc_M_abort : dcB prog_14_method_18_code cd_M_abort = true := by decide +kernel
set_option maxRecDepth 100000 in
theorem dc_M_primary : dcB prog_14_method_19_code cd_M_primary = true := by decide +kernel
set_option maxRecDepth 100000 in
theorem dc_M_deliver : dcB prog_14_method_20_code cd_M_deliver = true := by decide +kernel
set_option maxRecDepth 100000 in
theorem dc_M_init : dcB prog_14_method_21_code cd_M_init = true := by decide +kernel
set_option maxRecDepth 100000 in
theorem dc_M_tagFor : dcB prog_14_method_22_code cd_M_tagFor = true := by decide +kernel
set_option maxRecDepth 100000 in
theorem dc_M_initAck : dcB prog_14_method_23_code cd_M_initAck = true := by decide +kernel
set_option maxRecDepth 100000 in
theorem dc_M_echo : dcB prog_14_method_24_code cd_M_echo = true := by decide +kernel
set_option maxRecDepth 100000 in
theorem dc_M_hear : dcB prog_14_method_25_code cd_M_hear = true := by decide +kernel
set_option maxRecDepth 100000 in
theorem dc_M_count : dcB prog_14_method_26_code cd_M_count = true := by decide +kernel
set_option maxRecDepth 100000 in
theorem dc_M_sendWhatMay : dcB prog_14_method_27_code cd_M_sendWhatMay = true := by decide +kernel
set_option maxRecDepth 100000 in
theorem dc_M_send : dcB prog_14_method_28_code cd_M_send = true := by decide +kernel
set_option maxRecDepth 100000 in
theorem dc_M_sack : dcB prog_14_method_29_code cd_M_sack = true := by decide +kernel
set_option maxRecDepth 100000 in
theorem dc_M_strike : dcB prog_14_method_30_code cd_M_strike = true := by decide +kernel
set_option maxRecDepth 100000 in
theorem dc_M_has : dcB prog_14_method_31_code cd_M_has = true := by decide +kernel
set_option maxRecDepth 100000 in
theorem dc_M_data : dcB prog_14_method_32_code cd_M_data = true := by decide +kernel
set_option maxRecDepth 100000 in
theorem dc_M_oneReady : dcB prog_14_method_33_code cd_M_oneReady = true := by decide +kernel
