/-! The code tables are the bytes, by program. -/
set_option maxRecDepth 100000 in
theorem dc_L_mixIn : dcB prog_1_method_21_code cd_L_mixIn = true := by decide +kernel
set_option maxRecDepth 100000 in
theorem dc_L_serverTagFor : dcB prog_1_method_22_code cd_L_serverTagFor = true := by decide +kernel
set_option maxRecDepth 100000 in
theorem dc_L_sealOf : dcB prog_1_method_23_code cd_L_sealOf = true := by decide +kernel
set_option maxRecDepth 100000 in
theorem dc_L_takeMaking : dcB prog_1_method_24_code cd_L_takeMaking = true := by decide +kernel
set_option maxRecDepth 100000 in
theorem dc_L_answerInit : dcB prog_1_method_25_code cd_L_answerInit = true := by decide +kernel
set_option maxRecDepth 100000 in
theorem dc_L_answerEcho : dcB prog_1_method_26_code cd_L_answerEcho = true := by decide +kernel
set_option maxRecDepth 100000 in
theorem dc_L_isGenuine : dcB prog_1_method_27_code cd_L_isGenuine = true := by decide +kernel
set_option maxRecDepth 100000 in
theorem dc_M_new : dcB prog_14_method_1_code cd_M_new = true := by decide +kernel
set_option maxRecDepth 100000 in
theorem dc_M_isTwo : dcB prog_14_method_2_code cd_M_isTwo = true := by decide +kernel
set_option maxRecDepth 100000 in
theorem dc_M_mixed : dcB prog_14_method_3_code cd_M_mixed = true := by decide +kernel
set_option maxRecDepth 100000 in
theorem dc_M_seal : dcB prog_14_method_4_code cd_M_seal = true := by decide +kernel
set_option maxRecDepth 100000 in
theorem dc_M_post : dcB prog_14_method_5_code cd_M_post = true := by decide +kernel
set_option maxRecDepth 100000 in
theorem dc_M_more : dcB prog_14_method_6_code cd_M_more = true := by decide +kernel
set_option maxRecDepth 100000 in
theorem dc_M_full : dcB prog_14_method_7_code cd_M_full = true := by decide +kernel
set_option maxRecDepth 100000 in
theorem dc_M_take : dcB prog_14_method_8_code cd_M_take = true := by decide +kernel
set_option maxRecDepth 100000 in
theorem dc_M_alter : dcB prog_14_method_9_code cd_M_alter = true := by decide +kernel
set_option maxRecDepth 100000 in
theorem dc_M_waiting : dcB prog_14_method_10_code cd_M_waiting = true := by decide +kernel
set_option maxRecDepth 100000 in
theorem dc_M_sendCookie : dcB prog_14_method_11_code cd_M_sendCookie = true := by decide +kernel
set_option maxRecDepth 100000 in
theorem dc_M_open : dcB prog_14_method_12_code cd_M_open = true := by decide +kernel
set_option maxRecDepth 100000 in
theorem dc_M_among : dcB prog_14_method_13_code cd_M_among = true := by decide +kernel
