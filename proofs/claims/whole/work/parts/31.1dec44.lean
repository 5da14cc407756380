/-! The code tables are the bytes, by program. -/
set_option maxRecDepth 100000 in
theorem dc_End_post : dcB prog_3_method_5_code cd_End_post = true := by decide +kernel
set_option maxRecDepth 100000 in
theorem dc_End_postAbort : dcB prog_3_method_6_code cd_End_postAbort = true := by decide +kernel
set_option maxRecDepth 100000 in
theorem dc_End_takeInitAck : dcB prog_3_method_7_code cd_End_takeInitAck = true := by decide +kernel
set_option maxRecDepth 100000 in
theorem dc_End_takeEchoAck : dcB prog_3_method_8_code cd_End_takeEchoAck = true := by decide +kernel
set_option maxRecDepth 100000 in
theorem dc_End_takeWhenUp : dcB prog_3_method_9_code cd_End_takeWhenUp = true := by decide +kernel
set_option maxRecDepth 100000 in
theorem dc_End_passTick : dcB prog_3_method_10_code cd_End_passTick = true := by decide +kernel
set_option maxRecDepth 100000 in
theorem dc_End_sendWhatItMay : dcB prog_3_method_11_code cd_End_sendWhatItMay = true := by decide +kernel
set_option maxRecDepth 100000 in
theorem dc_End_pathToUse : dcB prog_3_method_12_code cd_End_pathToUse = true := by decide +kernel
set_option maxRecDepth 100000 in
theorem dc_End_tell : dcB prog_3_method_13_code cd_End_tell = true := by decide +kernel
set_option maxRecDepth 100000 in
theorem dc_End_tellOfPath : dcB prog_3_method_14_code cd_End_tellOfPath = true := by decide +kernel
set_option maxRecDepth 100000 in
theorem dc_End_startTries : dcB prog_3_method_15_code cd_End_startTries = true := by decide +kernel
set_option maxRecDepth 100000 in
theorem dc_End_tryAgain : dcB prog_3_method_16_code cd_End_tryAgain = true := by decide +kernel
set_option maxRecDepth 100000 in
theorem dc_End_postOpening : dcB prog_3_method_17_code cd_End_postOpening = true := by decide +kernel
set_option maxRecDepth 100000 in
theorem dc_End_takeData : dcB prog_3_method_18_code cd_End_takeData = true := by decide +kernel
set_option maxRecDepth 100000 in
theorem dc_End_takeBeatAck : dcB prog_3_method_19_code cd_End_takeBeatAck = true := by decide +kernel
set_option maxRecDepth 100000 in
theorem dc_End_takeSack : dcB prog_3_method_20_code cd_End_takeSack = true := by decide +kernel
set_option maxRecDepth 100000 in
theorem dc_End_dropUpTo : dcB prog_3_method_21_code cd_End_dropUpTo = true := by decide +kernel
set_option maxRecDepth 100000 in
theorem dc_End_holdGaps : dcB prog_3_method_22_code cd_End_holdGaps = true := by decide +kernel
set_option maxRecDepth 100000 in
theorem dc_End_rewardGoodPaths : dcB prog_3_method_23_code cd_End_rewardGoodPaths = true := by decide +kernel
set_option maxRecDepth 100000 in
theorem dc_End_strikeBelow : dcB prog_3_method_24_code cd_End_strikeBelow = true := by decide +kernel
