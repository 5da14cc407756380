/-! The code tables are the bytes, by program. -/
set_option maxRecDepth 100000 in
theorem dc_Inbox_moveToReady : dcB prog_4_method_13_code cd_Inbox_moveToReady = true := by decide +kernel
set_option maxRecDepth 100000 in
theorem dc_Outbox_new : dcB prog_5_method_1_code cd_Outbox_new = true := by decide +kernel
set_option maxRecDepth 100000 in
theorem dc_Outbox_reset : dcB prog_5_method_2_code cd_Outbox_reset = true := by decide +kernel
set_option maxRecDepth 100000 in
theorem dc_Outbox_count : dcB prog_5_method_3_code cd_Outbox_count = true := by decide +kernel
set_option maxRecDepth 100000 in
theorem dc_Outbox_has : dcB prog_5_method_4_code cd_Outbox_has = true := by decide +kernel
set_option maxRecDepth 100000 in
theorem dc_Outbox_at : dcB prog_5_method_5_code cd_Outbox_at = true := by decide +kernel
set_option maxRecDepth 100000 in
theorem dc_Outbox_stateOf : dcB prog_5_method_6_code cd_Outbox_stateOf = true := by decide +kernel
set_option maxRecDepth 100000 in
theorem dc_Outbox_addMessage : dcB prog_5_method_7_code cd_Outbox_addMessage = true := by decide +kernel
set_option maxRecDepth 100000 in
theorem dc_Outbox_firstToSend : dcB prog_5_method_8_code cd_Outbox_firstToSend = true := by decide +kernel
set_option maxRecDepth 100000 in
theorem dc_Outbox_countOut : dcB prog_5_method_9_code cd_Outbox_countOut = true := by decide +kernel
set_option maxRecDepth 100000 in
theorem dc_Outbox_countOutOrMarked : dcB prog_5_method_10_code cd_Outbox_countOutOrMarked = true := by decide +kernel
set_option maxRecDepth 100000 in
theorem dc_Outbox_markAllOut : dcB prog_5_method_11_code cd_Outbox_markAllOut = true := by decide +kernel
set_option maxRecDepth 100000 in
theorem dc_Packet_new : dcB prog_6_method_1_code cd_Packet_new = true := by decide +kernel
set_option maxRecDepth 100000 in
theorem dc_Packet_copyFrom : dcB prog_6_method_2_code cd_Packet_copyFrom = true := by decide +kernel
set_option maxRecDepth 100000 in
theorem dc_Path_new : dcB prog_7_method_1_code cd_Path_new = true := by decide +kernel
set_option maxRecDepth 100000 in
theorem dc_Path_reset : dcB prog_7_method_2_code cd_Path_reset = true := by decide +kernel
set_option maxRecDepth 100000 in
theorem dc_Path_startTimer : dcB prog_7_method_3_code cd_Path_startTimer = true := by decide +kernel
set_option maxRecDepth 100000 in
theorem dc_Path_slowDown : dcB prog_7_method_4_code cd_Path_slowDown = true := by decide +kernel
set_option maxRecDepth 100000 in
theorem dc_Path_reward : dcB prog_7_method_5_code cd_Path_reward = true := by decide +kernel
set_option maxRecDepth 100000 in
theorem dc_ReadyList_new : dcB prog_8_method_1_code cd_ReadyList_new = true := by decide +kernel
