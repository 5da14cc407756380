/-! The code tables are the bytes, by program. -/
set_option maxRecDepth 100000 in
theorem dc_ReadyList_add : dcB prog_8_method_2_code cd_ReadyList_add = true := by decide +kernel
set_option maxRecDepth 100000 in
theorem dc_ReadyList_countOf : dcB prog_8_method_3_code cd_ReadyList_countOf = true := by decide +kernel
set_option maxRecDepth 100000 in
theorem dc_ReadyList_firstLength : dcB prog_8_method_4_code cd_ReadyList_firstLength = true := by decide +kernel
set_option maxRecDepth 100000 in
theorem dc_ReadyList_takeFirst : dcB prog_8_method_5_code cd_ReadyList_takeFirst = true := by decide +kernel
set_option maxRecDepth 100000 in
theorem dc_ReadyList_firstOf : dcB prog_8_method_6_code cd_ReadyList_firstOf = true := by decide +kernel
set_option maxRecDepth 100000 in
theorem dc_Row_new : dcB prog_9_method_1_code cd_Row_new = true := by decide +kernel
set_option maxRecDepth 100000 in
theorem dc_Row_isFull : dcB prog_9_method_2_code cd_Row_isFull = true := by decide +kernel
set_option maxRecDepth 100000 in
theorem dc_Row_oldest : dcB prog_9_method_3_code cd_Row_oldest = true := by decide +kernel
set_option maxRecDepth 100000 in
theorem dc_Row_removeOldest : dcB prog_9_method_4_code cd_Row_removeOldest = true := by decide +kernel
set_option maxRecDepth 100000 in
theorem dc_Row_addNew : dcB prog_9_method_5_code cd_Row_addNew = true := by decide +kernel
set_option maxRecDepth 100000 in
theorem dc_SentWord_new : dcB prog_10_method_1_code cd_SentWord_new = true := by decide +kernel
set_option maxRecDepth 100000 in
theorem dc_TagList_new : dcB prog_11_method_1_code cd_TagList_new = true := by decide +kernel
set_option maxRecDepth 100000 in
theorem dc_TagList_add : dcB prog_11_method_2_code cd_TagList_add = true := by decide +kernel
set_option maxRecDepth 100000 in
theorem dc_Word_new : dcB prog_12_method_1_code cd_Word_new = true := by decide +kernel
set_option maxRecDepth 100000 in
theorem dc_Word_copyFrom : dcB prog_12_method_2_code cd_Word_copyFrom = true := by decide +kernel
set_option maxRecDepth 100000 in
theorem dc_Law_cell : dcB method_2_code cd_Law_cell = true := by decide +kernel
set_option maxRecDepth 100000 in
theorem dc_Math_floorMod : dcB prog_15_method_50_code cd_Math_floorMod = true := by decide +kernel
set_option maxRecDepth 100000 in
theorem dc_Math_max : dcB prog_15_method_65_code cd_Math_max = true := by decide +kernel
set_option maxRecDepth 100000 in
theorem dc_Math_min : dcB prog_15_method_69_code cd_Math_min = true := by decide +kernel
set_option maxRecDepth 100000 in
theorem dc_Law_law : dcB code cd_Law_law = true := by decide +kernel
