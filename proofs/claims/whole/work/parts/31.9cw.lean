/-! The words of the code of all methods. -/
set_option maxRecDepth 100000 in
theorem cw_L_new : lw_tbl[76]? = some (Cond.code ⟨"StreamLink", "<init>", "(III)V"⟩ prog_1_method_1_code 7 (none)) := rfl
set_option maxRecDepth 100000 in
theorem cw_L_open : lw_tbl[477]? = some (Cond.code ⟨"StreamLink", "open", "(I)Z"⟩ prog_1_method_2_code 3 (Option.some FieldType.boolean)) := rfl
set_option maxRecDepth 100000 in
theorem cw_L_send : lw_tbl[513]? = some (Cond.code ⟨"StreamLink", "send", "(IIZII)Z"⟩ prog_1_method_3_code 7 (Option.some FieldType.boolean)) := rfl
set_option maxRecDepth 100000 in
theorem cw_L_deliver : lw_tbl[579]? = some (Cond.code ⟨"StreamLink", "deliver", "(II)I"⟩ prog_1_method_4_code 7 (Option.some FieldType.int)) := rfl
set_option maxRecDepth 100000 in
theorem cw_L_alter : lw_tbl[759]? = some (Cond.code ⟨"StreamLink", "alter", "(IIZ)Z"⟩ prog_1_method_5_code 5 (Option.some FieldType.boolean)) := rfl
set_option maxRecDepth 100000 in
theorem cw_L_forge : lw_tbl[771]? = some (Cond.code ⟨"StreamLink", "forge", "(IIIIIII)Z"⟩ prog_1_method_6_code 10 (Option.some FieldType.boolean)) := rfl
set_option maxRecDepth 100000 in
theorem cw_L_tick : lw_tbl[775]? = some (Cond.code ⟨"StreamLink", "tick", "()I"⟩ prog_1_method_7_code 2 (Option.some FieldType.int)) := rfl
set_option maxRecDepth 100000 in
theorem cw_L_read : lw_tbl[811]? = some (Cond.code ⟨"StreamLink", "read", "(II)I"⟩ prog_1_method_8_code 3 (Option.some FieldType.int)) := rfl
set_option maxRecDepth 100000 in
theorem cw_L_ready : lw_tbl[823]? = some (Cond.code ⟨"StreamLink", "ready", "(II)I"⟩ prog_1_method_9_code 3 (Option.some FieldType.int)) := rfl
set_option maxRecDepth 100000 in
theorem cw_L_length : lw_tbl[831]? = some (Cond.code ⟨"StreamLink", "length", "(II)I"⟩ prog_1_method_10_code 3 (Option.some FieldType.int)) := rfl
set_option maxRecDepth 100000 in
theorem cw_L_abort : lw_tbl[839]? = some (Cond.code ⟨"StreamLink", "abort", "(I)Z"⟩ prog_1_method_11_code 2 (Option.some FieldType.boolean)) := rfl
set_option maxRecDepth 100000 in
theorem cw_L_primary : lw_tbl[845]? = some (Cond.code ⟨"StreamLink", "primary", "(II)Z"⟩ prog_1_method_12_code 3 (Option.some FieldType.boolean)) := rfl
set_option maxRecDepth 100000 in
theorem cw_L_about : lw_tbl[849]? = some (Cond.code ⟨"StreamLink", "about", "(II)I"⟩ prog_1_method_13_code 3 (Option.some FieldType.int)) := rfl
set_option maxRecDepth 100000 in
theorem cw_L_path : lw_tbl[859]? = some (Cond.code ⟨"StreamLink", "path", "(III)I"⟩ prog_1_method_14_code 4 (Option.some FieldType.int)) := rfl
set_option maxRecDepth 100000 in
theorem cw_L_waiting : lw_tbl[867]? = some (Cond.code ⟨"StreamLink", "waiting", "(II)I"⟩ prog_1_method_15_code 3 (Option.some FieldType.int)) := rfl
set_option maxRecDepth 100000 in
theorem cw_L_word : lw_tbl[871]? = some (Cond.code ⟨"StreamLink", "word", "(II)I"⟩ prog_1_method_16_code 3 (Option.some FieldType.int)) := rfl
set_option maxRecDepth 100000 in
theorem cw_L_isEnd : lw_tbl[516]? = some (Cond.code ⟨"StreamLink", "isEnd", "(I)Z"⟩ prog_1_method_17_code 1 (Option.some FieldType.boolean)) := rfl
set_option maxRecDepth 100000 in
theorem cw_L_isPath : lw_tbl[582]? = some (Cond.code ⟨"StreamLink", "isPath", "(I)Z"⟩ prog_1_method_18_code 1 (Option.some FieldType.boolean)) := rfl
set_option maxRecDepth 100000 in
theorem cw_L_isStream : lw_tbl[519]? = some (Cond.code ⟨"StreamLink", "isStream", "(I)Z"⟩ prog_1_method_19_code 1 (Option.some FieldType.boolean)) := rfl
set_option maxRecDepth 100000 in
theorem cw_L_isSet : lw_tbl[724]? = some (Cond.code ⟨"StreamLink", "isSet", "(II)Z"⟩ prog_1_method_20_code 2 (Option.some FieldType.boolean)) := rfl
set_option maxRecDepth 100000 in
theorem cw_L_mixIn : lw_tbl[606]? = some (Cond.code ⟨"StreamLink", "mixIn", "(II)I"⟩ prog_1_method_21_code 3 (Option.some FieldType.int)) := rfl
set_option maxRecDepth 100000 in
theorem cw_L_serverTagFor : lw_tbl[602]? = some (Cond.code ⟨"StreamLink", "serverTagFor", "(I)I"⟩ prog_1_method_22_code 3 (Option.some FieldType.int)) := rfl
set_option maxRecDepth 100000 in
theorem cw_L_sealOf : lw_tbl[612]? = some (Cond.code ⟨"StreamLink", "sealOf", "(III)I"⟩ prog_1_method_23_code 5 (Option.some FieldType.int)) := rfl
set_option maxRecDepth 100000 in
theorem cw_L_takeMaking : lw_tbl[594]? = some (Cond.code ⟨"StreamLink", "takeMaking", "(IILStreamLink$Packet;)V"⟩ prog_1_method_24_code 4 (none)) := rfl
set_option maxRecDepth 100000 in
theorem cw_L_answerInit : lw_tbl[598]? = some (Cond.code ⟨"StreamLink", "answerInit", "(II)V"⟩ prog_1_method_25_code 5 (none)) := rfl
set_option maxRecDepth 100000 in
theorem cw_L_answerEcho : lw_tbl[624]? = some (Cond.code ⟨"StreamLink", "answerEcho", "(ILStreamLink$Packet;)V"⟩ prog_1_method_26_code 5 (none)) := rfl
set_option maxRecDepth 100000 in
theorem cw_L_isGenuine : lw_tbl[628]? = some (Cond.code ⟨"StreamLink", "isGenuine", "(LStreamLink$Cookie;)Z"⟩ prog_1_method_27_code 4 (Option.some FieldType.boolean)) := rfl
set_option maxRecDepth 100000 in
theorem cw_M_new : lw_tbl[880]? = some (Cond.code ⟨"StreamLinkModel", "<init>", "(III)V"⟩ prog_14_method_1_code 4 (none)) := rfl
set_option maxRecDepth 100000 in
theorem cw_M_isTwo : lw_tbl[1051]? = some (Cond.code ⟨"StreamLinkModel", "isTwo", "(I)Z"⟩ prog_14_method_2_code 1 (Option.some FieldType.boolean)) := rfl
set_option maxRecDepth 100000 in
theorem cw_M_mixed : lw_tbl[1106]? = some (Cond.code ⟨"StreamLinkModel", "mixed", "(II)I"⟩ prog_14_method_3_code 3 (Option.some FieldType.int)) := rfl
set_option maxRecDepth 100000 in
theorem cw_M_seal : lw_tbl[1115]? = some (Cond.code ⟨"StreamLinkModel", "seal", "(III)I"⟩ prog_14_method_4_code 5 (Option.some FieldType.int)) := rfl
set_option maxRecDepth 100000 in
theorem cw_M_post : lw_tbl[1070]? = some (Cond.code ⟨"StreamLinkModel", "post", "(IIIIII)V"⟩ prog_14_method_5_code 10 (none)) := rfl
set_option maxRecDepth 100000 in
theorem cw_M_more : lw_tbl[1119]? = some (Cond.code ⟨"StreamLinkModel", "more", "(IIIII)V"⟩ prog_14_method_6_code 7 (none)) := rfl
set_option maxRecDepth 100000 in
theorem cw_M_full : lw_tbl[1111]? = some (Cond.code ⟨"StreamLinkModel", "full", "(II)Z"⟩ prog_14_method_7_code 3 (Option.some FieldType.boolean)) := rfl
set_option maxRecDepth 100000 in
theorem cw_M_take : lw_tbl[1055]? = some (Cond.code ⟨"StreamLinkModel", "take", "(I)V"⟩ prog_14_method_8_code 4 (none)) := rfl
set_option maxRecDepth 100000 in
theorem cw_M_alter : lw_tbl[1048]? = some (Cond.code ⟨"StreamLinkModel", "alter", "(IIZ)Z"⟩ prog_14_method_9_code 6 (Option.some FieldType.boolean)) := rfl
set_option maxRecDepth 100000 in
theorem cw_M_waiting : lw_tbl[1059]? = some (Cond.code ⟨"StreamLinkModel", "waiting", "(II)I"⟩ prog_14_method_10_code 3 (Option.some FieldType.int)) := rfl
set_option maxRecDepth 100000 in
theorem cw_M_sendCookie : lw_tbl[1136]? = some (Cond.code ⟨"StreamLinkModel", "sendCookie", "(IIIII)V"⟩ prog_14_method_11_code 7 (none)) := rfl
set_option maxRecDepth 100000 in
theorem cw_M_open : lw_tbl[1063]? = some (Cond.code ⟨"StreamLinkModel", "open", "(I)Z"⟩ prog_14_method_12_code 2 (Option.some FieldType.boolean)) := rfl
set_option maxRecDepth 100000 in
theorem cw_M_among : lw_tbl[1066]? = some (Cond.code ⟨"StreamLinkModel", "among", "([III)Z"⟩ prog_14_method_13_code 5 (Option.some FieldType.boolean)) := rfl
set_option maxRecDepth 100000 in
theorem cw_M_empty : lw_tbl[1086]? = some (Cond.code ⟨"StreamLinkModel", "empty", "(I)V"⟩ prog_14_method_14_code 4 (none)) := rfl
set_option maxRecDepth 100000 in
theorem cw_M_comeUp : lw_tbl[1128]? = some (Cond.code ⟨"StreamLinkModel", "comeUp", "(III)V"⟩ prog_14_method_15_code 4 (none)) := rfl
set_option maxRecDepth 100000 in
theorem cw_M_close : lw_tbl[1082]? = some (Cond.code ⟨"StreamLinkModel", "close", "(II)V"⟩ prog_14_method_16_code 3 (none)) := rfl
set_option maxRecDepth 100000 in
theorem cw_M_pathToUse : lw_tbl[1078]? = some (Cond.code ⟨"StreamLinkModel", "pathToUse", "(I)I"⟩ prog_14_method_17_code 3 (Option.some FieldType.int)) := rfl
set_option maxRecDepth 100000 in
theorem cw_M_abort : lw_tbl[1074]? = some (Cond.code ⟨"StreamLinkModel", "abort", "(I)Z"⟩ prog_14_method_18_code 2 (Option.some FieldType.boolean)) := rfl
set_option maxRecDepth 100000 in
theorem cw_M_primary : lw_tbl[1090]? = some (Cond.code ⟨"StreamLinkModel", "primary", "(II)Z"⟩ prog_14_method_19_code 3 (Option.some FieldType.boolean)) := rfl
set_option maxRecDepth 100000 in
theorem cw_M_deliver : lw_tbl[1094]? = some (Cond.code ⟨"StreamLinkModel", "deliver", "(II)I"⟩ prog_14_method_20_code 5 (Option.some FieldType.int)) := rfl
set_option maxRecDepth 100000 in
theorem cw_M_init : lw_tbl[1098]? = some (Cond.code ⟨"StreamLinkModel", "init", "(II)V"⟩ prog_14_method_21_code 5 (none)) := rfl
set_option maxRecDepth 100000 in
theorem cw_M_tagFor : lw_tbl[1102]? = some (Cond.code ⟨"StreamLinkModel", "tagFor", "(I)I"⟩ prog_14_method_22_code 3 (Option.some FieldType.int)) := rfl
set_option maxRecDepth 100000 in
theorem cw_M_initAck : lw_tbl[1132]? = some (Cond.code ⟨"StreamLinkModel", "initAck", "(I)V"⟩ prog_14_method_23_code 3 (none)) := rfl
set_option maxRecDepth 100000 in
theorem cw_M_echo : lw_tbl[1123]? = some (Cond.code ⟨"StreamLinkModel", "echo", "(I)V"⟩ prog_14_method_24_code 8 (none)) := rfl
set_option maxRecDepth 100000 in
theorem cw_M_hear : lw_tbl[1140]? = some (Cond.code ⟨"StreamLinkModel", "hear", "(III)V"⟩ prog_14_method_25_code 5 (none)) := rfl
set_option maxRecDepth 100000 in
theorem cw_M_count : lw_tbl[1168]? = some (Cond.code ⟨"StreamLinkModel", "count", "(III)I"⟩ prog_14_method_26_code 7 (Option.some FieldType.int)) := rfl
set_option maxRecDepth 100000 in
theorem cw_M_sendWhatMay : lw_tbl[1172]? = some (Cond.code ⟨"StreamLinkModel", "sendWhatMay", "(I)V"⟩ prog_14_method_27_code 10 (none)) := rfl
set_option maxRecDepth 100000 in
theorem cw_M_send : lw_tbl[1176]? = some (Cond.code ⟨"StreamLinkModel", "send", "(IIZII)Z"⟩ prog_14_method_28_code 8 (Option.some FieldType.boolean)) := rfl
set_option maxRecDepth 100000 in
theorem cw_M_sack : lw_tbl[1160]? = some (Cond.code ⟨"StreamLinkModel", "sack", "(I)V"⟩ prog_14_method_29_code 8 (none)) := rfl
set_option maxRecDepth 100000 in
theorem cw_M_strike : lw_tbl[1164]? = some (Cond.code ⟨"StreamLinkModel", "strike", "(III)V"⟩ prog_14_method_30_code 8 (none)) := rfl
set_option maxRecDepth 100000 in
theorem cw_M_has : lw_tbl[1148]? = some (Cond.code ⟨"StreamLinkModel", "has", "(II)Z"⟩ prog_14_method_31_code 3 (Option.some FieldType.boolean)) := rfl
set_option maxRecDepth 100000 in
theorem cw_M_data : lw_tbl[1144]? = some (Cond.code ⟨"StreamLinkModel", "data", "(II)V"⟩ prog_14_method_32_code 8 (none)) := rfl
set_option maxRecDepth 100000 in
theorem cw_M_oneReady : lw_tbl[1152]? = some (Cond.code ⟨"StreamLinkModel", "oneReady", "(I)Z"⟩ prog_14_method_33_code 8 (Option.some FieldType.boolean)) := rfl
set_option maxRecDepth 100000 in
theorem cw_M_wholeTo : lw_tbl[1156]? = some (Cond.code ⟨"StreamLinkModel", "wholeTo", "(II)I"⟩ prog_14_method_34_code 5 (Option.some FieldType.int)) := rfl
set_option maxRecDepth 100000 in
theorem cw_M_isStream : lw_tbl[1183]? = some (Cond.code ⟨"StreamLinkModel", "isStream", "(I)Z"⟩ prog_14_method_35_code 1 (Option.some FieldType.boolean)) := rfl
set_option maxRecDepth 100000 in
theorem cw_M_read : lw_tbl[1180]? = some (Cond.code ⟨"StreamLinkModel", "read", "(II)I"⟩ prog_14_method_36_code 5 (Option.some FieldType.int)) := rfl
set_option maxRecDepth 100000 in
theorem cw_M_ready : lw_tbl[1187]? = some (Cond.code ⟨"StreamLinkModel", "ready", "(II)I"⟩ prog_14_method_37_code 3 (Option.some FieldType.int)) := rfl
set_option maxRecDepth 100000 in
theorem cw_M_length : lw_tbl[1191]? = some (Cond.code ⟨"StreamLinkModel", "length", "(II)I"⟩ prog_14_method_38_code 4 (Option.some FieldType.int)) := rfl
set_option maxRecDepth 100000 in
theorem cw_M_forge : lw_tbl[1195]? = some (Cond.code ⟨"StreamLinkModel", "forge", "(IIIIIII)Z"⟩ prog_14_method_39_code 8 (Option.some FieldType.boolean)) := rfl
set_option maxRecDepth 100000 in
theorem cw_M_fail : lw_tbl[1211]? = some (Cond.code ⟨"StreamLinkModel", "fail", "(II)V"⟩ prog_14_method_40_code 3 (none)) := rfl
set_option maxRecDepth 100000 in
theorem cw_M_again : lw_tbl[1203]? = some (Cond.code ⟨"StreamLinkModel", "again", "(I)V"⟩ prog_14_method_41_code 2 (none)) := rfl
set_option maxRecDepth 100000 in
theorem cw_M_tickPath : lw_tbl[1207]? = some (Cond.code ⟨"StreamLinkModel", "tickPath", "(II)V"⟩ prog_14_method_42_code 6 (none)) := rfl
set_option maxRecDepth 100000 in
theorem cw_M_tick : lw_tbl[1199]? = some (Cond.code ⟨"StreamLinkModel", "tick", "()I"⟩ prog_14_method_43_code 2 (Option.some FieldType.int)) := rfl
set_option maxRecDepth 100000 in
theorem cw_M_about : lw_tbl[1215]? = some (Cond.code ⟨"StreamLinkModel", "about", "(II)I"⟩ prog_14_method_44_code 3 (Option.some FieldType.int)) := rfl
set_option maxRecDepth 100000 in
theorem cw_M_path : lw_tbl[1219]? = some (Cond.code ⟨"StreamLinkModel", "path", "(III)I"⟩ prog_14_method_45_code 5 (Option.some FieldType.int)) := rfl
set_option maxRecDepth 100000 in
theorem cw_M_word : lw_tbl[1223]? = some (Cond.code ⟨"StreamLinkModel", "word", "(II)I"⟩ prog_14_method_46_code 3 (Option.some FieldType.int)) := rfl
set_option maxRecDepth 100000 in
theorem cw_Cookie_new : lw_tbl[196]? = some (Cond.code ⟨"StreamLink$Cookie", "<init>", "()V"⟩ prog_2_method_1_code 1 (none)) := rfl
set_option maxRecDepth 100000 in
theorem cw_Cookie_set : lw_tbl[616]? = some (Cond.code ⟨"StreamLink$Cookie", "set", "(IIII)V"⟩ prog_2_method_2_code 5 (none)) := rfl
set_option maxRecDepth 100000 in
theorem cw_Cookie_copyFrom : lw_tbl[509]? = some (Cond.code ⟨"StreamLink$Cookie", "copyFrom", "(LStreamLink$Cookie;)V"⟩ prog_2_method_3_code 2 (none)) := rfl
set_option maxRecDepth 100000 in
theorem cw_End_new : lw_tbl[91]? = some (Cond.code ⟨"StreamLink$End", "<init>", "(II)V"⟩ prog_3_method_1_code 4 (none)) := rfl
set_option maxRecDepth 100000 in
theorem cw_End_startOpening : lw_tbl[485]? = some (Cond.code ⟨"StreamLink$End", "startOpening", "(II)V"⟩ prog_3_method_2_code 3 (none)) := rfl
set_option maxRecDepth 100000 in
theorem cw_End_comeUp : lw_tbl[633]? = some (Cond.code ⟨"StreamLink$End", "comeUp", "()V"⟩ prog_3_method_3_code 2 (none)) := rfl
set_option maxRecDepth 100000 in
theorem cw_End_close : lw_tbl[755]? = some (Cond.code ⟨"StreamLink$End", "close", "(I)V"⟩ prog_3_method_4_code 2 (none)) := rfl
set_option maxRecDepth 100000 in
theorem cw_End_post : lw_tbl[497]? = some (Cond.code ⟨"StreamLink$End", "post", "(II)LStreamLink$Packet;"⟩ prog_3_method_5_code 4 (Option.some (FieldType.object "StreamLink$Packet"))) := rfl
set_option maxRecDepth 100000 in
theorem cw_End_postAbort : lw_tbl[803]? = some (Cond.code ⟨"StreamLink$End", "postAbort", "()V"⟩ prog_3_method_6_code 1 (none)) := rfl
set_option maxRecDepth 100000 in
theorem cw_End_takeInitAck : lw_tbl[620]? = some (Cond.code ⟨"StreamLink$End", "takeInitAck", "(ILStreamLink$Packet;I)V"⟩ prog_3_method_7_code 4 (none)) := rfl
set_option maxRecDepth 100000 in
theorem cw_End_takeEchoAck : lw_tbl[643]? = some (Cond.code ⟨"StreamLink$End", "takeEchoAck", "(LStreamLink$Packet;)V"⟩ prog_3_method_8_code 2 (none)) := rfl
set_option maxRecDepth 100000 in
theorem cw_End_takeWhenUp : lw_tbl[648]? = some (Cond.code ⟨"StreamLink$End", "takeWhenUp", "(ILStreamLink$Packet;I)V"⟩ prog_3_method_9_code 4 (none)) := rfl
set_option maxRecDepth 100000 in
theorem cw_End_passTick : lw_tbl[779]? = some (Cond.code ⟨"StreamLink$End", "passTick", "(I)V"⟩ prog_3_method_10_code 3 (none)) := rfl
set_option maxRecDepth 100000 in
theorem cw_End_sendWhatItMay : lw_tbl[538]? = some (Cond.code ⟨"StreamLink$End", "sendWhatItMay", "(I)V"⟩ prog_3_method_11_code 6 (none)) := rfl
set_option maxRecDepth 100000 in
theorem cw_End_pathToUse : lw_tbl[551]? = some (Cond.code ⟨"StreamLink$End", "pathToUse", "()I"⟩ prog_3_method_12_code 2 (Option.some FieldType.int)) := rfl
set_option maxRecDepth 100000 in
theorem cw_End_tell : lw_tbl[853]? = some (Cond.code ⟨"StreamLink$End", "tell", "(I)I"⟩ prog_3_method_13_code 2 (Option.some FieldType.int)) := rfl
set_option maxRecDepth 100000 in
theorem cw_End_tellOfPath : lw_tbl[863]? = some (Cond.code ⟨"StreamLink$End", "tellOfPath", "(II)I"⟩ prog_3_method_14_code 4 (Option.some FieldType.int)) := rfl
set_option maxRecDepth 100000 in
theorem cw_End_startTries : lw_tbl[489]? = some (Cond.code ⟨"StreamLink$End", "startTries", "(I)V"⟩ prog_3_method_15_code 2 (none)) := rfl
set_option maxRecDepth 100000 in
theorem cw_End_tryAgain : lw_tbl[783]? = some (Cond.code ⟨"StreamLink$End", "tryAgain", "(I)V"⟩ prog_3_method_16_code 2 (none)) := rfl
set_option maxRecDepth 100000 in
theorem cw_End_postOpening : lw_tbl[493]? = some (Cond.code ⟨"StreamLink$End", "postOpening", "(I)V"⟩ prog_3_method_17_code 3 (none)) := rfl
set_option maxRecDepth 100000 in
theorem cw_End_takeData : lw_tbl[652]? = some (Cond.code ⟨"StreamLink$End", "takeData", "(ILStreamLink$Word;)V"⟩ prog_3_method_18_code 4 (none)) := rfl
set_option maxRecDepth 100000 in
theorem cw_End_takeBeatAck : lw_tbl[751]? = some (Cond.code ⟨"StreamLink$End", "takeBeatAck", "(LStreamLink$Path;I)V"⟩ prog_3_method_19_code 3 (none)) := rfl
set_option maxRecDepth 100000 in
theorem cw_End_takeSack : lw_tbl[705]? = some (Cond.code ⟨"StreamLink$End", "takeSack", "(LStreamLink$Packet;I)V"⟩ prog_3_method_20_code 4 (none)) := rfl
set_option maxRecDepth 100000 in
theorem cw_End_dropUpTo : lw_tbl[709]? = some (Cond.code ⟨"StreamLink$End", "dropUpTo", "(I)V"⟩ prog_3_method_21_code 4 (none)) := rfl
set_option maxRecDepth 100000 in
theorem cw_End_holdGaps : lw_tbl[713]? = some (Cond.code ⟨"StreamLink$End", "holdGaps", "(I)V"⟩ prog_3_method_22_code 6 (none)) := rfl
set_option maxRecDepth 100000 in
theorem cw_End_rewardGoodPaths : lw_tbl[728]? = some (Cond.code ⟨"StreamLink$End", "rewardGoodPaths", "()V"⟩ prog_3_method_23_code 2 (none)) := rfl
set_option maxRecDepth 100000 in
theorem cw_End_strikeBelow : lw_tbl[737]? = some (Cond.code ⟨"StreamLink$End", "strikeBelow", "(I)V"⟩ prog_3_method_24_code 5 (none)) := rfl
set_option maxRecDepth 100000 in
theorem cw_End_strike : lw_tbl[741]? = some (Cond.code ⟨"StreamLink$End", "strike", "(LStreamLink$SentWord;)V"⟩ prog_3_method_25_code 3 (none)) := rfl
set_option maxRecDepth 100000 in
theorem cw_End_settleTimers : lw_tbl[746]? = some (Cond.code ⟨"StreamLink$End", "settleTimers", "(I)V"⟩ prog_3_method_26_code 3 (none)) := rfl
set_option maxRecDepth 100000 in
theorem cw_End_pathFor : lw_tbl[547]? = some (Cond.code ⟨"StreamLink$End", "pathFor", "(LStreamLink$SentWord;)I"⟩ prog_3_method_27_code 3 (Option.some FieldType.int)) := rfl
set_option maxRecDepth 100000 in
theorem cw_End_mayGo : lw_tbl[555]? = some (Cond.code ⟨"StreamLink$End", "mayGo", "(LStreamLink$SentWord;I)Z"⟩ prog_3_method_28_code 4 (Option.some FieldType.boolean)) := rfl
set_option maxRecDepth 100000 in
theorem cw_End_putOut : lw_tbl[567]? = some (Cond.code ⟨"StreamLink$End", "putOut", "(LStreamLink$SentWord;II)V"⟩ prog_3_method_29_code 4 (none)) := rfl
set_option maxRecDepth 100000 in
theorem cw_End_passPathTick : lw_tbl[787]? = some (Cond.code ⟨"StreamLink$End", "passPathTick", "(II)V"⟩ prog_3_method_30_code 4 (none)) := rfl
set_option maxRecDepth 100000 in
theorem cw_End_postBeat : lw_tbl[807]? = some (Cond.code ⟨"StreamLink$End", "postBeat", "(II)V"⟩ prog_3_method_31_code 3 (none)) := rfl
set_option maxRecDepth 100000 in
theorem cw_End_addError : lw_tbl[799]? = some (Cond.code ⟨"StreamLink$End", "addError", "(LStreamLink$Path;)V"⟩ prog_3_method_32_code 2 (none)) := rfl
set_option maxRecDepth 100000 in
theorem cw_Inbox_new : lw_tbl[219]? = some (Cond.code ⟨"StreamLink$Inbox", "<init>", "(I)V"⟩ prog_4_method_1_code 3 (none)) := rfl
set_option maxRecDepth 100000 in
theorem cw_Inbox_reset : lw_tbl[250]? = some (Cond.code ⟨"StreamLink$Inbox", "reset", "()V"⟩ prog_4_method_2_code 2 (none)) := rfl
set_option maxRecDepth 100000 in
theorem cw_Inbox_kept : lw_tbl[671]? = some (Cond.code ⟨"StreamLink$Inbox", "kept", "()I"⟩ prog_4_method_3_code 1 (Option.some FieldType.int)) := rfl
set_option maxRecDepth 100000 in
theorem cw_Inbox_window : lw_tbl[700]? = some (Cond.code ⟨"StreamLink$Inbox", "window", "()I"⟩ prog_4_method_4_code 1 (Option.some FieldType.int)) := rfl
set_option maxRecDepth 100000 in
theorem cw_Inbox_gaps : lw_tbl[696]? = some (Cond.code ⟨"StreamLink$Inbox", "gaps", "()I"⟩ prog_4_method_5_code 3 (Option.some FieldType.int)) := rfl
set_option maxRecDepth 100000 in
theorem cw_Inbox_take : lw_tbl[656]? = some (Cond.code ⟨"StreamLink$Inbox", "take", "(LStreamLink$Word;)V"⟩ prog_4_method_6_code 4 (none)) := rfl
set_option maxRecDepth 100000 in
theorem cw_Inbox_isDropped : lw_tbl[660]? = some (Cond.code ⟨"StreamLink$Inbox", "isDropped", "(I)Z"⟩ prog_4_method_7_code 2 (Option.some FieldType.boolean)) := rfl
set_option maxRecDepth 100000 in
theorem cw_Inbox_slotOf : lw_tbl[667]? = some (Cond.code ⟨"StreamLink$Inbox", "slotOf", "(I)I"⟩ prog_4_method_8_code 1 (Option.some FieldType.int)) := rfl
set_option maxRecDepth 100000 in
theorem cw_Inbox_has : lw_tbl[664]? = some (Cond.code ⟨"StreamLink$Inbox", "has", "(I)Z"⟩ prog_4_method_9_code 2 (Option.some FieldType.boolean)) := rfl
set_option maxRecDepth 100000 in
theorem cw_Inbox_makeReady : lw_tbl[676]? = some (Cond.code ⟨"StreamLink$Inbox", "makeReady", "()V"⟩ prog_4_method_10_code 3 (none)) := rfl
set_option maxRecDepth 100000 in
theorem cw_Inbox_wholeLength : lw_tbl[680]? = some (Cond.code ⟨"StreamLink$Inbox", "wholeLength", "(I)I"⟩ prog_4_method_11_code 4 (Option.some FieldType.int)) := rfl
set_option maxRecDepth 100000 in
theorem cw_Inbox_mayBeReady : lw_tbl[684]? = some (Cond.code ⟨"StreamLink$Inbox", "mayBeReady", "(LStreamLink$Word;)Z"⟩ prog_4_method_12_code 2 (Option.some FieldType.boolean)) := rfl
set_option maxRecDepth 100000 in
theorem cw_Inbox_moveToReady : lw_tbl[688]? = some (Cond.code ⟨"StreamLink$Inbox", "moveToReady", "(II)V"⟩ prog_4_method_13_code 5 (none)) := rfl
set_option maxRecDepth 100000 in
theorem cw_Outbox_new : lw_tbl[99]? = some (Cond.code ⟨"StreamLink$Outbox", "<init>", "()V"⟩ prog_5_method_1_code 2 (none)) := rfl
set_option maxRecDepth 100000 in
theorem cw_Outbox_reset : lw_tbl[172]? = some (Cond.code ⟨"StreamLink$Outbox", "reset", "(I)V"⟩ prog_5_method_2_code 3 (none)) := rfl
set_option maxRecDepth 100000 in
theorem cw_Outbox_count : lw_tbl[523]? = some (Cond.code ⟨"StreamLink$Outbox", "count", "()I"⟩ prog_5_method_3_code 1 (Option.some FieldType.int)) := rfl
set_option maxRecDepth 100000 in
theorem cw_Outbox_has : lw_tbl[721]? = some (Cond.code ⟨"StreamLink$Outbox", "has", "(I)Z"⟩ prog_5_method_4_code 2 (Option.some FieldType.boolean)) := rfl
set_option maxRecDepth 100000 in
theorem cw_Outbox_at : lw_tbl[531]? = some (Cond.code ⟨"StreamLink$Outbox", "at", "(I)LStreamLink$SentWord;"⟩ prog_5_method_5_code 2 (Option.some (FieldType.object "StreamLink$SentWord"))) := rfl
set_option maxRecDepth 100000 in
theorem cw_Outbox_stateOf : lw_tbl[717]? = some (Cond.code ⟨"StreamLink$Outbox", "stateOf", "(I)I"⟩ prog_5_method_6_code 2 (Option.some FieldType.int)) := rfl
set_option maxRecDepth 100000 in
theorem cw_Outbox_addMessage : lw_tbl[527]? = some (Cond.code ⟨"StreamLink$Outbox", "addMessage", "(IZII)V"⟩ prog_5_method_7_code 8 (none)) := rfl
set_option maxRecDepth 100000 in
theorem cw_Outbox_firstToSend : lw_tbl[542]? = some (Cond.code ⟨"StreamLink$Outbox", "firstToSend", "()I"⟩ prog_5_method_8_code 3 (Option.some FieldType.int)) := rfl
set_option maxRecDepth 100000 in
theorem cw_Outbox_countOut : lw_tbl[559]? = some (Cond.code ⟨"StreamLink$Outbox", "countOut", "(I)I"⟩ prog_5_method_9_code 4 (Option.some FieldType.int)) := rfl
set_option maxRecDepth 100000 in
theorem cw_Outbox_countOutOrMarked : lw_tbl[563]? = some (Cond.code ⟨"StreamLink$Outbox", "countOutOrMarked", "()I"⟩ prog_5_method_10_code 3 (Option.some FieldType.int)) := rfl
set_option maxRecDepth 100000 in
theorem cw_Outbox_markAllOut : lw_tbl[791]? = some (Cond.code ⟨"StreamLink$Outbox", "markAllOut", "(I)V"⟩ prog_5_method_11_code 3 (none)) := rfl
set_option maxRecDepth 100000 in
theorem cw_Packet_new : lw_tbl[292]? = some (Cond.code ⟨"StreamLink$Packet", "<init>", "()V"⟩ prog_6_method_1_code 1 (none)) := rfl
set_option maxRecDepth 100000 in
theorem cw_Packet_copyFrom : lw_tbl[765]? = some (Cond.code ⟨"StreamLink$Packet", "copyFrom", "(LStreamLink$Packet;)V"⟩ prog_6_method_2_code 2 (none)) := rfl
set_option maxRecDepth 100000 in
theorem cw_Path_new : lw_tbl[279]? = some (Cond.code ⟨"StreamLink$Path", "<init>", "()V"⟩ prog_7_method_1_code 1 (none)) := rfl
set_option maxRecDepth 100000 in
theorem cw_Path_reset : lw_tbl[639]? = some (Cond.code ⟨"StreamLink$Path", "reset", "()V"⟩ prog_7_method_2_code 1 (none)) := rfl
set_option maxRecDepth 100000 in
theorem cw_Path_startTimer : lw_tbl[575]? = some (Cond.code ⟨"StreamLink$Path", "startTimer", "(I)V"⟩ prog_7_method_3_code 2 (none)) := rfl
set_option maxRecDepth 100000 in
theorem cw_Path_slowDown : lw_tbl[795]? = some (Cond.code ⟨"StreamLink$Path", "slowDown", "()V"⟩ prog_7_method_4_code 1 (none)) := rfl
set_option maxRecDepth 100000 in
theorem cw_Path_reward : lw_tbl[732]? = some (Cond.code ⟨"StreamLink$Path", "reward", "()V"⟩ prog_7_method_5_code 1 (none)) := rfl
set_option maxRecDepth 100000 in
theorem cw_ReadyList_new : lw_tbl[225]? = some (Cond.code ⟨"StreamLink$ReadyList", "<init>", "()V"⟩ prog_8_method_1_code 1 (none)) := rfl
set_option maxRecDepth 100000 in
theorem cw_ReadyList_add : lw_tbl[692]? = some (Cond.code ⟨"StreamLink$ReadyList", "add", "(III)V"⟩ prog_8_method_2_code 4 (none)) := rfl
set_option maxRecDepth 100000 in
theorem cw_ReadyList_countOf : lw_tbl[827]? = some (Cond.code ⟨"StreamLink$ReadyList", "countOf", "(I)I"⟩ prog_8_method_3_code 4 (Option.some FieldType.int)) := rfl
set_option maxRecDepth 100000 in
theorem cw_ReadyList_firstLength : lw_tbl[835]? = some (Cond.code ⟨"StreamLink$ReadyList", "firstLength", "(I)I"⟩ prog_8_method_4_code 3 (Option.some FieldType.int)) := rfl
set_option maxRecDepth 100000 in
theorem cw_ReadyList_takeFirst : lw_tbl[815]? = some (Cond.code ⟨"StreamLink$ReadyList", "takeFirst", "(I)I"⟩ prog_8_method_5_code 5 (Option.some FieldType.int)) := rfl
set_option maxRecDepth 100000 in
theorem cw_ReadyList_firstOf : lw_tbl[819]? = some (Cond.code ⟨"StreamLink$ReadyList", "firstOf", "(I)I"⟩ prog_8_method_6_code 3 (Option.some FieldType.int)) := rfl
set_option maxRecDepth 100000 in
theorem cw_Row_new : lw_tbl[285]? = some (Cond.code ⟨"StreamLink$Row", "<init>", "()V"⟩ prog_9_method_1_code 2 (none)) := rfl
set_option maxRecDepth 100000 in
theorem cw_Row_isFull : lw_tbl[505]? = some (Cond.code ⟨"StreamLink$Row", "isFull", "()Z"⟩ prog_9_method_2_code 1 (Option.some FieldType.boolean)) := rfl
set_option maxRecDepth 100000 in
theorem cw_Row_oldest : lw_tbl[586]? = some (Cond.code ⟨"StreamLink$Row", "oldest", "()LStreamLink$Packet;"⟩ prog_9_method_3_code 1 (Option.some (FieldType.object "StreamLink$Packet"))) := rfl
set_option maxRecDepth 100000 in
theorem cw_Row_removeOldest : lw_tbl[590]? = some (Cond.code ⟨"StreamLink$Row", "removeOldest", "()V"⟩ prog_9_method_4_code 1 (none)) := rfl
set_option maxRecDepth 100000 in
theorem cw_Row_addNew : lw_tbl[501]? = some (Cond.code ⟨"StreamLink$Row", "addNew", "()LStreamLink$Packet;"⟩ prog_9_method_5_code 2 (Option.some (FieldType.object "StreamLink$Packet"))) := rfl
set_option maxRecDepth 100000 in
theorem cw_SentWord_new : lw_tbl[106]? = some (Cond.code ⟨"StreamLink$SentWord", "<init>", "()V"⟩ prog_10_method_1_code 1 (none)) := rfl
set_option maxRecDepth 100000 in
theorem cw_TagList_new : lw_tbl[449]? = some (Cond.code ⟨"StreamLink$TagList", "<init>", "()V"⟩ prog_11_method_1_code 1 (none)) := rfl
set_option maxRecDepth 100000 in
theorem cw_TagList_add : lw_tbl[481]? = some (Cond.code ⟨"StreamLink$TagList", "add", "(I)Z"⟩ prog_11_method_2_code 3 (Option.some FieldType.boolean)) := rfl
set_option maxRecDepth 100000 in
theorem cw_Word_new : lw_tbl[112]? = some (Cond.code ⟨"StreamLink$Word", "<init>", "()V"⟩ prog_12_method_1_code 1 (none)) := rfl
set_option maxRecDepth 100000 in
theorem cw_Word_copyFrom : lw_tbl[571]? = some (Cond.code ⟨"StreamLink$Word", "copyFrom", "(LStreamLink$Word;)V"⟩ prog_12_method_2_code 2 (none)) := rfl
set_option maxRecDepth 100000 in
theorem cw_Law_cell : lw_tbl[875]? = some (Cond.code ⟨"StreamLinkLaw", "cell", "([II)I"⟩ method_2_code 2 (Option.some FieldType.int)) := rfl
set_option maxRecDepth 100000 in
theorem cw_Math_floorMod : lw_tbl[534]? = some (Cond.code ⟨"java/lang/Math", "floorMod", "(II)I"⟩ prog_15_method_50_code 3 (Option.some FieldType.int)) := rfl
set_option maxRecDepth 100000 in
theorem cw_Math_max : lw_tbl[85]? = some (Cond.code ⟨"java/lang/Math", "max", "(II)I"⟩ prog_15_method_65_code 2 (Option.some FieldType.int)) := rfl
set_option maxRecDepth 100000 in
theorem cw_Math_min : lw_tbl[82]? = some (Cond.code ⟨"java/lang/Math", "min", "(II)I"⟩ prog_15_method_69_code 2 (Option.some FieldType.int)) := rfl
set_option maxRecDepth 100000 in
theorem cw_all : ∀ q ∈ ((mtL.zip mthL).zip cwP), q.2 = 0 ∨ lw_tbl[q.2]? = some (Cond.code q.1.1.1 q.1.1.2.1 q.1.2.2.2.1 q.1.1.2.2) := List.forall_mem_cons.mpr ⟨Or.inr cw_L_new, List.forall_mem_cons.mpr ⟨Or.inr cw_L_open, List.forall_mem_cons.mpr ⟨Or.inr cw_L_send, List.forall_mem_cons.mpr ⟨Or.inr cw_L_deliver, List.forall_mem_cons.mpr ⟨Or.inr cw_L_alter, List.forall_mem_cons.mpr ⟨Or.inr cw_L_forge, List.forall_mem_cons.mpr ⟨Or.inr cw_L_tick, List.forall_mem_cons.mpr ⟨Or.inr cw_L_read, List.forall_mem_cons.mpr ⟨Or.inr cw_L_ready, List.forall_mem_cons.mpr ⟨Or.inr cw_L_length, List.forall_mem_cons.mpr ⟨Or.inr cw_L_abort, List.forall_mem_cons.mpr ⟨Or.inr cw_L_primary, List.forall_mem_cons.mpr ⟨Or.inr cw_L_about, List.forall_mem_cons.mpr ⟨Or.inr cw_L_path, List.forall_mem_cons.mpr ⟨Or.inr cw_L_waiting, List.forall_mem_cons.mpr ⟨Or.inr cw_L_word, List.forall_mem_cons.mpr ⟨Or.inr cw_L_isEnd, List.forall_mem_cons.mpr ⟨Or.inr cw_L_isPath, List.forall_mem_cons.mpr ⟨Or.inr cw_L_isStream, List.forall_mem_cons.mpr ⟨Or.inr cw_L_isSet, List.forall_mem_cons.mpr ⟨Or.inr cw_L_mixIn, List.forall_mem_cons.mpr ⟨Or.inr cw_L_serverTagFor, List.forall_mem_cons.mpr ⟨Or.inr cw_L_sealOf, List.forall_mem_cons.mpr ⟨Or.inr cw_L_takeMaking, List.forall_mem_cons.mpr ⟨Or.inr cw_L_answerInit, List.forall_mem_cons.mpr ⟨Or.inr cw_L_answerEcho, List.forall_mem_cons.mpr ⟨Or.inr cw_L_isGenuine, List.forall_mem_cons.mpr ⟨Or.inr cw_M_new, List.forall_mem_cons.mpr ⟨Or.inr cw_M_isTwo, List.forall_mem_cons.mpr ⟨Or.inr cw_M_mixed, List.forall_mem_cons.mpr ⟨Or.inr cw_M_seal, List.forall_mem_cons.mpr ⟨Or.inr cw_M_post, List.forall_mem_cons.mpr ⟨Or.inr cw_M_more, List.forall_mem_cons.mpr ⟨Or.inr cw_M_full, List.forall_mem_cons.mpr ⟨Or.inr cw_M_take, List.forall_mem_cons.mpr ⟨Or.inr cw_M_alter, List.forall_mem_cons.mpr ⟨Or.inr cw_M_waiting, List.forall_mem_cons.mpr ⟨Or.inr cw_M_sendCookie, List.forall_mem_cons.mpr ⟨Or.inr cw_M_open, List.forall_mem_cons.mpr ⟨Or.inr cw_M_among, List.forall_mem_cons.mpr ⟨Or.inr cw_M_empty, List.forall_mem_cons.mpr ⟨Or.inr cw_M_comeUp, List.forall_mem_cons.mpr ⟨Or.inr cw_M_close, List.forall_mem_cons.mpr ⟨Or.inr cw_M_pathToUse, List.forall_mem_cons.mpr ⟨Or.inr cw_M_abort, List.forall_mem_cons.mpr ⟨Or.inr cw_M_primary, List.forall_mem_cons.mpr ⟨Or.inr cw_M_deliver, List.forall_mem_cons.mpr ⟨Or.inr cw_M_init, List.forall_mem_cons.mpr ⟨Or.inr cw_M_tagFor, List.forall_mem_cons.mpr ⟨Or.inr cw_M_initAck, List.forall_mem_cons.mpr ⟨Or.inr cw_M_echo, List.forall_mem_cons.mpr ⟨Or.inr cw_M_hear, List.forall_mem_cons.mpr ⟨Or.inr cw_M_count, List.forall_mem_cons.mpr ⟨Or.inr cw_M_sendWhatMay, List.forall_mem_cons.mpr ⟨Or.inr cw_M_send, List.forall_mem_cons.mpr ⟨Or.inr cw_M_sack, List.forall_mem_cons.mpr ⟨Or.inr cw_M_strike, List.forall_mem_cons.mpr ⟨Or.inr cw_M_has, List.forall_mem_cons.mpr ⟨Or.inr cw_M_data, List.forall_mem_cons.mpr ⟨Or.inr cw_M_oneReady, List.forall_mem_cons.mpr ⟨Or.inr cw_M_wholeTo, List.forall_mem_cons.mpr ⟨Or.inr cw_M_isStream, List.forall_mem_cons.mpr ⟨Or.inr cw_M_read, List.forall_mem_cons.mpr ⟨Or.inr cw_M_ready, List.forall_mem_cons.mpr ⟨Or.inr cw_M_length, List.forall_mem_cons.mpr ⟨Or.inr cw_M_forge, List.forall_mem_cons.mpr ⟨Or.inr cw_M_fail, List.forall_mem_cons.mpr ⟨Or.inr cw_M_again, List.forall_mem_cons.mpr ⟨Or.inr cw_M_tickPath, List.forall_mem_cons.mpr ⟨Or.inr cw_M_tick, List.forall_mem_cons.mpr ⟨Or.inr cw_M_about, List.forall_mem_cons.mpr ⟨Or.inr cw_M_path, List.forall_mem_cons.mpr ⟨Or.inr cw_M_word, List.forall_mem_cons.mpr ⟨Or.inr cw_Cookie_new, List.forall_mem_cons.mpr ⟨Or.inr cw_Cookie_set, List.forall_mem_cons.mpr ⟨Or.inr cw_Cookie_copyFrom, List.forall_mem_cons.mpr ⟨Or.inr cw_End_new, List.forall_mem_cons.mpr ⟨Or.inr cw_End_startOpening, List.forall_mem_cons.mpr ⟨Or.inr cw_End_comeUp, List.forall_mem_cons.mpr ⟨Or.inr cw_End_close, List.forall_mem_cons.mpr ⟨Or.inr cw_End_post, List.forall_mem_cons.mpr ⟨Or.inr cw_End_postAbort, List.forall_mem_cons.mpr ⟨Or.inr cw_End_takeInitAck, List.forall_mem_cons.mpr ⟨Or.inr cw_End_takeEchoAck, List.forall_mem_cons.mpr ⟨Or.inr cw_End_takeWhenUp, List.forall_mem_cons.mpr ⟨Or.inr cw_End_passTick, List.forall_mem_cons.mpr ⟨Or.inr cw_End_sendWhatItMay, List.forall_mem_cons.mpr ⟨Or.inr cw_End_pathToUse, List.forall_mem_cons.mpr ⟨Or.inr cw_End_tell, List.forall_mem_cons.mpr ⟨Or.inr cw_End_tellOfPath, List.forall_mem_cons.mpr ⟨Or.inr cw_End_startTries, List.forall_mem_cons.mpr ⟨Or.inr cw_End_tryAgain, List.forall_mem_cons.mpr ⟨Or.inr cw_End_postOpening, List.forall_mem_cons.mpr ⟨Or.inr cw_End_takeData, List.forall_mem_cons.mpr ⟨Or.inr cw_End_takeBeatAck, List.forall_mem_cons.mpr ⟨Or.inr cw_End_takeSack, List.forall_mem_cons.mpr ⟨Or.inr cw_End_dropUpTo, List.forall_mem_cons.mpr ⟨Or.inr cw_End_holdGaps, List.forall_mem_cons.mpr ⟨Or.inr cw_End_rewardGoodPaths, List.forall_mem_cons.mpr ⟨Or.inr cw_End_strikeBelow, List.forall_mem_cons.mpr ⟨Or.inr cw_End_strike, List.forall_mem_cons.mpr ⟨Or.inr cw_End_settleTimers, List.forall_mem_cons.mpr ⟨Or.inr cw_End_pathFor, List.forall_mem_cons.mpr ⟨Or.inr cw_End_mayGo, List.forall_mem_cons.mpr ⟨Or.inr cw_End_putOut, List.forall_mem_cons.mpr ⟨Or.inr cw_End_passPathTick, List.forall_mem_cons.mpr ⟨Or.inr cw_End_postBeat, List.forall_mem_cons.mpr ⟨Or.inr cw_End_addError, List.forall_mem_cons.mpr ⟨Or.inr cw_Inbox_new, List.forall_mem_cons.mpr ⟨Or.inr cw_Inbox_reset, List.forall_mem_cons.mpr ⟨Or.inr cw_Inbox_kept, List.forall_mem_cons.mpr ⟨Or.inr cw_Inbox_window, List.forall_mem_cons.mpr ⟨Or.inr cw_Inbox_gaps, List.forall_mem_cons.mpr ⟨Or.inr cw_Inbox_take, List.forall_mem_cons.mpr ⟨Or.inr cw_Inbox_isDropped, List.forall_mem_cons.mpr ⟨Or.inr cw_Inbox_slotOf, List.forall_mem_cons.mpr ⟨Or.inr cw_Inbox_has, List.forall_mem_cons.mpr ⟨Or.inr cw_Inbox_makeReady, List.forall_mem_cons.mpr ⟨Or.inr cw_Inbox_wholeLength, List.forall_mem_cons.mpr ⟨Or.inr cw_Inbox_mayBeReady, List.forall_mem_cons.mpr ⟨Or.inr cw_Inbox_moveToReady, List.forall_mem_cons.mpr ⟨Or.inr cw_Outbox_new, List.forall_mem_cons.mpr ⟨Or.inr cw_Outbox_reset, List.forall_mem_cons.mpr ⟨Or.inr cw_Outbox_count, List.forall_mem_cons.mpr ⟨Or.inr cw_Outbox_has, List.forall_mem_cons.mpr ⟨Or.inr cw_Outbox_at, List.forall_mem_cons.mpr ⟨Or.inr cw_Outbox_stateOf, List.forall_mem_cons.mpr ⟨Or.inr cw_Outbox_addMessage, List.forall_mem_cons.mpr ⟨Or.inr cw_Outbox_firstToSend, List.forall_mem_cons.mpr ⟨Or.inr cw_Outbox_countOut, List.forall_mem_cons.mpr ⟨Or.inr cw_Outbox_countOutOrMarked, List.forall_mem_cons.mpr ⟨Or.inr cw_Outbox_markAllOut, List.forall_mem_cons.mpr ⟨Or.inr cw_Packet_new, List.forall_mem_cons.mpr ⟨Or.inr cw_Packet_copyFrom, List.forall_mem_cons.mpr ⟨Or.inr cw_Path_new, List.forall_mem_cons.mpr ⟨Or.inr cw_Path_reset, List.forall_mem_cons.mpr ⟨Or.inr cw_Path_startTimer, List.forall_mem_cons.mpr ⟨Or.inr cw_Path_slowDown, List.forall_mem_cons.mpr ⟨Or.inr cw_Path_reward, List.forall_mem_cons.mpr ⟨Or.inr cw_ReadyList_new, List.forall_mem_cons.mpr ⟨Or.inr cw_ReadyList_add, List.forall_mem_cons.mpr ⟨Or.inr cw_ReadyList_countOf, List.forall_mem_cons.mpr ⟨Or.inr cw_ReadyList_firstLength, List.forall_mem_cons.mpr ⟨Or.inr cw_ReadyList_takeFirst, List.forall_mem_cons.mpr ⟨Or.inr cw_ReadyList_firstOf, List.forall_mem_cons.mpr ⟨Or.inr cw_Row_new, List.forall_mem_cons.mpr ⟨Or.inr cw_Row_isFull, List.forall_mem_cons.mpr ⟨Or.inr cw_Row_oldest, List.forall_mem_cons.mpr ⟨Or.inr cw_Row_removeOldest, List.forall_mem_cons.mpr ⟨Or.inr cw_Row_addNew, List.forall_mem_cons.mpr ⟨Or.inr cw_SentWord_new, List.forall_mem_cons.mpr ⟨Or.inr cw_TagList_new, List.forall_mem_cons.mpr ⟨Or.inr cw_TagList_add, List.forall_mem_cons.mpr ⟨Or.inr cw_Word_new, List.forall_mem_cons.mpr ⟨Or.inr cw_Word_copyFrom, List.forall_mem_cons.mpr ⟨Or.inr cw_Law_cell, List.forall_mem_cons.mpr ⟨Or.inr cw_Math_floorMod, List.forall_mem_cons.mpr ⟨Or.inr cw_Math_max, List.forall_mem_cons.mpr ⟨Or.inr cw_Math_min, List.forall_mem_cons.mpr ⟨Or.inl rfl, fun _ h => absurd h List.not_mem_nil⟩⟩⟩⟩⟩⟩⟩⟩⟩⟩⟩⟩⟩⟩⟩⟩⟩⟩⟩⟩⟩⟩⟩⟩⟩⟩⟩⟩⟩⟩⟩⟩⟩⟩⟩⟩⟩⟩⟩⟩⟩⟩⟩⟩⟩⟩⟩⟩⟩⟩⟩⟩⟩⟩⟩⟩⟩⟩⟩⟩⟩⟩⟩⟩⟩⟩⟩⟩⟩⟩⟩⟩⟩⟩⟩⟩⟩⟩⟩⟩⟩⟩⟩⟩⟩⟩⟩⟩⟩⟩⟩⟩⟩⟩⟩⟩⟩⟩⟩⟩⟩⟩⟩⟩⟩⟩⟩⟩⟩⟩⟩⟩⟩⟩⟩⟩⟩⟩⟩⟩⟩⟩⟩⟩⟩⟩⟩⟩⟩⟩⟩⟩⟩⟩⟩⟩⟩⟩⟩⟩⟩⟩⟩⟩⟩⟩⟩⟩⟩⟩⟩⟩⟩⟩⟩⟩⟩⟩⟩⟩
