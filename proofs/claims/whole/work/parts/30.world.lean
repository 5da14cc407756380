/-! The world that the static heap stands for. -/
def tbG : List Cond := lw_tbl.filter goodWord
def ftL : List FieldType := [.int, .boolean, .object "StreamLink$End", .object "StreamLink$Packet", .object "StreamLink$Path", .object "StreamLink$SentWord", .object "StreamLink$Word"]
/-- the kinds that have objects, and how many -/
def okL : List (Nat × Nat) := [(0, 1), (1, 1), (2, 38), (3, 2), (4, 2), (5, 2), (6, 36), (7, 4), (8, 2), (9, 4), (10, 48), (11, 2), (12, 148), (64, 1), (65, 2), (66, 4), (67, 2), (68, 2), (69, 2), (70, 2), (71, 2), (72, 2), (73, 2), (74, 2), (75, 2), (76, 1), (77, 1), (78, 1), (79, 1), (80, 1), (81, 1), (82, 1), (83, 1), (84, 1), (85, 1), (86, 1), (87, 1), (88, 1), (89, 1), (90, 1), (91, 1), (92, 1), (93, 1), (94, 1), (95, 1), (96, 1), (97, 1), (98, 1), (99, 1), (100, 1), (101, 1), (102, 1), (103, 1), (104, 1), (105, 1), (106, 1), (107, 1), (108, 1), (109, 1), (110, 1), (111, 1), (112, 1), (113, 1), (114, 1), (115, 1), (116, 1), (117, 1), (118, 1), (119, 1), (120, 1), (121, 1), (122, 1), (123, 1)]
def OB : List (Nat × Nat) := okL.flatMap (fun q => (List.range q.2).map (fun i => (q.1, i)))
def oxL : List (Nat × Nat) := [(1, 0), (2, 0), (3, 2), (4, 2), (5, 2), (6, 2), (7, 3), (8, 3), (9, 3), (10, 3), (11, 3), (12, 3), (13, 3), (14, 3), (15, 3), (16, 3), (17, 4), (18, 74), (19, 75), (20, 4), (21, 4), (22, 69), (23, 5), (24, 5), (25, 5), (26, 6), (27, 6), (28, 6), (29, 6), (30, 6), (31, 6), (32, 6), (33, 7), (34, 7), (35, 7), (36, 7), (37, 7), (38, 7), (39, 7), (40, 7), (41, 7), (42, 70), (43, 71), (44, 72), (45, 8), (46, 8), (47, 9), (48, 9), (49, 10), (50, 10), (51, 10), (52, 65), (53, 11), (54, 12), (55, 12), (56, 12), (57, 12), (58, 12), (59, 12), (60, 12), (1001, 1), (1002, 1), (1003, 1), (1004, 1), (1005, 76), (1006, 77), (1007, 78), (1008, 79), (1009, 80), (1010, 81), (1011, 82), (1012, 83), (1013, 1), (1014, 84), (1015, 1), (1016, 85), (1017, 86), (1018, 87), (1019, 88), (1020, 89), (1021, 90), (1022, 91), (1023, 92), (1024, 93), (1025, 94), (1026, 95), (1027, 96), (1028, 97), (1029, 98), (1030, 99), (1031, 100), (1032, 101), (1033, 102), (1034, 103), (1035, 104), (1036, 105), (1037, 106), (1038, 107), (1039, 108), (1040, 109), (1041, 110), (1042, 111), (1043, 112), (1044, 113), (1045, 114), (1046, 115), (1047, 116), (1048, 117), (1049, 118), (1050, 119), (1051, 120), (1052, 121), (1053, 122), (1054, 123)]
def ownX (x : Nat) : Nat := (iLk2 oxL x).getD 0
def nwL : List Cond := [(Jvm.Cond.methodLinkNest "StreamLink$Outbox" (21 : Nat) ({ cls := "StreamLink$SentWord", name := "<init>", desc := "()V" } : Jvm.MethodName) "StreamLink"), (Jvm.Cond.methodLinkNest "StreamLink$SentWord" (9 : Nat) ({ cls := "StreamLink$Word", name := "<init>", desc := "()V" } : Jvm.MethodName) "StreamLink"), (Jvm.Cond.methodLinkNest "StreamLink$End" (39 : Nat) ({ cls := "StreamLink$Cookie", name := "<init>", desc := "()V" } : Jvm.MethodName) "StreamLink"), (Jvm.Cond.methodLinkNest "StreamLink$Inbox" (11 : Nat) ({ cls := "StreamLink$ReadyList", name := "<init>", desc := "()V" } : Jvm.MethodName) "StreamLink"), (Jvm.Cond.methodLinkNest "StreamLink$Inbox" (36 : Nat) ({ cls := "StreamLink$Word", name := "<init>", desc := "()V" } : Jvm.MethodName) "StreamLink"), (Jvm.Cond.methodLinkNest "StreamLink$End" (71 : Nat) ({ cls := "StreamLink$Path", name := "<init>", desc := "()V" } : Jvm.MethodName) "StreamLink"), (Jvm.Cond.methodLinkNest "StreamLink$Row" (17 : Nat) ({ cls := "StreamLink$Packet", name := "<init>", desc := "()V" } : Jvm.MethodName) "StreamLink"), (Jvm.Cond.methodLinkNest "StreamLink$Packet" (9 : Nat) ({ cls := "StreamLink$Cookie", name := "<init>", desc := "()V" } : Jvm.MethodName) "StreamLink"), (Jvm.Cond.methodLinkNest "StreamLink$Packet" (18 : Nat) ({ cls := "StreamLink$Word", name := "<init>", desc := "()V" } : Jvm.MethodName) "StreamLink"), (Jvm.Cond.methodLinkNest "StreamLink" (33 : Nat) ({ cls := "StreamLink$TagList", name := "<init>", desc := "()V" } : Jvm.MethodName) "StreamLink"), (Jvm.Cond.methodLinkNest "StreamLink$End" (258 : Nat) ({ cls := "StreamLink", name := "isSet", desc := "(II)Z" } : Jvm.MethodName) "StreamLink")]
def mtL : List (MethodName × ByteArray × Option FieldType) := [(⟨"StreamLink", "<init>", "(III)V"⟩, prog_1_method_1_code, (none)),
  (⟨"StreamLink", "open", "(I)Z"⟩, prog_1_method_2_code, (Option.some FieldType.boolean)),
  (⟨"StreamLink", "send", "(IIZII)Z"⟩, prog_1_method_3_code, (Option.some FieldType.boolean)),
  (⟨"StreamLink", "deliver", "(II)I"⟩, prog_1_method_4_code, (Option.some FieldType.int)),
  (⟨"StreamLink", "alter", "(IIZ)Z"⟩, prog_1_method_5_code, (Option.some FieldType.boolean)),
  (⟨"StreamLink", "forge", "(IIIIIII)Z"⟩, prog_1_method_6_code, (Option.some FieldType.boolean)),
  (⟨"StreamLink", "tick", "()I"⟩, prog_1_method_7_code, (Option.some FieldType.int)),
  (⟨"StreamLink", "read", "(II)I"⟩, prog_1_method_8_code, (Option.some FieldType.int)),
  (⟨"StreamLink", "ready", "(II)I"⟩, prog_1_method_9_code, (Option.some FieldType.int)),
  (⟨"StreamLink", "length", "(II)I"⟩, prog_1_method_10_code, (Option.some FieldType.int)),
  (⟨"StreamLink", "abort", "(I)Z"⟩, prog_1_method_11_code, (Option.some FieldType.boolean)),
  (⟨"StreamLink", "primary", "(II)Z"⟩, prog_1_method_12_code, (Option.some FieldType.boolean)),
  (⟨"StreamLink", "about", "(II)I"⟩, prog_1_method_13_code, (Option.some FieldType.int)),
  (⟨"StreamLink", "path", "(III)I"⟩, prog_1_method_14_code, (Option.some FieldType.int)),
  (⟨"StreamLink", "waiting", "(II)I"⟩, prog_1_method_15_code, (Option.some FieldType.int)),
  (⟨"StreamLink", "word", "(II)I"⟩, prog_1_method_16_code, (Option.some FieldType.int)),
  (⟨"StreamLink", "isEnd", "(I)Z"⟩, prog_1_method_17_code, (Option.some FieldType.boolean)),
  (⟨"StreamLink", "isPath", "(I)Z"⟩, prog_1_method_18_code, (Option.some FieldType.boolean)),
  (⟨"StreamLink", "isStream", "(I)Z"⟩, prog_1_method_19_code, (Option.some FieldType.boolean)),
  (⟨"StreamLink", "isSet", "(II)Z"⟩, prog_1_method_20_code, (Option.some FieldType.boolean)),
  (⟨"StreamLink", "mixIn", "(II)I"⟩, prog_1_method_21_code, (Option.some FieldType.int)),
  (⟨"StreamLink", "serverTagFor", "(I)I"⟩, prog_1_method_22_code, (Option.some FieldType.int)),
  (⟨"StreamLink", "sealOf", "(III)I"⟩, prog_1_method_23_code, (Option.some FieldType.int)),
  (⟨"StreamLink", "takeMaking", "(IILStreamLink$Packet;)V"⟩, prog_1_method_24_code, (none)),
  (⟨"StreamLink", "answerInit", "(II)V"⟩, prog_1_method_25_code, (none)),
  (⟨"StreamLink", "answerEcho", "(ILStreamLink$Packet;)V"⟩, prog_1_method_26_code, (none)),
  (⟨"StreamLink", "isGenuine", "(LStreamLink$Cookie;)Z"⟩, prog_1_method_27_code, (Option.some FieldType.boolean)),
  (⟨"StreamLinkModel", "<init>", "(III)V"⟩, prog_14_method_1_code, (none)),
  (⟨"StreamLinkModel", "isTwo", "(I)Z"⟩, prog_14_method_2_code, (Option.some FieldType.boolean)),
  (⟨"StreamLinkModel", "mixed", "(II)I"⟩, prog_14_method_3_code, (Option.some FieldType.int)),
  (⟨"StreamLinkModel", "seal", "(III)I"⟩, prog_14_method_4_code, (Option.some FieldType.int)),
  (⟨"StreamLinkModel", "post", "(IIIIII)V"⟩, prog_14_method_5_code, (none)),
  (⟨"StreamLinkModel", "more", "(IIIII)V"⟩, prog_14_method_6_code, (none)),
  (⟨"StreamLinkModel", "full", "(II)Z"⟩, prog_14_method_7_code, (Option.some FieldType.boolean)),
  (⟨"StreamLinkModel", "take", "(I)V"⟩, prog_14_method_8_code, (none)),
  (⟨"StreamLinkModel", "alter", "(IIZ)Z"⟩, prog_14_method_9_code, (Option.some FieldType.boolean)),
  (⟨"StreamLinkModel", "waiting", "(II)I"⟩, prog_14_method_10_code, (Option.some FieldType.int)),
  (⟨"StreamLinkModel", "sendCookie", "(IIIII)V"⟩, prog_14_method_11_code, (none)),
  (⟨"StreamLinkModel", "open", "(I)Z"⟩, prog_14_method_12_code, (Option.some FieldType.boolean)),
  (⟨"StreamLinkModel", "among", "([III)Z"⟩, prog_14_method_13_code, (Option.some FieldType.boolean)),
  (⟨"StreamLinkModel", "empty", "(I)V"⟩, prog_14_method_14_code, (none)),
  (⟨"StreamLinkModel", "comeUp", "(III)V"⟩, prog_14_method_15_code, (none)),
  (⟨"StreamLinkModel", "close", "(II)V"⟩, prog_14_method_16_code, (none)),
  (⟨"StreamLinkModel", "pathToUse", "(I)I"⟩, prog_14_method_17_code, (Option.some FieldType.int)),
  (⟨"StreamLinkModel", "abort", "(I)Z"⟩, prog_14_method_18_code, (Option.some FieldType.boolean)),
  (⟨"StreamLinkModel", "primary", "(II)Z"⟩, prog_14_method_19_code, (Option.some FieldType.boolean)),
  (⟨"StreamLinkModel", "deliver", "(II)I"⟩, prog_14_method_20_code, (Option.some FieldType.int)),
  (⟨"StreamLinkModel", "init", "(II)V"⟩, prog_14_method_21_code, (none)),
  (⟨"StreamLinkModel", "tagFor", "(I)I"⟩, prog_14_method_22_code, (Option.some FieldType.int)),
  (⟨"StreamLinkModel", "initAck", "(I)V"⟩, prog_14_method_23_code, (none)),
  (⟨"StreamLinkModel", "echo", "(I)V"⟩, prog_14_method_24_code, (none)),
  (⟨"StreamLinkModel", "hear", "(III)V"⟩, prog_14_method_25_code, (none)),
  (⟨"StreamLinkModel", "count", "(III)I"⟩, prog_14_method_26_code, (Option.some FieldType.int)),
  (⟨"StreamLinkModel", "sendWhatMay", "(I)V"⟩, prog_14_method_27_code, (none)),
  (⟨"StreamLinkModel", "send", "(IIZII)Z"⟩, prog_14_method_28_code, (Option.some FieldType.boolean)),
  (⟨"StreamLinkModel", "sack", "(I)V"⟩, prog_14_method_29_code, (none)),
  (⟨"StreamLinkModel", "strike", "(III)V"⟩, prog_14_method_30_code, (none)),
  (⟨"StreamLinkModel", "has", "(II)Z"⟩, prog_14_method_31_code, (Option.some FieldType.boolean)),
  (⟨"StreamLinkModel", "data", "(II)V"⟩, prog_14_method_32_code, (none)),
  (⟨"StreamLinkModel", "oneReady", "(I)Z"⟩, prog_14_method_33_code, (Option.some FieldType.boolean)),
  (⟨"StreamLinkModel", "wholeTo", "(II)I"⟩, prog_14_method_34_code, (Option.some FieldType.int)),
  (⟨"StreamLinkModel", "isStream", "(I)Z"⟩, prog_14_method_35_code, (Option.some FieldType.boolean)),
  (⟨"StreamLinkModel", "read", "(II)I"⟩, prog_14_method_36_code, (Option.some FieldType.int)),
  (⟨"StreamLinkModel", "ready", "(II)I"⟩, prog_14_method_37_code, (Option.some FieldType.int)),
  (⟨"StreamLinkModel", "length", "(II)I"⟩, prog_14_method_38_code, (Option.some FieldType.int)),
  (⟨"StreamLinkModel", "forge", "(IIIIIII)Z"⟩, prog_14_method_39_code, (Option.some FieldType.boolean)),
  (⟨"StreamLinkModel", "fail", "(II)V"⟩, prog_14_method_40_code, (none)),
  (⟨"StreamLinkModel", "again", "(I)V"⟩, prog_14_method_41_code, (none)),
  (⟨"StreamLinkModel", "tickPath", "(II)V"⟩, prog_14_method_42_code, (none)),
  (⟨"StreamLinkModel", "tick", "()I"⟩, prog_14_method_43_code, (Option.some FieldType.int)),
  (⟨"StreamLinkModel", "about", "(II)I"⟩, prog_14_method_44_code, (Option.some FieldType.int)),
  (⟨"StreamLinkModel", "path", "(III)I"⟩, prog_14_method_45_code, (Option.some FieldType.int)),
  (⟨"StreamLinkModel", "word", "(II)I"⟩, prog_14_method_46_code, (Option.some FieldType.int)),
  (⟨"StreamLink$Cookie", "<init>", "()V"⟩, prog_2_method_1_code, (none)),
  (⟨"StreamLink$Cookie", "set", "(IIII)V"⟩, prog_2_method_2_code, (none)),
  (⟨"StreamLink$Cookie", "copyFrom", "(LStreamLink$Cookie;)V"⟩, prog_2_method_3_code, (none)),
  (⟨"StreamLink$End", "<init>", "(II)V"⟩, prog_3_method_1_code, (none)),
  (⟨"StreamLink$End", "startOpening", "(II)V"⟩, prog_3_method_2_code, (none)),
  (⟨"StreamLink$End", "comeUp", "()V"⟩, prog_3_method_3_code, (none)),
  (⟨"StreamLink$End", "close", "(I)V"⟩, prog_3_method_4_code, (none)),
  (⟨"StreamLink$End", "post", "(II)LStreamLink$Packet;"⟩, prog_3_method_5_code, (Option.some (FieldType.object "StreamLink$Packet"))),
  (⟨"StreamLink$End", "postAbort", "()V"⟩, prog_3_method_6_code, (none)),
  (⟨"StreamLink$End", "takeInitAck", "(ILStreamLink$Packet;I)V"⟩, prog_3_method_7_code, (none)),
  (⟨"StreamLink$End", "takeEchoAck", "(LStreamLink$Packet;)V"⟩, prog_3_method_8_code, (none)),
  (⟨"StreamLink$End", "takeWhenUp", "(ILStreamLink$Packet;I)V"⟩, prog_3_method_9_code, (none)),
  (⟨"StreamLink$End", "passTick", "(I)V"⟩, prog_3_method_10_code, (none)),
  (⟨"StreamLink$End", "sendWhatItMay", "(I)V"⟩, prog_3_method_11_code, (none)),
  (⟨"StreamLink$End", "pathToUse", "()I"⟩, prog_3_method_12_code, (Option.some FieldType.int)),
  (⟨"StreamLink$End", "tell", "(I)I"⟩, prog_3_method_13_code, (Option.some FieldType.int)),
  (⟨"StreamLink$End", "tellOfPath", "(II)I"⟩, prog_3_method_14_code, (Option.some FieldType.int)),
  (⟨"StreamLink$End", "startTries", "(I)V"⟩, prog_3_method_15_code, (none)),
  (⟨"StreamLink$End", "tryAgain", "(I)V"⟩, prog_3_method_16_code, (none)),
  (⟨"StreamLink$End", "postOpening", "(I)V"⟩, prog_3_method_17_code, (none)),
  (⟨"StreamLink$End", "takeData", "(ILStreamLink$Word;)V"⟩, prog_3_method_18_code, (none)),
  (⟨"StreamLink$End", "takeBeatAck", "(LStreamLink$Path;I)V"⟩, prog_3_method_19_code, (none)),
  (⟨"StreamLink$End", "takeSack", "(LStreamLink$Packet;I)V"⟩, prog_3_method_20_code, (none)),
  (⟨"StreamLink$End", "dropUpTo", "(I)V"⟩, prog_3_method_21_code, (none)),
  (⟨"StreamLink$End", "holdGaps", "(I)V"⟩, prog_3_method_22_code, (none)),
  (⟨"StreamLink$End", "rewardGoodPaths", "()V"⟩, prog_3_method_23_code, (none)),
  (⟨"StreamLink$End", "strikeBelow", "(I)V"⟩, prog_3_method_24_code, (none)),
  (⟨"StreamLink$End", "strike", "(LStreamLink$SentWord;)V"⟩, prog_3_method_25_code, (none)),
  (⟨"StreamLink$End", "settleTimers", "(I)V"⟩, prog_3_method_26_code, (none)),
  (⟨"StreamLink$End", "pathFor", "(LStreamLink$SentWord;)I"⟩, prog_3_method_27_code, (Option.some FieldType.int)),
  (⟨"StreamLink$End", "mayGo", "(LStreamLink$SentWord;I)Z"⟩, prog_3_method_28_code, (Option.some FieldType.boolean)),
  (⟨"StreamLink$End", "putOut", "(LStreamLink$SentWord;II)V"⟩, prog_3_method_29_code, (none)),
  (⟨"StreamLink$End", "passPathTick", "(II)V"⟩, prog_3_method_30_code, (none)),
  (⟨"StreamLink$End", "postBeat", "(II)V"⟩, prog_3_method_31_code, (none)),
  (⟨"StreamLink$End", "addError", "(LStreamLink$Path;)V"⟩, prog_3_method_32_code, (none)),
  (⟨"StreamLink$Inbox", "<init>", "(I)V"⟩, prog_4_method_1_code, (none)),
  (⟨"StreamLink$Inbox", "reset", "()V"⟩, prog_4_method_2_code, (none)),
  (⟨"StreamLink$Inbox", "kept", "()I"⟩, prog_4_method_3_code, (Option.some FieldType.int)),
  (⟨"StreamLink$Inbox", "window", "()I"⟩, prog_4_method_4_code, (Option.some FieldType.int)),
  (⟨"StreamLink$Inbox", "gaps", "()I"⟩, prog_4_method_5_code, (Option.some FieldType.int)),
  (⟨"StreamLink$Inbox", "take", "(LStreamLink$Word;)V"⟩, prog_4_method_6_code, (none)),
  (⟨"StreamLink$Inbox", "isDropped", "(I)Z"⟩, prog_4_method_7_code, (Option.some FieldType.boolean)),
  (⟨"StreamLink$Inbox", "slotOf", "(I)I"⟩, prog_4_method_8_code, (Option.some FieldType.int)),
  (⟨"StreamLink$Inbox", "has", "(I)Z"⟩, prog_4_method_9_code, (Option.some FieldType.boolean)),
  (⟨"StreamLink$Inbox", "makeReady", "()V"⟩, prog_4_method_10_code, (none)),
  (⟨"StreamLink$Inbox", "wholeLength", "(I)I"⟩, prog_4_method_11_code, (Option.some FieldType.int)),
  (⟨"StreamLink$Inbox", "mayBeReady", "(LStreamLink$Word;)Z"⟩, prog_4_method_12_code, (Option.some FieldType.boolean)),
  (⟨"StreamLink$Inbox", "moveToReady", "(II)V"⟩, prog_4_method_13_code, (none)),
  (⟨"StreamLink$Outbox", "<init>", "()V"⟩, prog_5_method_1_code, (none)),
  (⟨"StreamLink$Outbox", "reset", "(I)V"⟩, prog_5_method_2_code, (none)),
  (⟨"StreamLink$Outbox", "count", "()I"⟩, prog_5_method_3_code, (Option.some FieldType.int)),
  (⟨"StreamLink$Outbox", "has", "(I)Z"⟩, prog_5_method_4_code, (Option.some FieldType.boolean)),
  (⟨"StreamLink$Outbox", "at", "(I)LStreamLink$SentWord;"⟩, prog_5_method_5_code, (Option.some (FieldType.object "StreamLink$SentWord"))),
  (⟨"StreamLink$Outbox", "stateOf", "(I)I"⟩, prog_5_method_6_code, (Option.some FieldType.int)),
  (⟨"StreamLink$Outbox", "addMessage", "(IZII)V"⟩, prog_5_method_7_code, (none)),
  (⟨"StreamLink$Outbox", "firstToSend", "()I"⟩, prog_5_method_8_code, (Option.some FieldType.int)),
  (⟨"StreamLink$Outbox", "countOut", "(I)I"⟩, prog_5_method_9_code, (Option.some FieldType.int)),
  (⟨"StreamLink$Outbox", "countOutOrMarked", "()I"⟩, prog_5_method_10_code, (Option.some FieldType.int)),
  (⟨"StreamLink$Outbox", "markAllOut", "(I)V"⟩, prog_5_method_11_code, (none)),
  (⟨"StreamLink$Packet", "<init>", "()V"⟩, prog_6_method_1_code, (none)),
  (⟨"StreamLink$Packet", "copyFrom", "(LStreamLink$Packet;)V"⟩, prog_6_method_2_code, (none)),
  (⟨"StreamLink$Path", "<init>", "()V"⟩, prog_7_method_1_code, (none)),
  (⟨"StreamLink$Path", "reset", "()V"⟩, prog_7_method_2_code, (none)),
  (⟨"StreamLink$Path", "startTimer", "(I)V"⟩, prog_7_method_3_code, (none)),
  (⟨"StreamLink$Path", "slowDown", "()V"⟩, prog_7_method_4_code, (none)),
  (⟨"StreamLink$Path", "reward", "()V"⟩, prog_7_method_5_code, (none)),
  (⟨"StreamLink$ReadyList", "<init>", "()V"⟩, prog_8_method_1_code, (none)),
  (⟨"StreamLink$ReadyList", "add", "(III)V"⟩, prog_8_method_2_code, (none)),
  (⟨"StreamLink$ReadyList", "countOf", "(I)I"⟩, prog_8_method_3_code, (Option.some FieldType.int)),
  (⟨"StreamLink$ReadyList", "firstLength", "(I)I"⟩, prog_8_method_4_code, (Option.some FieldType.int)),
  (⟨"StreamLink$ReadyList", "takeFirst", "(I)I"⟩, prog_8_method_5_code, (Option.some FieldType.int)),
  (⟨"StreamLink$ReadyList", "firstOf", "(I)I"⟩, prog_8_method_6_code, (Option.some FieldType.int)),
  (⟨"StreamLink$Row", "<init>", "()V"⟩, prog_9_method_1_code, (none)),
  (⟨"StreamLink$Row", "isFull", "()Z"⟩, prog_9_method_2_code, (Option.some FieldType.boolean)),
  (⟨"StreamLink$Row", "oldest", "()LStreamLink$Packet;"⟩, prog_9_method_3_code, (Option.some (FieldType.object "StreamLink$Packet"))),
  (⟨"StreamLink$Row", "removeOldest", "()V"⟩, prog_9_method_4_code, (none)),
  (⟨"StreamLink$Row", "addNew", "()LStreamLink$Packet;"⟩, prog_9_method_5_code, (Option.some (FieldType.object "StreamLink$Packet"))),
  (⟨"StreamLink$SentWord", "<init>", "()V"⟩, prog_10_method_1_code, (none)),
  (⟨"StreamLink$TagList", "<init>", "()V"⟩, prog_11_method_1_code, (none)),
  (⟨"StreamLink$TagList", "add", "(I)Z"⟩, prog_11_method_2_code, (Option.some FieldType.boolean)),
  (⟨"StreamLink$Word", "<init>", "()V"⟩, prog_12_method_1_code, (none)),
  (⟨"StreamLink$Word", "copyFrom", "(LStreamLink$Word;)V"⟩, prog_12_method_2_code, (none)),
  (⟨"StreamLinkLaw", "cell", "([II)I"⟩, method_2_code, (Option.some FieldType.int)),
  (⟨"java/lang/Math", "floorMod", "(II)I"⟩, prog_15_method_50_code, (Option.some FieldType.int)),
  (⟨"java/lang/Math", "max", "(II)I"⟩, prog_15_method_65_code, (Option.some FieldType.int)),
  (⟨"java/lang/Math", "min", "(II)I"⟩, prog_15_method_69_code, (Option.some FieldType.int)),
  (⟨"StreamLinkLaw", "law", "([I)Z"⟩, code, (some .boolean))]
def lkL : List (List (Nat × Nat)) := [[(1, 4), (9, 3), (15, 3), (28, 1), (33, 2), (47, 0), (51, 0), (54, 3), (57, 3), (64, 0), (70, 0), (74, 0), (78, 3), (95, 0), (99, 0), (107, 0), (117, 0), (121, 0), (125, 0), (128, 0), (132, 0), (143, 0), (149, 0), (162, 0), (168, 0), (171, 0), (174, 0), (177, 0), (183, 0), (186, 0), (189, 0), (194, 3), (197, 0), (200, 0), (203, 0), (207, 0), (210, 0), (213, 0), (220, 0), (230, 0)], [(1, 4), (167, 3), (171, 3), (175, 0), (179, 0), (183, 0), (187, 0), (194, 3), (201, 0), (204, 0), (208, 0), (212, 0), (215, 0), (218, 0), (221, 0), (225, 0), (228, 0), (231, 0), (235, 0), (243, 0), (246, 0), (249, 0), (252, 0), (255, 0), (258, 0), (261, 0), (264, 0), (267, 3), (270, 0), (273, 0), (276, 0)], [(1, 4)], [(3, 4), (19, 1), (39, 2), (64, 1), (71, 2), (72, 0), (75, 0), (78, 0), (81, 0), (83, 0), (88, 0), (102, 0), (106, 0), (114, 0), (118, 0), (125, 0), (129, 0), (136, 0), (140, 0), (143, 0), (146, 0), (150, 0), (153, 0), (156, 0), (160, 0), (164, 0), (168, 0), (176, 0), (182, 0), (197, 0), (207, 0), (214, 0), (219, 0), (234, 0), (237, 0), (240, 0), (243, 0), (246, 0), (255, 0), (258, 2), (262, 0), (265, 0), (272, 3), (278, 0), (281, 0), (285, 0), (292, 0), (295, 0), (298, 0), (302, 0), (305, 0)], [(3, 4), (11, 2), (36, 2), (37, 0), (52, 0), (56, 3), (62, 0), (66, 0), (69, 3), (73, 0), (77, 0), (80, 0), (83, 0), (87, 0), (110, 0)], [(3, 4), (21, 2), (22, 0), (36, 3), (42, 0), (46, 0)], [(1, 4), (9, 2), (18, 2), (33, 0), (37, 0)], [(3, 4), (11, 1), (47, 3)], [(3, 4), (28, 0)], [(3, 4), (17, 2), (29, 0)], [(1, 4), (9, 2)], [(3, 4)], [(1, 4)], [(9, 3), (15, 1), (20, 1), (21, 0), (25, 0), (26, 0), (30, 0), (31, 0), (35, 0), (36, 0), (40, 0), (41, 0), (45, 0), (46, 0), (50, 0), (51, 0), (54, 0), (55, 0), (58, 0), (59, 0), (62, 0), (63, 0), (66, 0), (67, 0), (71, 0), (72, 0), (75, 0), (76, 0), (80, 0), (81, 0), (84, 0), (85, 0), (88, 0)], []]
def flP : List (List Nat) := [[458, 459, 460, 461, 462, 402, 398, 396, 354, 343, 299, 302, 404, 305, 308, 400, 252, 408, 201, 199, 406, 203, 205], [886, 887, 888, 889, 890, 891, 892, 893, 895, 897, 898, 899, 900, 901, 902, 903, 904, 905, 906, 907, 908, 909, 910, 911, 912, 913, 914, 915, 916, 917, 918, 919, 920, 921, 922, 923, 924, 925, 926, 927, 928, 929, 930, 931, 932, 933, 934, 935, 882, 883, 884, 894, 885, 896], [198, 200, 202, 204], [395, 397, 401, 403, 405, 407, 411, 412, 413, 414, 415, 409, 410, 399, 355, 300, 303, 306, 309, 311, 319, 363, 259, 180, 357, 359, 361, 365, 369, 313, 315, 317, 371, 176, 178, 373, 155, 157, 159, 153, 367], [251, 254, 255, 256, 253, 258, 257, 115, 232, 128, 131, 134, 125, 122, 119], [173, 174, 175, 177, 179, 154, 152, 116, 118, 121, 124, 127, 130, 133, 156, 158], [307, 310, 298, 301, 304, 312, 314, 316, 318], [353, 356, 358, 360, 362, 364, 366, 368, 370, 372], [227, 228, 229, 230, 231], [339, 340, 341, 342], [151], [451, 452], [114, 117, 120, 123, 126, 129, 132], [], []]
def clP : List (List Nat) := [[463, 465, 467, 469, 471], [936, 938, 940, 942, 944, 946, 948, 950, 952, 954, 956, 958, 960, 962, 964, 966, 968, 970, 972, 974, 976, 978, 980, 982, 984, 986, 988, 990, 992, 994, 996, 998, 1000, 1002, 1004, 1006, 1008, 1010, 1012, 1014, 1016, 1018, 1020, 1022, 1024, 1026, 1028, 1030, 1032, 1034, 1036, 1038, 1040, 1042], [206, 208, 210, 212], [416, 418, 420, 422, 424, 426, 428, 430, 432, 434, 436, 438, 440, 442], [260, 262, 264, 266, 268, 270, 272], [181, 183, 185, 187, 189], [320, 322, 324, 326, 328, 330, 332, 334, 336], [374, 376, 378, 380, 382, 384, 386, 388, 390, 392], [233, 235, 237, 239, 241], [344, 346, 348, 350], [160, 162, 164, 166], [453, 455], [135, 137, 139, 141, 143, 145, 147]]
def cwP : List Nat := [76, 477, 513, 579, 759, 771, 775, 811, 823, 831, 839, 845, 849, 859, 867, 871, 516, 582, 519, 724, 606, 602, 612, 594, 598, 624, 628, 880, 1051, 1106, 1115, 1070, 1119, 1111, 1055, 1048, 1059, 1136, 1063, 1066, 1086, 1128, 1082, 1078, 1074, 1090, 1094, 1098, 1102, 1132, 1123, 1140, 1168, 1172, 1176, 1160, 1164, 1148, 1144, 1152, 1156, 1183, 1180, 1187, 1191, 1195, 1211, 1203, 1207, 1199, 1215, 1219, 1223, 196, 616, 509, 91, 485, 633, 755, 497, 803, 620, 643, 648, 779, 538, 551, 853, 863, 489, 783, 493, 652, 751, 705, 709, 713, 728, 737, 741, 746, 547, 555, 567, 787, 807, 799, 219, 250, 671, 700, 696, 656, 660, 667, 664, 676, 680, 684, 688, 99, 172, 523, 721, 531, 717, 527, 542, 559, 563, 791, 292, 765, 279, 639, 575, 795, 732, 225, 692, 827, 835, 815, 819, 285, 505, 586, 590, 501, 106, 449, 481, 112, 571, 875, 534, 85, 82, 0]
/-- a field that a class's code names: its word is there, its kind is the field's -/
def flB (own : Nat) (q : (Nat × Nat × Nat × Nat × Nat × Nat × Nat) × Nat) : Bool := match q.1 with
  | (k, cls, fno, kd, x, a, b) => match vwC[cls]? with
    | none => false
    | some r => Nat.blt fno r.2.2 && (Nat.blt cls 64 && (decide (lw_tbl[q.2]? = some (Cond.fieldLink (cn own) k (r.2.1 fno).1 (r.2.1 fno).2.1 (r.2.1 fno).2.2.1)) && (decide ((fkL.getD cls [])[fno]? = some (kd, x, a, b)) &&
      ((Nat.beq kd 0 && (decide (parseFieldDescriptor (r.2.1 fno).2.2.1 = some .int) && decide ((r.2.1 fno).2.2.2 = false))) || ((Nat.beq kd 1 && (decide (parseFieldDescriptor (r.2.1 fno).2.2.1 = some .boolean) && decide ((r.2.1 fno).2.2.2 = false))) || Nat.blt 1 kd)))))
def clB (q : vw_C × List Nat) : Bool := match q with
  | (r, ps) => (decide (u_ws r.1 r.2.1 r.2.2 = ps.filterMap (fun i => lw_tbl[i]?)) && (u_ws r.1 r.2.1 r.2.2).all goodWord) && ((List.range r.2.2).all (fun k => (parseFieldDescriptor (r.2.1 k).2.2.1).isSome) && (List.range r.2.2).all (fun a => (List.range r.2.2).all (fun b => decide (a = b) || !decide ((r.2.1 a).2.1 = (r.2.1 b).2.1))))
def fkB (t : Nat) (q : Nat × Nat × Nat × Nat) : Bool := match q with
  | (0, x, _, _) => Nat.beq (ownX x) t
  | (1, x, _, _) => Nat.beq (ownX x) t
  | (3, x, _, _) => Nat.beq (ownX x) t
  | _ => true
/-- where the references of an object point to there is one -/
def rfB (i : Nat) (q : Nat × Nat × Nat × Nat) : Bool := match q with
  | (0, _, _, _) => true
  | (1, _, _, _) => true
  | (3, _, _, _) => true
  | (2, x, _, b) => decide ((x, i + b) ∈ OB)
  | (_, x, a, b) => decide ((x, a * i + b) ∈ OB)
def raB (i : Nat) (q : Nat × Nat × Nat × Nat × Nat) : Bool := match q with
  | (0, _, _, _, _) => true
  | (1, _, _, _, _) => true
  | (2, x, _, _, n) => (List.range n).all (fun j => decide ((x, j) ∈ OB))
  | (3, x, a, _, n) => (List.range n).all (fun j => decide ((x, a * i + j) ∈ OB))
  | (_, x, a, b, n) => (List.range n).all (fun j => decide ((x, a * i + j + b) ∈ OB))
def akB (t : Nat) (q : (Nat × Nat × Nat × Nat × Nat) × Nat × Nat) : Bool := match q.1 with
  | (0, x, _, _, _) => Nat.beq (ownX x) t && Nat.beq q.2.2 0
  | (1, x, _, _, _) => Nat.beq (ownX x) t && Nat.beq q.2.2 1
  | _ => Nat.blt 1 q.2.2 && Nat.blt q.2.2 7
set_option maxRecDepth 100000 in
theorem OB_nd : OB.Nodup := by decide +kernel
set_option maxRecDepth 100000 in
theorem fl_ok : (List.range 15).all (fun own => ((flL.getD own []).zip (flP.getD own [])).all (flB own) && decide ((flL.getD own []).length = (flP.getD own []).length)) = true := by decide +kernel
set_option maxRecDepth 100000 in
theorem cl_ok : (vwC.zip clP).all clB = true := by decide +kernel
set_option maxRecDepth 100000 in
theorem fk_ok : (List.range 13).all (fun t => (fkL.getD t []).all (fkB t)) = true := by decide +kernel
set_option maxRecDepth 100000 in
theorem ak_ok : (List.range akL.length).all (fun k => (akL[k]?).all (akB (64 + k))) = true := by decide +kernel
set_option maxRecDepth 100000 in
theorem rf_ok : OB.all (fun q => (fkL.getD q.1 []).all (rfB q.2)) = true := by decide +kernel
set_option maxRecDepth 100000 in
theorem ra_ok : OB.all (fun q => (akO q.1).all (raB q.2) || Nat.blt q.1 64) = true := by decide +kernel
set_option maxRecDepth 100000 in
theorem ok_ok : OB.all (fun q => Nat.blt q.1 13 || (Nat.ble 64 q.1 && (akO q.1).isSome)) = true := by decide +kernel
set_option maxRecDepth 100000 in
theorem vw_ok : (List.range 13).all (fun t => match vwC[t]? with | none => false | some r => decide ((fkL.getD t []).length = r.2.2)) = true := by decide +kernel
