section
-- ===== PART A: goes FIRST, ahead of the names: the tables' words, and 'selects' of the private methods out of them =====
/-- a private method of a class that the tables say can be made, by its rows of tables_1 -/
def lw_okq (q : MethodName × Nat) : Prop := (q.1.cls ≠ "java/lang/invoke/MethodHandle" ∧ q.1.cls ≠ "java/lang/invoke/VarHandle") ∧ Cond.instantiable q.1.cls q.2 ∈ tables_1 ∧ Cond.privateMethod q.1 ∈ tables_1 ∧ Cond.instanceMethod q.1 ∈ tables_1
theorem lw_p0 : lw_okq (⟨"StreamLink$End", "startTries", "(I)V"⟩, 14) := ⟨⟨by decide +kernel, by decide +kernel⟩, List.mem_of_getElem? (i := 31) (by decide +kernel), List.mem_of_getElem? (i := 430) (by decide +kernel), List.mem_of_getElem? (i := 431) (by decide +kernel)⟩
theorem lw_p1 : lw_okq (⟨"StreamLink$End", "postOpening", "(I)V"⟩, 14) := ⟨⟨by decide +kernel, by decide +kernel⟩, List.mem_of_getElem? (i := 31) (by decide +kernel), List.mem_of_getElem? (i := 434) (by decide +kernel), List.mem_of_getElem? (i := 435) (by decide +kernel)⟩
theorem lw_p2 : lw_okq (⟨"StreamLink$End", "pathFor", "(LStreamLink$SentWord;)I"⟩, 14) := ⟨⟨by decide +kernel, by decide +kernel⟩, List.mem_of_getElem? (i := 31) (by decide +kernel), List.mem_of_getElem? (i := 488) (by decide +kernel), List.mem_of_getElem? (i := 489) (by decide +kernel)⟩
theorem lw_p3 : lw_okq (⟨"StreamLink$End", "mayGo", "(LStreamLink$SentWord;I)Z"⟩, 14) := ⟨⟨by decide +kernel, by decide +kernel⟩, List.mem_of_getElem? (i := 31) (by decide +kernel), List.mem_of_getElem? (i := 496) (by decide +kernel), List.mem_of_getElem? (i := 497) (by decide +kernel)⟩
theorem lw_p4 : lw_okq (⟨"StreamLink$End", "putOut", "(LStreamLink$SentWord;II)V"⟩, 14) := ⟨⟨by decide +kernel, by decide +kernel⟩, List.mem_of_getElem? (i := 31) (by decide +kernel), List.mem_of_getElem? (i := 508) (by decide +kernel), List.mem_of_getElem? (i := 509) (by decide +kernel)⟩
theorem lw_p5 : lw_okq (⟨"StreamLink", "takeMaking", "(IILStreamLink$Packet;)V"⟩, 5) := ⟨⟨by decide +kernel, by decide +kernel⟩, List.mem_of_getElem? (i := 16) (by decide +kernel), List.mem_of_getElem? (i := 535) (by decide +kernel), List.mem_of_getElem? (i := 536) (by decide +kernel)⟩
theorem lw_p6 : lw_okq (⟨"StreamLink", "answerInit", "(II)V"⟩, 5) := ⟨⟨by decide +kernel, by decide +kernel⟩, List.mem_of_getElem? (i := 16) (by decide +kernel), List.mem_of_getElem? (i := 539) (by decide +kernel), List.mem_of_getElem? (i := 540) (by decide +kernel)⟩
theorem lw_p7 : lw_okq (⟨"StreamLink", "serverTagFor", "(I)I"⟩, 5) := ⟨⟨by decide +kernel, by decide +kernel⟩, List.mem_of_getElem? (i := 16) (by decide +kernel), List.mem_of_getElem? (i := 543) (by decide +kernel), List.mem_of_getElem? (i := 544) (by decide +kernel)⟩
theorem lw_p8 : lw_okq (⟨"StreamLink", "sealOf", "(III)I"⟩, 5) := ⟨⟨by decide +kernel, by decide +kernel⟩, List.mem_of_getElem? (i := 16) (by decide +kernel), List.mem_of_getElem? (i := 553) (by decide +kernel), List.mem_of_getElem? (i := 554) (by decide +kernel)⟩
theorem lw_p9 : lw_okq (⟨"StreamLink", "answerEcho", "(ILStreamLink$Packet;)V"⟩, 5) := ⟨⟨by decide +kernel, by decide +kernel⟩, List.mem_of_getElem? (i := 16) (by decide +kernel), List.mem_of_getElem? (i := 565) (by decide +kernel), List.mem_of_getElem? (i := 566) (by decide +kernel)⟩
theorem lw_p10 : lw_okq (⟨"StreamLink", "isGenuine", "(LStreamLink$Cookie;)Z"⟩, 5) := ⟨⟨by decide +kernel, by decide +kernel⟩, List.mem_of_getElem? (i := 16) (by decide +kernel), List.mem_of_getElem? (i := 569) (by decide +kernel), List.mem_of_getElem? (i := 570) (by decide +kernel)⟩
theorem lw_p11 : lw_okq (⟨"StreamLink$End", "takeData", "(ILStreamLink$Word;)V"⟩, 14) := ⟨⟨by decide +kernel, by decide +kernel⟩, List.mem_of_getElem? (i := 31) (by decide +kernel), List.mem_of_getElem? (i := 593) (by decide +kernel), List.mem_of_getElem? (i := 594) (by decide +kernel)⟩
theorem lw_p12 : lw_okq (⟨"StreamLink$Inbox", "isDropped", "(I)Z"⟩, 7) := ⟨⟨by decide +kernel, by decide +kernel⟩, List.mem_of_getElem? (i := 159) (by decide +kernel), List.mem_of_getElem? (i := 601) (by decide +kernel), List.mem_of_getElem? (i := 602) (by decide +kernel)⟩
theorem lw_p13 : lw_okq (⟨"StreamLink$Inbox", "has", "(I)Z"⟩, 7) := ⟨⟨by decide +kernel, by decide +kernel⟩, List.mem_of_getElem? (i := 159) (by decide +kernel), List.mem_of_getElem? (i := 605) (by decide +kernel), List.mem_of_getElem? (i := 606) (by decide +kernel)⟩
theorem lw_p14 : lw_okq (⟨"StreamLink$Inbox", "makeReady", "()V"⟩, 7) := ⟨⟨by decide +kernel, by decide +kernel⟩, List.mem_of_getElem? (i := 159) (by decide +kernel), List.mem_of_getElem? (i := 617) (by decide +kernel), List.mem_of_getElem? (i := 618) (by decide +kernel)⟩
theorem lw_p15 : lw_okq (⟨"StreamLink$Inbox", "wholeLength", "(I)I"⟩, 7) := ⟨⟨by decide +kernel, by decide +kernel⟩, List.mem_of_getElem? (i := 159) (by decide +kernel), List.mem_of_getElem? (i := 621) (by decide +kernel), List.mem_of_getElem? (i := 622) (by decide +kernel)⟩
def lw_privs_1 : List (MethodName × Nat) := [(⟨"StreamLink$End", "startTries", "(I)V"⟩, 14), (⟨"StreamLink$End", "postOpening", "(I)V"⟩, 14), (⟨"StreamLink$End", "pathFor", "(LStreamLink$SentWord;)I"⟩, 14), (⟨"StreamLink$End", "mayGo", "(LStreamLink$SentWord;I)Z"⟩, 14), (⟨"StreamLink$End", "putOut", "(LStreamLink$SentWord;II)V"⟩, 14), (⟨"StreamLink", "takeMaking", "(IILStreamLink$Packet;)V"⟩, 5), (⟨"StreamLink", "answerInit", "(II)V"⟩, 5), (⟨"StreamLink", "serverTagFor", "(I)I"⟩, 5), (⟨"StreamLink", "sealOf", "(III)I"⟩, 5), (⟨"StreamLink", "answerEcho", "(ILStreamLink$Packet;)V"⟩, 5), (⟨"StreamLink", "isGenuine", "(LStreamLink$Cookie;)Z"⟩, 5), (⟨"StreamLink$End", "takeData", "(ILStreamLink$Word;)V"⟩, 14), (⟨"StreamLink$Inbox", "isDropped", "(I)Z"⟩, 7), (⟨"StreamLink$Inbox", "has", "(I)Z"⟩, 7), (⟨"StreamLink$Inbox", "makeReady", "()V"⟩, 7), (⟨"StreamLink$Inbox", "wholeLength", "(I)I"⟩, 7)]
theorem lw_r1 : ∀ q ∈ lw_privs_1, lw_okq q := List.forall_mem_cons.mpr ⟨lw_p0, List.forall_mem_cons.mpr ⟨lw_p1, List.forall_mem_cons.mpr ⟨lw_p2, List.forall_mem_cons.mpr ⟨lw_p3, List.forall_mem_cons.mpr ⟨lw_p4, List.forall_mem_cons.mpr ⟨lw_p5, List.forall_mem_cons.mpr ⟨lw_p6, List.forall_mem_cons.mpr ⟨lw_p7, List.forall_mem_cons.mpr ⟨lw_p8, List.forall_mem_cons.mpr ⟨lw_p9, List.forall_mem_cons.mpr ⟨lw_p10, List.forall_mem_cons.mpr ⟨lw_p11, List.forall_mem_cons.mpr ⟨lw_p12, List.forall_mem_cons.mpr ⟨lw_p13, List.forall_mem_cons.mpr ⟨lw_p14, List.forall_mem_cons.mpr ⟨lw_p15, fun _ h => absurd h List.not_mem_nil⟩⟩⟩⟩⟩⟩⟩⟩⟩⟩⟩⟩⟩⟩⟩⟩
theorem lw_p16 : lw_okq (⟨"StreamLink$Inbox", "mayBeReady", "(LStreamLink$Word;)Z"⟩, 7) := ⟨⟨by decide +kernel, by decide +kernel⟩, List.mem_of_getElem? (i := 159) (by decide +kernel), List.mem_of_getElem? (i := 625) (by decide +kernel), List.mem_of_getElem? (i := 626) (by decide +kernel)⟩
theorem lw_p17 : lw_okq (⟨"StreamLink$Inbox", "moveToReady", "(II)V"⟩, 7) := ⟨⟨by decide +kernel, by decide +kernel⟩, List.mem_of_getElem? (i := 159) (by decide +kernel), List.mem_of_getElem? (i := 629) (by decide +kernel), List.mem_of_getElem? (i := 630) (by decide +kernel)⟩
theorem lw_p18 : lw_okq (⟨"StreamLink$End", "takeSack", "(LStreamLink$Packet;I)V"⟩, 14) := ⟨⟨by decide +kernel, by decide +kernel⟩, List.mem_of_getElem? (i := 31) (by decide +kernel), List.mem_of_getElem? (i := 646) (by decide +kernel), List.mem_of_getElem? (i := 647) (by decide +kernel)⟩
theorem lw_p19 : lw_okq (⟨"StreamLink$End", "dropUpTo", "(I)V"⟩, 14) := ⟨⟨by decide +kernel, by decide +kernel⟩, List.mem_of_getElem? (i := 31) (by decide +kernel), List.mem_of_getElem? (i := 650) (by decide +kernel), List.mem_of_getElem? (i := 651) (by decide +kernel)⟩
theorem lw_p20 : lw_okq (⟨"StreamLink$End", "holdGaps", "(I)V"⟩, 14) := ⟨⟨by decide +kernel, by decide +kernel⟩, List.mem_of_getElem? (i := 31) (by decide +kernel), List.mem_of_getElem? (i := 654) (by decide +kernel), List.mem_of_getElem? (i := 655) (by decide +kernel)⟩
theorem lw_p21 : lw_okq (⟨"StreamLink$End", "rewardGoodPaths", "()V"⟩, 14) := ⟨⟨by decide +kernel, by decide +kernel⟩, List.mem_of_getElem? (i := 31) (by decide +kernel), List.mem_of_getElem? (i := 669) (by decide +kernel), List.mem_of_getElem? (i := 670) (by decide +kernel)⟩
theorem lw_p22 : lw_okq (⟨"StreamLink$End", "strikeBelow", "(I)V"⟩, 14) := ⟨⟨by decide +kernel, by decide +kernel⟩, List.mem_of_getElem? (i := 31) (by decide +kernel), List.mem_of_getElem? (i := 678) (by decide +kernel), List.mem_of_getElem? (i := 679) (by decide +kernel)⟩
theorem lw_p23 : lw_okq (⟨"StreamLink$End", "strike", "(LStreamLink$SentWord;)V"⟩, 14) := ⟨⟨by decide +kernel, by decide +kernel⟩, List.mem_of_getElem? (i := 31) (by decide +kernel), List.mem_of_getElem? (i := 682) (by decide +kernel), List.mem_of_getElem? (i := 683) (by decide +kernel)⟩
theorem lw_p24 : lw_okq (⟨"StreamLink$End", "settleTimers", "(I)V"⟩, 14) := ⟨⟨by decide +kernel, by decide +kernel⟩, List.mem_of_getElem? (i := 31) (by decide +kernel), List.mem_of_getElem? (i := 687) (by decide +kernel), List.mem_of_getElem? (i := 688) (by decide +kernel)⟩
theorem lw_p25 : lw_okq (⟨"StreamLink$End", "takeBeatAck", "(LStreamLink$Path;I)V"⟩, 14) := ⟨⟨by decide +kernel, by decide +kernel⟩, List.mem_of_getElem? (i := 31) (by decide +kernel), List.mem_of_getElem? (i := 692) (by decide +kernel), List.mem_of_getElem? (i := 693) (by decide +kernel)⟩
theorem lw_p26 : lw_okq (⟨"StreamLink$End", "tryAgain", "(I)V"⟩, 14) := ⟨⟨by decide +kernel, by decide +kernel⟩, List.mem_of_getElem? (i := 31) (by decide +kernel), List.mem_of_getElem? (i := 724) (by decide +kernel), List.mem_of_getElem? (i := 725) (by decide +kernel)⟩
theorem lw_p27 : lw_okq (⟨"StreamLink$End", "passPathTick", "(II)V"⟩, 14) := ⟨⟨by decide +kernel, by decide +kernel⟩, List.mem_of_getElem? (i := 31) (by decide +kernel), List.mem_of_getElem? (i := 728) (by decide +kernel), List.mem_of_getElem? (i := 729) (by decide +kernel)⟩
theorem lw_p28 : lw_okq (⟨"StreamLink$End", "addError", "(LStreamLink$Path;)V"⟩, 14) := ⟨⟨by decide +kernel, by decide +kernel⟩, List.mem_of_getElem? (i := 31) (by decide +kernel), List.mem_of_getElem? (i := 740) (by decide +kernel), List.mem_of_getElem? (i := 741) (by decide +kernel)⟩
theorem lw_p29 : lw_okq (⟨"StreamLink$End", "postBeat", "(II)V"⟩, 14) := ⟨⟨by decide +kernel, by decide +kernel⟩, List.mem_of_getElem? (i := 31) (by decide +kernel), List.mem_of_getElem? (i := 748) (by decide +kernel), List.mem_of_getElem? (i := 749) (by decide +kernel)⟩
theorem lw_p30 : lw_okq (⟨"StreamLink$ReadyList", "firstOf", "(I)I"⟩, 5) := ⟨⟨by decide +kernel, by decide +kernel⟩, List.mem_of_getElem? (i := 165) (by decide +kernel), List.mem_of_getElem? (i := 760) (by decide +kernel), List.mem_of_getElem? (i := 761) (by decide +kernel)⟩
theorem lw_p31 : lw_okq (⟨"StreamLinkModel", "take", "(I)V"⟩, 54) := ⟨⟨by decide +kernel, by decide +kernel⟩, List.mem_of_getElem? (i := 820) (by decide +kernel), List.mem_of_getElem? (i := 996) (by decide +kernel), List.mem_of_getElem? (i := 997) (by decide +kernel)⟩
def lw_privs_2 : List (MethodName × Nat) := [(⟨"StreamLink$Inbox", "mayBeReady", "(LStreamLink$Word;)Z"⟩, 7), (⟨"StreamLink$Inbox", "moveToReady", "(II)V"⟩, 7), (⟨"StreamLink$End", "takeSack", "(LStreamLink$Packet;I)V"⟩, 14), (⟨"StreamLink$End", "dropUpTo", "(I)V"⟩, 14), (⟨"StreamLink$End", "holdGaps", "(I)V"⟩, 14), (⟨"StreamLink$End", "rewardGoodPaths", "()V"⟩, 14), (⟨"StreamLink$End", "strikeBelow", "(I)V"⟩, 14), (⟨"StreamLink$End", "strike", "(LStreamLink$SentWord;)V"⟩, 14), (⟨"StreamLink$End", "settleTimers", "(I)V"⟩, 14), (⟨"StreamLink$End", "takeBeatAck", "(LStreamLink$Path;I)V"⟩, 14), (⟨"StreamLink$End", "tryAgain", "(I)V"⟩, 14), (⟨"StreamLink$End", "passPathTick", "(II)V"⟩, 14), (⟨"StreamLink$End", "addError", "(LStreamLink$Path;)V"⟩, 14), (⟨"StreamLink$End", "postBeat", "(II)V"⟩, 14), (⟨"StreamLink$ReadyList", "firstOf", "(I)I"⟩, 5), (⟨"StreamLinkModel", "take", "(I)V"⟩, 54)]
theorem lw_r2 : ∀ q ∈ lw_privs_2, lw_okq q := List.forall_mem_cons.mpr ⟨lw_p16, List.forall_mem_cons.mpr ⟨lw_p17, List.forall_mem_cons.mpr ⟨lw_p18, List.forall_mem_cons.mpr ⟨lw_p19, List.forall_mem_cons.mpr ⟨lw_p20, List.forall_mem_cons.mpr ⟨lw_p21, List.forall_mem_cons.mpr ⟨lw_p22, List.forall_mem_cons.mpr ⟨lw_p23, List.forall_mem_cons.mpr ⟨lw_p24, List.forall_mem_cons.mpr ⟨lw_p25, List.forall_mem_cons.mpr ⟨lw_p26, List.forall_mem_cons.mpr ⟨lw_p27, List.forall_mem_cons.mpr ⟨lw_p28, List.forall_mem_cons.mpr ⟨lw_p29, List.forall_mem_cons.mpr ⟨lw_p30, List.forall_mem_cons.mpr ⟨lw_p31, fun _ h => absurd h List.not_mem_nil⟩⟩⟩⟩⟩⟩⟩⟩⟩⟩⟩⟩⟩⟩⟩⟩
theorem lw_p32 : lw_okq (⟨"StreamLinkModel", "post", "(IIIIII)V"⟩, 54) := ⟨⟨by decide +kernel, by decide +kernel⟩, List.mem_of_getElem? (i := 820) (by decide +kernel), List.mem_of_getElem? (i := 1011) (by decide +kernel), List.mem_of_getElem? (i := 1012) (by decide +kernel)⟩
theorem lw_p33 : lw_okq (⟨"StreamLinkModel", "pathToUse", "(I)I"⟩, 54) := ⟨⟨by decide +kernel, by decide +kernel⟩, List.mem_of_getElem? (i := 820) (by decide +kernel), List.mem_of_getElem? (i := 1019) (by decide +kernel), List.mem_of_getElem? (i := 1020) (by decide +kernel)⟩
theorem lw_p34 : lw_okq (⟨"StreamLinkModel", "close", "(II)V"⟩, 54) := ⟨⟨by decide +kernel, by decide +kernel⟩, List.mem_of_getElem? (i := 820) (by decide +kernel), List.mem_of_getElem? (i := 1023) (by decide +kernel), List.mem_of_getElem? (i := 1024) (by decide +kernel)⟩
theorem lw_p35 : lw_okq (⟨"StreamLinkModel", "empty", "(I)V"⟩, 54) := ⟨⟨by decide +kernel, by decide +kernel⟩, List.mem_of_getElem? (i := 820) (by decide +kernel), List.mem_of_getElem? (i := 1027) (by decide +kernel), List.mem_of_getElem? (i := 1028) (by decide +kernel)⟩
theorem lw_p36 : lw_okq (⟨"StreamLinkModel", "init", "(II)V"⟩, 54) := ⟨⟨by decide +kernel, by decide +kernel⟩, List.mem_of_getElem? (i := 820) (by decide +kernel), List.mem_of_getElem? (i := 1039) (by decide +kernel), List.mem_of_getElem? (i := 1040) (by decide +kernel)⟩
theorem lw_p37 : lw_okq (⟨"StreamLinkModel", "tagFor", "(I)I"⟩, 54) := ⟨⟨by decide +kernel, by decide +kernel⟩, List.mem_of_getElem? (i := 820) (by decide +kernel), List.mem_of_getElem? (i := 1043) (by decide +kernel), List.mem_of_getElem? (i := 1044) (by decide +kernel)⟩
theorem lw_p38 : lw_okq (⟨"StreamLinkModel", "full", "(II)Z"⟩, 54) := ⟨⟨by decide +kernel, by decide +kernel⟩, List.mem_of_getElem? (i := 820) (by decide +kernel), List.mem_of_getElem? (i := 1052) (by decide +kernel), List.mem_of_getElem? (i := 1053) (by decide +kernel)⟩
theorem lw_p39 : lw_okq (⟨"StreamLinkModel", "seal", "(III)I"⟩, 54) := ⟨⟨by decide +kernel, by decide +kernel⟩, List.mem_of_getElem? (i := 820) (by decide +kernel), List.mem_of_getElem? (i := 1056) (by decide +kernel), List.mem_of_getElem? (i := 1057) (by decide +kernel)⟩
theorem lw_p40 : lw_okq (⟨"StreamLinkModel", "more", "(IIIII)V"⟩, 54) := ⟨⟨by decide +kernel, by decide +kernel⟩, List.mem_of_getElem? (i := 820) (by decide +kernel), List.mem_of_getElem? (i := 1060) (by decide +kernel), List.mem_of_getElem? (i := 1061) (by decide +kernel)⟩
theorem lw_p41 : lw_okq (⟨"StreamLinkModel", "echo", "(I)V"⟩, 54) := ⟨⟨by decide +kernel, by decide +kernel⟩, List.mem_of_getElem? (i := 820) (by decide +kernel), List.mem_of_getElem? (i := 1064) (by decide +kernel), List.mem_of_getElem? (i := 1065) (by decide +kernel)⟩
theorem lw_p42 : lw_okq (⟨"StreamLinkModel", "comeUp", "(III)V"⟩, 54) := ⟨⟨by decide +kernel, by decide +kernel⟩, List.mem_of_getElem? (i := 820) (by decide +kernel), List.mem_of_getElem? (i := 1069) (by decide +kernel), List.mem_of_getElem? (i := 1070) (by decide +kernel)⟩
theorem lw_p43 : lw_okq (⟨"StreamLinkModel", "initAck", "(I)V"⟩, 54) := ⟨⟨by decide +kernel, by decide +kernel⟩, List.mem_of_getElem? (i := 820) (by decide +kernel), List.mem_of_getElem? (i := 1073) (by decide +kernel), List.mem_of_getElem? (i := 1074) (by decide +kernel)⟩
theorem lw_p44 : lw_okq (⟨"StreamLinkModel", "sendCookie", "(IIIII)V"⟩, 54) := ⟨⟨by decide +kernel, by decide +kernel⟩, List.mem_of_getElem? (i := 820) (by decide +kernel), List.mem_of_getElem? (i := 1077) (by decide +kernel), List.mem_of_getElem? (i := 1078) (by decide +kernel)⟩
theorem lw_p45 : lw_okq (⟨"StreamLinkModel", "hear", "(III)V"⟩, 54) := ⟨⟨by decide +kernel, by decide +kernel⟩, List.mem_of_getElem? (i := 820) (by decide +kernel), List.mem_of_getElem? (i := 1081) (by decide +kernel), List.mem_of_getElem? (i := 1082) (by decide +kernel)⟩
theorem lw_p46 : lw_okq (⟨"StreamLinkModel", "data", "(II)V"⟩, 54) := ⟨⟨by decide +kernel, by decide +kernel⟩, List.mem_of_getElem? (i := 820) (by decide +kernel), List.mem_of_getElem? (i := 1085) (by decide +kernel), List.mem_of_getElem? (i := 1086) (by decide +kernel)⟩
theorem lw_p47 : lw_okq (⟨"StreamLinkModel", "has", "(II)Z"⟩, 54) := ⟨⟨by decide +kernel, by decide +kernel⟩, List.mem_of_getElem? (i := 820) (by decide +kernel), List.mem_of_getElem? (i := 1089) (by decide +kernel), List.mem_of_getElem? (i := 1090) (by decide +kernel)⟩
def lw_privs_3 : List (MethodName × Nat) := [(⟨"StreamLinkModel", "post", "(IIIIII)V"⟩, 54), (⟨"StreamLinkModel", "pathToUse", "(I)I"⟩, 54), (⟨"StreamLinkModel", "close", "(II)V"⟩, 54), (⟨"StreamLinkModel", "empty", "(I)V"⟩, 54), (⟨"StreamLinkModel", "init", "(II)V"⟩, 54), (⟨"StreamLinkModel", "tagFor", "(I)I"⟩, 54), (⟨"StreamLinkModel", "full", "(II)Z"⟩, 54), (⟨"StreamLinkModel", "seal", "(III)I"⟩, 54), (⟨"StreamLinkModel", "more", "(IIIII)V"⟩, 54), (⟨"StreamLinkModel", "echo", "(I)V"⟩, 54), (⟨"StreamLinkModel", "comeUp", "(III)V"⟩, 54), (⟨"StreamLinkModel", "initAck", "(I)V"⟩, 54), (⟨"StreamLinkModel", "sendCookie", "(IIIII)V"⟩, 54), (⟨"StreamLinkModel", "hear", "(III)V"⟩, 54), (⟨"StreamLinkModel", "data", "(II)V"⟩, 54), (⟨"StreamLinkModel", "has", "(II)Z"⟩, 54)]
theorem lw_r3 : ∀ q ∈ lw_privs_3, lw_okq q := List.forall_mem_cons.mpr ⟨lw_p32, List.forall_mem_cons.mpr ⟨lw_p33, List.forall_mem_cons.mpr ⟨lw_p34, List.forall_mem_cons.mpr ⟨lw_p35, List.forall_mem_cons.mpr ⟨lw_p36, List.forall_mem_cons.mpr ⟨lw_p37, List.forall_mem_cons.mpr ⟨lw_p38, List.forall_mem_cons.mpr ⟨lw_p39, List.forall_mem_cons.mpr ⟨lw_p40, List.forall_mem_cons.mpr ⟨lw_p41, List.forall_mem_cons.mpr ⟨lw_p42, List.forall_mem_cons.mpr ⟨lw_p43, List.forall_mem_cons.mpr ⟨lw_p44, List.forall_mem_cons.mpr ⟨lw_p45, List.forall_mem_cons.mpr ⟨lw_p46, List.forall_mem_cons.mpr ⟨lw_p47, fun _ h => absurd h List.not_mem_nil⟩⟩⟩⟩⟩⟩⟩⟩⟩⟩⟩⟩⟩⟩⟩⟩
theorem lw_p48 : lw_okq (⟨"StreamLinkModel", "oneReady", "(I)Z"⟩, 54) := ⟨⟨by decide +kernel, by decide +kernel⟩, List.mem_of_getElem? (i := 820) (by decide +kernel), List.mem_of_getElem? (i := 1093) (by decide +kernel), List.mem_of_getElem? (i := 1094) (by decide +kernel)⟩
theorem lw_p49 : lw_okq (⟨"StreamLinkModel", "wholeTo", "(II)I"⟩, 54) := ⟨⟨by decide +kernel, by decide +kernel⟩, List.mem_of_getElem? (i := 820) (by decide +kernel), List.mem_of_getElem? (i := 1097) (by decide +kernel), List.mem_of_getElem? (i := 1098) (by decide +kernel)⟩
theorem lw_p50 : lw_okq (⟨"StreamLinkModel", "sack", "(I)V"⟩, 54) := ⟨⟨by decide +kernel, by decide +kernel⟩, List.mem_of_getElem? (i := 820) (by decide +kernel), List.mem_of_getElem? (i := 1101) (by decide +kernel), List.mem_of_getElem? (i := 1102) (by decide +kernel)⟩
theorem lw_p51 : lw_okq (⟨"StreamLinkModel", "strike", "(III)V"⟩, 54) := ⟨⟨by decide +kernel, by decide +kernel⟩, List.mem_of_getElem? (i := 820) (by decide +kernel), List.mem_of_getElem? (i := 1105) (by decide +kernel), List.mem_of_getElem? (i := 1106) (by decide +kernel)⟩
theorem lw_p52 : lw_okq (⟨"StreamLinkModel", "count", "(III)I"⟩, 54) := ⟨⟨by decide +kernel, by decide +kernel⟩, List.mem_of_getElem? (i := 820) (by decide +kernel), List.mem_of_getElem? (i := 1109) (by decide +kernel), List.mem_of_getElem? (i := 1110) (by decide +kernel)⟩
theorem lw_p53 : lw_okq (⟨"StreamLinkModel", "sendWhatMay", "(I)V"⟩, 54) := ⟨⟨by decide +kernel, by decide +kernel⟩, List.mem_of_getElem? (i := 820) (by decide +kernel), List.mem_of_getElem? (i := 1113) (by decide +kernel), List.mem_of_getElem? (i := 1114) (by decide +kernel)⟩
theorem lw_p54 : lw_okq (⟨"StreamLinkModel", "again", "(I)V"⟩, 54) := ⟨⟨by decide +kernel, by decide +kernel⟩, List.mem_of_getElem? (i := 820) (by decide +kernel), List.mem_of_getElem? (i := 1144) (by decide +kernel), List.mem_of_getElem? (i := 1145) (by decide +kernel)⟩
theorem lw_p55 : lw_okq (⟨"StreamLinkModel", "tickPath", "(II)V"⟩, 54) := ⟨⟨by decide +kernel, by decide +kernel⟩, List.mem_of_getElem? (i := 820) (by decide +kernel), List.mem_of_getElem? (i := 1148) (by decide +kernel), List.mem_of_getElem? (i := 1149) (by decide +kernel)⟩
theorem lw_p56 : lw_okq (⟨"StreamLinkModel", "fail", "(II)V"⟩, 54) := ⟨⟨by decide +kernel, by decide +kernel⟩, List.mem_of_getElem? (i := 820) (by decide +kernel), List.mem_of_getElem? (i := 1152) (by decide +kernel), List.mem_of_getElem? (i := 1153) (by decide +kernel)⟩
def lw_privs_4 : List (MethodName × Nat) := [(⟨"StreamLinkModel", "oneReady", "(I)Z"⟩, 54), (⟨"StreamLinkModel", "wholeTo", "(II)I"⟩, 54), (⟨"StreamLinkModel", "sack", "(I)V"⟩, 54), (⟨"StreamLinkModel", "strike", "(III)V"⟩, 54), (⟨"StreamLinkModel", "count", "(III)I"⟩, 54), (⟨"StreamLinkModel", "sendWhatMay", "(I)V"⟩, 54), (⟨"StreamLinkModel", "again", "(I)V"⟩, 54), (⟨"StreamLinkModel", "tickPath", "(II)V"⟩, 54), (⟨"StreamLinkModel", "fail", "(II)V"⟩, 54)]
theorem lw_r4 : ∀ q ∈ lw_privs_4, lw_okq q := List.forall_mem_cons.mpr ⟨lw_p48, List.forall_mem_cons.mpr ⟨lw_p49, List.forall_mem_cons.mpr ⟨lw_p50, List.forall_mem_cons.mpr ⟨lw_p51, List.forall_mem_cons.mpr ⟨lw_p52, List.forall_mem_cons.mpr ⟨lw_p53, List.forall_mem_cons.mpr ⟨lw_p54, List.forall_mem_cons.mpr ⟨lw_p55, List.forall_mem_cons.mpr ⟨lw_p56, fun _ h => absurd h List.not_mem_nil⟩⟩⟩⟩⟩⟩⟩⟩⟩
def lw_privs : List (MethodName × Nat) := lw_privs_1 ++ (lw_privs_2 ++ (lw_privs_3 ++ (lw_privs_4)))
def lw_tbl : List Cond := k2_sels lw_privs ++ tables_1
theorem lw_privs_ok : ∀ q ∈ lw_privs, lw_okq q := by
  show ∀ q ∈ lw_privs_1 ++ (lw_privs_2 ++ (lw_privs_3 ++ (lw_privs_4))), lw_okq q
  exact List.forall_mem_append.mpr ⟨lw_r1, List.forall_mem_append.mpr ⟨lw_r2, List.forall_mem_append.mpr ⟨lw_r3, lw_r4⟩⟩⟩
end
section
/-! An interpreter of the instructions that the class, the reference and the law use; its heap is a parameter. -/
abbrev iV : Type := Int32 ⊕ (Int64 ⊕ (Option (Nat × Nat) ⊕ Nat))
abbrev vI (x : Int32) : iV := Sum.inl x
abbrev vL (x : Int64) : iV := Sum.inr (Sum.inl x)
abbrev vR (t i : Nat) : iV := Sum.inr (Sum.inr (Sum.inl (some (t, i))))
abbrev vX (k : Nat) : iV := Sum.inr (Sum.inr (Sum.inr k))
abbrev iL : Type := List (Option iV)
abbrev iC : Type := Nat × iL × List iV
abbrev iI : Type := Jvm.ClassFile.Instr
/-- targets (of a switch: the default first) and the number that the instruction bears -/
abbrev iX : Type := List Nat × Int32
/-- pc, instruction, length, targets and number -/
abbrev iE : Type := Nat × iI × Nat × iX
def iGet : iL → Nat → Option iV
  | [], _ => none
  | a :: _, 0 => a
  | _ :: r, n + 1 => iGet r n
def iPut : iL → Nat → Option iV → Option iL
  | [], _, _ => none
  | _ :: r, 0, v => some (v :: r)
  | a :: r, n + 1, v => match iPut r n v with
    | none => none
    | some r' => some (a :: r')
def iLong : Option iV → Bool
  | some (Sum.inr (Sum.inl _)) => true
  | _ => false
def iSt1 (ls : iL) (i : Nat) (v : iV) : Option iL := match i with
  | 0 => iPut ls 0 (some v)
  | k + 1 => match iLong (iGet ls k) with
    | true => none
    | false => iPut ls (k + 1) (some v)
def iSt2 (ls : iL) (i : Nat) (v : iV) : Option iL := match iSt1 ls i v with
  | none => none
  | some l1 => iPut l1 (i + 1) none
def iCat1 : iV → Bool
  | Sum.inr (Sum.inl _) => false
  | _ => true
def iCmp (c : Jvm.ClassFile.Cond) (a b : Int32) : Bool := match c with
  | .eq => decide (a = b)
  | .ne => !decide (a = b)
  | .lt => decide (a < b)
  | .ge => !decide (a < b)
  | .gt => decide (b < a)
  | .le => !decide (b < a)
def iPush (n : Nat) (v : iV) (c : iC) : Option iC := some (c.1 + n, c.2.1, v :: c.2.2)
def iLdI (n k : Nat) (c : iC) : Option iC := match iGet c.2.1 k with
  | some (Sum.inl x) => some (c.1 + n, c.2.1, vI x :: c.2.2)
  | some (Sum.inr (Sum.inr (Sum.inr x))) => some (c.1 + n, c.2.1, vX x :: c.2.2)
  | _ => none
def iLdL (n k : Nat) (c : iC) : Option iC := match iGet c.2.1 k with
  | some (Sum.inr (Sum.inl x)) => some (c.1 + n, c.2.1, vL x :: c.2.2)
  | _ => none
def iLdA (n k : Nat) (c : iC) : Option iC := match iGet c.2.1 k with
  | some (Sum.inr (Sum.inr (Sum.inl (some (t, i))))) => some (c.1 + n, c.2.1, vR t i :: c.2.2)
  | _ => none
def iStI (n k : Nat) (c : iC) : Option iC := match c.2.2 with
  | Sum.inl x :: r => match iSt1 c.2.1 k (vI x) with
    | none => none
    | some ls => some (c.1 + n, ls, r)
  | _ => none
def iStL (n k : Nat) (c : iC) : Option iC := match c.2.2 with
  | Sum.inr (Sum.inl x) :: r => match iSt2 c.2.1 k (vL x) with
    | none => none
    | some ls => some (c.1 + n, ls, r)
  | _ => none
def iStA (n k : Nat) (c : iC) : Option iC := match c.2.2 with
  | Sum.inr (Sum.inr (Sum.inl (some (t, i)))) :: r => match iSt1 c.2.1 k (vR t i) with
    | none => none
    | some ls => some (c.1 + n, ls, r)
  | _ => none
def iInc (k : Nat) (x : Int32) (c : iC) : Option iC := match iGet c.2.1 k with
  | some (Sum.inl v) => match iSt1 c.2.1 k (vI (v + x)) with
    | none => none
    | some ls => some (c.1 + 3, ls, c.2.2)
  | _ => none
def iBin (f : Int32 → Int32 → Int32) (c : iC) : Option iC := match c.2.2 with
  | Sum.inl b :: Sum.inl a :: r => some (c.1 + 1, c.2.1, vI (f a b) :: r)
  | _ => none
def iDiv (f : Int32 → Int32 → Int32) (c : iC) : Option iC := match c.2.2 with
  | Sum.inl b :: Sum.inl a :: r => match decide (b = 0) with
    | true => none
    | false => some (c.1 + 1, c.2.1, vI (f a b) :: r)
  | _ => none
def iRem (a b : Int32) : Int32 := a - a / b * b
def iShl (a b : Int32) : Int32 := a <<< (b &&& 31)
def iShr (a b : Int32) : Int32 := a >>> (b &&& 31)
def iUsh (a b : Int32) : Int32 := (a.toUInt32 >>> (b.toUInt32 &&& Int32.toUInt32 31)).toInt32
def iNeg (c : iC) : Option iC := match c.2.2 with
  | Sum.inl a :: r => some (c.1 + 1, c.2.1, vI (-a) :: r)
  | _ => none
def iI2L (c : iC) : Option iC := match c.2.2 with
  | Sum.inl a :: r => some (c.1 + 1, c.2.1, vL a.toInt64 :: r)
  | _ => none
def iLSub (c : iC) : Option iC := match c.2.2 with
  | Sum.inr (Sum.inl b) :: Sum.inr (Sum.inl a) :: r => some (c.1 + 1, c.2.1, vL (a - b) :: r)
  | _ => none
def iLCmp (c : iC) : Option iC := match c.2.2 with
  | Sum.inr (Sum.inl b) :: Sum.inr (Sum.inl a) :: r => some (c.1 + 1, c.2.1, vI (lg_cmp a b) :: r)
  | _ => none
def iDup (c : iC) : Option iC := match c.2.2 with
  | a :: r => match iCat1 a with
    | true => some (c.1 + 1, c.2.1, a :: a :: r)
    | false => none
  | _ => none
def iPop (c : iC) : Option iC := match c.2.2 with
  | a :: r => match iCat1 a with
    | true => some (c.1 + 1, c.2.1, r)
    | false => none
  | _ => none
def iDupX1 (c : iC) : Option iC := match c.2.2 with
  | a :: b :: r => match iCat1 a && iCat1 b with
    | true => some (c.1 + 1, c.2.1, a :: b :: a :: r)
    | false => none
  | _ => none
def iDupX2 (c : iC) : Option iC := match c.2.2 with
  | a :: b :: d :: r => match iCat1 a && (iCat1 b && iCat1 d) with
    | true => some (c.1 + 1, c.2.1, a :: b :: d :: a :: r)
    | false => none
  | _ => none
def iDup2 (c : iC) : Option iC := match c.2.2 with
  | a :: b :: r => match iCat1 a && iCat1 b with
    | true => some (c.1 + 1, c.2.1, a :: b :: a :: b :: r)
    | false => none
  | _ => none
def iBr2 (k : Jvm.ClassFile.Cond) (ts : List Nat) (c : iC) : Option iC := match ts, c.2.2 with
  | [t], Sum.inl b :: Sum.inl a :: r => match iCmp k a b with
    | true => some (t, c.2.1, r)
    | false => some (c.1 + 3, c.2.1, r)
  | _, _ => none
def iBr1 (k : Jvm.ClassFile.Cond) (ts : List Nat) (c : iC) : Option iC := match ts, c.2.2 with
  | [t], Sum.inl a :: r => match iCmp k a 0 with
    | true => some (t, c.2.1, r)
    | false => some (c.1 + 3, c.2.1, r)
  | _, _ => none
def iGoto (ts : List Nat) (c : iC) : Option iC := match ts with
  | [t] => some (t, c.2.1, c.2.2)
  | _ => none
/-- a switch: the first target is the default; keys are the values in order -/
def iPick : List Int → List Nat → Nat → Int → Nat
  | k :: ks, t :: ts, d, x => match decide (x = k) with
    | true => t
    | false => iPick ks ts d x
  | _, _, d, _ => d
def iSw (ks : List Int) (ts : List Nat) (c : iC) : Option iC := match ts, c.2.2 with
  | d :: tr, Sum.inl x :: r => some (iPick ks tr d x.toInt, c.2.1, r)
  | _, _ => none
def iKeys (lo : Int) : Nat → List Int
  | 0 => []
  | n + 1 => lo :: iKeys (lo + 1) n
def iStp (i : iI) (tx : iX) (c : iC) : Option iC := match i with
  | .iconst _ => iPush 1 (vI tx.2) c
  | .bipush _ => iPush 2 (vI tx.2) c
  | .sipush _ => iPush 3 (vI tx.2) c
  | .lconst k => iPush 1 (vL (Int64.ofNat (k : Nat))) c
  | .ldc _ => iPush 2 (vI tx.2) c
  | .ldc2_w _ => iPush 3 (vL tx.2.toInt64) c
  | .iload k => iLdI 2 k c
  | .iload_n k => iLdI 1 (k : Nat) c
  | .lload k => iLdL 2 k c
  | .lload_n k => iLdL 1 (k : Nat) c
  | .aload k => iLdA 2 k c
  | .aload_n k => iLdA 1 (k : Nat) c
  | .istore k => iStI 2 k c
  | .istore_n k => iStI 1 (k : Nat) c
  | .lstore k => iStL 2 k c
  | .lstore_n k => iStL 1 (k : Nat) c
  | .astore k => iStA 2 k c
  | .astore_n k => iStA 1 (k : Nat) c
  | .iinc k _ => iInc k tx.2 c
  | .iadd => iBin (fun a b => a + b) c
  | .isub => iBin (fun a b => a - b) c
  | .imul => iBin (fun a b => a * b) c
  | .iand => iBin (fun a b => a &&& b) c
  | .ior => iBin (fun a b => a ||| b) c
  | .ixor => iBin (fun a b => a ^^^ b) c
  | .ishl => iBin iShl c
  | .ishr => iBin iShr c
  | .iushr => iBin iUsh c
  | .idiv => iDiv (fun a b => a / b) c
  | .irem => iDiv iRem c
  | .ineg => iNeg c
  | .i2l => iI2L c
  | .lsub => iLSub c
  | .lcmp => iLCmp c
  | .dup => iDup c
  | .pop => iPop c
  | .dup_x1 => iDupX1 c
  | .dup_x2 => iDupX2 c
  | .dup2 => iDup2 c
  | .if_icmp k _ => iBr2 k tx.1 c
  | .ifCond k _ => iBr1 k tx.1 c
  | .goto _ => iGoto tx.1 c
  | .tableswitch _ lo _ offs => iSw (iKeys lo offs.size) tx.1 c
  | _ => none
/-- the length of an instruction, and its targets, as the table must have them -/
def iLen : iI → Nat
  | .bipush _ => 2
  | .sipush _ => 3
  | .iload _ => 2
  | .lload _ => 2
  | .aload _ => 2
  | .istore _ => 2
  | .lstore _ => 2
  | .astore _ => 2
  | .iinc _ _ => 3
  | .if_icmp _ _ => 3
  | .ifCond _ _ => 3
  | .goto _ => 3
  | .ldc _ => 2
  | .ldc2_w _ => 3
  | .getfield _ => 3
  | .putfield _ => 3
  | .invokevirtual _ => 3
  | .invokespecial _ => 3
  | .invokestatic _ => 3
  | .new _ => 3
  | .anewarray _ => 3
  | .newarray _ => 2
  | _ => 1
def iTgOK (pc : Nat) : List Int → List Nat → Bool
  | [], [] => true
  | o :: os, t :: ts => decide ((pc : Int) + o = (t : Int)) && iTgOK pc os ts
  | _, _ => false
def iOffs : iI → List Int
  | .if_icmp _ o => [o]
  | .ifCond _ o => [o]
  | .goto o => [o]
  | .tableswitch d _ _ offs => d :: offs.toList
  | _ => []
def iSwOK : iI → Bool
  | .tableswitch _ lo hi offs => decide (hi = lo + (offs.size : Int) - 1)
  | _ => true
def iIsSw : iI → Bool
  | .tableswitch _ _ _ _ => true
  | _ => false
def iNum (i : iI) (v : Int32) : Bool := match i with
  | .iconst k => decide (v = Int32.ofInt k)
  | .bipush k => decide (v = (Int8.ofInt k).toInt32)
  | .sipush k => decide (v = (Int16.ofInt k).toInt32)
  | .iinc _ k => decide (v = Int32.ofInt k)
  | _ => true
def iOK (e : iE) : Bool := (iIsSw e.2.1 || decide (e.2.2.1 = iLen e.2.1)) && ((iTgOK e.1 (iOffs e.2.1) e.2.2.2.1 && iSwOK e.2.1) && iNum e.2.1 e.2.2.2.2)
def iLk : List iE → Nat → Option (iI × Nat × iX)
  | [], _ => none
  | e :: r, pc => match Nat.beq e.1 pc with
    | true => some e.2
    | false => iLk r pc
theorem iLk_mem {cd : List iE} {pc : Nat} {x : iI × Nat × iX} (h : iLk cd pc = some x) : (pc, x) ∈ cd := by
  induction cd with
  | nil => cases h
  | cons e r ih =>
    unfold iLk at h
    split at h
    · rename_i hb
      have hb' : e.1 = pc := Nat.eq_of_beq_eq_true hb
      have hx : e.2 = x := Option.some.inj h
      rw [← hb', ← hx]
      exact List.mem_cons_self
    · exact List.mem_cons_of_mem _ (ih h)
end
section
/-! What the interpreter's frames are on the machine; the pure instructions are right. -/
def iTv (ad : Nat → Nat → Nat) (rho : Nat → Int32) : iV → Value
  | Sum.inl x => .int x
  | Sum.inr (Sum.inl x) => .long x
  | Sum.inr (Sum.inr (Sum.inl none)) => .null
  | Sum.inr (Sum.inr (Sum.inl (some q))) => .ref (ad q.1 q.2)
  | Sum.inr (Sum.inr (Sum.inr k)) => .int (rho k)
theorem iTv_cat {ad : Nat → Nat → Nat} {rho : Nat → Int32} {w : iV} (h : (iTv ad rho w).category = 2) : iLong (some w) = true := by
  rcases w with x | x | (_ | q) | k
  · simp [iTv, Value.category] at h
  · rfl
  · simp [iTv, Value.category] at h
  · simp [iTv, Value.category] at h
  · simp [iTv, Value.category] at h
theorem iTv_cat1 {ad : Nat → Nat → Nat} {rho : Nat → Int32} {w : iV} (h : iCat1 w = true) : (iTv ad rho w).category = 1 := by
  rcases w with x | x | (_ | q) | k
  · rfl
  · simp [iCat1] at h
  · rfl
  · rfl
  · rfl
def iFr (tv : iV → Value) (ls : iL) (lsM : Array Slot) (nL : Nat) : Prop := lsM.size = nL ∧ lv_wf lsM ∧ ls.length = nL ∧ ∀ (i : Nat) (v : iV), iGet ls i = some v → lsM[i]? = some (.val (tv v))
def iLv (tv : iV → Value) (ls : iL) : List (Nat × Value) := (List.range ls.length).filterMap (fun i => (iGet ls i).map (fun v => (i, tv v)))
theorem iGet_lt {ls : iL} {i : Nat} {v : iV} (h : iGet ls i = some v) : i < ls.length := by
  induction ls generalizing i with
  | nil => cases h
  | cons a r ih =>
    cases i with
    | zero => simp
    | succ n =>
      have := ih (i := n) h
      simp only [List.length_cons]
      omega
theorem iLv_mem {tv : iV → Value} {ls : iL} {i : Nat} {v : iV} (h : iGet ls i = some v) : (i, tv v) ∈ iLv tv ls :=
  List.mem_filterMap.mpr ⟨i, List.mem_range.mpr (iGet_lt h), by rw [h]; rfl⟩
theorem iFr.has {tv : iV → Value} {ls : iL} {lsM : Array Slot} {nL : Nat} (h : iFr tv ls lsM nL) : lv_has lsM nL (iLv tv ls) := by
  refine ⟨h.1, h.2.1, fun q hq => ?_⟩
  obtain ⟨i, -, he⟩ := List.mem_filterMap.mp hq
  cases hg : iGet ls i with
  | none => rw [hg] at he; cases he
  | some v =>
    rw [hg] at he
    cases he
    exact h.2.2.2 i v hg
theorem iPut_len {ls ls' : iL} {i : Nat} {v : Option iV} (h : iPut ls i v = some ls') : ls'.length = ls.length ∧ i < ls.length := by
  induction ls generalizing i ls' with
  | nil => cases h
  | cons a r ih =>
    cases i with
    | zero =>
      cases h
      simp
    | succ n =>
      unfold iPut at h
      split at h
      · cases h
      · rename_i r' hr
        cases h
        have := ih hr
        simp only [List.length_cons]
        omega
theorem iPut_get {ls ls' : iL} {i : Nat} {v : Option iV} (h : iPut ls i v = some ls') (j : Nat) : iGet ls' j = if j = i then v else iGet ls j := by
  induction ls generalizing i ls' j with
  | nil => cases h
  | cons a r ih =>
    cases i with
    | zero =>
      cases h
      cases j with
      | zero => simp [iGet]
      | succ k => simp [iGet]
    | succ n =>
      unfold iPut at h
      split at h
      · cases h
      · rename_i r' hr
        cases h
        cases j with
        | zero => simp [iGet]
        | succ k =>
          have := ih hr k
          simp only [iGet, this, Nat.add_right_cancel_iff]
theorem iSt1_put {ls ls' : iL} {k : Nat} {v : iV} (h : iSt1 ls k v = some ls') : iPut ls k (some v) = some ls' ∧ ∀ j, j + 1 = k → iLong (iGet ls j) = false := by
  unfold iSt1 at h
  split at h
  · exact ⟨h, fun j hj => by omega⟩
  · split at h
    · cases h
    · rename_i hl
      exact ⟨h, fun j hj => by
        have : j = _ := Nat.succ.inj hj
        rw [this]; exact hl⟩
theorem iFr.st1 {ad : Nat → Nat → Nat} {rho : Nat → Int32} {ls ls' : iL} {lsM : Array Slot} {nL k : Nat} {v : iV} (hF : iFr (iTv ad rho) ls lsM nL) (h : iSt1 ls k v = some ls') :
    k < nL ∧ ∀ lsM' : Array Slot, lv_has lsM' nL ((k, iTv ad rho v) :: (iLv (iTv ad rho) ls).filter (fun q => !(q.1 == k) && !(q.1 + 1 == k && q.2.category == 2))) → iFr (iTv ad rho) ls' lsM' nL := by
  obtain ⟨hp, hg⟩ := iSt1_put h
  obtain ⟨l1, l2⟩ := iPut_len hp
  refine ⟨by rw [← hF.2.2.1]; exact l2, fun lsM' hl => ⟨hl.1, hl.2.1, l1.trans hF.2.2.1, fun i w hw => ?_⟩⟩
  rw [iPut_get hp i] at hw
  by_cases hik : i = k
  · rw [if_pos hik] at hw
    cases hw
    rw [hik]
    exact hl.2.2 (k, iTv ad rho v) List.mem_cons_self
  · rw [if_neg hik] at hw
    refine hl.2.2 (i, iTv ad rho w) (List.mem_cons_of_mem _ (List.mem_filter.mpr ⟨iLv_mem hw, ?_⟩))
    have h1 : ¬ (i + 1 = k ∧ (iTv ad rho w).category = 2) := fun q => by
      have e1 := hg i q.1
      rw [hw, iTv_cat q.2] at e1
      cases e1
    simp only [Bool.and_eq_true, Bool.not_eq_true', beq_eq_false_iff_ne, ne_eq, Bool.and_eq_false_iff]
    refine ⟨hik, ?_⟩
    by_cases h2 : i + 1 = k
    · exact Or.inr (fun q => h1 ⟨h2, q⟩)
    · exact Or.inl h2
theorem iFr.st2 {ad : Nat → Nat → Nat} {rho : Nat → Int32} {ls ls' : iL} {lsM : Array Slot} {nL k : Nat} {v : iV} (hF : iFr (iTv ad rho) ls lsM nL) (h : iSt2 ls k v = some ls') :
    k + 1 < nL ∧ ∀ lsM' : Array Slot, lv_has lsM' nL ((k, iTv ad rho v) :: (iLv (iTv ad rho) ls).filter (fun q => !(q.1 == k) && (!(q.1 == k + 1) && !(q.1 + 1 == k && q.2.category == 2)))) → iFr (iTv ad rho) ls' lsM' nL := by
  unfold iSt2 at h
  split at h
  · cases h
  · rename_i l1 h1
    obtain ⟨hp, hg⟩ := iSt1_put h1
    obtain ⟨a1, a2⟩ := iPut_len hp
    obtain ⟨b1, b2⟩ := iPut_len h
    refine ⟨by rw [← hF.2.2.1, ← a1]; exact b2, fun lsM' hl => ⟨hl.1, hl.2.1, b1.trans (a1.trans hF.2.2.1), fun i w hw => ?_⟩⟩
    rw [iPut_get h i] at hw
    by_cases hik : i = k + 1
    · rw [if_pos hik] at hw
      cases hw
    · rw [if_neg hik, iPut_get hp i] at hw
      by_cases hi2 : i = k
      · rw [if_pos hi2] at hw
        cases hw
        rw [hi2]
        exact hl.2.2 (k, iTv ad rho v) List.mem_cons_self
      · rw [if_neg hi2] at hw
        refine hl.2.2 (i, iTv ad rho w) (List.mem_cons_of_mem _ (List.mem_filter.mpr ⟨iLv_mem hw, ?_⟩))
        have h1 : ¬ (i + 1 = k ∧ (iTv ad rho w).category = 2) := fun q => by
          have e1 := hg i q.1
          rw [hw, iTv_cat q.2] at e1
          cases e1
        simp only [Bool.and_eq_true, Bool.not_eq_true', beq_eq_false_iff_ne, ne_eq, Bool.and_eq_false_iff]
        refine ⟨hi2, hik, ?_⟩
        by_cases h2 : i + 1 = k
        · exact Or.inr (fun q => h1 ⟨h2, q⟩)
        · exact Or.inl h2
theorem iTgOK_one {pc : Nat} {o : Int} {t : Nat} (h : iTgOK pc [o] [t] = true) : (pc : Int) + o = (t : Int) := by
  simp only [iTgOK, Bool.and_true, decide_eq_true_eq] at h
  exact h
theorem iPick_out (n : Nat) : ∀ (lo x : Int) (ts : List Nat) (d : Nat), (x < lo ∨ lo + (n : Int) ≤ x) → iPick (iKeys lo n) ts d x = d := by
  induction n with
  | zero => intro lo x ts d _; rfl
  | succ n ih =>
    intro lo x ts d h
    cases ts with
    | nil => rfl
    | cons t ts =>
      have hne : ¬ x = lo := by omega
      simp only [iKeys, iPick, hne, decide_false]
      exact ih (lo + 1) x ts d (by omega)
theorem iPick_in (pc : Nat) (n : Nat) : ∀ (lo x : Int) (offs : List Int) (ts : List Nat) (d : Nat), offs.length = n → iTgOK pc offs ts = true → lo ≤ x → x < lo + (n : Int) →
    ∃ off, offs[(x - lo).toNat]? = some off ∧ (pc : Int) + off = (iPick (iKeys lo n) ts d x : Int) := by
  induction n with
  | zero => intro lo x offs ts d _ _ h1 h2; omega
  | succ n ih =>
    intro lo x offs ts d hl ht h1 h2
    cases offs with
    | nil => simp at hl
    | cons o os =>
      cases ts with
      | nil => simp [iTgOK] at ht
      | cons t ts =>
        simp only [iTgOK, Bool.and_eq_true, decide_eq_true_eq] at ht
        by_cases hx : x = lo
        · refine ⟨o, ?_, ?_⟩
          · subst hx; simp
          · simp only [iKeys, iPick, hx, decide_true]
            exact ht.1
        · obtain ⟨off, e1, e2⟩ := ih (lo + 1) x os ts d (by simpa using hl) ht.2 (by omega) (by omega)
          refine ⟨off, ?_, ?_⟩
          · have e3 : (x - lo).toNat = (x - (lo + 1)).toNat + 1 := by omega
            rw [e3, List.getElem?_cons_succ]
            exact e1
          · simp only [iKeys, iPick, hx, decide_false]
            exact e2
section iSnd
variable {p : Program} {l : Launch} {e : Env} {R : Room} {s : State} {m : MethodId} {args : Array Value} {below : List Frame} {meth : Method} {c : Code} {H : Heap} {locs : List Loc} {cells slots : Nat} {Q : State → Prop}
variable {cc : ByteArray} {ad : Nat → Nat → Nat} {rho : Nat → Int32} {nL : Nat} {lsM : Array Slot}
set_option maxHeartbeats 4000000 in
theorem snd_stp (hx : p.tables.exec = Jvm.exec) (hb : c.code = cc) {i : iI} {n : Nat} {ts : iX} {k k' : iC} (h : iStp i ts k = some k') (hd : decode cc k.1 = .ok (i, n)) (hok : iOK (k.1, i, n, ts) = true)
    (hk1 : ∀ x, i = .ldc x → ∃ own, s.vm.findClass own = some m.cls ∧ (Jvm.Cond.constant own x ts.2).before args s = true) (hk2 : ∀ x, i = .ldc2_w x → ∃ own, s.vm.findClass own = some m.cls ∧ (Jvm.Cond.constantLong own x ts.2.toInt64).before args s = true) (hF : iFr (iTv ad rho) k.2.1 lsM nL)
    (kk : ∀ lsM' : Array Slot, iFr (iTv ad rho) k'.2.1 lsM' nL → W p l e R s m args below meth c H locs cells slots Q (F0 m k'.1 lsM' (k'.2.2.map (iTv ad rho)))) :
    W p l e R s m args below meth c H locs cells slots Q (F0 m k.1 lsM (k.2.2.map (iTv ad rho))) := by
  obtain ⟨pc, ls, st⟩ := k
  dsimp only at hd hok hF ⊢
  simp only [iOK, Bool.and_eq_true, Bool.or_eq_true, decide_eq_true_eq] at hok
  obtain ⟨hn, ⟨ht, hsw⟩, hnum⟩ := hok
  obtain ⟨ts, num⟩ := ts
  dsimp only at ht hnum hk1 hk2
  unfold iStp at h
  split at h
  -- iconst, bipush, sipush, lconst
  · obtain rfl : n = 1 := hn.resolve_left (fun q => by cases q)
    cases h
    exact lv_iconst hx hb hd (of_decide_eq_true hnum).symm (kk _ hF)
  · obtain rfl : n = 2 := hn.resolve_left (fun q => by cases q)
    cases h
    exact lv_bipush hx hb hd (of_decide_eq_true hnum).symm (kk _ hF)
  · obtain rfl : n = 3 := hn.resolve_left (fun q => by cases q)
    cases h
    exact lv_sipush hx hb hd (of_decide_eq_true hnum).symm (kk _ hF)
  · obtain rfl : n = 1 := hn.resolve_left (fun q => by cases q)
    cases h
    exact lv_lconst hx hb hd rfl (kk _ hF)
  · obtain rfl : n = 2 := hn.resolve_left (fun q => by cases q)
    cases h
    obtain ⟨own, g1, g2⟩ := hk1 _ rfl
    exact lv_ldc hx hb g1 g2 hd (kk _ hF)
  · obtain rfl : n = 3 := hn.resolve_left (fun q => by cases q)
    cases h
    obtain ⟨own, g1, g2⟩ := hk2 _ rfl
    exact lv_ldc2 hx hb g1 g2 hd (kk _ hF)
  -- iload, iload_n, lload, lload_n, aload, aload_n
  · obtain rfl : n = 2 := hn.resolve_left (fun q => by cases q)
    unfold iLdI at h
    dsimp only at h
    split at h
    · rename_i hg
      cases h
      exact lv_iload hx hb hd (hF.2.2.2 _ _ hg) (kk _ hF)
    · rename_i hg
      cases h
      exact lv_iload hx hb hd (hF.2.2.2 _ _ hg) (kk _ hF)
    · cases h
  · obtain rfl : n = 1 := hn.resolve_left (fun q => by cases q)
    unfold iLdI at h
    dsimp only at h
    split at h
    · rename_i hg
      cases h
      exact lv_iload_n hx hb hd rfl (hF.2.2.2 _ _ hg) (kk _ hF)
    · rename_i hg
      cases h
      exact lv_iload_n hx hb hd rfl (hF.2.2.2 _ _ hg) (kk _ hF)
    · cases h
  · obtain rfl : n = 2 := hn.resolve_left (fun q => by cases q)
    unfold iLdL at h
    dsimp only at h
    split at h
    · rename_i hg
      cases h
      exact lv_lload hx hb hd (hF.2.2.2 _ _ hg) (kk _ hF)
    · cases h
  · obtain rfl : n = 1 := hn.resolve_left (fun q => by cases q)
    unfold iLdL at h
    dsimp only at h
    split at h
    · rename_i hg
      cases h
      exact lv_lload_n hx hb hd rfl (hF.2.2.2 _ _ hg) (kk _ hF)
    · cases h
  · obtain rfl : n = 2 := hn.resolve_left (fun q => by cases q)
    unfold iLdA at h
    dsimp only at h
    split at h
    · rename_i hg
      cases h
      exact lv_aload hx hb hd (hF.2.2.2 _ _ hg) (kk _ hF)
    · cases h
  · obtain rfl : n = 1 := hn.resolve_left (fun q => by cases q)
    unfold iLdA at h
    dsimp only at h
    split at h
    · rename_i hg
      cases h
      exact lv_aload_n hx hb hd rfl (hF.2.2.2 _ _ hg) (kk _ hF)
    · cases h
  -- istore, istore_n, lstore, lstore_n, astore, astore_n
  · obtain rfl : n = 2 := hn.resolve_left (fun q => by cases q)
    unfold iStI at h
    dsimp only at h
    split at h
    · split at h
      · cases h
      · rename_i hs
        cases h
        obtain ⟨g1, g2⟩ := hF.st1 hs
        exact lv_istore hx hb hd hF.has g1 rfl (fun l' hl' => kk l' (g2 l' hl'))
    · cases h
  · obtain rfl : n = 1 := hn.resolve_left (fun q => by cases q)
    unfold iStI at h
    dsimp only at h
    split at h
    · split at h
      · cases h
      · rename_i hs
        cases h
        obtain ⟨g1, g2⟩ := hF.st1 hs
        exact lv_istore_n hx hb hd rfl hF.has g1 rfl (fun l' hl' => kk l' (g2 l' hl'))
    · cases h
  · obtain rfl : n = 2 := hn.resolve_left (fun q => by cases q)
    unfold iStL at h
    dsimp only at h
    split at h
    · split at h
      · cases h
      · rename_i hs
        cases h
        obtain ⟨g1, g2⟩ := hF.st2 hs
        exact lv_lstore hx hb hd hF.has g1 rfl (fun l' hl' => kk l' (g2 l' hl'))
    · cases h
  · obtain rfl : n = 1 := hn.resolve_left (fun q => by cases q)
    unfold iStL at h
    dsimp only at h
    split at h
    · split at h
      · cases h
      · rename_i hs
        cases h
        obtain ⟨g1, g2⟩ := hF.st2 hs
        exact lv_lstore_n hx hb hd rfl hF.has g1 rfl (fun l' hl' => kk l' (g2 l' hl'))
    · cases h
  · obtain rfl : n = 2 := hn.resolve_left (fun q => by cases q)
    unfold iStA at h
    dsimp only at h
    split at h
    · split at h
      · cases h
      · rename_i hs
        cases h
        obtain ⟨g1, g2⟩ := hF.st1 hs
        exact lv_astore hx hb hd hF.has g1 rfl (fun l' hl' => kk l' (g2 l' hl'))
    · cases h
  · obtain rfl : n = 1 := hn.resolve_left (fun q => by cases q)
    unfold iStA at h
    dsimp only at h
    split at h
    · split at h
      · cases h
      · rename_i hs
        cases h
        obtain ⟨g1, g2⟩ := hF.st1 hs
        exact lv_astore_n hx hb hd rfl hF.has g1 rfl (fun l' hl' => kk l' (g2 l' hl'))
    · cases h
  -- iinc
  · obtain rfl : n = 3 := hn.resolve_left (fun q => by cases q)
    unfold iInc at h
    dsimp only at h
    split at h
    · rename_i hg
      split at h
      · cases h
      · rename_i hs
        cases h
        obtain ⟨g1, g2⟩ := hF.st1 hs
        obtain ⟨j, hj⟩ := List.getElem?_of_mem (iLv_mem (tv := iTv ad rho) hg)
        exact lv_iinc hx hb hd hF.has hj (by rw [of_decide_eq_true hnum]) g1 rfl (fun l' hl' => kk l' (g2 l' hl'))
    · cases h
  · obtain rfl : n = 1 := hn.resolve_left (fun q => by cases q)
    unfold iBin at h
    dsimp only at h
    split at h
    · cases h
      exact lv_iadd hx hb hd (kk _ hF)
    · cases h
  · obtain rfl : n = 1 := hn.resolve_left (fun q => by cases q)
    unfold iBin at h
    dsimp only at h
    split at h
    · cases h
      exact lv_isub hx hb hd (kk _ hF)
    · cases h
  · obtain rfl : n = 1 := hn.resolve_left (fun q => by cases q)
    unfold iBin at h
    dsimp only at h
    split at h
    · cases h
      exact lv_imul hx hb hd (kk _ hF)
    · cases h
  · obtain rfl : n = 1 := hn.resolve_left (fun q => by cases q)
    unfold iBin at h
    dsimp only at h
    split at h
    · cases h
      exact lv_iand hx hb hd (kk _ hF)
    · cases h
  · obtain rfl : n = 1 := hn.resolve_left (fun q => by cases q)
    unfold iBin at h
    dsimp only at h
    split at h
    · cases h
      exact lv_ior hx hb hd (kk _ hF)
    · cases h
  · obtain rfl : n = 1 := hn.resolve_left (fun q => by cases q)
    unfold iBin at h
    dsimp only at h
    split at h
    · cases h
      exact lv_ixor hx hb hd (kk _ hF)
    · cases h
  · obtain rfl : n = 1 := hn.resolve_left (fun q => by cases q)
    unfold iBin at h
    dsimp only at h
    split at h
    · cases h
      exact lv_ishl hx hb hd (kk _ hF)
    · cases h
  · obtain rfl : n = 1 := hn.resolve_left (fun q => by cases q)
    unfold iBin at h
    dsimp only at h
    split at h
    · cases h
      exact lv_ishr hx hb hd (kk _ hF)
    · cases h
  · obtain rfl : n = 1 := hn.resolve_left (fun q => by cases q)
    unfold iBin at h
    dsimp only at h
    split at h
    · cases h
      exact lv_iushr hx hb hd rfl (kk _ hF)
    · cases h
  · obtain rfl : n = 1 := hn.resolve_left (fun q => by cases q)
    unfold iDiv at h
    dsimp only at h
    split at h
    · split at h
      · cases h
      · rename_i hne
        cases h
        exact lv_idiv hx hb hd (of_decide_eq_false hne) (kk _ hF)
    · cases h
  · obtain rfl : n = 1 := hn.resolve_left (fun q => by cases q)
    unfold iDiv at h
    dsimp only at h
    split at h
    · split at h
      · cases h
      · rename_i hne
        cases h
        exact lv_irem hx hb hd (of_decide_eq_false hne) (kk _ hF)
    · cases h
  · obtain rfl : n = 1 := hn.resolve_left (fun q => by cases q)
    unfold iNeg at h
    dsimp only at h
    split at h
    · cases h
      exact lv_ineg hx hb hd (kk _ hF)
    · cases h
  · obtain rfl : n = 1 := hn.resolve_left (fun q => by cases q)
    unfold iI2L at h
    dsimp only at h
    split at h
    · cases h
      exact lv_i2l hx hb hd rfl (kk _ hF)
    · cases h
  · obtain rfl : n = 1 := hn.resolve_left (fun q => by cases q)
    unfold iLSub at h
    dsimp only at h
    split at h
    · cases h
      exact lv_lsub hx hb hd (kk _ hF)
    · cases h
  · obtain rfl : n = 1 := hn.resolve_left (fun q => by cases q)
    unfold iLCmp at h
    dsimp only at h
    split at h
    · cases h
      exact W.lcmp hx hb hd (kk _ hF)
    · cases h
  -- dup, pop, dup_x1, dup_x2, dup2
  · obtain rfl : n = 1 := hn.resolve_left (fun q => by cases q)
    unfold iDup at h
    dsimp only at h
    split at h
    · split at h
      · rename_i hc
        cases h
        exact lv_dup hx hb hd (iTv_cat1 hc) (kk _ hF)
      · cases h
    · cases h
  · obtain rfl : n = 1 := hn.resolve_left (fun q => by cases q)
    unfold iPop at h
    dsimp only at h
    split at h
    · split at h
      · rename_i hc
        cases h
        exact lv_pop hx hb hd (iTv_cat1 hc) (kk _ hF)
      · cases h
    · cases h
  · obtain rfl : n = 1 := hn.resolve_left (fun q => by cases q)
    unfold iDupX1 at h
    dsimp only at h
    split at h
    · split at h
      · rename_i hc
        cases h
        rw [Bool.and_eq_true] at hc
        exact lv_dup_x1 hx hb hd (iTv_cat1 hc.1) (iTv_cat1 hc.2) (kk _ hF)
      · cases h
    · cases h
  · obtain rfl : n = 1 := hn.resolve_left (fun q => by cases q)
    unfold iDupX2 at h
    dsimp only at h
    split at h
    · split at h
      · rename_i hc
        cases h
        rw [Bool.and_eq_true, Bool.and_eq_true] at hc
        exact lv_dup_x2 hx hb hd (iTv_cat1 hc.1) (iTv_cat1 hc.2.1) (iTv_cat1 hc.2.2) (kk _ hF)
      · cases h
    · cases h
  · obtain rfl : n = 1 := hn.resolve_left (fun q => by cases q)
    unfold iDup2 at h
    dsimp only at h
    split at h
    · split at h
      · rename_i hc
        cases h
        rw [Bool.and_eq_true] at hc
        exact lv_dup2_11 hx hb hd (iTv_cat1 hc.1) (iTv_cat1 hc.2) (kk _ hF)
      · cases h
    · cases h
  -- branches
  · rename_i kc off
    obtain rfl : n = 3 := hn.resolve_left (fun q => by cases q)
    unfold iBr2 at h
    dsimp only at h
    split at h
    · rename_i t r b a r2
      have ht' := iTgOK_one ht
      cases kc with
      | eq => exact lv_icmp_eq hx hb hd ht' (fun q => by simp only [iCmp, q, decide_true] at h; cases h; exact kk _ hF) (fun q => by simp only [iCmp, q, decide_false] at h; cases h; exact kk _ hF)
      | ne => exact lv_icmp_ne hx hb hd ht' (fun q => by have q' : decide (a = b) = false := decide_eq_false q; simp only [iCmp, q', Bool.not_false] at h; cases h; exact kk _ hF) (fun q => by have q' : decide (a = b) = true := decide_eq_true q; simp only [iCmp, q', Bool.not_true] at h; cases h; exact kk _ hF)
      | lt => exact lv_icmp_lt hx hb hd ht' (fun q => by simp only [iCmp, q, decide_true] at h; cases h; exact kk _ hF) (fun q => by simp only [iCmp, q, decide_false] at h; cases h; exact kk _ hF)
      | ge => exact lv_icmp_ge hx hb hd ht' (fun q => by have q' : decide (a < b) = false := decide_eq_false (Int32.not_lt.mpr q); simp only [iCmp, q', Bool.not_false] at h; cases h; exact kk _ hF) (fun q => by have q' : decide (a < b) = true := decide_eq_true (Int32.not_le.mp q); simp only [iCmp, q', Bool.not_true] at h; cases h; exact kk _ hF)
      | gt => exact lv_icmp_gt hx hb hd ht' (fun q => by simp only [iCmp, q, decide_true] at h; cases h; exact kk _ hF) (fun q => by simp only [iCmp, q, decide_false] at h; cases h; exact kk _ hF)
      | le => exact lv_icmp_le hx hb hd ht' (fun q => by have q' : decide (b < a) = false := decide_eq_false (Int32.not_lt.mpr q); simp only [iCmp, q', Bool.not_false] at h; cases h; exact kk _ hF) (fun q => by have q' : decide (b < a) = true := decide_eq_true (Int32.not_le.mp q); simp only [iCmp, q', Bool.not_true] at h; cases h; exact kk _ hF)
    · cases h
  · rename_i kc off
    obtain rfl : n = 3 := hn.resolve_left (fun q => by cases q)
    unfold iBr1 at h
    dsimp only at h
    split at h
    · rename_i t r a r2
      have ht' := iTgOK_one ht
      cases kc with
      | eq => exact lv_if_eq hx hb hd ht' (fun q => by simp only [iCmp, q, decide_true] at h; cases h; exact kk _ hF) (fun q => by simp only [iCmp, q, decide_false] at h; cases h; exact kk _ hF)
      | ne => exact lv_if_ne hx hb hd ht' (fun q => by have q' : decide (a = 0) = false := decide_eq_false q; simp only [iCmp, q', Bool.not_false] at h; cases h; exact kk _ hF) (fun q => by have q' : decide (a = 0) = true := decide_eq_true q; simp only [iCmp, q', Bool.not_true] at h; cases h; exact kk _ hF)
      | lt => exact lv_if_lt hx hb hd ht' (fun q => by simp only [iCmp, q, decide_true] at h; cases h; exact kk _ hF) (fun q => by simp only [iCmp, q, decide_false] at h; cases h; exact kk _ hF)
      | ge => exact lv_if_ge hx hb hd ht' (fun q => by have q' : decide (a < 0) = false := decide_eq_false (Int32.not_lt.mpr q); simp only [iCmp, q', Bool.not_false] at h; cases h; exact kk _ hF) (fun q => by have q' : decide (a < 0) = true := decide_eq_true (Int32.not_le.mp q); simp only [iCmp, q', Bool.not_true] at h; cases h; exact kk _ hF)
      | gt => exact lv_if_gt hx hb hd ht' (fun q => by simp only [iCmp, q, decide_true] at h; cases h; exact kk _ hF) (fun q => by simp only [iCmp, q, decide_false] at h; cases h; exact kk _ hF)
      | le => exact lv_if_le hx hb hd ht' (fun q => by have q' : decide (0 < a) = false := decide_eq_false (Int32.not_lt.mpr q); simp only [iCmp, q', Bool.not_false] at h; cases h; exact kk _ hF) (fun q => by have q' : decide (0 < a) = true := decide_eq_true (Int32.not_le.mp q); simp only [iCmp, q', Bool.not_true] at h; cases h; exact kk _ hF)
    · cases h
  · obtain rfl : n = 3 := hn.resolve_left (fun q => by cases q)
    unfold iGoto at h
    dsimp only at h
    split at h
    · cases h
      exact lv_goto hx hb hd (iTgOK_one ht) (kk _ hF)
    · cases h
  -- tableswitch
  · rename_i dflt lo hi offs
    unfold iSw at h
    dsimp only at h
    split at h
    · rename_i d tr x r
      cases h
      simp only [iSwOK, decide_eq_true_eq] at hsw
      have ht2 : (pc : Int) + dflt = (d : Int) ∧ iTgOK pc offs.toList tr = true := by
        simp only [iOffs, iTgOK, Bool.and_eq_true, decide_eq_true_eq] at ht
        exact ht
      by_cases hout : x.toInt < lo ∨ hi < x.toInt
      · have e1 := iPick_out offs.size lo x.toInt tr d (by omega)
        dsimp only at kk
        rw [e1] at kk
        exact lv_tableOut hx hb hd hout ht2.1 (kk _ hF)
      · obtain ⟨off, e1, e2⟩ := iPick_in pc offs.size lo x.toInt offs.toList tr d (by simp) ht2.2 (by omega) (by omega)
        exact lv_tableIn hx hb hd (fun q => hout (Or.inl q)) (fun q => hout (Or.inr q)) (by rw [← Array.getElem?_toList]; exact e1) e2 (kk _ hF)
    · cases h
  · cases h
end iSnd
end
section
/-! Running methods: fuel for steps, depth for calls. -/
def iInv : iI → Option Nat
  | .invokevirtual k => some k
  | .invokespecial k => some k
  | .invokestatic k => some k
  | _ => none
def iIsB (x : Int32) : Bool := decide (x = 0) || decide (x = 1)
/-- kinds of answers: 0 none, 1 int, 2 boolean, 3 reference -/
def iRet (rk : Nat) (i : iI) (st : List iV) : Option (Option iV) := match i with
  | .return_ => match rk, st with
    | 0, [] => some none
    | _, _ => none
  | .ireturn => match rk, st with
    | 1, [Sum.inl x] => some (some (vI x))
    | 2, [Sum.inl x] => match iIsB x with
      | true => some (some (vI x))
      | false => none
    | _, _ => none
  | .areturn => match rk, st with
    | 3, [Sum.inr (Sum.inr (Sum.inl (some (t, j))))] => some (some (vR t j))
    | _, _ => none
  | _ => none
def iOkS : List iV → Nat → Bool
  | [], _ => true
  | _ :: _, 0 => false
  | v :: r, n + 1 => iCat1 v && iOkS r n
def iEntry : List iV → Nat → Option iL
  | [], n => some (List.replicate n none)
  | _ :: _, 0 => none
  | v :: r, n + 1 => match iCat1 v with
    | false => none
    | true => match iEntry r n with
      | none => none
      | some ls => some (some v :: ls)
section iRunS
variable {Hp : Type} (hop : Nat → iI → List iV → Hp → Option (List iV × Hp)) (tg : Nat → Nat → Option (Nat × Nat)) (mth : Nat → Option (Nat × Nat × Nat × List iE))
def iOne (call : Nat → List iV → Hp → Option (Option iV × Hp)) (own : Nat) (i : iI) (ts : iX) (c : iC) (h : Hp) : Option (iC × Hp) := match iStp i ts c with
  | some c' => some (c', h)
  | none => match hop own i c.2.2 h with
    | some (st', h') => some ((c.1 + iLen i, c.2.1, st'), h')
    | none => match iInv i with
      | none => none
      | some k => match tg own k with
        | none => none
        | some (j, n) => match iOkS (c.2.2.drop n) 8 with
          | false => none
          | true => match call j (c.2.2.take n).reverse h with
            | none => none
            | some (r, h') => some ((c.1 + 3, c.2.1, r.toList ++ c.2.2.drop n), h')
def iRun (call : Nat → List iV → Hp → Option (Option iV × Hp)) (own rk : Nat) (cd : List iE) : Nat → iC → Hp → Option (Option iV × Hp)
  | 0, _, _ => none
  | f + 1, c, h => match iLk cd c.1 with
    | none => none
    | some (i, _, ts) => match iRet rk i c.2.2 with
      | some r => some (r, h)
      | none => match iOne hop tg call own i ts c h with
        | none => none
        | some (c', h') => iRun call own rk cd f c' h'
def iMet (F : Nat) : Nat → Nat → List iV → Hp → Option (Option iV × Hp)
  | 0, _, _, _ => none
  | d + 1, j, as, h => match j with
    | 0 => match as with
      | [Sum.inr (Sum.inr (Sum.inl (some _)))] => some (none, h)
      | _ => none
    | k + 1 => match mth (k + 1) with
      | none => none
      | some (own, rk, nL, cd) => match iEntry as nL with
        | none => none
        | some ls => iRun hop tg (iMet F d) own rk cd F (0, ls, []) h
/-- some steps without a call -/
def iSteps (own rk : Nat) (cd : List iE) : Nat → iC → Hp → Option (iC × Hp)
  | 0, c, h => some (c, h)
  | k + 1, c, h => match iLk cd c.1 with
    | none => none
    | some (i, _, ts) => match iRet rk i c.2.2 with
      | some _ => none
      | none => match iOne hop tg (fun _ _ _ => none) own i ts c h with
        | none => none
        | some (c', h') => iSteps own rk cd k c' h'
def Ev (d j : Nat) (as : List iV) (h : Hp) (o : Option iV × Hp) : Prop := ∃ F, iMet hop tg mth F d j as h = some o
def EvB (d own rk : Nat) (cd : List iE) (c : iC) (h : Hp) (o : Option iV × Hp) : Prop := ∃ F f, iRun hop tg (iMet hop tg mth F d) own rk cd f c h = some o
variable {hop tg mth}
theorem iOne_mono {call call' : Nat → List iV → Hp → Option (Option iV × Hp)} (hc : ∀ j as h o, call j as h = some o → call' j as h = some o) {own : Nat} {i : iI} {ts : iX} {c : iC} {h : Hp} {o : iC × Hp} (hh : iOne hop tg call own i ts c h = some o) : iOne hop tg call' own i ts c h = some o := by
  unfold iOne at hh ⊢
  split
  · rename_i q; rw [q] at hh; exact hh
  · rename_i q1; rw [q1] at hh; dsimp only at hh
    split
    · rename_i q; rw [q] at hh; exact hh
    · rename_i q2; rw [q2] at hh; dsimp only at hh
      split
      · rename_i q; rw [q] at hh; exact hh
      · rename_i q3; rw [q3] at hh; dsimp only at hh
        split
        · rename_i q; rw [q] at hh; exact hh
        · rename_i q4; rw [q4] at hh; dsimp only at hh
          split
          · rename_i q; rw [q] at hh; exact hh
          · rename_i q5; rw [q5] at hh; dsimp only at hh
            split at hh
            · cases hh
            · rename_i q6
              rw [hc _ _ _ _ q6]
              exact hh
theorem iRun_mono {call call' : Nat → List iV → Hp → Option (Option iV × Hp)} (hc : ∀ j as h o, call j as h = some o → call' j as h = some o) {own rk : Nat} {cd : List iE} {f : Nat} : ∀ {f' : Nat} {c : iC} {h : Hp} {o : Option iV × Hp}, f ≤ f' → iRun hop tg call own rk cd f c h = some o → iRun hop tg call' own rk cd f' c h = some o := by
  induction f with
  | zero => intro f' c h o _ hh; cases hh
  | succ f ih =>
    intro f' c h o hf hh
    obtain ⟨g, rfl⟩ : ∃ g, f' = g + 1 := ⟨f' - 1, by omega⟩
    unfold iRun at hh ⊢
    split
    · rename_i q; rw [q] at hh; cases hh
    · rename_i q; rw [q] at hh; dsimp only at hh
      split
      · rename_i q2; rw [q2] at hh; exact hh
      · rename_i q2; rw [q2] at hh; dsimp only at hh
        split at hh
        · cases hh
        · rename_i q3
          rw [iOne_mono hc q3]
          exact ih (by omega) hh
theorem iMet_monoF {F F' : Nat} (hF : F ≤ F') {d : Nat} : ∀ {j : Nat} {as : List iV} {h : Hp} {o : Option iV × Hp}, iMet hop tg mth F d j as h = some o → iMet hop tg mth F' d j as h = some o := by
  induction d with
  | zero => intro j as h o hh; cases hh
  | succ d ih =>
    intro j as h o hh
    unfold iMet at hh ⊢
    split
    · exact hh
    · dsimp only at hh
      split
      · rename_i q; rw [q] at hh; cases hh
      · rename_i q; rw [q] at hh; dsimp only at hh
        split
        · rename_i q2; rw [q2] at hh; cases hh
        · rename_i q2; rw [q2] at hh; dsimp only at hh
          exact iRun_mono (fun j as h o => ih) hF hh
theorem iMet_monoD {F : Nat} {d : Nat} : ∀ {d' j : Nat} {as : List iV} {h : Hp} {o : Option iV × Hp}, d ≤ d' → iMet hop tg mth F d j as h = some o → iMet hop tg mth F d' j as h = some o := by
  induction d with
  | zero => intro d' j as h o _ hh; cases hh
  | succ d ih =>
    intro d' j as h o hd hh
    obtain ⟨g, rfl⟩ : ∃ g, d' = g + 1 := ⟨d' - 1, by omega⟩
    unfold iMet at hh ⊢
    split
    · exact hh
    · dsimp only at hh
      split
      · rename_i q; rw [q] at hh; cases hh
      · rename_i q; rw [q] at hh; dsimp only at hh
        split
        · rename_i q2; rw [q2] at hh; cases hh
        · rename_i q2; rw [q2] at hh; dsimp only at hh
          exact iRun_mono (fun j as h o => ih (by omega)) (Nat.le_refl _) hh
theorem Ev.mono {d d' j : Nat} {as : List iV} {h : Hp} {o : Option iV × Hp} (hE : Ev hop tg mth d j as h o) (hd : d ≤ d') : Ev hop tg mth d' j as h o := by
  obtain ⟨F, hF⟩ := hE
  exact ⟨F, iMet_monoD hd hF⟩
theorem ev_meth {d j : Nat} {own rk nL : Nat} {cd : List iE} {as : List iV} {ls : iL} {h : Hp} {o : Option iV × Hp} (hj : mth (j + 1) = some (own, rk, nL, cd)) (he : iEntry as nL = some ls) (hB : EvB hop tg mth d own rk cd (0, ls, []) h o) : Ev hop tg mth (d + 1) (j + 1) as h o := by
  obtain ⟨F, f, hr⟩ := hB
  refine ⟨F + f, ?_⟩
  unfold iMet
  dsimp only
  rw [hj]
  dsimp only
  rw [he]
  exact iRun_mono (fun j as h o => iMet_monoF (by omega)) (by omega) hr
section iRules
variable {d own rk : Nat} {cd : List iE} {pc : Nat} {ls : iL} {st : List iV} {h h' : Hp} {o : Option iV × Hp}
theorem ev_one {c c' : iC} {i : iI} {n : Nat} {ts : iX} (hl : iLk cd c.1 = some (i, n, ts)) (hr : iRet rk i c.2.2 = none) (h1 : iOne hop tg (fun _ _ _ => none) own i ts c h = some (c', h')) (hB : EvB hop tg mth d own rk cd c' h' o) : EvB hop tg mth d own rk cd c h o := by
  obtain ⟨F, f, hh⟩ := hB
  refine ⟨F, f + 1, ?_⟩
  unfold iRun
  rw [hl]
  dsimp only
  rw [hr]
  dsimp only
  rw [iOne_mono (call' := iMet hop tg mth F d) (fun j as h o hc => by cases hc) h1]
  exact hh
theorem ev_steps (k : Nat) {c c' : iC} (hs : iSteps hop tg own rk cd k c h = some (c', h')) (hB : EvB hop tg mth d own rk cd c' h' o) : EvB hop tg mth d own rk cd c h o := by
  induction k generalizing c h with
  | zero => cases hs; exact hB
  | succ k ih =>
    unfold iSteps at hs
    split at hs
    · cases hs
    · rename_i q
      split at hs
      · cases hs
      · rename_i q2
        split at hs
        · cases hs
        · rename_i q3
          exact ev_one q q2 q3 (ih hs)
theorem ev_ret {i : iI} {n : Nat} {ts : iX} {r : Option iV} (hl : iLk cd pc = some (i, n, ts)) (hr : iRet rk i st = some r) : EvB hop tg mth d own rk cd (pc, ls, st) h (r, h) := by
  refine ⟨0, 1, ?_⟩
  unfold iRun
  dsimp only
  rw [hl]
  dsimp only
  rw [hr]
theorem ev_call {i : iI} {n k j nn : Nat} {ts : iX} {r : Option iV} {as : List iV} {rest : List iV} (hl : iLk cd pc = some (i, nn, ts)) (hr : iRet rk i st = none) (h1 : iStp i ts (pc, ls, st) = none) (h2 : hop own i st h = none) (h3 : iInv i = some k) (h4 : tg own k = some (j, n)) (h5 : iOkS (st.drop n) 8 = true)
    (ha : (st.take n).reverse = as) (hd : r.toList ++ st.drop n = rest) (hE : Ev hop tg mth d j as h (r, h')) (hB : EvB hop tg mth d own rk cd (pc + 3, ls, rest) h' o) : EvB hop tg mth d own rk cd (pc, ls, st) h o := by
  obtain ⟨F, f, hh⟩ := hB
  obtain ⟨F2, hE⟩ := hE
  subst ha; subst hd
  refine ⟨F + F2, f + 1, ?_⟩
  unfold iRun
  dsimp only
  rw [hl]
  dsimp only
  rw [hr]
  dsimp only
  have e1 : iOne hop tg (iMet hop tg mth (F + F2) d) own i ts (pc, ls, st) h = some ((pc + 3, ls, r.toList ++ st.drop n), h') := by
    unfold iOne
    rw [h1]
    dsimp only
    rw [h2]
    dsimp only
    rw [h3]
    dsimp only
    rw [h4]
    dsimp only
    rw [h5]
    dsimp only
    rw [iMet_monoF (Nat.le_add_left F2 F) hE]
  rw [e1]
  exact iRun_mono (fun j as h o => iMet_monoF (by omega)) (Nat.le_refl _) hh
theorem ev_stp {c c' : iC} {i : iI} {n : Nat} {ts : iX} (hl : iLk cd c.1 = some (i, n, ts)) (hr : iRet rk i c.2.2 = none) (h1 : iStp i ts c = some c') (hB : EvB hop tg mth d own rk cd c' h o) : EvB hop tg mth d own rk cd c h o :=
  ev_one hl hr (by unfold iOne; rw [h1]) hB
variable {a b x : Int32} {off : Int} {n t : Nat}
theorem ev_icmp {k : Jvm.ClassFile.Cond} (hl : iLk cd pc = some (.if_icmp k off, n, [t], x)) (hT : iCmp k a b = true → EvB hop tg mth d own rk cd (t, ls, st) h o) (hF : iCmp k a b = false → EvB hop tg mth d own rk cd (pc + 3, ls, st) h o) : EvB hop tg mth d own rk cd (pc, ls, vI b :: vI a :: st) h o := by
  cases hc : iCmp k a b with
  | true => exact ev_stp (c' := (t, ls, st)) hl rfl (by simp only [iStp, iBr2, hc]) (hT hc)
  | false => exact ev_stp (c' := (pc + 3, ls, st)) hl rfl (by simp only [iStp, iBr2, hc]) (hF hc)
theorem ev_ifc {k : Jvm.ClassFile.Cond} (hl : iLk cd pc = some (.ifCond k off, n, [t], x)) (hT : iCmp k a 0 = true → EvB hop tg mth d own rk cd (t, ls, st) h o) (hF : iCmp k a 0 = false → EvB hop tg mth d own rk cd (pc + 3, ls, st) h o) : EvB hop tg mth d own rk cd (pc, ls, vI a :: st) h o := by
  cases hc : iCmp k a 0 with
  | true => exact ev_stp (c' := (t, ls, st)) hl rfl (by simp only [iStp, iBr1, hc]) (hT hc)
  | false => exact ev_stp (c' := (pc + 3, ls, st)) hl rfl (by simp only [iStp, iBr1, hc]) (hF hc)
theorem ev_icmp_eq (hl : iLk cd pc = some (.if_icmp .eq off, n, [t], x)) (hP : a = b → EvB hop tg mth d own rk cd (t, ls, st) h o) (hN : ¬ a = b → EvB hop tg mth d own rk cd (pc + 3, ls, st) h o) : EvB hop tg mth d own rk cd (pc, ls, vI b :: vI a :: st) h o :=
  ev_icmp hl (fun q => hP (of_decide_eq_true q)) (fun q => hN (of_decide_eq_false q))
theorem ev_if_eq (hl : iLk cd pc = some (.ifCond .eq off, n, [t], x)) (hP : a = 0 → EvB hop tg mth d own rk cd (t, ls, st) h o) (hN : ¬ a = 0 → EvB hop tg mth d own rk cd (pc + 3, ls, st) h o) : EvB hop tg mth d own rk cd (pc, ls, vI a :: st) h o :=
  ev_ifc hl (fun q => hP (of_decide_eq_true q)) (fun q => hN (of_decide_eq_false q))
theorem ev_icmp_ne (hl : iLk cd pc = some (.if_icmp .ne off, n, [t], x)) (hP : a = b → EvB hop tg mth d own rk cd (pc + 3, ls, st) h o) (hN : ¬ a = b → EvB hop tg mth d own rk cd (t, ls, st) h o) : EvB hop tg mth d own rk cd (pc, ls, vI b :: vI a :: st) h o :=
  ev_icmp hl (fun q => hN (of_decide_eq_false (by simpa [iCmp] using q))) (fun q => hP (of_decide_eq_true (by simpa [iCmp] using q)))
theorem ev_if_ne (hl : iLk cd pc = some (.ifCond .ne off, n, [t], x)) (hP : a = 0 → EvB hop tg mth d own rk cd (pc + 3, ls, st) h o) (hN : ¬ a = 0 → EvB hop tg mth d own rk cd (t, ls, st) h o) : EvB hop tg mth d own rk cd (pc, ls, vI a :: st) h o :=
  ev_ifc hl (fun q => hN (of_decide_eq_false (by simpa [iCmp] using q))) (fun q => hP (of_decide_eq_true (by simpa [iCmp] using q)))
theorem ev_icmp_lt (hl : iLk cd pc = some (.if_icmp .lt off, n, [t], x)) (hP : a < b → EvB hop tg mth d own rk cd (t, ls, st) h o) (hN : ¬ a < b → EvB hop tg mth d own rk cd (pc + 3, ls, st) h o) : EvB hop tg mth d own rk cd (pc, ls, vI b :: vI a :: st) h o :=
  ev_icmp hl (fun q => hP (of_decide_eq_true q)) (fun q => hN (of_decide_eq_false q))
theorem ev_if_lt (hl : iLk cd pc = some (.ifCond .lt off, n, [t], x)) (hP : a < 0 → EvB hop tg mth d own rk cd (t, ls, st) h o) (hN : ¬ a < 0 → EvB hop tg mth d own rk cd (pc + 3, ls, st) h o) : EvB hop tg mth d own rk cd (pc, ls, vI a :: st) h o :=
  ev_ifc hl (fun q => hP (of_decide_eq_true q)) (fun q => hN (of_decide_eq_false q))
theorem ev_icmp_ge (hl : iLk cd pc = some (.if_icmp .ge off, n, [t], x)) (hP : a < b → EvB hop tg mth d own rk cd (pc + 3, ls, st) h o) (hN : ¬ a < b → EvB hop tg mth d own rk cd (t, ls, st) h o) : EvB hop tg mth d own rk cd (pc, ls, vI b :: vI a :: st) h o :=
  ev_icmp hl (fun q => hN (of_decide_eq_false (by simpa [iCmp] using q))) (fun q => hP (of_decide_eq_true (by simpa [iCmp] using q)))
theorem ev_if_ge (hl : iLk cd pc = some (.ifCond .ge off, n, [t], x)) (hP : a < 0 → EvB hop tg mth d own rk cd (pc + 3, ls, st) h o) (hN : ¬ a < 0 → EvB hop tg mth d own rk cd (t, ls, st) h o) : EvB hop tg mth d own rk cd (pc, ls, vI a :: st) h o :=
  ev_ifc hl (fun q => hN (of_decide_eq_false (by simpa [iCmp] using q))) (fun q => hP (of_decide_eq_true (by simpa [iCmp] using q)))
theorem ev_icmp_gt (hl : iLk cd pc = some (.if_icmp .gt off, n, [t], x)) (hP : b < a → EvB hop tg mth d own rk cd (t, ls, st) h o) (hN : ¬ b < a → EvB hop tg mth d own rk cd (pc + 3, ls, st) h o) : EvB hop tg mth d own rk cd (pc, ls, vI b :: vI a :: st) h o :=
  ev_icmp hl (fun q => hP (of_decide_eq_true q)) (fun q => hN (of_decide_eq_false q))
theorem ev_if_gt (hl : iLk cd pc = some (.ifCond .gt off, n, [t], x)) (hP : 0 < a → EvB hop tg mth d own rk cd (t, ls, st) h o) (hN : ¬ 0 < a → EvB hop tg mth d own rk cd (pc + 3, ls, st) h o) : EvB hop tg mth d own rk cd (pc, ls, vI a :: st) h o :=
  ev_ifc hl (fun q => hP (of_decide_eq_true q)) (fun q => hN (of_decide_eq_false q))
theorem ev_icmp_le (hl : iLk cd pc = some (.if_icmp .le off, n, [t], x)) (hP : b < a → EvB hop tg mth d own rk cd (pc + 3, ls, st) h o) (hN : ¬ b < a → EvB hop tg mth d own rk cd (t, ls, st) h o) : EvB hop tg mth d own rk cd (pc, ls, vI b :: vI a :: st) h o :=
  ev_icmp hl (fun q => hN (of_decide_eq_false (by simpa [iCmp] using q))) (fun q => hP (of_decide_eq_true (by simpa [iCmp] using q)))
theorem ev_if_le (hl : iLk cd pc = some (.ifCond .le off, n, [t], x)) (hP : 0 < a → EvB hop tg mth d own rk cd (pc + 3, ls, st) h o) (hN : ¬ 0 < a → EvB hop tg mth d own rk cd (t, ls, st) h o) : EvB hop tg mth d own rk cd (pc, ls, vI a :: st) h o :=
  ev_ifc hl (fun q => hN (of_decide_eq_false (by simpa [iCmp] using q))) (fun q => hP (of_decide_eq_true (by simpa [iCmp] using q)))
end iRules
end iRunS
end
section
/-! The walk of a body: from the interpreter's run to the machine; what the heap and the calls do is a premise. -/
section iWalk
variable {Hp : Type} {hop : Nat → iI → List iV → Hp → Option (List iV × Hp)} {tg : Nat → Nat → Option (Nat × Nat)} {call : Nat → List iV → Hp → Option (Option iV × Hp)}
variable {p : Program} {l : Launch} {e : Env} {R : Room} {s : State} {m : MethodId} {args : Array Value} {below : List Frame} {meth : Method} {c : Code} {Q : State → Prop}
variable {cc : ByteArray} {ad : Nat → Nat → Nat} {rho : Nat → Int32} {nL own rk : Nat} {cd : List iE} {ST : Hp → Heap → List Loc → Prop} {vk : Hp → iC → Prop} {cf : Hp → Nat × Nat}
set_option maxHeartbeats 1000000 in
theorem snd_run (o : Option iV × Hp) (hx : p.tables.exec = Jvm.exec) (hb : c.code = cc)
    (hfetch : ∀ q ∈ cd, decode cc q.1 = .ok (q.2.1, q.2.2.1) ∧ iOK q = true)
    (hk1 : ∀ q ∈ cd, ∀ x, q.2.1 = .ldc x → ∃ own, s.vm.findClass own = some m.cls ∧ (Jvm.Cond.constant own x q.2.2.2.2).before args s = true) (hk2 : ∀ q ∈ cd, ∀ x, q.2.1 = .ldc2_w x → ∃ own, s.vm.findClass own = some m.cls ∧ (Jvm.Cond.constantLong own x q.2.2.2.2.toInt64).before args s = true)
    (hvk : ∀ (i : iI) (ts : iX) (k k' : iC) (h : Hp), iStp i ts k = some k' → vk h k → vk h k')
    (hhop : ∀ (i : iI) (n : Nat) (k : iC) (st' : List iV) (h h' : Hp), hop own i k.2.2 h = some (st', h') → decode cc k.1 = .ok (i, n) → (iIsSw i = true ∨ n = iLen i) → vk h k → (∃ f, iRun hop tg call own rk cd f (k.1 + iLen i, k.2.1, st') h' = some o) → vk h' (k.1 + iLen i, k.2.1, st') ∧ ∀ (H : Heap) (locs : List Loc) (lsM : Array Slot), lsM.size = nL → ST h H locs →
      (∀ (H1 : Heap) (locs1 : List Loc), ST h' H1 locs1 → W p l e R s m args below meth c H1 locs1 (cf h').1 (cf h').2 Q (F0 m (k.1 + iLen i) lsM (st'.map (iTv ad rho)))) → W p l e R s m args below meth c H locs (cf h).1 (cf h).2 Q (F0 m k.1 lsM (k.2.2.map (iTv ad rho))))
    (hcall : ∀ (i : iI) (n kx j nn : Nat) (k : iC) (r : Option iV) (h h' : Hp), iInv i = some kx → tg own kx = some (j, nn) → iOkS (k.2.2.drop nn) 8 = true → call j (k.2.2.take nn).reverse h = some (r, h') → decode cc k.1 = .ok (i, n) → (iIsSw i = true ∨ n = iLen i) → vk h k → (∃ f, iRun hop tg call own rk cd f (k.1 + 3, k.2.1, r.toList ++ k.2.2.drop nn) h' = some o) →
      vk h' (k.1 + 3, k.2.1, r.toList ++ k.2.2.drop nn) ∧ ∀ (H : Heap) (locs : List Loc) (lsM : Array Slot), lsM.size = nL → ST h H locs →
      (∀ (H1 : Heap) (locs1 : List Loc), ST h' H1 locs1 → W p l e R s m args below meth c H1 locs1 (cf h').1 (cf h').2 Q (F0 m (k.1 + 3) lsM ((r.toList ++ k.2.2.drop nn).map (iTv ad rho)))) → W p l e R s m args below meth c H locs (cf h).1 (cf h).2 Q (F0 m k.1 lsM (k.2.2.map (iTv ad rho))))
    (hret : ∀ (i : iI) (n : Nat) (k : iC) (h : Hp) (r : Option iV), o = (r, h) → iRet rk i k.2.2 = some r → decode cc k.1 = .ok (i, n) → (iIsSw i = true ∨ n = iLen i) → vk h k → ∀ (H : Heap) (locs : List Loc) (lsM : Array Slot), ST h H locs → W p l e R s m args below meth c H locs (cf h).1 (cf h).2 Q (F0 m k.1 lsM (k.2.2.map (iTv ad rho)))) :
    ∀ (f : Nat) (k : iC) (h : Hp), iRun hop tg call own rk cd f k h = some o → vk h k → ∀ (H : Heap) (locs : List Loc) (lsM : Array Slot), ST h H locs → iFr (iTv ad rho) k.2.1 lsM nL → W p l e R s m args below meth c H locs (cf h).1 (cf h).2 Q (F0 m k.1 lsM (k.2.2.map (iTv ad rho))) := by
  intro f
  induction f with
  | zero => intro k h hh; cases hh
  | succ f ih =>
    intro k h hh hv H locs lsM hS hF
    unfold iRun at hh
    split at hh
    · cases hh
    · rename_i i n ts hl
      obtain ⟨hd, hok⟩ := hfetch _ (iLk_mem hl)
      have hn : iIsSw i = true ∨ n = iLen i := by
        simp only [iOK, Bool.and_eq_true, Bool.or_eq_true, decide_eq_true_eq] at hok
        exact hok.1
      split at hh
      · rename_i r hr
        exact hret i n k h r (Option.some.inj hh).symm hr hd hn hv H locs lsM hS
      · rename_i hr
        split at hh
        · cases hh
        · rename_i k' h' h1
          unfold iOne at h1
          split at h1
          · rename_i k2 hs
            cases h1
            exact snd_stp hx hb hs hd hok (hk1 _ (iLk_mem hl)) (hk2 _ (iLk_mem hl)) hF (fun lsM' hF' => ih _ _ hh (hvk _ _ _ _ _ hs hv) H locs lsM' hS hF')
          · rename_i hs
            split at h1
            · rename_i st' h2 hho
              cases h1
              obtain ⟨hv', hw⟩ := hhop i n k st' h h' hho hd hn hv ⟨f, hh⟩
              exact hw H locs lsM hF.1 hS (fun H1 locs1 hS1 => ih _ _ hh hv' H1 locs1 lsM hS1 hF)
            · split at h1
              · cases h1
              · rename_i kx hi
                split at h1
                · cases h1
                · rename_i j nn ht
                  split at h1
                  · cases h1
                  · rename_i hok8
                    split at h1
                    · cases h1
                    · rename_i r h2 hc
                      cases h1
                      obtain ⟨hv', hw⟩ := hcall i n kx j nn k r h h' hi ht hok8 hc hd hn hv ⟨f, hh⟩
                      exact hw H locs lsM hF.1 hS (fun H1 locs1 hS1 => ih _ _ hh hv' H1 locs1 lsM hS1 hF)
end iWalk
/-- entry -/
theorem iEntry_fr {tv : iV → Value} (hc : ∀ v, iCat1 v = true → (tv v).category = 1) : ∀ {as : List iV} {n : Nat} {ls : iL}, iEntry as n = some ls →
    (lg_sl (as.map tv)).length ≤ n ∧ ls.length = n ∧ ∀ (k i : Nat) (v : iV), iGet ls i = some v → (k + i, tv v) ∈ lv_args k (as.map tv) := by
  intro as
  induction as with
  | nil =>
    intro n ls h
    cases h
    refine ⟨by simp [lg_sl], by simp, fun k i v hg => ?_⟩
    exfalso
    induction n generalizing i with
    | zero => cases hg
    | succ n ih2 =>
      cases i with
      | zero => cases hg
      | succ i => exact ih2 i hg
  | cons a r ih =>
    intro n ls h
    cases n with
    | zero => cases h
    | succ n =>
      unfold iEntry at h
      split at h
      · cases h
      · rename_i h1
        split at h
        · cases h
        · rename_i l2 h2
          cases h
          obtain ⟨g1, g2, g3⟩ := ih h2
          have hca := hc a h1
          have hca2 : ¬ (tv a).category = 2 := by omega
          refine ⟨?_, by simp [g2], fun k i v hg => ?_⟩
          · simp only [List.map_cons, lg_sl, List.flatMap_cons, hca2, if_false, List.length_append, List.length_cons, List.length_nil] at g1 ⊢
            omega
          · simp only [List.map_cons, lv_args, hca2, if_false]
            cases i with
            | zero =>
              cases hg
              exact List.mem_cons_self
            | succ i =>
              have := g3 (k + 1) i v hg
              rw [show k + 1 + i = k + (i + 1) by omega] at this
              exact List.mem_cons_of_mem _ this
theorem iFr_entry {ad : Nat → Nat → Nat} {rho : Nat → Int32} {as : List iV} {n : Nat} {ls : iL} (h : iEntry as n = some ls) :
    iFr (iTv ad rho) ls ((lg_sl (as.map (iTv ad rho)) ++ List.replicate (n - (lg_sl (as.map (iTv ad rho))).length) Slot.unset).toArray) n := by
  obtain ⟨g1, g2, g3⟩ := iEntry_fr (tv := iTv ad rho) (fun v hv => iTv_cat1 hv) h
  obtain ⟨e1, e2, e3⟩ := lv_entry (as.map (iTv ad rho)) g1
  refine ⟨e1, e2, g2, fun i v hv => ?_⟩
  have := g3 0 i v hv
  rw [Nat.zero_add] at this
  exact e3 _ this
end
