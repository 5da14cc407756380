section
-- ===== PART A: goes FIRST, ahead of the names: the tables' words, and 'selects' of the private methods out of them =====
/-- a private method of a class that the tables say can be made, by its rows of tables_1 -/
def lw_okq (q : MethodName × Nat) : Prop := (q.1.cls ≠ "java/lang/invoke/MethodHandle" ∧ q.1.cls ≠ "java/lang/invoke/VarHandle") ∧ Cond.instantiable q.1.cls q.2 ∈ tables_1 ∧ Cond.privateMethod q.1 ∈ tables_1 ∧ Cond.instanceMethod q.1 ∈ tables_1
theorem lw_p0 : lw_okq (⟨"StreamLink$End", "startTries", "(I)V"⟩, 14) := ⟨⟨by decide +kernel, by decide +kernel⟩, List.mem_of_getElem? (i := 31) (by decide +kernel), List.mem_of_getElem? (i := 430) (by decide +kernel), List.mem_of_getElem? (i := 431) (by decide +kernel)⟩
theorem lw_p1 : lw_okq (⟨"StreamLink$End", "postOpening", "(I)V"⟩, 14) := ⟨⟨by decide +kernel, by decide +kernel⟩, List.mem_of_getElem? (i := 31) (by decide +kernel), List.mem_of_getElem? (i := 434) (by decide +kernel), List.mem_of_getElem? (i := 435) (by decide +kernel)⟩
theorem lw_p2 : lw_okq (⟨"StreamLink$End", "pathFor", "(LStreamLink$SentWord;)I"⟩, 14) := ⟨⟨by decide +kernel, by decide +kernel⟩, List.mem_of_getElem? (i := 31) (by decide +kernel), List.mem_of_getElem? (i := 488) (by decide +kernel), List.mem_of_getElem? (i := 489) (by decide +kernel)⟩
theorem lw_p3 : lw_okq (⟨"StreamLink$End", "mayGo", "(LStreamLink$SentWord;I)Z"⟩, 14) := ⟨⟨by decide +kernel, by decide +kernel⟩, List.mem_of_getElem? (i := 31) (by decide +kernel), List.mem_of_getElem? (i := 496) (by decide +kernel), List.mem_of_getElem? (i := 497) (by decide +kernel)⟩
theorem lw_p4 : lw_okq (⟨"StreamLink$End", "putOut", "(LStreamLink$SentWord;II)V"⟩, 14) := ⟨⟨by decide +kernel, by decide +kernel⟩, List.mem_of_getElem? (i := 31) (by decide +kernel), List.mem_of_getElem? (i := 508) (by decide +kernel), List.mem_of_getElem? (i := 509) (by decide +kernel)⟩
theorem lw_p5 : lw_okq (⟨"StreamLink", "takeMaking", "(IILStreamLink$Packet;)V"⟩, 5) := ⟨⟨by decide +kernel, by decide +kernel⟩, List.mem_of_getElem? (i := 16) (by decide +kernel), List.mem_of_getElem? (i := 535) (by decide +kernel), List.mem_of_getElem? (i := 536) (by decide +kernel)⟩
theorem lw_p6 : lw_okq (⟨"StreamLink", "answerInit", "(II)V"⟩, 5) := ⟨⟨by decide +kernel, by decide +kernel⟩, List.mem_of_getElem? (i := 16) (by decide +kernel), List.mem_of_getElem? (i := 539) (by decide +kernel), List.mem_of_getElem? (i := 540) (by decide +kernel)⟩
theorem lw_p7 : lw_okq (⟨"StreamLink", "serverTagFor", "(I)I"⟩, 5) := ⟨⟨by decide +kernel, by decide +kernel⟩, List.mem_of_getElem? (i := 16) (by decide +kernel), List.mem_of_getElem? (i := 543) (by decide +kernel), List.mem_of_getElem? (i := 544) (by decide +kernel)⟩
theorem lw_p8 : lw_okq (⟨"StreamLink", "sealOf", "(III)I"⟩, 5) := ⟨⟨by decide +kernel, by decide +kernel⟩, List.mem_of_getElem? (i := 16) (by decide +kernel), List.mem_of_getElem? (i := 553) (by decide +kernel), List.mem_of_getElem? (i := 554) (by decide +kernel)⟩
theorem lw_p9 : lw_okq (⟨"StreamLink", "answerEcho", "(ILStreamLink$Packet;)V"⟩, 5) := ⟨⟨by decide +kernel, by decide +kernel⟩, List.mem_of_getElem? (i := 16) (by decide +kernel), List.mem_of_getElem? (i := 565) (by decide +kernel), List.mem_of_getElem? (i := 566) (by decide +kernel)⟩
theorem lw_p10 : lw_okq (⟨"StreamLink", "isGenuine", "(LStreamLink$Cookie;)Z"⟩, 5) := ⟨⟨by decide +kernel, by decide +kernel⟩, List.mem_of_getElem? (i := 16) (by decide +kernel), List.mem_of_getElem? (i := 569) (by decide +kernel), List.mem_of_getElem? (i := 570) (by decide +kernel)⟩
theorem lw_p11 : lw_okq (⟨"StreamLink$End", "takeData", "(ILStreamLink$Word;)V"⟩, 14) := ⟨⟨by decide +kernel, by decide +kernel⟩, List.mem_of_getElem? (i := 31) (by decide +kernel), List.mem_of_getElem? (i := 593) (by decide +kernel), List.mem_of_getElem? (i := 594) (by decide +kernel)⟩
theorem lw_p12 : lw_okq (⟨"StreamLink$Inbox", "isDropped", "(I)Z"⟩, 7) := ⟨⟨by decide +kernel, by decide +kernel⟩, List.mem_of_getElem? (i := 159) (by decide +kernel), List.mem_of_getElem? (i := 601) (by decide +kernel), List.mem_of_getElem? (i := 602) (by decide +kernel)⟩
theorem lw_p13 : lw_okq (⟨"StreamLink$Inbox", "has", "(I)Z"⟩, 7) := ⟨⟨by decide +kernel, by decide +kernel⟩, List.mem_of_getElem? (i := 159) (by decide +kernel), List.mem_of_getElem? (i := 605) (by decide +kernel), List.mem_of_getElem? (i := 606) (by decide +kernel)⟩
theorem lw_p14 : lw_okq (⟨"StreamLink$Inbox", "makeReady", "()V"⟩, 7) := ⟨⟨by decide +kernel, by decide +kernel⟩, List.mem_of_getElem? (i := 159) (by decide +kernel), List.mem_of_getElem? (i := 617) (by decide +kernel), List.mem_of_getElem? (i := 618) (by decide +kernel)⟩
theorem lw_p15 : lw_okq (⟨"StreamLink$Inbox", "wholeLength", "(I)I"⟩, 7) := ⟨⟨by decide +kernel, by decide +kernel⟩, List.mem_of_getElem? (i := 159) (by decide +kernel), List.mem_of_getElem? (i := 621) (by decide +kernel), List.mem_of_getElem? (i := 622) (by decide +kernel)⟩
def lw_privs_1 : List (MethodName × Nat) := [(⟨"StreamLink$End", "startTries", "(I)V"⟩, 14), (⟨"StreamLink$End", "postOpening", "(I)V"⟩, 14), (⟨"StreamLink$End", "pathFor", "(LStreamLink$SentWord;)I"⟩, 14), (⟨"StreamLink$End", "mayGo", "(LStreamLink$SentWord;I)Z"⟩, 14), (⟨"StreamLink$End", "putOut", "(LStreamLink$SentWord;II)V"⟩, 14), (⟨"StreamLink", "takeMaking", "(IILStreamLink$Packet;)V"⟩, 5), (⟨"StreamLink", "answerInit", "(II)V"⟩, 5), (⟨"StreamLink", "serverTagFor", "(I)I"⟩, 5), (⟨"StreamLink", "sealOf", "(III)I"⟩, 5), (⟨"StreamLink", "answerEcho", "(ILStreamLink$Packet;)V"⟩, 5), (⟨"StreamLink", "isGenuine", "(LStreamLink$Cookie;)Z"⟩, 5), (⟨"StreamLink$End", "takeData", "(ILStreamLink$Word;)V"⟩, 14), (⟨"StreamLink$Inbox", "isDropped", "(I)Z"⟩, 7), (⟨"StreamLink$Inbox", "has", "(I)Z"⟩, 7), (⟨"StreamLink$Inbox", "makeReady", "()V"⟩, 7), (⟨"StreamLink$Inbox", "wholeLength", "(I)I"⟩, 7)]
theorem lw_r1 : ∀ q ∈ lw_privs_1, lw_okq q := List.forall_mem_cons.mpr ⟨lw_p0, List.forall_mem_cons.mpr ⟨lw_p1, List.forall_mem_cons.mpr ⟨lw_p2, List.forall_mem_cons.mpr ⟨lw_p3, List.forall_mem_cons.mpr ⟨lw_p4, List.forall_mem_cons.mpr ⟨lw_p5, List.forall_mem_cons.mpr ⟨lw_p6, List.forall_mem_cons.mpr ⟨lw_p7, List.forall_mem_cons.mpr ⟨lw_p8, List.forall_mem_cons.mpr ⟨lw_p9, List.forall_mem_cons.mpr ⟨lw_p10, List.forall_mem_cons.mpr ⟨lw_p11, List.forall_mem_cons.mpr ⟨lw_p12, List.forall_mem_cons.mpr ⟨lw_p13, List.forall_mem_cons.mpr ⟨lw_p14, List.forall_mem_cons.mpr ⟨lw_p15, fun _ h => absurd h List.not_mem_nil⟩⟩⟩⟩⟩⟩⟩⟩⟩⟩⟩⟩⟩⟩⟩⟩
theorem lw_p16 : lw_okq (⟨"StreamLink$Inbox", "mayBeReady", "(LStreamLink$Word;)Z"⟩, 7) := ⟨⟨by decide +kernel, by decide +kernel⟩, List.mem_of_getElem? (i := 159) (by decide +kernel), List.mem_of_getElem? (i := 625) (by decide +kernel), List.mem_of_getElem? (i := 626) (by decide +kernel)⟩
theorem lw_p17 : lw_okq (⟨"StreamLink$Inbox", "moveToReady", "(II)V"⟩, 7) := ⟨⟨by decide +kernel, by decide +kernel⟩, List.mem_of_getElem? (i := 159) (by decide +kernel), List.mem_of_getElem? (i := 629) (by decide +kernel), List.mem_of_getElem? (i := 630) (by decide +kernel)⟩
theorem lw_p18 : lw_okq (⟨"StreamLink$End", "takeSack", "(LStreamLink$Packet;I)V"⟩, 14) := ⟨⟨by decide +kernel, by decide +kernel⟩, List.mem_of_getElem? (i := 31) (by decide +kernel), List.mem_of_getElem? (i := 646) (by decide +kernel), List.mem_of_getElem? (i := 647) (by decide +kernel)⟩
theorem lw_p19 : lw_okq (⟨"StreamLink$End", "dropUpTo", "(I)V"⟩, 14) := ⟨⟨by decide +kernel, by decide +kernel⟩, List.mem_of_getElem? (i := 31) (by decide +kernel), List.mem_of_getElem? (i := 650) (by decide +kernel), List.mem_of_getElem? (i := 651) (by decide +kernel)⟩
theorem lw_p20 : lw_okq (⟨"StreamLink$End", "holdGaps", "(I)V"⟩, 14) := ⟨⟨by decide +kernel, by decide +kernel⟩, List.mem_of_getElem? (i := 31) (by decide +kernel), List.mem_of_getElem? (i := 654) (by decide +kernel), List.mem_of_getElem? (i := 655) (by decide +kernel)⟩
theorem lw_p21 : lw_okq (⟨"StreamLink$End", "rewardGoodPaths", "()V"⟩, 14) := ⟨⟨by decide +kernel, by decide +kernel⟩, List.mem_of_getElem? (i := 31) (by decide +kernel), List.mem_of_getElem? (i := 669) (by decide +kernel), List.mem_of_getElem? (i := 670) (by decide +kernel)⟩
theorem lw_p22 : lw_okq (⟨"StreamLink$End", "strikeBelow", "(I)V"⟩, 14) := ⟨⟨by decide +kernel, by decide +kernel⟩, List.mem_of_getElem? (i := 31) (by decide +kernel), List.mem_of_getElem? (i := 678) (by decide +kernel), List.mem_of_getElem? (i := 679) (by decide +kernel)⟩
theorem lw_p23 : lw_okq (⟨"StreamLink$End", "strike", "(LStreamLink$SentWord;)V"⟩, 14) := ⟨⟨by decide +kernel, by decide +kernel⟩, List.mem_of_getElem? (i := 31) (by decide +kernel), List.mem_of_getElem? (i := 682) (by decide +kernel), List.mem_of_getElem? (i := 683) (by decide +kernel)⟩
theorem lw_p24 : lw_okq (⟨"StreamLink$End", "settleTimers", "(I)V"⟩, 14) := ⟨⟨by decide +kernel, by decide +kernel⟩, List.mem_of_getElem? (i := 31) (by decide +kernel), List.mem_of_getElem? (i := 687) (by decide +kernel), List.mem_of_getElem? (i := 688) (by decide +kernel)⟩
theorem lw_p25 : lw_okq (⟨"StreamLink$End", "takeBeatAck", "(LStreamLink$Path;I)V"⟩, 14) := ⟨⟨by decide +kernel, by decide +kernel⟩, List.mem_of_getElem? (i := 31) (by decide +kernel), List.mem_of_getElem? (i := 692) (by decide +kernel), List.mem_of_getElem? (i := 693) (by decide +kernel)⟩
theorem lw_p26 : lw_okq (⟨"StreamLink$End", "tryAgain", "(I)V"⟩, 14) := ⟨⟨by decide +kernel, by decide +kernel⟩, List.mem_of_getElem? (i := 31) (by decide +kernel), List.mem_of_getElem? (i := 724) (by decide +kernel), List.mem_of_getElem? (i := 725) (by decide +kernel)⟩
theorem lw_p27 : lw_okq (⟨"StreamLink$End", "passPathTick", "(II)V"⟩, 14) := ⟨⟨by decide +kernel, by decide +kernel⟩, List.mem_of_getElem? (i := 31) (by decide +kernel), List.mem_of_getElem? (i := 728) (by decide +kernel), List.mem_of_getElem? (i := 729) (by decide +kernel)⟩
theorem lw_p28 : lw_okq (⟨"StreamLink$End", "addError", "(LStreamLink$Path;)V"⟩, 14) := ⟨⟨by decide +kernel, by decide +kernel⟩, List.mem_of_getElem? (i := 31) (by decide +kernel), List.mem_of_getElem? (i := 740) (by decide +kernel), List.mem_of_getElem? (i := 741) (by decide +kernel)⟩
theorem lw_p29 : lw_okq (⟨"StreamLink$End", "postBeat", "(II)V"⟩, 14) := ⟨⟨by decide +kernel, by decide +kernel⟩, List.mem_of_getElem? (i := 31) (by decide +kernel), List.mem_of_getElem? (i := 748) (by decide +kernel), List.mem_of_getElem? (i := 749) (by decide +kernel)⟩
theorem lw_p30 : lw_okq (⟨"StreamLink$ReadyList", "firstOf", "(I)I"⟩, 5) := ⟨⟨by decide +kernel, by decide +kernel⟩, List.mem_of_getElem? (i := 165) (by decide +kernel), List.mem_of_getElem? (i := 760) (by decide +kernel), List.mem_of_getElem? (i := 761) (by decide +kernel)⟩
theorem lw_p31 : lw_okq (⟨"StreamLinkModel", "take", "(I)V"⟩, 54) := ⟨⟨by decide +kernel, by decide +kernel⟩, List.mem_of_getElem? (i := 820) (by decide +kernel), List.mem_of_getElem? (i := 996) (by decide +kernel), List.mem_of_getElem? (i := 997) (by decide +kernel)⟩
def lw_privs_2 : List (MethodName × Nat) := [(⟨"StreamLink$Inbox", "mayBeReady", "(LStreamLink$Word;)Z"⟩, 7), (⟨"StreamLink$Inbox", "moveToReady", "(II)V"⟩, 7), (⟨"StreamLink$End", "takeSack", "(LStreamLink$Packet;I)V"⟩, 14), (⟨"StreamLink$End", "dropUpTo", "(I)V"⟩, 14), (⟨"StreamLink$End", "holdGaps", "(I)V"⟩, 14), (⟨"StreamLink$End", "rewardGoodPaths", "()V"⟩, 14), (⟨"StreamLink$End", "strikeBelow", "(I)V"⟩, 14), (⟨"StreamLink$End", "strike", "(LStreamLink$SentWord;)V"⟩, 14), (⟨"StreamLink$End", "settleTimers", "(I)V"⟩, 14), (⟨"StreamLink$End", "takeBeatAck", "(LStreamLink$Path;I)V"⟩, 14), (⟨"StreamLink$End", "tryAgain", "(I)V"⟩, 14), (⟨"StreamLink$End", "passPathTick", "(II)V"⟩, 14), (⟨"StreamLink$End", "addError", "(LStreamLink$Path;)V"⟩, 14), (⟨"StreamLink$End", "postBeat", "(II)V"⟩, 14), (⟨"StreamLink$ReadyList", "firstOf", "(I)I"⟩, 5), (⟨"StreamLinkModel", "take", "(I)V"⟩, 54)]
theorem lw_r2 : ∀ q ∈ lw_privs_2, lw_okq q := List.forall_mem_cons.mpr ⟨lw_p16, List.forall_mem_cons.mpr ⟨lw_p17, List.forall_mem_cons.mpr ⟨lw_p18, List.forall_mem_cons.mpr ⟨lw_p19, List.forall_mem_cons.mpr ⟨lw_p20, List.forall_mem_cons.mpr ⟨lw_p21, List.forall_mem_cons.mpr ⟨lw_p22, List.forall_mem_cons.mpr ⟨lw_p23, List.forall_mem_cons.mpr ⟨lw_p24, List.forall_mem_cons.mpr ⟨lw_p25, List.forall_mem_cons.mpr ⟨lw_p26, List.forall_mem_cons.mpr ⟨lw_p27, List.forall_mem_cons.mpr ⟨lw_p28, List.forall_mem_cons.mpr ⟨lw_p29, List.forall_mem_cons.mpr ⟨lw_p30, List.forall_mem_cons.mpr ⟨lw_p31, fun _ h => absurd h List.not_mem_nil⟩⟩⟩⟩⟩⟩⟩⟩⟩⟩⟩⟩⟩⟩⟩⟩
theorem lw_p32 : lw_okq (⟨"StreamLinkModel", "post", "(IIIIII)V"⟩, 54) := ⟨⟨by decide +kernel, by decide +kernel⟩, List.mem_of_getElem? (i := 820) (by decide +kernel), List.mem_of_getElem? (i := 1011) (by decide +kernel), List.mem_of_getElem? (i := 1012) (by decide +kernel)⟩
theorem lw_p33 : lw_okq (⟨"StreamLinkModel", "pathToUse", "(I)I"⟩, 54) := ⟨⟨by decide +kernel, by decide +kernel⟩, List.mem_of_getElem? (i := 820) (by decide +kernel), List.mem_of_getElem? (i := 1019) (by decide +kernel), List.mem_of_getElem? (i := 1020) (by decide +kernel)⟩
theorem lw_p34 : lw_okq (⟨"StreamLinkModel", "close", "(II)V"⟩, 54) := ⟨⟨by decide +kernel, by decide +kernel⟩, List.mem_of_getElem? (i := 820) (by decide +kernel), List.mem_of_getElem? (i := 1023) (by decide +kernel), List.mem_of_getElem? (i := 1024) (by decide +kernel)⟩
theorem lw_p35 : lw_okq (⟨"StreamLinkModel", "empty", "(I)V"⟩, 54) := ⟨⟨by decide +kernel, by decide +kernel⟩, List.mem_of_getElem? (i := 820) (by decide +kernel), List.mem_of_getElem? (i := 1027) (by decide +kernel), List.mem_of_getElem? (i := 1028) (by decide +kernel)⟩
theorem lw_p36 : lw_okq (⟨"StreamLinkModel", "init", "(II)V"⟩, 54) := ⟨⟨by decide +kernel, by decide +kernel⟩, List.mem_of_getElem? (i := 820) (by decide +kernel), List.mem_of_getElem? (i := 1039) (by decide +kernel), List.mem_of_getElem? (i := 1040) (by decide +kernel)⟩
theorem lw_p37 : lw_okq (⟨"StreamLinkModel", "tagFor", "(I)I"⟩, 54) := ⟨⟨by decide +kernel, by decide +kernel⟩, List.mem_of_getElem? (i := 820) (by decide +kernel), List.mem_of_getElem? (i := 1043) (by decide +kernel), List.mem_of_getElem? (i := 1044) (by decide +kernel)⟩
theorem lw_p38 : lw_okq (⟨"StreamLinkModel", "full", "(II)Z"⟩, 54) := ⟨⟨by decide +kernel, by decide +kernel⟩, List.mem_of_getElem? (i := 820) (by decide +kernel), List.mem_of_getElem? (i := 1052) (by decide +kernel), List.mem_of_getElem? (i := 1053) (by decide +kernel)⟩
theorem lw_p39 : lw_okq (⟨"StreamLinkModel", "seal", "(III)I"⟩, 54) := ⟨⟨by decide +kernel, by decide +kernel⟩, List.mem_of_getElem? (i := 820) (by decide +kernel), List.mem_of_getElem? (i := 1056) (by decide +kernel), List.mem_of_getElem? (i := 1057) (by decide +kernel)⟩
theorem lw_p40 : lw_okq (⟨"StreamLinkModel", "more", "(IIIII)V"⟩, 54) := ⟨⟨by decide +kernel, by decide +kernel⟩, List.mem_of_getElem? (i := 820) (by decide +kernel), List.mem_of_getElem? (i := 1060) (by decide +kernel), List.mem_of_getElem? (i := 1061) (by decide +kernel)⟩
theorem lw_p41 : lw_okq (⟨"StreamLinkModel", "echo", "(I)V"⟩, 54) := ⟨⟨by decide +kernel, by decide +kernel⟩, List.mem_of_getElem? (i := 820) (by decide +kernel), List.mem_of_getElem? (i := 1064) (by decide +kernel), List.mem_of_getElem? (i := 1065) (by decide +kernel)⟩
theorem lw_p42 : lw_okq (⟨"StreamLinkModel", "comeUp", "(III)V"⟩, 54) := ⟨⟨by decide +kernel, by decide +kernel⟩, List.mem_of_getElem? (i := 820) (by decide +kernel), List.mem_of_getElem? (i := 1069) (by decide +kernel), List.mem_of_getElem? (i := 1070) (by decide +kernel)⟩
theorem lw_p43 : lw_okq (⟨"StreamLinkModel", "initAck", "(I)V"⟩, 54) := ⟨⟨by decide +kernel, by decide +kernel⟩, List.mem_of_getElem? (i := 820) (by decide +kernel), List.mem_of_getElem? (i := 1073) (by decide +kernel), List.mem_of_getElem? (i := 1074) (by decide +kernel)⟩
theorem lw_p44 : lw_okq (⟨"StreamLinkModel", "sendCookie", "(IIIII)V"⟩, 54) := ⟨⟨by decide +kernel, by decide +kernel⟩, List.mem_of_getElem? (i := 820) (by decide +kernel), List.mem_of_getElem? (i := 1077) (by decide +kernel), List.mem_of_getElem? (i := 1078) (by decide +kernel)⟩
theorem lw_p45 : lw_okq (⟨"StreamLinkModel", "hear", "(III)V"⟩, 54) := ⟨⟨by decide +kernel, by decide +kernel⟩, List.mem_of_getElem? (i := 820) (by decide +kernel), List.mem_of_getElem? (i := 1081) (by decide +kernel), List.mem_of_getElem? (i := 1082) (by decide +kernel)⟩
theorem lw_p46 : lw_okq (⟨"StreamLinkModel", "data", "(II)V"⟩, 54) := ⟨⟨by decide +kernel, by decide +kernel⟩, List.mem_of_getElem? (i := 820) (by decide +kernel), List.mem_of_getElem? (i := 1085) (by decide +kernel), List.mem_of_getElem? (i := 1086) (by decide +kernel)⟩
theorem lw_p47 : lw_okq (⟨"StreamLinkModel", "has", "(II)Z"⟩, 54) := ⟨⟨by decide +kernel, by decide +kernel⟩, List.mem_of_getElem? (i := 820) (by decide +kernel), List.mem_of_getElem? (i := 1089) (by decide +kernel), List.mem_of_getElem? (i := 1090) (by decide +kernel)⟩
def lw_privs_3 : List (MethodName × Nat) := [(⟨"StreamLinkModel", "post", "(IIIIII)V"⟩, 54), (⟨"StreamLinkModel", "pathToUse", "(I)I"⟩, 54), (⟨"StreamLinkModel", "close", "(II)V"⟩, 54), (⟨"StreamLinkModel", "empty", "(I)V"⟩, 54), (⟨"StreamLinkModel", "init", "(II)V"⟩, 54), (⟨"StreamLinkModel", "tagFor", "(I)I"⟩, 54), (⟨"StreamLinkModel", "full", "(II)Z"⟩, 54), (⟨"StreamLinkModel", "seal", "(III)I"⟩, 54), (⟨"StreamLinkModel", "more", "(IIIII)V"⟩, 54), (⟨"StreamLinkModel", "echo", "(I)V"⟩, 54), (⟨"StreamLinkModel", "comeUp", "(III)V"⟩, 54), (⟨"StreamLinkModel", "initAck", "(I)V"⟩, 54), (⟨"StreamLinkModel", "sendCookie", "(IIIII)V"⟩, 54), (⟨"StreamLinkModel", "hear", "(III)V"⟩, 54), (⟨"StreamLinkModel", "data", "(II)V"⟩, 54), (⟨"StreamLinkModel", "has", "(II)Z"⟩, 54)]
theorem lw_r3 : ∀ q ∈ lw_privs_3, lw_okq q := List.forall_mem_cons.mpr ⟨lw_p32, List.forall_mem_cons.mpr ⟨lw_p33, List.forall_mem_cons.mpr ⟨lw_p34, List.forall_mem_cons.mpr ⟨lw_p35, List.forall_mem_cons.mpr ⟨lw_p36, List.forall_mem_cons.mpr ⟨lw_p37, List.forall_mem_cons.mpr ⟨lw_p38, List.forall_mem_cons.mpr ⟨lw_p39, List.forall_mem_cons.mpr ⟨lw_p40, List.forall_mem_cons.mpr ⟨lw_p41, List.forall_mem_cons.mpr ⟨lw_p42, List.forall_mem_cons.mpr ⟨lw_p43, List.forall_mem_cons.mpr ⟨lw_p44, List.forall_mem_cons.mpr ⟨lw_p45, List.forall_mem_cons.mpr ⟨lw_p46, List.forall_mem_cons.mpr ⟨lw_p47, fun _ h => absurd h List.not_mem_nil⟩⟩⟩⟩⟩⟩⟩⟩⟩⟩⟩⟩⟩⟩⟩⟩
theorem lw_p48 : lw_okq (⟨"StreamLinkModel", "oneReady", "(I)Z"⟩, 54) := ⟨⟨by decide +kernel, by decide +kernel⟩, List.mem_of_getElem? (i := 820) (by decide +kernel), List.mem_of_getElem? (i := 1093) (by decide +kernel), List.mem_of_getElem? (i := 1094) (by decide +kernel)⟩
theorem lw_p49 : lw_okq (⟨"StreamLinkModel", "wholeTo", "(II)I"⟩, 54) := ⟨⟨by decide +kernel, by decide +kernel⟩, List.mem_of_getElem? (i := 820) (by decide +kernel), List.mem_of_getElem? (i := 1097) (by decide +kernel), List.mem_of_getElem? (i := 1098) (by decide +kernel)⟩
theorem lw_p50 : lw_okq (⟨"StreamLinkModel", "sack", "(I)V"⟩, 54) := ⟨⟨by decide +kernel, by decide +kernel⟩, List.mem_of_getElem? (i := 820) (by decide +kernel), List.mem_of_getElem? (i := 1101) (by decide +kernel), List.mem_of_getElem? (i := 1102) (by decide +kernel)⟩
theorem lw_p51 : lw_okq (⟨"StreamLinkModel", "strike", "(III)V"⟩, 54) := ⟨⟨by decide +kernel, by decide +kernel⟩, List.mem_of_getElem? (i := 820) (by decide +kernel), List.mem_of_getElem? (i := 1105) (by decide +kernel), List.mem_of_getElem? (i := 1106) (by decide +kernel)⟩
theorem lw_p52 : lw_okq (⟨"StreamLinkModel", "count", "(III)I"⟩, 54) := ⟨⟨by decide +kernel, by decide +kernel⟩, List.mem_of_getElem? (i := 820) (by decide +kernel), List.mem_of_getElem? (i := 1109) (by decide +kernel), List.mem_of_getElem? (i := 1110) (by decide +kernel)⟩
theorem lw_p53 : lw_okq (⟨"StreamLinkModel", "sendWhatMay", "(I)V"⟩, 54) := ⟨⟨by decide +kernel, by decide +kernel⟩, List.mem_of_getElem? (i := 820) (by decide +kernel), List.mem_of_getElem? (i := 1113) (by decide +kernel), List.mem_of_getElem? (i := 1114) (by decide +kernel)⟩
theorem lw_p54 : lw_okq (⟨"StreamLinkModel", "again", "(I)V"⟩, 54) := ⟨⟨by decide +kernel, by decide +kernel⟩, List.mem_of_getElem? (i := 820) (by decide +kernel), List.mem_of_getElem? (i := 1144) (by decide +kernel), List.mem_of_getElem? (i := 1145) (by decide +kernel)⟩
theorem lw_p55 : lw_okq (⟨"StreamLinkModel", "tickPath", "(II)V"⟩, 54) := ⟨⟨by decide +kernel, by decide +kernel⟩, List.mem_of_getElem? (i := 820) (by decide +kernel), List.mem_of_getElem? (i := 1148) (by decide +kernel), List.mem_of_getElem? (i := 1149) (by decide +kernel)⟩
theorem lw_p56 : lw_okq (⟨"StreamLinkModel", "fail", "(II)V"⟩, 54) := ⟨⟨by decide +kernel, by decide +kernel⟩, List.mem_of_getElem? (i := 820) (by decide +kernel), List.mem_of_getElem? (i := 1152) (by decide +kernel), List.mem_of_getElem? (i := 1153) (by decide +kernel)⟩
def lw_privs_4 : List (MethodName × Nat) := [(⟨"StreamLinkModel", "oneReady", "(I)Z"⟩, 54), (⟨"StreamLinkModel", "wholeTo", "(II)I"⟩, 54), (⟨"StreamLinkModel", "sack", "(I)V"⟩, 54), (⟨"StreamLinkModel", "strike", "(III)V"⟩, 54), (⟨"StreamLinkModel", "count", "(III)I"⟩, 54), (⟨"StreamLinkModel", "sendWhatMay", "(I)V"⟩, 54), (⟨"StreamLinkModel", "again", "(I)V"⟩, 54), (⟨"StreamLinkModel", "tickPath", "(II)V"⟩, 54), (⟨"StreamLinkModel", "fail", "(II)V"⟩, 54)]
theorem lw_r4 : ∀ q ∈ lw_privs_4, lw_okq q := List.forall_mem_cons.mpr ⟨lw_p48, List.forall_mem_cons.mpr ⟨lw_p49, List.forall_mem_cons.mpr ⟨lw_p50, List.forall_mem_cons.mpr ⟨lw_p51, List.forall_mem_cons.mpr ⟨lw_p52, List.forall_mem_cons.mpr ⟨lw_p53, List.forall_mem_cons.mpr ⟨lw_p54, List.forall_mem_cons.mpr ⟨lw_p55, List.forall_mem_cons.mpr ⟨lw_p56, fun _ h => absurd h List.not_mem_nil⟩⟩⟩⟩⟩⟩⟩⟩⟩
def lw_privs : List (MethodName × Nat) := lw_privs_1 ++ (lw_privs_2 ++ (lw_privs_3 ++ (lw_privs_4)))
def lw_tbl : List Cond := k2_sels lw_privs ++ tables_1
theorem lw_privs_ok : ∀ q ∈ lw_privs, lw_okq q := by
  show ∀ q ∈ lw_privs_1 ++ (lw_privs_2 ++ (lw_privs_3 ++ (lw_privs_4))), lw_okq q
  exact List.forall_mem_append.mpr ⟨lw_r1, List.forall_mem_append.mpr ⟨lw_r2, List.forall_mem_append.mpr ⟨lw_r3, lw_r4⟩⟩⟩
end
section
/-! An interpreter of the instructions that the class, the reference and the law use; its heap is a parameter. -/
abbrev iV : Type := Int32 ⊕ (Int64 ⊕ (Option (Nat × Nat) ⊕ Nat))
abbrev vI (x : Int32) : iV := Sum.inl x
abbrev vL (x : Int64) : iV := Sum.inr (Sum.inl x)
abbrev vR (t i : Nat) : iV := Sum.inr (Sum.inr (Sum.inl (some (t, i))))
abbrev vX (k : Nat) : iV := Sum.inr (Sum.inr (Sum.inr k))
abbrev iL : Type := List (Option iV)
abbrev iC : Type := Nat × iL × List iV
abbrev iI : Type := Jvm.ClassFile.Instr
/-- targets (of a switch: the default first) and the number that the instruction bears -/
abbrev iX : Type := List Nat × Int32
/-- pc, instruction, length, targets and number -/
abbrev iE : Type := Nat × iI × Nat × iX
def iGet : iL → Nat → Option iV
  | [], _ => none
  | a :: _, 0 => a
  | _ :: r, n + 1 => iGet r n
def iPut : iL → Nat → Option iV → Option iL
  | [], _, _ => none
  | _ :: r, 0, v => some (v :: r)
  | a :: r, n + 1, v => match iPut r n v with
    | none => none
    | some r' => some (a :: r')
def iLong : Option iV → Bool
  | some (Sum.inr (Sum.inl _)) => true
  | _ => false
def iSt1 (ls : iL) (i : Nat) (v : iV) : Option iL := match i with
  | 0 => iPut ls 0 (some v)
  | k + 1 => match iLong (iGet ls k) with
    | true => none
    | false => iPut ls (k + 1) (some v)
def iSt2 (ls : iL) (i : Nat) (v : iV) : Option iL := match iSt1 ls i v with
  | none => none
  | some l1 => iPut l1 (i + 1) none
def iCat1 : iV → Bool
  | Sum.inr (Sum.inl _) => false
  | _ => true
def iCmp (c : Jvm.ClassFile.Cond) (a b : Int32) : Bool := match c with
  | .eq => decide (a = b)
  | .ne => !decide (a = b)
  | .lt => decide (a < b)
  | .ge => !decide (a < b)
  | .gt => decide (b < a)
  | .le => !decide (b < a)
def iPush (n : Nat) (v : iV) (c : iC) : Option iC := some (c.1 + n, c.2.1, v :: c.2.2)
def iLdI (n k : Nat) (c : iC) : Option iC := match iGet c.2.1 k with
  | some (Sum.inl x) => some (c.1 + n, c.2.1, vI x :: c.2.2)
  | some (Sum.inr (Sum.inr (Sum.inr x))) => some (c.1 + n, c.2.1, vX x :: c.2.2)
  | _ => none
def iLdL (n k : Nat) (c : iC) : Option iC := match iGet c.2.1 k with
  | some (Sum.inr (Sum.inl x)) => some (c.1 + n, c.2.1, vL x :: c.2.2)
  | _ => none
def iLdA (n k : Nat) (c : iC) : Option iC := match iGet c.2.1 k with
  | some (Sum.inr (Sum.inr (Sum.inl (some (t, i))))) => some (c.1 + n, c.2.1, vR t i :: c.2.2)
  | _ => none
def iStI (n k : Nat) (c : iC) : Option iC := match c.2.2 with
  | Sum.inl x :: r => match iSt1 c.2.1 k (vI x) with
    | none => none
    | some ls => some (c.1 + n, ls, r)
  | _ => none
def iStL (n k : Nat) (c : iC) : Option iC := match c.2.2 with
  | Sum.inr (Sum.inl x) :: r => match iSt2 c.2.1 k (vL x) with
    | none => none
    | some ls => some (c.1 + n, ls, r)
  | _ => none
def iStA (n k : Nat) (c : iC) : Option iC := match c.2.2 with
  | Sum.inr (Sum.inr (Sum.inl (some (t, i)))) :: r => match iSt1 c.2.1 k (vR t i) with
    | none => none
    | some ls => some (c.1 + n, ls, r)
  | _ => none
def iInc (k : Nat) (x : Int32) (c : iC) : Option iC := match iGet c.2.1 k with
  | some (Sum.inl v) => match iSt1 c.2.1 k (vI (v + x)) with
    | none => none
    | some ls => some (c.1 + 3, ls, c.2.2)
  | _ => none
def iBin (f : Int32 → Int32 → Int32) (c : iC) : Option iC := match c.2.2 with
  | Sum.inl b :: Sum.inl a :: r => some (c.1 + 1, c.2.1, vI (f a b) :: r)
  | _ => none
def iDiv (f : Int32 → Int32 → Int32) (c : iC) : Option iC := match c.2.2 with
  | Sum.inl b :: Sum.inl a :: r => match decide (b = 0) with
    | true => none
    | false => some (c.1 + 1, c.2.1, vI (f a b) :: r)
  | _ => none
def iRem (a b : Int32) : Int32 := a - a / b * b
def iShl (a b : Int32) : Int32 := a <<< (b &&& 31)
def iShr (a b : Int32) : Int32 := a >>> (b &&& 31)
def iUsh (a b : Int32) : Int32 := (a.toUInt32 >>> (b.toUInt32 &&& Int32.toUInt32 31)).toInt32
def iNeg (c : iC) : Option iC := match c.2.2 with
  | Sum.inl a :: r => some (c.1 + 1, c.2.1, vI (-a) :: r)
  | _ => none
def iI2L (c : iC) : Option iC := match c.2.2 with
  | Sum.inl a :: r => some (c.1 + 1, c.2.1, vL a.toInt64 :: r)
  | _ => none
def iLSub (c : iC) : Option iC := match c.2.2 with
  | Sum.inr (Sum.inl b) :: Sum.inr (Sum.inl a) :: r => some (c.1 + 1, c.2.1, vL (a - b) :: r)
  | _ => none
def iLCmp (c : iC) : Option iC := match c.2.2 with
  | Sum.inr (Sum.inl b) :: Sum.inr (Sum.inl a) :: r => some (c.1 + 1, c.2.1, vI (lg_cmp a b) :: r)
  | _ => none
def iDup (c : iC) : Option iC := match c.2.2 with
  | a :: r => match iCat1 a with
    | true => some (c.1 + 1, c.2.1, a :: a :: r)
    | false => none
  | _ => none
def iPop (c : iC) : Option iC := match c.2.2 with
  | a :: r => match iCat1 a with
    | true => some (c.1 + 1, c.2.1, r)
    | false => none
  | _ => none
def iDupX1 (c : iC) : Option iC := match c.2.2 with
  | a :: b :: r => match iCat1 a && iCat1 b with
    | true => some (c.1 + 1, c.2.1, a :: b :: a :: r)
    | false => none
  | _ => none
def iDupX2 (c : iC) : Option iC := match c.2.2 with
  | a :: b :: d :: r => match iCat1 a && (iCat1 b && iCat1 d) with
    | true => some (c.1 + 1, c.2.1, a :: b :: d :: a :: r)
    | false => none
  | _ => none
def iDup2 (c : iC) : Option iC := match c.2.2 with
  | a :: b :: r => match iCat1 a && iCat1 b with
    | true => some (c.1 + 1, c.2.1, a :: b :: a :: b :: r)
    | false => none
  | _ => none
def iBr2 (k : Jvm.ClassFile.Cond) (ts : List Nat) (c : iC) : Option iC := match ts, c.2.2 with
  | [t], Sum.inl b :: Sum.inl a :: r => match iCmp k a b with
    | true => some (t, c.2.1, r)
    | false => some (c.1 + 3, c.2.1, r)
  | _, _ => none
def iBr1 (k : Jvm.ClassFile.Cond) (ts : List Nat) (c : iC) : Option iC := match ts, c.2.2 with
  | [t], Sum.inl a :: r => match iCmp k a 0 with
    | true => some (t, c.2.1, r)
    | false => some (c.1 + 3, c.2.1, r)
  | _, _ => none
def iGoto (ts : List Nat) (c : iC) : Option iC := match ts with
  | [t] => some (t, c.2.1, c.2.2)
  | _ => none
/-- a switch: the first target is the default; keys are the values in order -/
def iPick : List Int → List Nat → Nat → Int → Nat
  | k :: ks, t :: ts, d, x => match decide (x = k) with
    | true => t
    | false => iPick ks ts d x
  | _, _, d, _ => d
def iSw (ks : List Int) (ts : List Nat) (c : iC) : Option iC := match ts, c.2.2 with
  | d :: tr, Sum.inl x :: r => some (iPick ks tr d x.toInt, c.2.1, r)
  | _, _ => none
def iKeys (lo : Int) : Nat → List Int
  | 0 => []
  | n + 1 => lo :: iKeys (lo + 1) n
def iStp (i : iI) (tx : iX) (c : iC) : Option iC := match i with
  | .iconst _ => iPush 1 (vI tx.2) c
  | .bipush _ => iPush 2 (vI tx.2) c
  | .sipush _ => iPush 3 (vI tx.2) c
  | .lconst k => iPush 1 (vL (Int64.ofNat (k : Nat))) c
  | .ldc _ => iPush 2 (vI tx.2) c
  | .ldc2_w _ => iPush 3 (vL tx.2.toInt64) c
  | .iload k => iLdI 2 k c
  | .iload_n k => iLdI 1 (k : Nat) c
  | .lload k => iLdL 2 k c
  | .lload_n k => iLdL 1 (k : Nat) c
  | .aload k => iLdA 2 k c
  | .aload_n k => iLdA 1 (k : Nat) c
  | .istore k => iStI 2 k c
  | .istore_n k => iStI 1 (k : Nat) c
  | .lstore k => iStL 2 k c
  | .lstore_n k => iStL 1 (k : Nat) c
  | .astore k => iStA 2 k c
  | .astore_n k => iStA 1 (k : Nat) c
  | .iinc k _ => iInc k tx.2 c
  | .iadd => iBin (fun a b => a + b) c
  | .isub => iBin (fun a b => a - b) c
  | .imul => iBin (fun a b => a * b) c
  | .iand => iBin (fun a b => a &&& b) c
  | .ior => iBin (fun a b => a ||| b) c
  | .ixor => iBin (fun a b => a ^^^ b) c
  | .ishl => iBin iShl c
  | .ishr => iBin iShr c
  | .iushr => iBin iUsh c
  | .idiv => iDiv (fun a b => a / b) c
  | .irem => iDiv iRem c
  | .ineg => iNeg c
  | .i2l => iI2L c
  | .lsub => iLSub c
  | .lcmp => iLCmp c
  | .dup => iDup c
  | .pop => iPop c
  | .dup_x1 => iDupX1 c
  | .dup_x2 => iDupX2 c
  | .dup2 => iDup2 c
  | .if_icmp k _ => iBr2 k tx.1 c
  | .ifCond k _ => iBr1 k tx.1 c
  | .goto _ => iGoto tx.1 c
  | .tableswitch _ lo _ offs => iSw (iKeys lo offs.size) tx.1 c
  | _ => none
/-- the length of an instruction, and its targets, as the table must have them -/
def iLen : iI → Nat
  | .bipush _ => 2
  | .sipush _ => 3
  | .iload _ => 2
  | .lload _ => 2
  | .aload _ => 2
  | .istore _ => 2
  | .lstore _ => 2
  | .astore _ => 2
  | .iinc _ _ => 3
  | .if_icmp _ _ => 3
  | .ifCond _ _ => 3
  | .goto _ => 3
  | .ldc _ => 2
  | .ldc2_w _ => 3
  | .getfield _ => 3
  | .putfield _ => 3
  | .invokevirtual _ => 3
  | .invokespecial _ => 3
  | .invokestatic _ => 3
  | .new _ => 3
  | .anewarray _ => 3
  | .newarray _ => 2
  | _ => 1
def iTgOK (pc : Nat) : List Int → List Nat → Bool
  | [], [] => true
  | o :: os, t :: ts => decide ((pc : Int) + o = (t : Int)) && iTgOK pc os ts
  | _, _ => false
def iOffs : iI → List Int
  | .if_icmp _ o => [o]
  | .ifCond _ o => [o]
  | .goto o => [o]
  | .tableswitch d _ _ offs => d :: offs.toList
  | _ => []
def iSwOK : iI → Bool
  | .tableswitch _ lo hi offs => decide (hi = lo + (offs.size : Int) - 1)
  | _ => true
def iIsSw : iI → Bool
  | .tableswitch _ _ _ _ => true
  | _ => false
def iNum (i : iI) (v : Int32) : Bool := match i with
  | .iconst k => decide (v = Int32.ofInt k)
  | .bipush k => decide (v = (Int8.ofInt k).toInt32)
  | .sipush k => decide (v = (Int16.ofInt k).toInt32)
  | .iinc _ k => decide (v = Int32.ofInt k)
  | _ => true
def iOK (e : iE) : Bool := (iIsSw e.2.1 || decide (e.2.2.1 = iLen e.2.1)) && ((iTgOK e.1 (iOffs e.2.1) e.2.2.2.1 && iSwOK e.2.1) && iNum e.2.1 e.2.2.2.2)
def iLk : List iE → Nat → Option (iI × Nat × iX)
  | [], _ => none
  | e :: r, pc => match Nat.beq e.1 pc with
    | true => some e.2
    | false => iLk r pc
theorem iLk_mem {cd : List iE} {pc : Nat} {x : iI × Nat × iX} (h : iLk cd pc = some x) : (pc, x) ∈ cd := by
  induction cd with
  | nil => cases h
  | cons e r ih =>
    unfold iLk at h
    split at h
    · rename_i hb
      have hb' : e.1 = pc := Nat.eq_of_beq_eq_true hb
      have hx : e.2 = x := Option.some.inj h
      rw [← hb', ← hx]
      exact List.mem_cons_self
    · exact List.mem_cons_of_mem _ (ih h)
end
section
/-! What the interpreter's frames are on the machine; the pure instructions are right. -/
def iTv (ad : Nat → Nat → Nat) (rho : Nat → Int32) : iV → Value
  | Sum.inl x => .int x
  | Sum.inr (Sum.inl x) => .long x
  | Sum.inr (Sum.inr (Sum.inl none)) => .null
  | Sum.inr (Sum.inr (Sum.inl (some q))) => .ref (ad q.1 q.2)
  | Sum.inr (Sum.inr (Sum.inr k)) => .int (rho k)
theorem iTv_cat {ad : Nat → Nat → Nat} {rho : Nat → Int32} {w : iV} (h : (iTv ad rho w).category = 2) : iLong (some w) = true := by
  rcases w with x | x | (_ | q) | k
  · simp [iTv, Value.category] at h
  · rfl
  · simp [iTv, Value.category] at h
  · simp [iTv, Value.category] at h
  · simp [iTv, Value.category] at h
theorem iTv_cat1 {ad : Nat → Nat → Nat} {rho : Nat → Int32} {w : iV} (h : iCat1 w = true) : (iTv ad rho w).category = 1 := by
  rcases w with x | x | (_ | q) | k
  · rfl
  · simp [iCat1] at h
  · rfl
  · rfl
  · rfl
def iFr (tv : iV → Value) (ls : iL) (lsM : Array Slot) (nL : Nat) : Prop := lsM.size = nL ∧ lv_wf lsM ∧ ls.length = nL ∧ ∀ (i : Nat) (v : iV), iGet ls i = some v → lsM[i]? = some (.val (tv v))
def iLv (tv : iV → Value) (ls : iL) : List (Nat × Value) := (List.range ls.length).filterMap (fun i => (iGet ls i).map (fun v => (i, tv v)))
theorem iGet_lt {ls : iL} {i : Nat} {v : iV} (h : iGet ls i = some v) : i < ls.length := by
  induction ls generalizing i with
  | nil => cases h
  | cons a r ih =>
    cases i with
    | zero => simp
    | succ n =>
      have := ih (i := n) h
      simp only [List.length_cons]
      omega
theorem iLv_mem {tv : iV → Value} {ls : iL} {i : Nat} {v : iV} (h : iGet ls i = some v) : (i, tv v) ∈ iLv tv ls :=
  List.mem_filterMap.mpr ⟨i, List.mem_range.mpr (iGet_lt h), by rw [h]; rfl⟩
theorem iFr.has {tv : iV → Value} {ls : iL} {lsM : Array Slot} {nL : Nat} (h : iFr tv ls lsM nL) : lv_has lsM nL (iLv tv ls) := by
  refine ⟨h.1, h.2.1, fun q hq => ?_⟩
  obtain ⟨i, -, he⟩ := List.mem_filterMap.mp hq
  cases hg : iGet ls i with
  | none => rw [hg] at he; cases he
  | some v =>
    rw [hg] at he
    cases he
    exact h.2.2.2 i v hg
theorem iPut_len {ls ls' : iL} {i : Nat} {v : Option iV} (h : iPut ls i v = some ls') : ls'.length = ls.length ∧ i < ls.length := by
  induction ls generalizing i ls' with
  | nil => cases h
  | cons a r ih =>
    cases i with
    | zero =>
      cases h
      simp
    | succ n =>
      unfold iPut at h
      split at h
      · cases h
      · rename_i r' hr
        cases h
        have := ih hr
        simp only [List.length_cons]
        omega
theorem iPut_get {ls ls' : iL} {i : Nat} {v : Option iV} (h : iPut ls i v = some ls') (j : Nat) : iGet ls' j = if j = i then v else iGet ls j := by
  induction ls generalizing i ls' j with
  | nil => cases h
  | cons a r ih =>
    cases i with
    | zero =>
      cases h
      cases j with
      | zero => simp [iGet]
      | succ k => simp [iGet]
    | succ n =>
      unfold iPut at h
      split at h
      · cases h
      · rename_i r' hr
        cases h
        cases j with
        | zero => simp [iGet]
        | succ k =>
          have := ih hr k
          simp only [iGet, this, Nat.add_right_cancel_iff]
theorem iSt1_put {ls ls' : iL} {k : Nat} {v : iV} (h : iSt1 ls k v = some ls') : iPut ls k (some v) = some ls' ∧ ∀ j, j + 1 = k → iLong (iGet ls j) = false := by
  unfold iSt1 at h
  split at h
  · exact ⟨h, fun j hj => by omega⟩
  · split at h
    · cases h
    · rename_i hl
      exact ⟨h, fun j hj => by
        have : j = _ := Nat.succ.inj hj
        rw [this]; exact hl⟩
theorem iFr.st1 {ad : Nat → Nat → Nat} {rho : Nat → Int32} {ls ls' : iL} {lsM : Array Slot} {nL k : Nat} {v : iV} (hF : iFr (iTv ad rho) ls lsM nL) (h : iSt1 ls k v = some ls') :
    k < nL ∧ ∀ lsM' : Array Slot, lv_has lsM' nL ((k, iTv ad rho v) :: (iLv (iTv ad rho) ls).filter (fun q => !(q.1 == k) && !(q.1 + 1 == k && q.2.category == 2))) → iFr (iTv ad rho) ls' lsM' nL := by
  obtain ⟨hp, hg⟩ := iSt1_put h
  obtain ⟨l1, l2⟩ := iPut_len hp
  refine ⟨by rw [← hF.2.2.1]; exact l2, fun lsM' hl => ⟨hl.1, hl.2.1, l1.trans hF.2.2.1, fun i w hw => ?_⟩⟩
  rw [iPut_get hp i] at hw
  by_cases hik : i = k
  · rw [if_pos hik] at hw
    cases hw
    rw [hik]
    exact hl.2.2 (k, iTv ad rho v) List.mem_cons_self
  · rw [if_neg hik] at hw
    refine hl.2.2 (i, iTv ad rho w) (List.mem_cons_of_mem _ (List.mem_filter.mpr ⟨iLv_mem hw, ?_⟩))
    have h1 : ¬ (i + 1 = k ∧ (iTv ad rho w).category = 2) := fun q => by
      have e1 := hg i q.1
      rw [hw, iTv_cat q.2] at e1
      cases e1
    simp only [Bool.and_eq_true, Bool.not_eq_true', beq_eq_false_iff_ne, ne_eq, Bool.and_eq_false_iff]
    refine ⟨hik, ?_⟩
    by_cases h2 : i + 1 = k
    · exact Or.inr (fun q => h1 ⟨h2, q⟩)
    · exact Or.inl h2
theorem iFr.st2 {ad : Nat → Nat → Nat} {rho : Nat → Int32} {ls ls' : iL} {lsM : Array Slot} {nL k : Nat} {v : iV} (hF : iFr (iTv ad rho) ls lsM nL) (h : iSt2 ls k v = some ls') :
    k + 1 < nL ∧ ∀ lsM' : Array Slot, lv_has lsM' nL ((k, iTv ad rho v) :: (iLv (iTv ad rho) ls).filter (fun q => !(q.1 == k) && (!(q.1 == k + 1) && !(q.1 + 1 == k && q.2.category == 2)))) → iFr (iTv ad rho) ls' lsM' nL := by
  unfold iSt2 at h
  split at h
  · cases h
  · rename_i l1 h1
    obtain ⟨hp, hg⟩ := iSt1_put h1
    obtain ⟨a1, a2⟩ := iPut_len hp
    obtain ⟨b1, b2⟩ := iPut_len h
    refine ⟨by rw [← hF.2.2.1, ← a1]; exact b2, fun lsM' hl => ⟨hl.1, hl.2.1, b1.trans (a1.trans hF.2.2.1), fun i w hw => ?_⟩⟩
    rw [iPut_get h i] at hw
    by_cases hik : i = k + 1
    · rw [if_pos hik] at hw
      cases hw
    · rw [if_neg hik, iPut_get hp i] at hw
      by_cases hi2 : i = k
      · rw [if_pos hi2] at hw
        cases hw
        rw [hi2]
        exact hl.2.2 (k, iTv ad rho v) List.mem_cons_self
      · rw [if_neg hi2] at hw
        refine hl.2.2 (i, iTv ad rho w) (List.mem_cons_of_mem _ (List.mem_filter.mpr ⟨iLv_mem hw, ?_⟩))
        have h1 : ¬ (i + 1 = k ∧ (iTv ad rho w).category = 2) := fun q => by
          have e1 := hg i q.1
          rw [hw, iTv_cat q.2] at e1
          cases e1
        simp only [Bool.and_eq_true, Bool.not_eq_true', beq_eq_false_iff_ne, ne_eq, Bool.and_eq_false_iff]
        refine ⟨hi2, hik, ?_⟩
        by_cases h2 : i + 1 = k
        · exact Or.inr (fun q => h1 ⟨h2, q⟩)
        · exact Or.inl h2
theorem iTgOK_one {pc : Nat} {o : Int} {t : Nat} (h : iTgOK pc [o] [t] = true) : (pc : Int) + o = (t : Int) := by
  simp only [iTgOK, Bool.and_true, decide_eq_true_eq] at h
  exact h
theorem iPick_out (n : Nat) : ∀ (lo x : Int) (ts : List Nat) (d : Nat), (x < lo ∨ lo + (n : Int) ≤ x) → iPick (iKeys lo n) ts d x = d := by
  induction n with
  | zero => intro lo x ts d _; rfl
  | succ n ih =>
    intro lo x ts d h
    cases ts with
    | nil => rfl
    | cons t ts =>
      have hne : ¬ x = lo := by omega
      simp only [iKeys, iPick, hne, decide_false]
      exact ih (lo + 1) x ts d (by omega)
theorem iPick_in (pc : Nat) (n : Nat) : ∀ (lo x : Int) (offs : List Int) (ts : List Nat) (d : Nat), offs.length = n → iTgOK pc offs ts = true → lo ≤ x → x < lo + (n : Int) →
    ∃ off, offs[(x - lo).toNat]? = some off ∧ (pc : Int) + off = (iPick (iKeys lo n) ts d x : Int) := by
  induction n with
  | zero => intro lo x offs ts d _ _ h1 h2; omega
  | succ n ih =>
    intro lo x offs ts d hl ht h1 h2
    cases offs with
    | nil => simp at hl
    | cons o os =>
      cases ts with
      | nil => simp [iTgOK] at ht
      | cons t ts =>
        simp only [iTgOK, Bool.and_eq_true, decide_eq_true_eq] at ht
        by_cases hx : x = lo
        · refine ⟨o, ?_, ?_⟩
          · subst hx; simp
          · simp only [iKeys, iPick, hx, decide_true]
            exact ht.1
        · obtain ⟨off, e1, e2⟩ := ih (lo + 1) x os ts d (by simpa using hl) ht.2 (by omega) (by omega)
          refine ⟨off, ?_, ?_⟩
          · have e3 : (x - lo).toNat = (x - (lo + 1)).toNat + 1 := by omega
            rw [e3, List.getElem?_cons_succ]
            exact e1
          · simp only [iKeys, iPick, hx, decide_false]
            exact e2
section iSnd
variable {p : Program} {l : Launch} {e : Env} {R : Room} {s : State} {m : MethodId} {args : Array Value} {below : List Frame} {meth : Method} {c : Code} {H : Heap} {locs : List Loc} {cells slots : Nat} {Q : State → Prop}
variable {cc : ByteArray} {ad : Nat → Nat → Nat} {rho : Nat → Int32} {nL : Nat} {lsM : Array Slot}
set_option maxHeartbeats 4000000 in
theorem snd_stp (hx : p.tables.exec = Jvm.exec) (hb : c.code = cc) {i : iI} {n : Nat} {ts : iX} {k k' : iC} (h : iStp i ts k = some k') (hd : decode cc k.1 = .ok (i, n)) (hok : iOK (k.1, i, n, ts) = true)
    (hk1 : ∀ x, i = .ldc x → ∃ own, s.vm.findClass own = some m.cls ∧ (Jvm.Cond.constant own x ts.2).before args s = true) (hk2 : ∀ x, i = .ldc2_w x → ∃ own, s.vm.findClass own = some m.cls ∧ (Jvm.Cond.constantLong own x ts.2.toInt64).before args s = true) (hF : iFr (iTv ad rho) k.2.1 lsM nL)
    (kk : ∀ lsM' : Array Slot, iFr (iTv ad rho) k'.2.1 lsM' nL → W p l e R s m args below meth c H locs cells slots Q (F0 m k'.1 lsM' (k'.2.2.map (iTv ad rho)))) :
    W p l e R s m args below meth c H locs cells slots Q (F0 m k.1 lsM (k.2.2.map (iTv ad rho))) := by
  obtain ⟨pc, ls, st⟩ := k
  dsimp only at hd hok hF ⊢
  simp only [iOK, Bool.and_eq_true, Bool.or_eq_true, decide_eq_true_eq] at hok
  obtain ⟨hn, ⟨ht, hsw⟩, hnum⟩ := hok
  obtain ⟨ts, num⟩ := ts
  dsimp only at ht hnum hk1 hk2
  unfold iStp at h
  split at h
  -- iconst, bipush, sipush, lconst
  · obtain rfl : n = 1 := hn.resolve_left (fun q => by cases q)
    cases h
    exact lv_iconst hx hb hd (of_decide_eq_true hnum).symm (kk _ hF)
  · obtain rfl : n = 2 := hn.resolve_left (fun q => by cases q)
    cases h
    exact lv_bipush hx hb hd (of_decide_eq_true hnum).symm (kk _ hF)
  · obtain rfl : n = 3 := hn.resolve_left (fun q => by cases q)
    cases h
    exact lv_sipush hx hb hd (of_decide_eq_true hnum).symm (kk _ hF)
  · obtain rfl : n = 1 := hn.resolve_left (fun q => by cases q)
    cases h
    exact lv_lconst hx hb hd rfl (kk _ hF)
  · obtain rfl : n = 2 := hn.resolve_left (fun q => by cases q)
    cases h
    obtain ⟨own, g1, g2⟩ := hk1 _ rfl
    exact lv_ldc hx hb g1 g2 hd (kk _ hF)
  · obtain rfl : n = 3 := hn.resolve_left (fun q => by cases q)
    cases h
    obtain ⟨own, g1, g2⟩ := hk2 _ rfl
    exact lv_ldc2 hx hb g1 g2 hd (kk _ hF)
  -- iload, iload_n, lload, lload_n, aload, aload_n
  · obtain rfl : n = 2 := hn.resolve_left (fun q => by cases q)
    unfold iLdI at h
    dsimp only at h
    split at h
    · rename_i hg
      cases h
      exact lv_iload hx hb hd (hF.2.2.2 _ _ hg) (kk _ hF)
    · rename_i hg
      cases h
      exact lv_iload hx hb hd (hF.2.2.2 _ _ hg) (kk _ hF)
    · cases h
  · obtain rfl : n = 1 := hn.resolve_left (fun q => by cases q)
    unfold iLdI at h
    dsimp only at h
    split at h
    · rename_i hg
      cases h
      exact lv_iload_n hx hb hd rfl (hF.2.2.2 _ _ hg) (kk _ hF)
    · rename_i hg
      cases h
      exact lv_iload_n hx hb hd rfl (hF.2.2.2 _ _ hg) (kk _ hF)
    · cases h
  · obtain rfl : n = 2 := hn.resolve_left (fun q => by cases q)
    unfold iLdL at h
    dsimp only at h
    split at h
    · rename_i hg
      cases h
      exact lv_lload hx hb hd (hF.2.2.2 _ _ hg) (kk _ hF)
    · cases h
  · obtain rfl : n = 1 := hn.resolve_left (fun q => by cases q)
    unfold iLdL at h
    dsimp only at h
    split at h
    · rename_i hg
      cases h
      exact lv_lload_n hx hb hd rfl (hF.2.2.2 _ _ hg) (kk _ hF)
    · cases h
  · obtain rfl : n = 2 := hn.resolve_left (fun q => by cases q)
    unfold iLdA at h
    dsimp only at h
    split at h
    · rename_i hg
      cases h
      exact lv_aload hx hb hd (hF.2.2.2 _ _ hg) (kk _ hF)
    · cases h
  · obtain rfl : n = 1 := hn.resolve_left (fun q => by cases q)
    unfold iLdA at h
    dsimp only at h
    split at h
    · rename_i hg
      cases h
      exact lv_aload_n hx hb hd rfl (hF.2.2.2 _ _ hg) (kk _ hF)
    · cases h
  -- istore, istore_n, lstore, lstore_n, astore, astore_n
  · obtain rfl : n = 2 := hn.resolve_left (fun q => by cases q)
    unfold iStI at h
    dsimp only at h
    split at h
    · split at h
      · cases h
      · rename_i hs
        cases h
        obtain ⟨g1, g2⟩ := hF.st1 hs
        exact lv_istore hx hb hd hF.has g1 rfl (fun l' hl' => kk l' (g2 l' hl'))
    · cases h
  · obtain rfl : n = 1 := hn.resolve_left (fun q => by cases q)
    unfold iStI at h
    dsimp only at h
    split at h
    · split at h
      · cases h
      · rename_i hs
        cases h
        obtain ⟨g1, g2⟩ := hF.st1 hs
        exact lv_istore_n hx hb hd rfl hF.has g1 rfl (fun l' hl' => kk l' (g2 l' hl'))
    · cases h
  · obtain rfl : n = 2 := hn.resolve_left (fun q => by cases q)
    unfold iStL at h
    dsimp only at h
    split at h
    · split at h
      · cases h
      · rename_i hs
        cases h
        obtain ⟨g1, g2⟩ := hF.st2 hs
        exact lv_lstore hx hb hd hF.has g1 rfl (fun l' hl' => kk l' (g2 l' hl'))
    · cases h
  · obtain rfl : n = 1 := hn.resolve_left (fun q => by cases q)
    unfold iStL at h
    dsimp only at h
    split at h
    · split at h
      · cases h
      · rename_i hs
        cases h
        obtain ⟨g1, g2⟩ := hF.st2 hs
        exact lv_lstore_n hx hb hd rfl hF.has g1 rfl (fun l' hl' => kk l' (g2 l' hl'))
    · cases h
  · obtain rfl : n = 2 := hn.resolve_left (fun q => by cases q)
    unfold iStA at h
    dsimp only at h
    split at h
    · split at h
      · cases h
      · rename_i hs
        cases h
        obtain ⟨g1, g2⟩ := hF.st1 hs
        exact lv_astore hx hb hd hF.has g1 rfl (fun l' hl' => kk l' (g2 l' hl'))
    · cases h
  · obtain rfl : n = 1 := hn.resolve_left (fun q => by cases q)
    unfold iStA at h
    dsimp only at h
    split at h
    · split at h
      · cases h
      · rename_i hs
        cases h
        obtain ⟨g1, g2⟩ := hF.st1 hs
        exact lv_astore_n hx hb hd rfl hF.has g1 rfl (fun l' hl' => kk l' (g2 l' hl'))
    · cases h
  -- iinc
  · obtain rfl : n = 3 := hn.resolve_left (fun q => by cases q)
    unfold iInc at h
    dsimp only at h
    split at h
    · rename_i hg
      split at h
      · cases h
      · rename_i hs
        cases h
        obtain ⟨g1, g2⟩ := hF.st1 hs
        obtain ⟨j, hj⟩ := List.getElem?_of_mem (iLv_mem (tv := iTv ad rho) hg)
        exact lv_iinc hx hb hd hF.has hj (by rw [of_decide_eq_true hnum]) g1 rfl (fun l' hl' => kk l' (g2 l' hl'))
    · cases h
  · obtain rfl : n = 1 := hn.resolve_left (fun q => by cases q)
    unfold iBin at h
    dsimp only at h
    split at h
    · cases h
      exact lv_iadd hx hb hd (kk _ hF)
    · cases h
  · obtain rfl : n = 1 := hn.resolve_left (fun q => by cases q)
    unfold iBin at h
    dsimp only at h
    split at h
    · cases h
      exact lv_isub hx hb hd (kk _ hF)
    · cases h
  · obtain rfl : n = 1 := hn.resolve_left (fun q => by cases q)
    unfold iBin at h
    dsimp only at h
    split at h
    · cases h
      exact lv_imul hx hb hd (kk _ hF)
    · cases h
  · obtain rfl : n = 1 := hn.resolve_left (fun q => by cases q)
    unfold iBin at h
    dsimp only at h
    split at h
    · cases h
      exact lv_iand hx hb hd (kk _ hF)
    · cases h
  · obtain rfl : n = 1 := hn.resolve_left (fun q => by cases q)
    unfold iBin at h
    dsimp only at h
    split at h
    · cases h
      exact lv_ior hx hb hd (kk _ hF)
    · cases h
  · obtain rfl : n = 1 := hn.resolve_left (fun q => by cases q)
    unfold iBin at h
    dsimp only at h
    split at h
    · cases h
      exact lv_ixor hx hb hd (kk _ hF)
    · cases h
  · obtain rfl : n = 1 := hn.resolve_left (fun q => by cases q)
    unfold iBin at h
    dsimp only at h
    split at h
    · cases h
      exact lv_ishl hx hb hd (kk _ hF)
    · cases h
  · obtain rfl : n = 1 := hn.resolve_left (fun q => by cases q)
    unfold iBin at h
    dsimp only at h
    split at h
    · cases h
      exact lv_ishr hx hb hd (kk _ hF)
    · cases h
  · obtain rfl : n = 1 := hn.resolve_left (fun q => by cases q)
    unfold iBin at h
    dsimp only at h
    split at h
    · cases h
      exact lv_iushr hx hb hd rfl (kk _ hF)
    · cases h
  · obtain rfl : n = 1 := hn.resolve_left (fun q => by cases q)
    unfold iDiv at h
    dsimp only at h
    split at h
    · split at h
      · cases h
      · rename_i hne
        cases h
        exact lv_idiv hx hb hd (of_decide_eq_false hne) (kk _ hF)
    · cases h
  · obtain rfl : n = 1 := hn.resolve_left (fun q => by cases q)
    unfold iDiv at h
    dsimp only at h
    split at h
    · split at h
      · cases h
      · rename_i hne
        cases h
        exact lv_irem hx hb hd (of_decide_eq_false hne) (kk _ hF)
    · cases h
  · obtain rfl : n = 1 := hn.resolve_left (fun q => by cases q)
    unfold iNeg at h
    dsimp only at h
    split at h
    · cases h
      exact lv_ineg hx hb hd (kk _ hF)
    · cases h
  · obtain rfl : n = 1 := hn.resolve_left (fun q => by cases q)
    unfold iI2L at h
    dsimp only at h
    split at h
    · cases h
      exact lv_i2l hx hb hd rfl (kk _ hF)
    · cases h
  · obtain rfl : n = 1 := hn.resolve_left (fun q => by cases q)
    unfold iLSub at h
    dsimp only at h
    split at h
    · cases h
      exact lv_lsub hx hb hd (kk _ hF)
    · cases h
  · obtain rfl : n = 1 := hn.resolve_left (fun q => by cases q)
    unfold iLCmp at h
    dsimp only at h
    split at h
    · cases h
      exact W.lcmp hx hb hd (kk _ hF)
    · cases h
  -- dup, pop, dup_x1, dup_x2, dup2
  · obtain rfl : n = 1 := hn.resolve_left (fun q => by cases q)
    unfold iDup at h
    dsimp only at h
    split at h
    · split at h
      · rename_i hc
        cases h
        exact lv_dup hx hb hd (iTv_cat1 hc) (kk _ hF)
      · cases h
    · cases h
  · obtain rfl : n = 1 := hn.resolve_left (fun q => by cases q)
    unfold iPop at h
    dsimp only at h
    split at h
    · split at h
      · rename_i hc
        cases h
        exact lv_pop hx hb hd (iTv_cat1 hc) (kk _ hF)
      · cases h
    · cases h
  · obtain rfl : n = 1 := hn.resolve_left (fun q => by cases q)
    unfold iDupX1 at h
    dsimp only at h
    split at h
    · split at h
      · rename_i hc
        cases h
        rw [Bool.and_eq_true] at hc
        exact lv_dup_x1 hx hb hd (iTv_cat1 hc.1) (iTv_cat1 hc.2) (kk _ hF)
      · cases h
    · cases h
  · obtain rfl : n = 1 := hn.resolve_left (fun q => by cases q)
    unfold iDupX2 at h
    dsimp only at h
    split at h
    · split at h
      · rename_i hc
        cases h
        rw [Bool.and_eq_true, Bool.and_eq_true] at hc
        exact lv_dup_x2 hx hb hd (iTv_cat1 hc.1) (iTv_cat1 hc.2.1) (iTv_cat1 hc.2.2) (kk _ hF)
      · cases h
    · cases h
  · obtain rfl : n = 1 := hn.resolve_left (fun q => by cases q)
    unfold iDup2 at h
    dsimp only at h
    split at h
    · split at h
      · rename_i hc
        cases h
        rw [Bool.and_eq_true] at hc
        exact lv_dup2_11 hx hb hd (iTv_cat1 hc.1) (iTv_cat1 hc.2) (kk _ hF)
      · cases h
    · cases h
  -- branches
  · rename_i kc off
    obtain rfl : n = 3 := hn.resolve_left (fun q => by cases q)
    unfold iBr2 at h
    dsimp only at h
    split at h
    · rename_i t r b a r2
      have ht' := iTgOK_one ht
      cases kc with
      | eq => exact lv_icmp_eq hx hb hd ht' (fun q => by simp only [iCmp, q, decide_true] at h; cases h; exact kk _ hF) (fun q => by simp only [iCmp, q, decide_false] at h; cases h; exact kk _ hF)
      | ne => exact lv_icmp_ne hx hb hd ht' (fun q => by have q' : decide (a = b) = false := decide_eq_false q; simp only [iCmp, q', Bool.not_false] at h; cases h; exact kk _ hF) (fun q => by have q' : decide (a = b) = true := decide_eq_true q; simp only [iCmp, q', Bool.not_true] at h; cases h; exact kk _ hF)
      | lt => exact lv_icmp_lt hx hb hd ht' (fun q => by simp only [iCmp, q, decide_true] at h; cases h; exact kk _ hF) (fun q => by simp only [iCmp, q, decide_false] at h; cases h; exact kk _ hF)
      | ge => exact lv_icmp_ge hx hb hd ht' (fun q => by have q' : decide (a < b) = false := decide_eq_false (Int32.not_lt.mpr q); simp only [iCmp, q', Bool.not_false] at h; cases h; exact kk _ hF) (fun q => by have q' : decide (a < b) = true := decide_eq_true (Int32.not_le.mp q); simp only [iCmp, q', Bool.not_true] at h; cases h; exact kk _ hF)
      | gt => exact lv_icmp_gt hx hb hd ht' (fun q => by simp only [iCmp, q, decide_true] at h; cases h; exact kk _ hF) (fun q => by simp only [iCmp, q, decide_false] at h; cases h; exact kk _ hF)
      | le => exact lv_icmp_le hx hb hd ht' (fun q => by have q' : decide (b < a) = false := decide_eq_false (Int32.not_lt.mpr q); simp only [iCmp, q', Bool.not_false] at h; cases h; exact kk _ hF) (fun q => by have q' : decide (b < a) = true := decide_eq_true (Int32.not_le.mp q); simp only [iCmp, q', Bool.not_true] at h; cases h; exact kk _ hF)
    · cases h
  · rename_i kc off
    obtain rfl : n = 3 := hn.resolve_left (fun q => by cases q)
    unfold iBr1 at h
    dsimp only at h
    split at h
    · rename_i t r a r2
      have ht' := iTgOK_one ht
      cases kc with
      | eq => exact lv_if_eq hx hb hd ht' (fun q => by simp only [iCmp, q, decide_true] at h; cases h; exact kk _ hF) (fun q => by simp only [iCmp, q, decide_false] at h; cases h; exact kk _ hF)
      | ne => exact lv_if_ne hx hb hd ht' (fun q => by have q' : decide (a = 0) = false := decide_eq_false q; simp only [iCmp, q', Bool.not_false] at h; cases h; exact kk _ hF) (fun q => by have q' : decide (a = 0) = true := decide_eq_true q; simp only [iCmp, q', Bool.not_true] at h; cases h; exact kk _ hF)
      | lt => exact lv_if_lt hx hb hd ht' (fun q => by simp only [iCmp, q, decide_true] at h; cases h; exact kk _ hF) (fun q => by simp only [iCmp, q, decide_false] at h; cases h; exact kk _ hF)
      | ge => exact lv_if_ge hx hb hd ht' (fun q => by have q' : decide (a < 0) = false := decide_eq_false (Int32.not_lt.mpr q); simp only [iCmp, q', Bool.not_false] at h; cases h; exact kk _ hF) (fun q => by have q' : decide (a < 0) = true := decide_eq_true (Int32.not_le.mp q); simp only [iCmp, q', Bool.not_true] at h; cases h; exact kk _ hF)
      | gt => exact lv_if_gt hx hb hd ht' (fun q => by simp only [iCmp, q, decide_true] at h; cases h; exact kk _ hF) (fun q => by simp only [iCmp, q, decide_false] at h; cases h; exact kk _ hF)
      | le => exact lv_if_le hx hb hd ht' (fun q => by have q' : decide (0 < a) = false := decide_eq_false (Int32.not_lt.mpr q); simp only [iCmp, q', Bool.not_false] at h; cases h; exact kk _ hF) (fun q => by have q' : decide (0 < a) = true := decide_eq_true (Int32.not_le.mp q); simp only [iCmp, q', Bool.not_true] at h; cases h; exact kk _ hF)
    · cases h
  · obtain rfl : n = 3 := hn.resolve_left (fun q => by cases q)
    unfold iGoto at h
    dsimp only at h
    split at h
    · cases h
      exact lv_goto hx hb hd (iTgOK_one ht) (kk _ hF)
    · cases h
  -- tableswitch
  · rename_i dflt lo hi offs
    unfold iSw at h
    dsimp only at h
    split at h
    · rename_i d tr x r
      cases h
      simp only [iSwOK, decide_eq_true_eq] at hsw
      have ht2 : (pc : Int) + dflt = (d : Int) ∧ iTgOK pc offs.toList tr = true := by
        simp only [iOffs, iTgOK, Bool.and_eq_true, decide_eq_true_eq] at ht
        exact ht
      by_cases hout : x.toInt < lo ∨ hi < x.toInt
      · have e1 := iPick_out offs.size lo x.toInt tr d (by omega)
        dsimp only at kk
        rw [e1] at kk
        exact lv_tableOut hx hb hd hout ht2.1 (kk _ hF)
      · obtain ⟨off, e1, e2⟩ := iPick_in pc offs.size lo x.toInt offs.toList tr d (by simp) ht2.2 (by omega) (by omega)
        exact lv_tableIn hx hb hd (fun q => hout (Or.inl q)) (fun q => hout (Or.inr q)) (by rw [← Array.getElem?_toList]; exact e1) e2 (kk _ hF)
    · cases h
  · cases h
end iSnd
end
section
/-! Running methods: fuel for steps, depth for calls. -/
def iInv : iI → Option Nat
  | .invokevirtual k => some k
  | .invokespecial k => some k
  | .invokestatic k => some k
  | _ => none
def iIsB (x : Int32) : Bool := decide (x = 0) || decide (x = 1)
/-- kinds of answers: 0 none, 1 int, 2 boolean, 3 reference -/
def iRet (rk : Nat) (i : iI) (st : List iV) : Option (Option iV) := match i with
  | .return_ => match rk, st with
    | 0, [] => some none
    | _, _ => none
  | .ireturn => match rk, st with
    | 1, [Sum.inl x] => some (some (vI x))
    | 2, [Sum.inl x] => match iIsB x with
      | true => some (some (vI x))
      | false => none
    | _, _ => none
  | .areturn => match rk, st with
    | 3, [Sum.inr (Sum.inr (Sum.inl (some (t, j))))] => some (some (vR t j))
    | _, _ => none
  | _ => none
def iOkS : List iV → Nat → Bool
  | [], _ => true
  | _ :: _, 0 => false
  | v :: r, n + 1 => iCat1 v && iOkS r n
def iEntry : List iV → Nat → Option iL
  | [], n => some (List.replicate n none)
  | _ :: _, 0 => none
  | v :: r, n + 1 => match iCat1 v with
    | false => none
    | true => match iEntry r n with
      | none => none
      | some ls => some (some v :: ls)
section iRunS
variable {Hp : Type} (hop : Nat → iI → List iV → Hp → Option (List iV × Hp)) (tg : Nat → Nat → Option (Nat × Nat)) (mth : Nat → Option (Nat × Nat × Nat × List iE))
def iOne (call : Nat → List iV → Hp → Option (Option iV × Hp)) (own : Nat) (i : iI) (ts : iX) (c : iC) (h : Hp) : Option (iC × Hp) := match iStp i ts c with
  | some c' => some (c', h)
  | none => match hop own i c.2.2 h with
    | some (st', h') => some ((c.1 + iLen i, c.2.1, st'), h')
    | none => match iInv i with
      | none => none
      | some k => match tg own k with
        | none => none
        | some (j, n) => match iOkS (c.2.2.drop n) 8 with
          | false => none
          | true => match call j (c.2.2.take n).reverse h with
            | none => none
            | some (r, h') => some ((c.1 + 3, c.2.1, r.toList ++ c.2.2.drop n), h')
def iRun (call : Nat → List iV → Hp → Option (Option iV × Hp)) (own rk : Nat) (cd : List iE) : Nat → iC → Hp → Option (Option iV × Hp)
  | 0, _, _ => none
  | f + 1, c, h => match iLk cd c.1 with
    | none => none
    | some (i, _, ts) => match iRet rk i c.2.2 with
      | some r => some (r, h)
      | none => match iOne hop tg call own i ts c h with
        | none => none
        | some (c', h') => iRun call own rk cd f c' h'
def iMet (F : Nat) : Nat → Nat → List iV → Hp → Option (Option iV × Hp)
  | 0, _, _, _ => none
  | d + 1, j, as, h => match j with
    | 0 => match as with
      | [Sum.inr (Sum.inr (Sum.inl (some _)))] => some (none, h)
      | _ => none
    | k + 1 => match mth (k + 1) with
      | none => none
      | some (own, rk, nL, cd) => match iEntry as nL with
        | none => none
        | some ls => iRun hop tg (iMet F d) own rk cd F (0, ls, []) h
/-- some steps without a call -/
def iSteps (own rk : Nat) (cd : List iE) : Nat → iC → Hp → Option (iC × Hp)
  | 0, c, h => some (c, h)
  | k + 1, c, h => match iLk cd c.1 with
    | none => none
    | some (i, _, ts) => match iRet rk i c.2.2 with
      | some _ => none
      | none => match iOne hop tg (fun _ _ _ => none) own i ts c h with
        | none => none
        | some (c', h') => iSteps own rk cd k c' h'
def Ev (d j : Nat) (as : List iV) (h : Hp) (o : Option iV × Hp) : Prop := ∃ F, iMet hop tg mth F d j as h = some o
def EvB (d own rk : Nat) (cd : List iE) (c : iC) (h : Hp) (o : Option iV × Hp) : Prop := ∃ F f, iRun hop tg (iMet hop tg mth F d) own rk cd f c h = some o
variable {hop tg mth}
theorem iOne_mono {call call' : Nat → List iV → Hp → Option (Option iV × Hp)} (hc : ∀ j as h o, call j as h = some o → call' j as h = some o) {own : Nat} {i : iI} {ts : iX} {c : iC} {h : Hp} {o : iC × Hp} (hh : iOne hop tg call own i ts c h = some o) : iOne hop tg call' own i ts c h = some o := by
  unfold iOne at hh ⊢
  split
  · rename_i q; rw [q] at hh; exact hh
  · rename_i q1; rw [q1] at hh; dsimp only at hh
    split
    · rename_i q; rw [q] at hh; exact hh
    · rename_i q2; rw [q2] at hh; dsimp only at hh
      split
      · rename_i q; rw [q] at hh; exact hh
      · rename_i q3; rw [q3] at hh; dsimp only at hh
        split
        · rename_i q; rw [q] at hh; exact hh
        · rename_i q4; rw [q4] at hh; dsimp only at hh
          split
          · rename_i q; rw [q] at hh; exact hh
          · rename_i q5; rw [q5] at hh; dsimp only at hh
            split at hh
            · cases hh
            · rename_i q6
              rw [hc _ _ _ _ q6]
              exact hh
theorem iRun_mono {call call' : Nat → List iV → Hp → Option (Option iV × Hp)} (hc : ∀ j as h o, call j as h = some o → call' j as h = some o) {own rk : Nat} {cd : List iE} {f : Nat} : ∀ {f' : Nat} {c : iC} {h : Hp} {o : Option iV × Hp}, f ≤ f' → iRun hop tg call own rk cd f c h = some o → iRun hop tg call' own rk cd f' c h = some o := by
  induction f with
  | zero => intro f' c h o _ hh; cases hh
  | succ f ih =>
    intro f' c h o hf hh
    obtain ⟨g, rfl⟩ : ∃ g, f' = g + 1 := ⟨f' - 1, by omega⟩
    unfold iRun at hh ⊢
    split
    · rename_i q; rw [q] at hh; cases hh
    · rename_i q; rw [q] at hh; dsimp only at hh
      split
      · rename_i q2; rw [q2] at hh; exact hh
      · rename_i q2; rw [q2] at hh; dsimp only at hh
        split at hh
        · cases hh
        · rename_i q3
          rw [iOne_mono hc q3]
          exact ih (by omega) hh
theorem iMet_monoF {F F' : Nat} (hF : F ≤ F') {d : Nat} : ∀ {j : Nat} {as : List iV} {h : Hp} {o : Option iV × Hp}, iMet hop tg mth F d j as h = some o → iMet hop tg mth F' d j as h = some o := by
  induction d with
  | zero => intro j as h o hh; cases hh
  | succ d ih =>
    intro j as h o hh
    unfold iMet at hh ⊢
    split
    · exact hh
    · dsimp only at hh
      split
      · rename_i q; rw [q] at hh; cases hh
      · rename_i q; rw [q] at hh; dsimp only at hh
        split
        · rename_i q2; rw [q2] at hh; cases hh
        · rename_i q2; rw [q2] at hh; dsimp only at hh
          exact iRun_mono (fun j as h o => ih) hF hh
theorem iMet_monoD {F : Nat} {d : Nat} : ∀ {d' j : Nat} {as : List iV} {h : Hp} {o : Option iV × Hp}, d ≤ d' → iMet hop tg mth F d j as h = some o → iMet hop tg mth F d' j as h = some o := by
  induction d with
  | zero => intro d' j as h o _ hh; cases hh
  | succ d ih =>
    intro d' j as h o hd hh
    obtain ⟨g, rfl⟩ : ∃ g, d' = g + 1 := ⟨d' - 1, by omega⟩
    unfold iMet at hh ⊢
    split
    · exact hh
    · dsimp only at hh
      split
      · rename_i q; rw [q] at hh; cases hh
      · rename_i q; rw [q] at hh; dsimp only at hh
        split
        · rename_i q2; rw [q2] at hh; cases hh
        · rename_i q2; rw [q2] at hh; dsimp only at hh
          exact iRun_mono (fun j as h o => ih (by omega)) (Nat.le_refl _) hh
theorem Ev.mono {d d' j : Nat} {as : List iV} {h : Hp} {o : Option iV × Hp} (hE : Ev hop tg mth d j as h o) (hd : d ≤ d') : Ev hop tg mth d' j as h o := by
  obtain ⟨F, hF⟩ := hE
  exact ⟨F, iMet_monoD hd hF⟩
theorem ev_meth {d j : Nat} {own rk nL : Nat} {cd : List iE} {as : List iV} {ls : iL} {h : Hp} {o : Option iV × Hp} (hj : mth (j + 1) = some (own, rk, nL, cd)) (he : iEntry as nL = some ls) (hB : EvB hop tg mth d own rk cd (0, ls, []) h o) : Ev hop tg mth (d + 1) (j + 1) as h o := by
  obtain ⟨F, f, hr⟩ := hB
  refine ⟨F + f, ?_⟩
  unfold iMet
  dsimp only
  rw [hj]
  dsimp only
  rw [he]
  exact iRun_mono (fun j as h o => iMet_monoF (by omega)) (by omega) hr
section iRules
variable {d own rk : Nat} {cd : List iE} {pc : Nat} {ls : iL} {st : List iV} {h h' : Hp} {o : Option iV × Hp}
theorem ev_one {c c' : iC} {i : iI} {n : Nat} {ts : iX} (hl : iLk cd c.1 = some (i, n, ts)) (hr : iRet rk i c.2.2 = none) (h1 : iOne hop tg (fun _ _ _ => none) own i ts c h = some (c', h')) (hB : EvB hop tg mth d own rk cd c' h' o) : EvB hop tg mth d own rk cd c h o := by
  obtain ⟨F, f, hh⟩ := hB
  refine ⟨F, f + 1, ?_⟩
  unfold iRun
  rw [hl]
  dsimp only
  rw [hr]
  dsimp only
  rw [iOne_mono (call' := iMet hop tg mth F d) (fun j as h o hc => by cases hc) h1]
  exact hh
theorem ev_steps (k : Nat) {c c' : iC} (hs : iSteps hop tg own rk cd k c h = some (c', h')) (hB : EvB hop tg mth d own rk cd c' h' o) : EvB hop tg mth d own rk cd c h o := by
  induction k generalizing c h with
  | zero => cases hs; exact hB
  | succ k ih =>
    unfold iSteps at hs
    split at hs
    · cases hs
    · rename_i q
      split at hs
      · cases hs
      · rename_i q2
        split at hs
        · cases hs
        · rename_i q3
          exact ev_one q q2 q3 (ih hs)
theorem ev_ret {i : iI} {n : Nat} {ts : iX} {r : Option iV} (hl : iLk cd pc = some (i, n, ts)) (hr : iRet rk i st = some r) : EvB hop tg mth d own rk cd (pc, ls, st) h (r, h) := by
  refine ⟨0, 1, ?_⟩
  unfold iRun
  dsimp only
  rw [hl]
  dsimp only
  rw [hr]
theorem ev_call {i : iI} {n k j nn : Nat} {ts : iX} {r : Option iV} {as : List iV} {rest : List iV} (hl : iLk cd pc = some (i, nn, ts)) (hr : iRet rk i st = none) (h1 : iStp i ts (pc, ls, st) = none) (h2 : hop own i st h = none) (h3 : iInv i = some k) (h4 : tg own k = some (j, n)) (h5 : iOkS (st.drop n) 8 = true)
    (ha : (st.take n).reverse = as) (hd : r.toList ++ st.drop n = rest) (hE : Ev hop tg mth d j as h (r, h')) (hB : EvB hop tg mth d own rk cd (pc + 3, ls, rest) h' o) : EvB hop tg mth d own rk cd (pc, ls, st) h o := by
  obtain ⟨F, f, hh⟩ := hB
  obtain ⟨F2, hE⟩ := hE
  subst ha; subst hd
  refine ⟨F + F2, f + 1, ?_⟩
  unfold iRun
  dsimp only
  rw [hl]
  dsimp only
  rw [hr]
  dsimp only
  have e1 : iOne hop tg (iMet hop tg mth (F + F2) d) own i ts (pc, ls, st) h = some ((pc + 3, ls, r.toList ++ st.drop n), h') := by
    unfold iOne
    rw [h1]
    dsimp only
    rw [h2]
    dsimp only
    rw [h3]
    dsimp only
    rw [h4]
    dsimp only
    rw [h5]
    dsimp only
    rw [iMet_monoF (Nat.le_add_left F2 F) hE]
  rw [e1]
  exact iRun_mono (fun j as h o => iMet_monoF (by omega)) (Nat.le_refl _) hh
theorem ev_stp {c c' : iC} {i : iI} {n : Nat} {ts : iX} (hl : iLk cd c.1 = some (i, n, ts)) (hr : iRet rk i c.2.2 = none) (h1 : iStp i ts c = some c') (hB : EvB hop tg mth d own rk cd c' h o) : EvB hop tg mth d own rk cd c h o :=
  ev_one hl hr (by unfold iOne; rw [h1]) hB
variable {a b x : Int32} {off : Int} {n t : Nat}
theorem ev_icmp {k : Jvm.ClassFile.Cond} (hl : iLk cd pc = some (.if_icmp k off, n, [t], x)) (hT : iCmp k a b = true → EvB hop tg mth d own rk cd (t, ls, st) h o) (hF : iCmp k a b = false → EvB hop tg mth d own rk cd (pc + 3, ls, st) h o) : EvB hop tg mth d own rk cd (pc, ls, vI b :: vI a :: st) h o := by
  cases hc : iCmp k a b with
  | true => exact ev_stp (c' := (t, ls, st)) hl rfl (by simp only [iStp, iBr2, hc]) (hT hc)
  | false => exact ev_stp (c' := (pc + 3, ls, st)) hl rfl (by simp only [iStp, iBr2, hc]) (hF hc)
theorem ev_ifc {k : Jvm.ClassFile.Cond} (hl : iLk cd pc = some (.ifCond k off, n, [t], x)) (hT : iCmp k a 0 = true → EvB hop tg mth d own rk cd (t, ls, st) h o) (hF : iCmp k a 0 = false → EvB hop tg mth d own rk cd (pc + 3, ls, st) h o) : EvB hop tg mth d own rk cd (pc, ls, vI a :: st) h o := by
  cases hc : iCmp k a 0 with
  | true => exact ev_stp (c' := (t, ls, st)) hl rfl (by simp only [iStp, iBr1, hc]) (hT hc)
  | false => exact ev_stp (c' := (pc + 3, ls, st)) hl rfl (by simp only [iStp, iBr1, hc]) (hF hc)
theorem ev_icmp_eq (hl : iLk cd pc = some (.if_icmp .eq off, n, [t], x)) (hP : a = b → EvB hop tg mth d own rk cd (t, ls, st) h o) (hN : ¬ a = b → EvB hop tg mth d own rk cd (pc + 3, ls, st) h o) : EvB hop tg mth d own rk cd (pc, ls, vI b :: vI a :: st) h o :=
  ev_icmp hl (fun q => hP (of_decide_eq_true q)) (fun q => hN (of_decide_eq_false q))
theorem ev_if_eq (hl : iLk cd pc = some (.ifCond .eq off, n, [t], x)) (hP : a = 0 → EvB hop tg mth d own rk cd (t, ls, st) h o) (hN : ¬ a = 0 → EvB hop tg mth d own rk cd (pc + 3, ls, st) h o) : EvB hop tg mth d own rk cd (pc, ls, vI a :: st) h o :=
  ev_ifc hl (fun q => hP (of_decide_eq_true q)) (fun q => hN (of_decide_eq_false q))
theorem ev_icmp_ne (hl : iLk cd pc = some (.if_icmp .ne off, n, [t], x)) (hP : a = b → EvB hop tg mth d own rk cd (pc + 3, ls, st) h o) (hN : ¬ a = b → EvB hop tg mth d own rk cd (t, ls, st) h o) : EvB hop tg mth d own rk cd (pc, ls, vI b :: vI a :: st) h o :=
  ev_icmp hl (fun q => hN (of_decide_eq_false (by simpa [iCmp] using q))) (fun q => hP (of_decide_eq_true (by simpa [iCmp] using q)))
theorem ev_if_ne (hl : iLk cd pc = some (.ifCond .ne off, n, [t], x)) (hP : a = 0 → EvB hop tg mth d own rk cd (pc + 3, ls, st) h o) (hN : ¬ a = 0 → EvB hop tg mth d own rk cd (t, ls, st) h o) : EvB hop tg mth d own rk cd (pc, ls, vI a :: st) h o :=
  ev_ifc hl (fun q => hN (of_decide_eq_false (by simpa [iCmp] using q))) (fun q => hP (of_decide_eq_true (by simpa [iCmp] using q)))
theorem ev_icmp_lt (hl : iLk cd pc = some (.if_icmp .lt off, n, [t], x)) (hP : a < b → EvB hop tg mth d own rk cd (t, ls, st) h o) (hN : ¬ a < b → EvB hop tg mth d own rk cd (pc + 3, ls, st) h o) : EvB hop tg mth d own rk cd (pc, ls, vI b :: vI a :: st) h o :=
  ev_icmp hl (fun q => hP (of_decide_eq_true q)) (fun q => hN (of_decide_eq_false q))
theorem ev_if_lt (hl : iLk cd pc = some (.ifCond .lt off, n, [t], x)) (hP : a < 0 → EvB hop tg mth d own rk cd (t, ls, st) h o) (hN : ¬ a < 0 → EvB hop tg mth d own rk cd (pc + 3, ls, st) h o) : EvB hop tg mth d own rk cd (pc, ls, vI a :: st) h o :=
  ev_ifc hl (fun q => hP (of_decide_eq_true q)) (fun q => hN (of_decide_eq_false q))
theorem ev_icmp_ge (hl : iLk cd pc = some (.if_icmp .ge off, n, [t], x)) (hP : a < b → EvB hop tg mth d own rk cd (pc + 3, ls, st) h o) (hN : ¬ a < b → EvB hop tg mth d own rk cd (t, ls, st) h o) : EvB hop tg mth d own rk cd (pc, ls, vI b :: vI a :: st) h o :=
  ev_icmp hl (fun q => hN (of_decide_eq_false (by simpa [iCmp] using q))) (fun q => hP (of_decide_eq_true (by simpa [iCmp] using q)))
theorem ev_if_ge (hl : iLk cd pc = some (.ifCond .ge off, n, [t], x)) (hP : a < 0 → EvB hop tg mth d own rk cd (pc + 3, ls, st) h o) (hN : ¬ a < 0 → EvB hop tg mth d own rk cd (t, ls, st) h o) : EvB hop tg mth d own rk cd (pc, ls, vI a :: st) h o :=
  ev_ifc hl (fun q => hN (of_decide_eq_false (by simpa [iCmp] using q))) (fun q => hP (of_decide_eq_true (by simpa [iCmp] using q)))
theorem ev_icmp_gt (hl : iLk cd pc = some (.if_icmp .gt off, n, [t], x)) (hP : b < a → EvB hop tg mth d own rk cd (t, ls, st) h o) (hN : ¬ b < a → EvB hop tg mth d own rk cd (pc + 3, ls, st) h o) : EvB hop tg mth d own rk cd (pc, ls, vI b :: vI a :: st) h o :=
  ev_icmp hl (fun q => hP (of_decide_eq_true q)) (fun q => hN (of_decide_eq_false q))
theorem ev_if_gt (hl : iLk cd pc = some (.ifCond .gt off, n, [t], x)) (hP : 0 < a → EvB hop tg mth d own rk cd (t, ls, st) h o) (hN : ¬ 0 < a → EvB hop tg mth d own rk cd (pc + 3, ls, st) h o) : EvB hop tg mth d own rk cd (pc, ls, vI a :: st) h o :=
  ev_ifc hl (fun q => hP (of_decide_eq_true q)) (fun q => hN (of_decide_eq_false q))
theorem ev_icmp_le (hl : iLk cd pc = some (.if_icmp .le off, n, [t], x)) (hP : b < a → EvB hop tg mth d own rk cd (pc + 3, ls, st) h o) (hN : ¬ b < a → EvB hop tg mth d own rk cd (t, ls, st) h o) : EvB hop tg mth d own rk cd (pc, ls, vI b :: vI a :: st) h o :=
  ev_icmp hl (fun q => hN (of_decide_eq_false (by simpa [iCmp] using q))) (fun q => hP (of_decide_eq_true (by simpa [iCmp] using q)))
theorem ev_if_le (hl : iLk cd pc = some (.ifCond .le off, n, [t], x)) (hP : 0 < a → EvB hop tg mth d own rk cd (pc + 3, ls, st) h o) (hN : ¬ 0 < a → EvB hop tg mth d own rk cd (t, ls, st) h o) : EvB hop tg mth d own rk cd (pc, ls, vI a :: st) h o :=
  ev_ifc hl (fun q => hN (of_decide_eq_false (by simpa [iCmp] using q))) (fun q => hP (of_decide_eq_true (by simpa [iCmp] using q)))
end iRules
end iRunS
end
section
/-! The walk of a body: from the interpreter's run to the machine; what the heap and the calls do is a premise. -/
section iWalk
variable {Hp : Type} {hop : Nat → iI → List iV → Hp → Option (List iV × Hp)} {tg : Nat → Nat → Option (Nat × Nat)} {call : Nat → List iV → Hp → Option (Option iV × Hp)}
variable {p : Program} {l : Launch} {e : Env} {R : Room} {s : State} {m : MethodId} {args : Array Value} {below : List Frame} {meth : Method} {c : Code} {Q : State → Prop}
variable {cc : ByteArray} {ad : Nat → Nat → Nat} {rho : Nat → Int32} {nL own rk : Nat} {cd : List iE} {ST : Hp → Heap → List Loc → Prop} {vk : Hp → iC → Prop} {cf : Hp → Nat × Nat}
set_option maxHeartbeats 1000000 in
theorem snd_run (o : Option iV × Hp) (hx : p.tables.exec = Jvm.exec) (hb : c.code = cc)
    (hfetch : ∀ q ∈ cd, decode cc q.1 = .ok (q.2.1, q.2.2.1) ∧ iOK q = true)
    (hk1 : ∀ q ∈ cd, ∀ x, q.2.1 = .ldc x → ∃ own, s.vm.findClass own = some m.cls ∧ (Jvm.Cond.constant own x q.2.2.2.2).before args s = true) (hk2 : ∀ q ∈ cd, ∀ x, q.2.1 = .ldc2_w x → ∃ own, s.vm.findClass own = some m.cls ∧ (Jvm.Cond.constantLong own x q.2.2.2.2.toInt64).before args s = true)
    (hvk : ∀ (i : iI) (ts : iX) (k k' : iC) (h : Hp), iStp i ts k = some k' → vk h k → vk h k')
    (hhop : ∀ (i : iI) (n : Nat) (k : iC) (st' : List iV) (h h' : Hp), hop own i k.2.2 h = some (st', h') → decode cc k.1 = .ok (i, n) → (iIsSw i = true ∨ n = iLen i) → vk h k → (∃ f, iRun hop tg call own rk cd f (k.1 + iLen i, k.2.1, st') h' = some o) → vk h' (k.1 + iLen i, k.2.1, st') ∧ ∀ (H : Heap) (locs : List Loc) (lsM : Array Slot), lsM.size = nL → ST h H locs →
      (∀ (H1 : Heap) (locs1 : List Loc), ST h' H1 locs1 → W p l e R s m args below meth c H1 locs1 (cf h').1 (cf h').2 Q (F0 m (k.1 + iLen i) lsM (st'.map (iTv ad rho)))) → W p l e R s m args below meth c H locs (cf h).1 (cf h).2 Q (F0 m k.1 lsM (k.2.2.map (iTv ad rho))))
    (hcall : ∀ (i : iI) (n kx j nn : Nat) (k : iC) (r : Option iV) (h h' : Hp), iInv i = some kx → tg own kx = some (j, nn) → iOkS (k.2.2.drop nn) 8 = true → call j (k.2.2.take nn).reverse h = some (r, h') → decode cc k.1 = .ok (i, n) → (iIsSw i = true ∨ n = iLen i) → vk h k → (∃ f, iRun hop tg call own rk cd f (k.1 + 3, k.2.1, r.toList ++ k.2.2.drop nn) h' = some o) →
      vk h' (k.1 + 3, k.2.1, r.toList ++ k.2.2.drop nn) ∧ ∀ (H : Heap) (locs : List Loc) (lsM : Array Slot), lsM.size = nL → ST h H locs →
      (∀ (H1 : Heap) (locs1 : List Loc), ST h' H1 locs1 → W p l e R s m args below meth c H1 locs1 (cf h').1 (cf h').2 Q (F0 m (k.1 + 3) lsM ((r.toList ++ k.2.2.drop nn).map (iTv ad rho)))) → W p l e R s m args below meth c H locs (cf h).1 (cf h).2 Q (F0 m k.1 lsM (k.2.2.map (iTv ad rho))))
    (hret : ∀ (i : iI) (n : Nat) (k : iC) (h : Hp) (r : Option iV), o = (r, h) → iRet rk i k.2.2 = some r → decode cc k.1 = .ok (i, n) → (iIsSw i = true ∨ n = iLen i) → vk h k → ∀ (H : Heap) (locs : List Loc) (lsM : Array Slot), ST h H locs → W p l e R s m args below meth c H locs (cf h).1 (cf h).2 Q (F0 m k.1 lsM (k.2.2.map (iTv ad rho)))) :
    ∀ (f : Nat) (k : iC) (h : Hp), iRun hop tg call own rk cd f k h = some o → vk h k → ∀ (H : Heap) (locs : List Loc) (lsM : Array Slot), ST h H locs → iFr (iTv ad rho) k.2.1 lsM nL → W p l e R s m args below meth c H locs (cf h).1 (cf h).2 Q (F0 m k.1 lsM (k.2.2.map (iTv ad rho))) := by
  intro f
  induction f with
  | zero => intro k h hh; cases hh
  | succ f ih =>
    intro k h hh hv H locs lsM hS hF
    unfold iRun at hh
    split at hh
    · cases hh
    · rename_i i n ts hl
      obtain ⟨hd, hok⟩ := hfetch _ (iLk_mem hl)
      have hn : iIsSw i = true ∨ n = iLen i := by
        simp only [iOK, Bool.and_eq_true, Bool.or_eq_true, decide_eq_true_eq] at hok
        exact hok.1
      split at hh
      · rename_i r hr
        exact hret i n k h r (Option.some.inj hh).symm hr hd hn hv H locs lsM hS
      · rename_i hr
        split at hh
        · cases hh
        · rename_i k' h' h1
          unfold iOne at h1
          split at h1
          · rename_i k2 hs
            cases h1
            exact snd_stp hx hb hs hd hok (hk1 _ (iLk_mem hl)) (hk2 _ (iLk_mem hl)) hF (fun lsM' hF' => ih _ _ hh (hvk _ _ _ _ _ hs hv) H locs lsM' hS hF')
          · rename_i hs
            split at h1
            · rename_i st' h2 hho
              cases h1
              obtain ⟨hv', hw⟩ := hhop i n k st' h h' hho hd hn hv ⟨f, hh⟩
              exact hw H locs lsM hF.1 hS (fun H1 locs1 hS1 => ih _ _ hh hv' H1 locs1 lsM hS1 hF)
            · split at h1
              · cases h1
              · rename_i kx hi
                split at h1
                · cases h1
                · rename_i j nn ht
                  split at h1
                  · cases h1
                  · rename_i hok8
                    split at h1
                    · cases h1
                    · rename_i r h2 hc
                      cases h1
                      obtain ⟨hv', hw⟩ := hcall i n kx j nn k r h h' hi ht hok8 hc hd hn hv ⟨f, hh⟩
                      exact hw H locs lsM hF.1 hS (fun H1 locs1 hS1 => ih _ _ hh hv' H1 locs1 lsM hS1 hF)
end iWalk
/-- entry -/
theorem iEntry_fr {tv : iV → Value} (hc : ∀ v, iCat1 v = true → (tv v).category = 1) : ∀ {as : List iV} {n : Nat} {ls : iL}, iEntry as n = some ls →
    (lg_sl (as.map tv)).length ≤ n ∧ ls.length = n ∧ ∀ (k i : Nat) (v : iV), iGet ls i = some v → (k + i, tv v) ∈ lv_args k (as.map tv) := by
  intro as
  induction as with
  | nil =>
    intro n ls h
    cases h
    refine ⟨by simp [lg_sl], by simp, fun k i v hg => ?_⟩
    exfalso
    induction n generalizing i with
    | zero => cases hg
    | succ n ih2 =>
      cases i with
      | zero => cases hg
      | succ i => exact ih2 i hg
  | cons a r ih =>
    intro n ls h
    cases n with
    | zero => cases h
    | succ n =>
      unfold iEntry at h
      split at h
      · cases h
      · rename_i h1
        split at h
        · cases h
        · rename_i l2 h2
          cases h
          obtain ⟨g1, g2, g3⟩ := ih h2
          have hca := hc a h1
          have hca2 : ¬ (tv a).category = 2 := by omega
          refine ⟨?_, by simp [g2], fun k i v hg => ?_⟩
          · simp only [List.map_cons, lg_sl, List.flatMap_cons, hca2, if_false, List.length_append, List.length_cons, List.length_nil] at g1 ⊢
            omega
          · simp only [List.map_cons, lv_args, hca2, if_false]
            cases i with
            | zero =>
              cases hg
              exact List.mem_cons_self
            | succ i =>
              have := g3 (k + 1) i v hg
              rw [show k + 1 + i = k + (i + 1) by omega] at this
              exact List.mem_cons_of_mem _ this
theorem iFr_entry {ad : Nat → Nat → Nat} {rho : Nat → Int32} {as : List iV} {n : Nat} {ls : iL} (h : iEntry as n = some ls) :
    iFr (iTv ad rho) ls ((lg_sl (as.map (iTv ad rho)) ++ List.replicate (n - (lg_sl (as.map (iTv ad rho))).length) Slot.unset).toArray) n := by
  obtain ⟨g1, g2, g3⟩ := iEntry_fr (tv := iTv ad rho) (fun v hv => iTv_cat1 hv) h
  obtain ⟨e1, e2, e3⟩ := lv_entry (as.map (iTv ad rho)) g1
  refine ⟨e1, e2, g2, fun i v hv => ?_⟩
  have := g3 0 i v hv
  rw [Nat.zero_add] at this
  exact e3 _ this
end
section
/-! Tables, printed by a program out of the listing and the words. -/
def cd_L_new : List iE := [(0, .aload_n 0, 1, [], 0), (1, .invokespecial 1, 3, [], 0), (4, .iconst 2, 1, [], 2), (5, .bipush 16, 2, [], 16), (7, .iload_n 1, 1, [], 0), (8, .invokestatic 9, 3, [], 0), (11, .invokestatic 15, 3, [], 0), (14, .istore 4, 2, [], 0), (16, .iconst 2, 1, [], 2), (17, .bipush 9, 2, [], 9), (19, .iload_n 2, 1, [], 0), (20, .invokestatic 9, 3, [], 0), (23, .invokestatic 15, 3, [], 0), (26, .istore 5, 2, [], 0), (28, .aload_n 0, 1, [], 0), (29, .iload_n 3, 1, [], 0), (30, .putfield 18, 3, [], 0), (33, .aload_n 0, 1, [], 0), (34, .iconst 2, 1, [], 2), (35, .anewarray 22, 3, [], 0), (38, .putfield 24, 3, [], 0), (41, .iconst 0, 1, [], 0), (42, .istore 6, 2, [], 0), (44, .iload 6, 2, [], 0), (46, .iconst 2, 1, [], 2), (47, .if_icmp .ge 27, 3, [74], 0), (50, .aload_n 0, 1, [], 0), (51, .getfield 24, 3, [], 0), (54, .iload 6, 2, [], 0), (56, .new 22, 3, [], 0), (59, .dup, 1, [], 0), (60, .iload 4, 2, [], 0), (62, .iload 5, 2, [], 0), (64, .invokespecial 28, 3, [], 0), (67, .aastore, 1, [], 0), (68, .iinc 6 1, 3, [], 1), (71, .goto (-27), 3, [44], 0), (74, .aload_n 0, 1, [], 0), (75, .new 31, 3, [], 0), (78, .dup, 1, [], 0), (79, .invokespecial 33, 3, [], 0), (82, .putfield 34, 3, [], 0), (85, .aload_n 0, 1, [], 0), (86, .new 31, 3, [], 0), (89, .dup, 1, [], 0), (90, .invokespecial 33, 3, [], 0), (93, .putfield 38, 3, [], 0), (96, .aload_n 0, 1, [], 0), (97, .iconst 0, 1, [], 0), (98, .putfield 41, 3, [], 0), (101, .return_, 1, [], 0)]
def cd_L_open : List iE := [(0, .aload_n 0, 1, [], 0), (1, .getfield 24, 3, [], 0), (4, .iconst 0, 1, [], 0), (5, .aaload, 1, [], 0), (6, .astore_n 2, 1, [], 0), (7, .aload_n 2, 1, [], 0), (8, .getfield 44, 3, [], 0), (11, .ifCond .ne 18, 3, [29], 0), (14, .iload_n 1, 1, [], 0), (15, .ifCond .eq 14, 3, [29], 0), (18, .aload_n 0, 1, [], 0), (19, .getfield 34, 3, [], 0), (22, .iload_n 1, 1, [], 0), (23, .invokevirtual 47, 3, [], 0), (26, .ifCond .ne 5, 3, [31], 0), (29, .iconst 0, 1, [], 0), (30, .ireturn, 1, [], 0), (31, .aload_n 2, 1, [], 0), (32, .iload_n 1, 1, [], 0), (33, .aload_n 0, 1, [], 0), (34, .getfield 41, 3, [], 0), (37, .invokevirtual 51, 3, [], 0), (40, .iconst 1, 1, [], 1), (41, .ireturn, 1, [], 0)]
def cd_L_send : List iE := [(0, .iload_n 1, 1, [], 0), (1, .invokestatic 54, 3, [], 0), (4, .ifCond .eq 22, 3, [26], 0), (7, .iload_n 2, 1, [], 0), (8, .invokestatic 57, 3, [], 0), (11, .ifCond .eq 15, 3, [26], 0), (14, .iload 5, 2, [], 0), (16, .iconst 1, 1, [], 1), (17, .if_icmp .lt 9, 3, [26], 0), (20, .iload 5, 2, [], 0), (22, .iconst 4, 1, [], 4), (23, .if_icmp .le 5, 3, [28], 0), (26, .iconst 0, 1, [], 0), (27, .ireturn, 1, [], 0), (28, .aload_n 0, 1, [], 0), (29, .getfield 24, 3, [], 0), (32, .iload_n 1, 1, [], 0), (33, .aaload, 1, [], 0), (34, .astore 6, 2, [], 0), (36, .aload 6, 2, [], 0), (38, .getfield 44, 3, [], 0), (41, .iconst 3, 1, [], 3), (42, .if_icmp .ne 19, 3, [61], 0), (45, .aload 6, 2, [], 0), (47, .getfield 60, 3, [], 0), (50, .invokevirtual 64, 3, [], 0), (53, .iload 5, 2, [], 0), (55, .iadd, 1, [], 0), (56, .bipush 24, 2, [], 24), (58, .if_icmp .le 5, 3, [63], 0), (61, .iconst 0, 1, [], 0), (62, .ireturn, 1, [], 0), (63, .aload 6, 2, [], 0), (65, .getfield 60, 3, [], 0), (68, .iload_n 2, 1, [], 0), (69, .iload_n 3, 1, [], 0), (70, .iload 4, 2, [], 0), (72, .iload 5, 2, [], 0), (74, .invokevirtual 70, 3, [], 0), (77, .aload 6, 2, [], 0), (79, .aload_n 0, 1, [], 0), (80, .getfield 41, 3, [], 0), (83, .invokevirtual 74, 3, [], 0), (86, .iconst 1, 1, [], 1), (87, .ireturn, 1, [], 0)]
def cd_L_deliver : List iE := [(0, .iload_n 1, 1, [], 0), (1, .invokestatic 54, 3, [], 0), (4, .ifCond .eq 10, 3, [14], 0), (7, .iload_n 2, 1, [], 0), (8, .invokestatic 78, 3, [], 0), (11, .ifCond .ne 5, 3, [16], 0), (14, .iconst (-1), 1, [], (-1)), (15, .ireturn, 1, [], 0), (16, .aload_n 0, 1, [], 0), (17, .getfield 24, 3, [], 0), (20, .iload_n 1, 1, [], 0), (21, .aaload, 1, [], 0), (22, .getfield 81, 3, [], 0), (25, .iload_n 2, 1, [], 0), (26, .aaload, 1, [], 0), (27, .getfield 85, 3, [], 0), (30, .astore_n 3, 1, [], 0), (31, .aload_n 3, 1, [], 0), (32, .getfield 91, 3, [], 0), (35, .ifCond .ne 5, 3, [40], 0), (38, .iconst (-1), 1, [], (-1)), (39, .ireturn, 1, [], 0), (40, .aload_n 3, 1, [], 0), (41, .invokevirtual 95, 3, [], 0), (44, .astore 4, 2, [], 0), (46, .aload_n 3, 1, [], 0), (47, .invokevirtual 99, 3, [], 0), (50, .iconst 1, 1, [], 1), (51, .iload_n 1, 1, [], 0), (52, .isub, 1, [], 0), (53, .istore 5, 2, [], 0), (55, .aload_n 0, 1, [], 0), (56, .getfield 24, 3, [], 0), (59, .iload 5, 2, [], 0), (61, .aaload, 1, [], 0), (62, .astore 6, 2, [], 0), (64, .aload 4, 2, [], 0), (66, .getfield 102, 3, [], 0), (69, .iconst 3, 1, [], 3), (70, .if_icmp .gt 15, 3, [85], 0), (73, .aload_n 0, 1, [], 0), (74, .iload 5, 2, [], 0), (76, .iload_n 2, 1, [], 0), (77, .aload 4, 2, [], 0), (79, .invokevirtual 107, 3, [], 0), (82, .goto 37, 3, [119], 0), (85, .aload 6, 2, [], 0), (87, .getfield 44, 3, [], 0), (90, .iconst 3, 1, [], 3), (91, .if_icmp .ne 28, 3, [119], 0), (94, .aload 4, 2, [], 0), (96, .getfield 111, 3, [], 0), (99, .aload 6, 2, [], 0), (101, .getfield 114, 3, [], 0), (104, .if_icmp .ne 15, 3, [119], 0), (107, .aload 6, 2, [], 0), (109, .iload_n 2, 1, [], 0), (110, .aload 4, 2, [], 0), (112, .aload_n 0, 1, [], 0), (113, .getfield 41, 3, [], 0), (116, .invokevirtual 117, 3, [], 0), (119, .aload 4, 2, [], 0), (121, .getfield 102, 3, [], 0), (124, .ireturn, 1, [], 0)]
def cd_L_alter : List iE := [(0, .iload_n 1, 1, [], 0), (1, .invokestatic 54, 3, [], 0), (4, .ifCond .eq 10, 3, [14], 0), (7, .iload_n 2, 1, [], 0), (8, .invokestatic 78, 3, [], 0), (11, .ifCond .ne 5, 3, [16], 0), (14, .iconst 0, 1, [], 0), (15, .ireturn, 1, [], 0), (16, .aload_n 0, 1, [], 0), (17, .getfield 24, 3, [], 0), (20, .iload_n 1, 1, [], 0), (21, .aaload, 1, [], 0), (22, .getfield 81, 3, [], 0), (25, .iload_n 2, 1, [], 0), (26, .aaload, 1, [], 0), (27, .getfield 85, 3, [], 0), (30, .astore 4, 2, [], 0), (32, .aload 4, 2, [], 0), (34, .getfield 91, 3, [], 0), (37, .ifCond .eq 15, 3, [52], 0), (40, .iload_n 3, 1, [], 0), (41, .ifCond .eq 13, 3, [54], 0), (44, .aload 4, 2, [], 0), (46, .invokevirtual 121, 3, [], 0), (49, .ifCond .eq 5, 3, [54], 0), (52, .iconst 0, 1, [], 0), (53, .ireturn, 1, [], 0), (54, .iload_n 3, 1, [], 0), (55, .ifCond .eq 19, 3, [74], 0), (58, .aload 4, 2, [], 0), (60, .invokevirtual 125, 3, [], 0), (63, .aload 4, 2, [], 0), (65, .invokevirtual 95, 3, [], 0), (68, .invokevirtual 128, 3, [], 0), (71, .goto 8, 3, [79], 0), (74, .aload 4, 2, [], 0), (76, .invokevirtual 99, 3, [], 0), (79, .iconst 1, 1, [], 1), (80, .ireturn, 1, [], 0)]
def cd_L_forge : List iE := [(0, .iload_n 1, 1, [], 0), (1, .invokestatic 54, 3, [], 0), (4, .ifCond .eq 18, 3, [22], 0), (7, .iload_n 2, 1, [], 0), (8, .ifCond .eq 16, 3, [24], 0), (11, .iload_n 2, 1, [], 0), (12, .iconst 2, 1, [], 2), (13, .if_icmp .eq 11, 3, [24], 0), (16, .iload_n 2, 1, [], 0), (17, .bipush 8, 2, [], 8), (19, .if_icmp .eq 5, 3, [24], 0), (22, .iconst 0, 1, [], 0), (23, .ireturn, 1, [], 0), (24, .iload_n 2, 1, [], 0), (25, .ifCond .eq 18, 3, [43], 0), (28, .iload_n 3, 1, [], 0), (29, .aload_n 0, 1, [], 0), (30, .getfield 24, 3, [], 0), (33, .iload_n 1, 1, [], 0), (34, .aaload, 1, [], 0), (35, .getfield 114, 3, [], 0), (38, .if_icmp .ne 5, 3, [43], 0), (41, .iconst 0, 1, [], 0), (42, .ireturn, 1, [], 0), (43, .aload_n 0, 1, [], 0), (44, .getfield 24, 3, [], 0), (47, .iconst 1, 1, [], 1), (48, .iload_n 1, 1, [], 0), (49, .isub, 1, [], 0), (50, .aaload, 1, [], 0), (51, .astore 8, 2, [], 0), (53, .aload 8, 2, [], 0), (55, .getfield 81, 3, [], 0), (58, .iconst 0, 1, [], 0), (59, .aaload, 1, [], 0), (60, .getfield 85, 3, [], 0), (63, .invokevirtual 121, 3, [], 0), (66, .ifCond .eq 5, 3, [71], 0), (69, .iconst 0, 1, [], 0), (70, .ireturn, 1, [], 0), (71, .aload 8, 2, [], 0), (73, .iconst 0, 1, [], 0), (74, .iload_n 2, 1, [], 0), (75, .invokevirtual 132, 3, [], 0), (78, .astore 9, 2, [], 0), (80, .aload 9, 2, [], 0), (82, .iload_n 2, 1, [], 0), (83, .ifCond .ne 7, 3, [90], 0), (86, .iconst 0, 1, [], 0), (87, .goto 4, 3, [91], 0), (90, .iload_n 3, 1, [], 0), (91, .putfield 111, 3, [], 0), (94, .aload 9, 2, [], 0), (96, .iload 4, 2, [], 0), (98, .putfield 136, 3, [], 0), (101, .aload 9, 2, [], 0), (103, .getfield 139, 3, [], 0), (106, .iload 4, 2, [], 0), (108, .iload 5, 2, [], 0), (110, .iload 6, 2, [], 0), (112, .iload 7, 2, [], 0), (114, .invokevirtual 143, 3, [], 0), (117, .iconst 1, 1, [], 1), (118, .ireturn, 1, [], 0)]
def cd_L_tick : List iE := [(0, .aload_n 0, 1, [], 0), (1, .dup, 1, [], 0), (2, .getfield 41, 3, [], 0), (5, .iconst 1, 1, [], 1), (6, .iadd, 1, [], 0), (7, .putfield 41, 3, [], 0), (10, .iconst 0, 1, [], 0), (11, .istore_n 1, 1, [], 0), (12, .iload_n 1, 1, [], 0), (13, .iconst 2, 1, [], 2), (14, .if_icmp .ge 22, 3, [36], 0), (17, .aload_n 0, 1, [], 0), (18, .getfield 24, 3, [], 0), (21, .iload_n 1, 1, [], 0), (22, .aaload, 1, [], 0), (23, .aload_n 0, 1, [], 0), (24, .getfield 41, 3, [], 0), (27, .invokevirtual 149, 3, [], 0), (30, .iinc 1 1, 3, [], 1), (33, .goto (-21), 3, [12], 0), (36, .aload_n 0, 1, [], 0), (37, .getfield 41, 3, [], 0), (40, .ireturn, 1, [], 0)]
def cd_L_read : List iE := [(0, .iload_n 1, 1, [], 0), (1, .invokestatic 54, 3, [], 0), (4, .ifCond .eq 10, 3, [14], 0), (7, .iload_n 2, 1, [], 0), (8, .invokestatic 57, 3, [], 0), (11, .ifCond .ne 5, 3, [16], 0), (14, .iconst 0, 1, [], 0), (15, .ireturn, 1, [], 0), (16, .aload_n 0, 1, [], 0), (17, .getfield 24, 3, [], 0), (20, .iload_n 1, 1, [], 0), (21, .aaload, 1, [], 0), (22, .getfield 152, 3, [], 0), (25, .getfield 156, 3, [], 0), (28, .iload_n 2, 1, [], 0), (29, .invokevirtual 162, 3, [], 0), (32, .ireturn, 1, [], 0)]
def cd_L_ready : List iE := [(0, .iload_n 1, 1, [], 0), (1, .invokestatic 54, 3, [], 0), (4, .ifCond .eq 10, 3, [14], 0), (7, .iload_n 2, 1, [], 0), (8, .invokestatic 57, 3, [], 0), (11, .ifCond .ne 5, 3, [16], 0), (14, .iconst (-1), 1, [], (-1)), (15, .ireturn, 1, [], 0), (16, .aload_n 0, 1, [], 0), (17, .getfield 24, 3, [], 0), (20, .iload_n 1, 1, [], 0), (21, .aaload, 1, [], 0), (22, .getfield 152, 3, [], 0), (25, .getfield 156, 3, [], 0), (28, .iload_n 2, 1, [], 0), (29, .invokevirtual 168, 3, [], 0), (32, .ireturn, 1, [], 0)]
def cd_L_length : List iE := [(0, .iload_n 1, 1, [], 0), (1, .invokestatic 54, 3, [], 0), (4, .ifCond .eq 10, 3, [14], 0), (7, .iload_n 2, 1, [], 0), (8, .invokestatic 57, 3, [], 0), (11, .ifCond .ne 5, 3, [16], 0), (14, .iconst 0, 1, [], 0), (15, .ireturn, 1, [], 0), (16, .aload_n 0, 1, [], 0), (17, .getfield 24, 3, [], 0), (20, .iload_n 1, 1, [], 0), (21, .aaload, 1, [], 0), (22, .getfield 152, 3, [], 0), (25, .getfield 156, 3, [], 0), (28, .iload_n 2, 1, [], 0), (29, .invokevirtual 171, 3, [], 0), (32, .ireturn, 1, [], 0)]
def cd_L_abort : List iE := [(0, .iload_n 1, 1, [], 0), (1, .invokestatic 54, 3, [], 0), (4, .ifCond .eq 15, 3, [19], 0), (7, .aload_n 0, 1, [], 0), (8, .getfield 24, 3, [], 0), (11, .iload_n 1, 1, [], 0), (12, .aaload, 1, [], 0), (13, .getfield 44, 3, [], 0), (16, .ifCond .ne 5, 3, [21], 0), (19, .iconst 0, 1, [], 0), (20, .ireturn, 1, [], 0), (21, .aload_n 0, 1, [], 0), (22, .getfield 24, 3, [], 0), (25, .iload_n 1, 1, [], 0), (26, .aaload, 1, [], 0), (27, .getfield 44, 3, [], 0), (30, .iconst 3, 1, [], 3), (31, .if_icmp .ne 12, 3, [43], 0), (34, .aload_n 0, 1, [], 0), (35, .getfield 24, 3, [], 0), (38, .iload_n 1, 1, [], 0), (39, .aaload, 1, [], 0), (40, .invokevirtual 174, 3, [], 0), (43, .aload_n 0, 1, [], 0), (44, .getfield 24, 3, [], 0), (47, .iload_n 1, 1, [], 0), (48, .aaload, 1, [], 0), (49, .iconst 3, 1, [], 3), (50, .invokevirtual 177, 3, [], 0), (53, .iconst 1, 1, [], 1), (54, .ireturn, 1, [], 0)]
def cd_L_primary : List iE := [(0, .iload_n 1, 1, [], 0), (1, .invokestatic 54, 3, [], 0), (4, .ifCond .eq 23, 3, [27], 0), (7, .iload_n 2, 1, [], 0), (8, .invokestatic 78, 3, [], 0), (11, .ifCond .eq 16, 3, [27], 0), (14, .aload_n 0, 1, [], 0), (15, .getfield 24, 3, [], 0), (18, .iload_n 1, 1, [], 0), (19, .aaload, 1, [], 0), (20, .getfield 44, 3, [], 0), (23, .iconst 3, 1, [], 3), (24, .if_icmp .eq 5, 3, [29], 0), (27, .iconst 0, 1, [], 0), (28, .ireturn, 1, [], 0), (29, .aload_n 0, 1, [], 0), (30, .getfield 24, 3, [], 0), (33, .iload_n 1, 1, [], 0), (34, .aaload, 1, [], 0), (35, .iload_n 2, 1, [], 0), (36, .putfield 180, 3, [], 0), (39, .iconst 1, 1, [], 1), (40, .ireturn, 1, [], 0)]
def cd_L_about : List iE := [(0, .iload_n 1, 1, [], 0), (1, .invokestatic 54, 3, [], 0), (4, .ifCond .eq 16, 3, [20], 0), (7, .aload_n 0, 1, [], 0), (8, .getfield 24, 3, [], 0), (11, .iload_n 1, 1, [], 0), (12, .aaload, 1, [], 0), (13, .iload_n 2, 1, [], 0), (14, .invokevirtual 183, 3, [], 0), (17, .goto 4, 3, [21], 0), (20, .iconst (-1), 1, [], (-1)), (21, .ireturn, 1, [], 0)]
def cd_L_path : List iE := [(0, .iload_n 1, 1, [], 0), (1, .invokestatic 54, 3, [], 0), (4, .ifCond .eq 24, 3, [28], 0), (7, .iload_n 2, 1, [], 0), (8, .invokestatic 78, 3, [], 0), (11, .ifCond .eq 17, 3, [28], 0), (14, .aload_n 0, 1, [], 0), (15, .getfield 24, 3, [], 0), (18, .iload_n 1, 1, [], 0), (19, .aaload, 1, [], 0), (20, .iload_n 2, 1, [], 0), (21, .iload_n 3, 1, [], 0), (22, .invokevirtual 186, 3, [], 0), (25, .goto 4, 3, [29], 0), (28, .iconst (-1), 1, [], (-1)), (29, .ireturn, 1, [], 0)]
def cd_L_waiting : List iE := [(0, .iload_n 1, 1, [], 0), (1, .invokestatic 54, 3, [], 0), (4, .ifCond .eq 30, 3, [34], 0), (7, .iload_n 2, 1, [], 0), (8, .invokestatic 78, 3, [], 0), (11, .ifCond .eq 23, 3, [34], 0), (14, .aload_n 0, 1, [], 0), (15, .getfield 24, 3, [], 0), (18, .iload_n 1, 1, [], 0), (19, .aaload, 1, [], 0), (20, .getfield 81, 3, [], 0), (23, .iload_n 2, 1, [], 0), (24, .aaload, 1, [], 0), (25, .getfield 85, 3, [], 0), (28, .getfield 91, 3, [], 0), (31, .goto 4, 3, [35], 0), (34, .iconst (-1), 1, [], (-1)), (35, .ireturn, 1, [], 0)]
def cd_L_word : List iE := [(0, .iload_n 1, 1, [], 0), (1, .invokestatic 54, 3, [], 0), (4, .ifCond .eq 19, 3, [23], 0), (7, .aload_n 0, 1, [], 0), (8, .getfield 24, 3, [], 0), (11, .iload_n 1, 1, [], 0), (12, .aaload, 1, [], 0), (13, .getfield 60, 3, [], 0), (16, .iload_n 2, 1, [], 0), (17, .invokevirtual 189, 3, [], 0), (20, .goto 4, 3, [24], 0), (23, .iconst 0, 1, [], 0), (24, .ireturn, 1, [], 0)]
def cd_L_isEnd : List iE := [(0, .iload_n 0, 1, [], 0), (1, .ifCond .lt 12, 3, [13], 0), (4, .iload_n 0, 1, [], 0), (5, .iconst 2, 1, [], 2), (6, .if_icmp .ge 7, 3, [13], 0), (9, .iconst 1, 1, [], 1), (10, .goto 4, 3, [14], 0), (13, .iconst 0, 1, [], 0), (14, .ireturn, 1, [], 0)]
def cd_L_isPath : List iE := [(0, .iload_n 0, 1, [], 0), (1, .ifCond .lt 12, 3, [13], 0), (4, .iload_n 0, 1, [], 0), (5, .iconst 2, 1, [], 2), (6, .if_icmp .ge 7, 3, [13], 0), (9, .iconst 1, 1, [], 1), (10, .goto 4, 3, [14], 0), (13, .iconst 0, 1, [], 0), (14, .ireturn, 1, [], 0)]
def cd_L_isStream : List iE := [(0, .iload_n 0, 1, [], 0), (1, .ifCond .lt 12, 3, [13], 0), (4, .iload_n 0, 1, [], 0), (5, .iconst 3, 1, [], 3), (6, .if_icmp .ge 7, 3, [13], 0), (9, .iconst 1, 1, [], 1), (10, .goto 4, 3, [14], 0), (13, .iconst 0, 1, [], 0), (14, .ireturn, 1, [], 0)]
def cd_L_isSet : List iE := [(0, .iload_n 0, 1, [], 0), (1, .iload_n 1, 1, [], 0), (2, .ishr, 1, [], 0), (3, .iconst 1, 1, [], 1), (4, .iand, 1, [], 0), (5, .iconst 1, 1, [], 1), (6, .if_icmp .ne 7, 3, [13], 0), (9, .iconst 1, 1, [], 1), (10, .goto 4, 3, [14], 0), (13, .iconst 0, 1, [], 0), (14, .ireturn, 1, [], 0)]
def cd_L_mixIn : List iE := [(0, .iload_n 0, 1, [], 0), (1, .iload_n 1, 1, [], 0), (2, .ixor, 1, [], 0), (3, .ldc 192, 2, [], 16777619), (5, .imul, 1, [], 0), (6, .istore_n 2, 1, [], 0), (7, .iload_n 2, 1, [], 0), (8, .iload_n 2, 1, [], 0), (9, .bipush 15, 2, [], 15), (11, .iushr, 1, [], 0), (12, .ixor, 1, [], 0), (13, .ireturn, 1, [], 0)]
def cd_L_serverTagFor : List iE := [(0, .ldc 193, 2, [], (-2128831035)), (2, .aload_n 0, 1, [], 0), (3, .getfield 18, 3, [], 0), (6, .invokestatic 194, 3, [], 0), (9, .istore_n 2, 1, [], 0), (10, .iload_n 1, 1, [], 0), (11, .iload_n 2, 1, [], 0), (12, .if_icmp .ne 7, 3, [19], 0), (15, .iload_n 2, 1, [], 0), (16, .goto 6, 3, [22], 0), (19, .iload_n 1, 1, [], 0), (20, .iload_n 2, 1, [], 0), (21, .ixor, 1, [], 0), (22, .ireturn, 1, [], 0)]
def cd_L_sealOf : List iE := [(0, .ldc 193, 2, [], (-2128831035)), (2, .aload_n 0, 1, [], 0), (3, .getfield 18, 3, [], 0), (6, .invokestatic 194, 3, [], 0), (9, .istore 4, 2, [], 0), (11, .iload 4, 2, [], 0), (13, .iload_n 1, 1, [], 0), (14, .invokestatic 194, 3, [], 0), (17, .istore 4, 2, [], 0), (19, .iload 4, 2, [], 0), (21, .iload_n 2, 1, [], 0), (22, .invokestatic 194, 3, [], 0), (25, .istore 4, 2, [], 0), (27, .iload 4, 2, [], 0), (29, .iload_n 3, 1, [], 0), (30, .invokestatic 194, 3, [], 0), (33, .istore 4, 2, [], 0), (35, .iload 4, 2, [], 0), (37, .bipush 7, 2, [], 7), (39, .invokestatic 194, 3, [], 0), (42, .ireturn, 1, [], 0)]
def cd_L_takeMaking : List iE := [(0, .aload_n 3, 1, [], 0), (1, .getfield 102, 3, [], 0), (4, .ifCond .ne 20, 3, [24], 0), (7, .iload_n 1, 1, [], 0), (8, .iconst 1, 1, [], 1), (9, .if_icmp .ne 15, 3, [24], 0), (12, .aload_n 0, 1, [], 0), (13, .iload_n 2, 1, [], 0), (14, .aload_n 3, 1, [], 0), (15, .getfield 136, 3, [], 0), (18, .invokevirtual 197, 3, [], 0), (21, .goto 77, 3, [98], 0), (24, .aload_n 3, 1, [], 0), (25, .getfield 102, 3, [], 0), (28, .iconst 1, 1, [], 1), (29, .if_icmp .ne 25, 3, [54], 0), (32, .iload_n 1, 1, [], 0), (33, .ifCond .ne 21, 3, [54], 0), (36, .aload_n 0, 1, [], 0), (37, .getfield 24, 3, [], 0), (40, .iconst 0, 1, [], 0), (41, .aaload, 1, [], 0), (42, .iload_n 2, 1, [], 0), (43, .aload_n 3, 1, [], 0), (44, .aload_n 0, 1, [], 0), (45, .getfield 41, 3, [], 0), (48, .invokevirtual 200, 3, [], 0), (51, .goto 47, 3, [98], 0), (54, .aload_n 3, 1, [], 0), (55, .getfield 102, 3, [], 0), (58, .iconst 2, 1, [], 2), (59, .if_icmp .ne 17, 3, [76], 0), (62, .iload_n 1, 1, [], 0), (63, .iconst 1, 1, [], 1), (64, .if_icmp .ne 12, 3, [76], 0), (67, .aload_n 0, 1, [], 0), (68, .iload_n 2, 1, [], 0), (69, .aload_n 3, 1, [], 0), (70, .invokevirtual 203, 3, [], 0), (73, .goto 25, 3, [98], 0), (76, .aload_n 3, 1, [], 0), (77, .getfield 102, 3, [], 0), (80, .iconst 3, 1, [], 3), (81, .if_icmp .ne 17, 3, [98], 0), (84, .iload_n 1, 1, [], 0), (85, .ifCond .ne 13, 3, [98], 0), (88, .aload_n 0, 1, [], 0), (89, .getfield 24, 3, [], 0), (92, .iconst 0, 1, [], 0), (93, .aaload, 1, [], 0), (94, .aload_n 3, 1, [], 0), (95, .invokevirtual 207, 3, [], 0), (98, .return_, 1, [], 0)]
def cd_L_answerInit : List iE := [(0, .iload_n 2, 1, [], 0), (1, .ifCond .ne 4, 3, [5], 0), (4, .return_, 1, [], 0), (5, .aload_n 0, 1, [], 0), (6, .iload_n 2, 1, [], 0), (7, .invokevirtual 210, 3, [], 0), (10, .istore_n 3, 1, [], 0), (11, .aload_n 0, 1, [], 0), (12, .getfield 24, 3, [], 0), (15, .iconst 1, 1, [], 1), (16, .aaload, 1, [], 0), (17, .iload_n 1, 1, [], 0), (18, .iconst 1, 1, [], 1), (19, .invokevirtual 132, 3, [], 0), (22, .astore 4, 2, [], 0), (24, .aload 4, 2, [], 0), (26, .iload_n 2, 1, [], 0), (27, .putfield 111, 3, [], 0), (30, .aload 4, 2, [], 0), (32, .iload_n 3, 1, [], 0), (33, .putfield 136, 3, [], 0), (36, .aload 4, 2, [], 0), (38, .getfield 139, 3, [], 0), (41, .iload_n 2, 1, [], 0), (42, .iload_n 3, 1, [], 0), (43, .aload_n 0, 1, [], 0), (44, .getfield 41, 3, [], 0), (47, .aload_n 0, 1, [], 0), (48, .iload_n 2, 1, [], 0), (49, .iload_n 3, 1, [], 0), (50, .aload_n 0, 1, [], 0), (51, .getfield 41, 3, [], 0), (54, .invokevirtual 213, 3, [], 0), (57, .invokevirtual 143, 3, [], 0), (60, .return_, 1, [], 0)]
def cd_L_answerEcho : List iE := [(0, .aload_n 2, 1, [], 0), (1, .getfield 139, 3, [], 0), (4, .astore_n 3, 1, [], 0), (5, .aload_n 2, 1, [], 0), (6, .getfield 111, 3, [], 0), (9, .aload_n 3, 1, [], 0), (10, .getfield 217, 3, [], 0), (13, .if_icmp .ne 11, 3, [24], 0), (16, .aload_n 0, 1, [], 0), (17, .aload_n 3, 1, [], 0), (18, .invokevirtual 220, 3, [], 0), (21, .ifCond .ne 4, 3, [25], 0), (24, .return_, 1, [], 0), (25, .aload_n 0, 1, [], 0), (26, .getfield 24, 3, [], 0), (29, .iconst 1, 1, [], 1), (30, .aaload, 1, [], 0), (31, .astore 4, 2, [], 0), (33, .aload 4, 2, [], 0), (35, .getfield 44, 3, [], 0), (38, .ifCond .ne 40, 3, [78], 0), (41, .aload_n 0, 1, [], 0), (42, .getfield 38, 3, [], 0), (45, .aload_n 3, 1, [], 0), (46, .getfield 217, 3, [], 0), (49, .invokevirtual 47, 3, [], 0), (52, .ifCond .eq 26, 3, [78], 0), (55, .aload 4, 2, [], 0), (57, .aload_n 3, 1, [], 0), (58, .getfield 217, 3, [], 0), (61, .putfield 114, 3, [], 0), (64, .aload 4, 2, [], 0), (66, .aload_n 3, 1, [], 0), (67, .getfield 224, 3, [], 0), (70, .putfield 227, 3, [], 0), (73, .aload 4, 2, [], 0), (75, .invokevirtual 230, 3, [], 0), (78, .aload 4, 2, [], 0), (80, .getfield 114, 3, [], 0), (83, .aload_n 3, 1, [], 0), (84, .getfield 217, 3, [], 0), (87, .if_icmp .ne 23, 3, [110], 0), (90, .aload 4, 2, [], 0), (92, .getfield 227, 3, [], 0), (95, .aload_n 3, 1, [], 0), (96, .getfield 224, 3, [], 0), (99, .if_icmp .ne 11, 3, [110], 0), (102, .aload 4, 2, [], 0), (104, .iload_n 1, 1, [], 0), (105, .iconst 3, 1, [], 3), (106, .invokevirtual 132, 3, [], 0), (109, .pop, 1, [], 0), (110, .return_, 1, [], 0)]
def cd_L_isGenuine : List iE := [(0, .aload_n 0, 1, [], 0), (1, .getfield 41, 3, [], 0), (4, .i2l, 1, [], 0), (5, .aload_n 1, 1, [], 0), (6, .getfield 233, 3, [], 0), (9, .i2l, 1, [], 0), (10, .lsub, 1, [], 0), (11, .lstore_n 2, 1, [], 0), (12, .aload_n 1, 1, [], 0), (13, .getfield 236, 3, [], 0), (16, .aload_n 0, 1, [], 0), (17, .aload_n 1, 1, [], 0), (18, .getfield 224, 3, [], 0), (21, .aload_n 1, 1, [], 0), (22, .getfield 217, 3, [], 0), (25, .aload_n 1, 1, [], 0), (26, .getfield 233, 3, [], 0), (29, .invokevirtual 213, 3, [], 0), (32, .if_icmp .ne 43, 3, [75], 0), (35, .aload_n 1, 1, [], 0), (36, .getfield 224, 3, [], 0), (39, .ifCond .eq 36, 3, [75], 0), (42, .aload_n 1, 1, [], 0), (43, .getfield 217, 3, [], 0), (46, .aload_n 0, 1, [], 0), (47, .aload_n 1, 1, [], 0), (48, .getfield 224, 3, [], 0), (51, .invokevirtual 210, 3, [], 0), (54, .if_icmp .ne 21, 3, [75], 0), (57, .lload_n 2, 1, [], 0), (58, .lconst 0, 1, [], 0), (59, .lcmp, 1, [], 0), (60, .ifCond .lt 15, 3, [75], 0), (63, .lload_n 2, 1, [], 0), (64, .ldc2_w 239, 3, [], 20), (67, .lcmp, 1, [], 0), (68, .ifCond .gt 7, 3, [75], 0), (71, .iconst 1, 1, [], 1), (72, .goto 4, 3, [76], 0), (75, .iconst 0, 1, [], 0), (76, .ireturn, 1, [], 0)]
def cd_M_new : List iE := [(0, .aload_n 0, 1, [], 0), (1, .invokespecial 1, 3, [], 0), (4, .aload_n 0, 1, [], 0), (5, .iconst 4, 1, [], 4), (6, .newarray .int, 2, [], 0), (8, .putfield 7, 3, [], 0), (11, .aload_n 0, 1, [], 0), (12, .sipush 256, 3, [], 256), (15, .newarray .int, 2, [], 0), (17, .putfield 13, 3, [], 0), (20, .aload_n 0, 1, [], 0), (21, .bipush 8, 2, [], 8), (23, .newarray .int, 2, [], 0), (25, .putfield 16, 3, [], 0), (28, .aload_n 0, 1, [], 0), (29, .iconst 2, 1, [], 2), (30, .newarray .int, 2, [], 0), (32, .putfield 19, 3, [], 0), (35, .aload_n 0, 1, [], 0), (36, .iconst 2, 1, [], 2), (37, .newarray .int, 2, [], 0), (39, .putfield 22, 3, [], 0), (42, .aload_n 0, 1, [], 0), (43, .iconst 2, 1, [], 2), (44, .newarray .int, 2, [], 0), (46, .putfield 25, 3, [], 0), (49, .aload_n 0, 1, [], 0), (50, .iconst 2, 1, [], 2), (51, .newarray .int, 2, [], 0), (53, .putfield 28, 3, [], 0), (56, .aload_n 0, 1, [], 0), (57, .iconst 4, 1, [], 4), (58, .newarray .int, 2, [], 0), (60, .putfield 31, 3, [], 0), (63, .aload_n 0, 1, [], 0), (64, .sipush 512, 3, [], 512), (67, .newarray .int, 2, [], 0), (69, .putfield 34, 3, [], 0), (72, .aload_n 0, 1, [], 0), (73, .sipush 512, 3, [], 512), (76, .newarray .int, 2, [], 0), (78, .putfield 37, 3, [], 0), (81, .aload_n 0, 1, [], 0), (82, .iconst 2, 1, [], 2), (83, .newarray .int, 2, [], 0), (85, .putfield 40, 3, [], 0), (88, .aload_n 0, 1, [], 0), (89, .iconst 2, 1, [], 2), (90, .newarray .int, 2, [], 0), (92, .putfield 43, 3, [], 0), (95, .aload_n 0, 1, [], 0), (96, .iconst 2, 1, [], 2), (97, .newarray .int, 2, [], 0), (99, .putfield 46, 3, [], 0), (102, .aload_n 0, 1, [], 0), (103, .iconst 2, 1, [], 2), (104, .newarray .int, 2, [], 0), (106, .putfield 49, 3, [], 0), (109, .aload_n 0, 1, [], 0), (110, .iconst 2, 1, [], 2), (111, .newarray .int, 2, [], 0), (113, .putfield 52, 3, [], 0), (116, .aload_n 0, 1, [], 0), (117, .iconst 4, 1, [], 4), (118, .newarray .boolean, 2, [], 0), (120, .putfield 55, 3, [], 0), (123, .aload_n 0, 1, [], 0), (124, .iconst 4, 1, [], 4), (125, .newarray .int, 2, [], 0), (127, .putfield 59, 3, [], 0), (130, .aload_n 0, 1, [], 0), (131, .iconst 4, 1, [], 4), (132, .newarray .int, 2, [], 0), (134, .putfield 62, 3, [], 0), (137, .aload_n 0, 1, [], 0), (138, .iconst 4, 1, [], 4), (139, .newarray .int, 2, [], 0), (141, .putfield 65, 3, [], 0), (144, .aload_n 0, 1, [], 0), (145, .iconst 4, 1, [], 4), (146, .newarray .boolean, 2, [], 0), (148, .putfield 68, 3, [], 0), (151, .aload_n 0, 1, [], 0), (152, .iconst 4, 1, [], 4), (153, .newarray .int, 2, [], 0), (155, .putfield 71, 3, [], 0), (158, .aload_n 0, 1, [], 0), (159, .iconst 4, 1, [], 4), (160, .newarray .boolean, 2, [], 0), (162, .putfield 74, 3, [], 0), (165, .aload_n 0, 1, [], 0), (166, .iconst 4, 1, [], 4), (167, .newarray .int, 2, [], 0), (169, .putfield 77, 3, [], 0), (172, .aload_n 0, 1, [], 0), (173, .iconst 4, 1, [], 4), (174, .newarray .boolean, 2, [], 0), (176, .putfield 80, 3, [], 0), (179, .aload_n 0, 1, [], 0), (180, .iconst 2, 1, [], 2), (181, .newarray .int, 2, [], 0), (183, .putfield 83, 3, [], 0), (186, .aload_n 0, 1, [], 0), (187, .iconst 2, 1, [], 2), (188, .newarray .int, 2, [], 0), (190, .putfield 86, 3, [], 0), (193, .aload_n 0, 1, [], 0), (194, .bipush 6, 2, [], 6), (196, .newarray .int, 2, [], 0), (198, .putfield 89, 3, [], 0), (201, .aload_n 0, 1, [], 0), (202, .bipush 64, 2, [], 64), (204, .newarray .int, 2, [], 0), (206, .putfield 92, 3, [], 0), (209, .aload_n 0, 1, [], 0), (210, .bipush 64, 2, [], 64), (212, .newarray .int, 2, [], 0), (214, .putfield 95, 3, [], 0), (217, .aload_n 0, 1, [], 0), (218, .bipush 64, 2, [], 64), (220, .newarray .int, 2, [], 0), (222, .putfield 98, 3, [], 0), (225, .aload_n 0, 1, [], 0), (226, .bipush 64, 2, [], 64), (228, .newarray .int, 2, [], 0), (230, .putfield 101, 3, [], 0), (233, .aload_n 0, 1, [], 0), (234, .bipush 64, 2, [], 64), (236, .newarray .int, 2, [], 0), (238, .putfield 104, 3, [], 0), (241, .aload_n 0, 1, [], 0), (242, .bipush 64, 2, [], 64), (244, .newarray .int, 2, [], 0), (246, .putfield 107, 3, [], 0), (249, .aload_n 0, 1, [], 0), (250, .bipush 64, 2, [], 64), (252, .newarray .int, 2, [], 0), (254, .putfield 110, 3, [], 0), (257, .aload_n 0, 1, [], 0), (258, .iconst 2, 1, [], 2), (259, .newarray .int, 2, [], 0), (261, .putfield 113, 3, [], 0), (264, .aload_n 0, 1, [], 0), (265, .iconst 2, 1, [], 2), (266, .newarray .int, 2, [], 0), (268, .putfield 116, 3, [], 0), (271, .aload_n 0, 1, [], 0), (272, .sipush 1088, 3, [], 1088), (275, .newarray .boolean, 2, [], 0), (277, .putfield 119, 3, [], 0), (280, .aload_n 0, 1, [], 0), (281, .sipush 1088, 3, [], 1088), (284, .newarray .boolean, 2, [], 0), (286, .putfield 122, 3, [], 0), (289, .aload_n 0, 1, [], 0), (290, .sipush 1088, 3, [], 1088), (293, .newarray .int, 2, [], 0), (295, .putfield 125, 3, [], 0), (298, .aload_n 0, 1, [], 0), (299, .sipush 1088, 3, [], 1088), (302, .newarray .int, 2, [], 0), (304, .putfield 128, 3, [], 0), (307, .aload_n 0, 1, [], 0), (308, .sipush 1088, 3, [], 1088), (311, .newarray .int, 2, [], 0), (313, .putfield 131, 3, [], 0), (316, .aload_n 0, 1, [], 0), (317, .sipush 1088, 3, [], 1088), (320, .newarray .int, 2, [], 0), (322, .putfield 134, 3, [], 0), (325, .aload_n 0, 1, [], 0), (326, .bipush 6, 2, [], 6), (328, .newarray .int, 2, [], 0), (330, .putfield 137, 3, [], 0), (333, .aload_n 0, 1, [], 0), (334, .iconst 2, 1, [], 2), (335, .newarray .int, 2, [], 0), (337, .putfield 140, 3, [], 0), (340, .aload_n 0, 1, [], 0), (341, .bipush 6, 2, [], 6), (343, .newarray .int, 2, [], 0), (345, .putfield 143, 3, [], 0), (348, .aload_n 0, 1, [], 0), (349, .bipush 6, 2, [], 6), (351, .newarray .int, 2, [], 0), (353, .putfield 146, 3, [], 0), (356, .aload_n 0, 1, [], 0), (357, .sipush 3072, 3, [], 3072), (360, .newarray .int, 2, [], 0), (362, .putfield 149, 3, [], 0), (365, .aload_n 0, 1, [], 0), (366, .sipush 3072, 3, [], 3072), (369, .newarray .int, 2, [], 0), (371, .putfield 152, 3, [], 0), (374, .aload_n 0, 1, [], 0), (375, .iload_n 1, 1, [], 0), (376, .iconst 2, 1, [], 2), (377, .if_icmp .ge 7, 3, [384], 0), (380, .iconst 2, 1, [], 2), (381, .goto 15, 3, [396], 0), (384, .iload_n 1, 1, [], 0), (385, .bipush 16, 2, [], 16), (387, .if_icmp .le 8, 3, [395], 0), (390, .bipush 16, 2, [], 16), (392, .goto 4, 3, [396], 0), (395, .iload_n 1, 1, [], 0), (396, .putfield 155, 3, [], 0), (399, .aload_n 0, 1, [], 0), (400, .iload_n 2, 1, [], 0), (401, .iconst 2, 1, [], 2), (402, .if_icmp .ge 7, 3, [409], 0), (405, .iconst 2, 1, [], 2), (406, .goto 15, 3, [421], 0), (409, .iload_n 2, 1, [], 0), (410, .bipush 9, 2, [], 9), (412, .if_icmp .le 8, 3, [420], 0), (415, .bipush 9, 2, [], 9), (417, .goto 4, 3, [421], 0), (420, .iload_n 2, 1, [], 0), (421, .putfield 159, 3, [], 0), (424, .aload_n 0, 1, [], 0), (425, .iload_n 3, 1, [], 0), (426, .putfield 162, 3, [], 0), (429, .return_, 1, [], 0)]
def cd_M_isTwo : List iE := [(0, .iload_n 0, 1, [], 0), (1, .ifCond .eq 8, 3, [9], 0), (4, .iload_n 0, 1, [], 0), (5, .iconst 1, 1, [], 1), (6, .if_icmp .ne 7, 3, [13], 0), (9, .iconst 1, 1, [], 1), (10, .goto 4, 3, [14], 0), (13, .iconst 0, 1, [], 0), (14, .ireturn, 1, [], 0)]
def cd_M_mixed : List iE := [(0, .iload_n 0, 1, [], 0), (1, .iload_n 1, 1, [], 0), (2, .ixor, 1, [], 0), (3, .ldc 165, 2, [], 16777619), (5, .imul, 1, [], 0), (6, .istore_n 2, 1, [], 0), (7, .iload_n 2, 1, [], 0), (8, .iload_n 2, 1, [], 0), (9, .bipush 15, 2, [], 15), (11, .iushr, 1, [], 0), (12, .ixor, 1, [], 0), (13, .ireturn, 1, [], 0)]
def cd_M_seal : List iE := [(0, .ldc 166, 2, [], (-2128831035)), (2, .aload_n 0, 1, [], 0), (3, .getfield 162, 3, [], 0), (6, .invokestatic 167, 3, [], 0), (9, .iload_n 1, 1, [], 0), (10, .invokestatic 167, 3, [], 0), (13, .istore 4, 2, [], 0), (15, .iload 4, 2, [], 0), (17, .iload_n 2, 1, [], 0), (18, .invokestatic 167, 3, [], 0), (21, .iload_n 3, 1, [], 0), (22, .invokestatic 167, 3, [], 0), (25, .bipush 7, 2, [], 7), (27, .invokestatic 167, 3, [], 0), (30, .ireturn, 1, [], 0)]
def cd_M_post : List iE := [(0, .iconst 2, 1, [], 2), (1, .iload_n 1, 1, [], 0), (2, .imul, 1, [], 0), (3, .iload_n 2, 1, [], 0), (4, .iadd, 1, [], 0), (5, .istore 7, 2, [], 0), (7, .aload_n 0, 1, [], 0), (8, .getfield 7, 3, [], 0), (11, .iload 7, 2, [], 0), (13, .iaload, 1, [], 0), (14, .bipush 8, 2, [], 8), (16, .if_icmp .ne 4, 3, [20], 0), (19, .return_, 1, [], 0), (20, .bipush 64, 2, [], 64), (22, .iload 7, 2, [], 0), (24, .imul, 1, [], 0), (25, .bipush 8, 2, [], 8), (27, .aload_n 0, 1, [], 0), (28, .getfield 7, 3, [], 0), (31, .iload 7, 2, [], 0), (33, .iaload, 1, [], 0), (34, .imul, 1, [], 0), (35, .iadd, 1, [], 0), (36, .istore 8, 2, [], 0), (38, .aload_n 0, 1, [], 0), (39, .getfield 13, 3, [], 0), (42, .iload 8, 2, [], 0), (44, .iload_n 3, 1, [], 0), (45, .iastore, 1, [], 0), (46, .aload_n 0, 1, [], 0), (47, .getfield 13, 3, [], 0), (50, .iload 8, 2, [], 0), (52, .iconst 1, 1, [], 1), (53, .iadd, 1, [], 0), (54, .iload 4, 2, [], 0), (56, .iastore, 1, [], 0), (57, .aload_n 0, 1, [], 0), (58, .getfield 13, 3, [], 0), (61, .iload 8, 2, [], 0), (63, .iconst 2, 1, [], 2), (64, .iadd, 1, [], 0), (65, .iload 5, 2, [], 0), (67, .iastore, 1, [], 0), (68, .aload_n 0, 1, [], 0), (69, .getfield 13, 3, [], 0), (72, .iload 8, 2, [], 0), (74, .iconst 3, 1, [], 3), (75, .iadd, 1, [], 0), (76, .iload 6, 2, [], 0), (78, .iastore, 1, [], 0), (79, .iconst 4, 1, [], 4), (80, .istore 9, 2, [], 0), (82, .iload 9, 2, [], 0), (84, .bipush 8, 2, [], 8), (86, .if_icmp .ge 20, 3, [106], 0), (89, .aload_n 0, 1, [], 0), (90, .getfield 13, 3, [], 0), (93, .iload 8, 2, [], 0), (95, .iload 9, 2, [], 0), (97, .iadd, 1, [], 0), (98, .iconst 0, 1, [], 0), (99, .iastore, 1, [], 0), (100, .iinc 9 1, 3, [], 1), (103, .goto (-21), 3, [82], 0), (106, .aload_n 0, 1, [], 0), (107, .getfield 7, 3, [], 0), (110, .iload 7, 2, [], 0), (112, .dup2, 1, [], 0), (113, .iaload, 1, [], 0), (114, .iconst 1, 1, [], 1), (115, .iadd, 1, [], 0), (116, .iastore, 1, [], 0), (117, .return_, 1, [], 0)]
def cd_M_more : List iE := [(0, .bipush 64, 2, [], 64), (2, .iload_n 1, 1, [], 0), (3, .imul, 1, [], 0), (4, .bipush 8, 2, [], 8), (6, .aload_n 0, 1, [], 0), (7, .getfield 7, 3, [], 0), (10, .iload_n 1, 1, [], 0), (11, .iaload, 1, [], 0), (12, .iconst 1, 1, [], 1), (13, .isub, 1, [], 0), (14, .imul, 1, [], 0), (15, .iadd, 1, [], 0), (16, .istore 6, 2, [], 0), (18, .aload_n 0, 1, [], 0), (19, .getfield 13, 3, [], 0), (22, .iload 6, 2, [], 0), (24, .iconst 4, 1, [], 4), (25, .iadd, 1, [], 0), (26, .iload_n 2, 1, [], 0), (27, .iastore, 1, [], 0), (28, .aload_n 0, 1, [], 0), (29, .getfield 13, 3, [], 0), (32, .iload 6, 2, [], 0), (34, .iconst 5, 1, [], 5), (35, .iadd, 1, [], 0), (36, .iload_n 3, 1, [], 0), (37, .iastore, 1, [], 0), (38, .aload_n 0, 1, [], 0), (39, .getfield 13, 3, [], 0), (42, .iload 6, 2, [], 0), (44, .bipush 6, 2, [], 6), (46, .iadd, 1, [], 0), (47, .iload 4, 2, [], 0), (49, .iastore, 1, [], 0), (50, .aload_n 0, 1, [], 0), (51, .getfield 13, 3, [], 0), (54, .iload 6, 2, [], 0), (56, .bipush 7, 2, [], 7), (58, .iadd, 1, [], 0), (59, .iload 5, 2, [], 0), (61, .iastore, 1, [], 0), (62, .return_, 1, [], 0)]
def cd_M_full : List iE := [(0, .aload_n 0, 1, [], 0), (1, .getfield 7, 3, [], 0), (4, .iconst 2, 1, [], 2), (5, .iload_n 1, 1, [], 0), (6, .imul, 1, [], 0), (7, .iload_n 2, 1, [], 0), (8, .iadd, 1, [], 0), (9, .iaload, 1, [], 0), (10, .bipush 8, 2, [], 8), (12, .if_icmp .ne 7, 3, [19], 0), (15, .iconst 1, 1, [], 1), (16, .goto 4, 3, [20], 0), (19, .iconst 0, 1, [], 0), (20, .ireturn, 1, [], 0)]
def cd_M_take : List iE := [(0, .bipush 64, 2, [], 64), (2, .iload_n 1, 1, [], 0), (3, .imul, 1, [], 0), (4, .istore_n 2, 1, [], 0), (5, .iconst 0, 1, [], 0), (6, .istore_n 3, 1, [], 0), (7, .iload_n 3, 1, [], 0), (8, .bipush 8, 2, [], 8), (10, .if_icmp .ge 23, 3, [33], 0), (13, .aload_n 0, 1, [], 0), (14, .getfield 16, 3, [], 0), (17, .iload_n 3, 1, [], 0), (18, .aload_n 0, 1, [], 0), (19, .getfield 13, 3, [], 0), (22, .iload_n 2, 1, [], 0), (23, .iload_n 3, 1, [], 0), (24, .iadd, 1, [], 0), (25, .iaload, 1, [], 0), (26, .iastore, 1, [], 0), (27, .iinc 3 1, 3, [], 1), (30, .goto (-23), 3, [7], 0), (33, .aload_n 0, 1, [], 0), (34, .getfield 7, 3, [], 0), (37, .iload_n 1, 1, [], 0), (38, .dup2, 1, [], 0), (39, .iaload, 1, [], 0), (40, .iconst 1, 1, [], 1), (41, .isub, 1, [], 0), (42, .iastore, 1, [], 0), (43, .iconst 0, 1, [], 0), (44, .istore_n 3, 1, [], 0), (45, .iload_n 3, 1, [], 0), (46, .bipush 8, 2, [], 8), (48, .aload_n 0, 1, [], 0), (49, .getfield 7, 3, [], 0), (52, .iload_n 1, 1, [], 0), (53, .iaload, 1, [], 0), (54, .imul, 1, [], 0), (55, .if_icmp .ge 28, 3, [83], 0), (58, .aload_n 0, 1, [], 0), (59, .getfield 13, 3, [], 0), (62, .iload_n 2, 1, [], 0), (63, .iload_n 3, 1, [], 0), (64, .iadd, 1, [], 0), (65, .aload_n 0, 1, [], 0), (66, .getfield 13, 3, [], 0), (69, .iload_n 2, 1, [], 0), (70, .bipush 8, 2, [], 8), (72, .iadd, 1, [], 0), (73, .iload_n 3, 1, [], 0), (74, .iadd, 1, [], 0), (75, .iaload, 1, [], 0), (76, .iastore, 1, [], 0), (77, .iinc 3 1, 3, [], 1), (80, .goto (-35), 3, [45], 0), (83, .return_, 1, [], 0)]
def cd_M_alter : List iE := [(0, .iload_n 1, 1, [], 0), (1, .invokestatic 171, 3, [], 0), (4, .ifCond .eq 10, 3, [14], 0), (7, .iload_n 2, 1, [], 0), (8, .invokestatic 171, 3, [], 0), (11, .ifCond .ne 5, 3, [16], 0), (14, .iconst 0, 1, [], 0), (15, .ireturn, 1, [], 0), (16, .iconst 2, 1, [], 2), (17, .iload_n 1, 1, [], 0), (18, .imul, 1, [], 0), (19, .iload_n 2, 1, [], 0), (20, .iadd, 1, [], 0), (21, .istore 4, 2, [], 0), (23, .aload_n 0, 1, [], 0), (24, .getfield 7, 3, [], 0), (27, .iload 4, 2, [], 0), (29, .iaload, 1, [], 0), (30, .ifCond .eq 19, 3, [49], 0), (33, .iload_n 3, 1, [], 0), (34, .ifCond .eq 17, 3, [51], 0), (37, .aload_n 0, 1, [], 0), (38, .getfield 7, 3, [], 0), (41, .iload 4, 2, [], 0), (43, .iaload, 1, [], 0), (44, .bipush 8, 2, [], 8), (46, .if_icmp .ne 5, 3, [51], 0), (49, .iconst 0, 1, [], 0), (50, .ireturn, 1, [], 0), (51, .iload_n 3, 1, [], 0), (52, .ifCond .ne 11, 3, [63], 0), (55, .aload_n 0, 1, [], 0), (56, .iload 4, 2, [], 0), (58, .invokevirtual 175, 3, [], 0), (61, .iconst 1, 1, [], 1), (62, .ireturn, 1, [], 0), (63, .iconst 0, 1, [], 0), (64, .istore 5, 2, [], 0), (66, .iload 5, 2, [], 0), (68, .bipush 8, 2, [], 8), (70, .if_icmp .ge 46, 3, [116], 0), (73, .aload_n 0, 1, [], 0), (74, .getfield 13, 3, [], 0), (77, .bipush 64, 2, [], 64), (79, .iload 4, 2, [], 0), (81, .imul, 1, [], 0), (82, .bipush 8, 2, [], 8), (84, .aload_n 0, 1, [], 0), (85, .getfield 7, 3, [], 0), (88, .iload 4, 2, [], 0), (90, .iaload, 1, [], 0), (91, .imul, 1, [], 0), (92, .iadd, 1, [], 0), (93, .iload 5, 2, [], 0), (95, .iadd, 1, [], 0), (96, .aload_n 0, 1, [], 0), (97, .getfield 13, 3, [], 0), (100, .bipush 64, 2, [], 64), (102, .iload 4, 2, [], 0), (104, .imul, 1, [], 0), (105, .iload 5, 2, [], 0), (107, .iadd, 1, [], 0), (108, .iaload, 1, [], 0), (109, .iastore, 1, [], 0), (110, .iinc 5 1, 3, [], 1), (113, .goto (-47), 3, [66], 0), (116, .aload_n 0, 1, [], 0), (117, .getfield 7, 3, [], 0), (120, .iload 4, 2, [], 0), (122, .dup2, 1, [], 0), (123, .iaload, 1, [], 0), (124, .iconst 1, 1, [], 1), (125, .iadd, 1, [], 0), (126, .iastore, 1, [], 0), (127, .iconst 1, 1, [], 1), (128, .ireturn, 1, [], 0)]
def cd_M_waiting : List iE := [(0, .iload_n 1, 1, [], 0), (1, .invokestatic 171, 3, [], 0), (4, .ifCond .eq 23, 3, [27], 0), (7, .iload_n 2, 1, [], 0), (8, .invokestatic 171, 3, [], 0), (11, .ifCond .eq 16, 3, [27], 0), (14, .aload_n 0, 1, [], 0), (15, .getfield 7, 3, [], 0), (18, .iconst 2, 1, [], 2), (19, .iload_n 1, 1, [], 0), (20, .imul, 1, [], 0), (21, .iload_n 2, 1, [], 0), (22, .iadd, 1, [], 0), (23, .iaload, 1, [], 0), (24, .goto 4, 3, [28], 0), (27, .iconst (-1), 1, [], (-1)), (28, .ireturn, 1, [], 0)]
def cd_M_sendCookie : List iE := [(0, .aload_n 0, 1, [], 0), (1, .iload_n 1, 1, [], 0), (2, .iload_n 2, 1, [], 0), (3, .invokevirtual 179, 3, [], 0), (6, .istore 6, 2, [], 0), (8, .aload_n 0, 1, [], 0), (9, .iload_n 1, 1, [], 0), (10, .iload_n 2, 1, [], 0), (11, .iload_n 3, 1, [], 0), (12, .iload 4, 2, [], 0), (14, .iload 5, 2, [], 0), (16, .aload_n 0, 1, [], 0), (17, .getfield 31, 3, [], 0), (20, .iconst 0, 1, [], 0), (21, .iaload, 1, [], 0), (22, .invokevirtual 183, 3, [], 0), (25, .iload 6, 2, [], 0), (27, .ifCond .ne 31, 3, [58], 0), (30, .aload_n 0, 1, [], 0), (31, .iconst 2, 1, [], 2), (32, .iload_n 1, 1, [], 0), (33, .imul, 1, [], 0), (34, .iload_n 2, 1, [], 0), (35, .iadd, 1, [], 0), (36, .aload_n 0, 1, [], 0), (37, .getfield 31, 3, [], 0), (40, .iconst 1, 1, [], 1), (41, .iaload, 1, [], 0), (42, .aload_n 0, 1, [], 0), (43, .getfield 31, 3, [], 0), (46, .iconst 2, 1, [], 2), (47, .iaload, 1, [], 0), (48, .aload_n 0, 1, [], 0), (49, .getfield 31, 3, [], 0), (52, .iconst 3, 1, [], 3), (53, .iaload, 1, [], 0), (54, .iconst 0, 1, [], 0), (55, .invokevirtual 187, 3, [], 0), (58, .return_, 1, [], 0)]
def cd_M_open : List iE := [(0, .aload_n 0, 1, [], 0), (1, .getfield 19, 3, [], 0), (4, .iconst 0, 1, [], 0), (5, .iaload, 1, [], 0), (6, .ifCond .ne 22, 3, [28], 0), (9, .iload_n 1, 1, [], 0), (10, .ifCond .eq 18, 3, [28], 0), (13, .aload_n 0, 1, [], 0), (14, .getfield 34, 3, [], 0), (17, .aload_n 0, 1, [], 0), (18, .getfield 191, 3, [], 0), (21, .iload_n 1, 1, [], 0), (22, .invokestatic 194, 3, [], 0), (25, .ifCond .eq 5, 3, [30], 0), (28, .iconst 0, 1, [], 0), (29, .ireturn, 1, [], 0), (30, .aload_n 0, 1, [], 0), (31, .getfield 34, 3, [], 0), (34, .aload_n 0, 1, [], 0), (35, .getfield 191, 3, [], 0), (38, .iload_n 1, 1, [], 0), (39, .iastore, 1, [], 0), (40, .aload_n 0, 1, [], 0), (41, .dup, 1, [], 0), (42, .getfield 191, 3, [], 0), (45, .iconst 1, 1, [], 1), (46, .iadd, 1, [], 0), (47, .putfield 191, 3, [], 0), (50, .aload_n 0, 1, [], 0), (51, .getfield 19, 3, [], 0), (54, .iconst 0, 1, [], 0), (55, .iconst 1, 1, [], 1), (56, .iastore, 1, [], 0), (57, .aload_n 0, 1, [], 0), (58, .getfield 22, 3, [], 0), (61, .iconst 0, 1, [], 0), (62, .iload_n 1, 1, [], 0), (63, .iastore, 1, [], 0), (64, .aload_n 0, 1, [], 0), (65, .iconst 0, 1, [], 0), (66, .iconst 0, 1, [], 0), (67, .iconst 0, 1, [], 0), (68, .iconst 0, 1, [], 0), (69, .iload_n 1, 1, [], 0), (70, .iconst 0, 1, [], 0), (71, .invokevirtual 183, 3, [], 0), (74, .aload_n 0, 1, [], 0), (75, .getfield 40, 3, [], 0), (78, .iconst 0, 1, [], 0), (79, .iconst 1, 1, [], 1), (80, .iastore, 1, [], 0), (81, .aload_n 0, 1, [], 0), (82, .getfield 43, 3, [], 0), (85, .iconst 0, 1, [], 0), (86, .aload_n 0, 1, [], 0), (87, .getfield 198, 3, [], 0), (90, .iconst 3, 1, [], 3), (91, .iadd, 1, [], 0), (92, .iastore, 1, [], 0), (93, .iconst 1, 1, [], 1), (94, .ireturn, 1, [], 0)]
def cd_M_among : List iE := [(0, .iconst 0, 1, [], 0), (1, .istore_n 3, 1, [], 0), (2, .iconst 0, 1, [], 0), (3, .istore 4, 2, [], 0), (5, .iload 4, 2, [], 0), (7, .iload_n 1, 1, [], 0), (8, .if_icmp .ge 27, 3, [35], 0), (11, .iload_n 3, 1, [], 0), (12, .ifCond .ne 11, 3, [23], 0), (15, .aload_n 0, 1, [], 0), (16, .iload 4, 2, [], 0), (18, .iaload, 1, [], 0), (19, .iload_n 2, 1, [], 0), (20, .if_icmp .ne 7, 3, [27], 0), (23, .iconst 1, 1, [], 1), (24, .goto 4, 3, [28], 0), (27, .iconst 0, 1, [], 0), (28, .istore_n 3, 1, [], 0), (29, .iinc 4 1, 3, [], 1), (32, .goto (-27), 3, [5], 0), (35, .iload_n 3, 1, [], 0), (36, .ireturn, 1, [], 0)]
def cd_M_empty : List iE := [(0, .aload_n 0, 1, [], 0), (1, .getfield 83, 3, [], 0), (4, .iload_n 1, 1, [], 0), (5, .iconst 0, 1, [], 0), (6, .iastore, 1, [], 0), (7, .aload_n 0, 1, [], 0), (8, .getfield 86, 3, [], 0), (11, .iload_n 1, 1, [], 0), (12, .iconst 0, 1, [], 0), (13, .iastore, 1, [], 0), (14, .aload_n 0, 1, [], 0), (15, .getfield 113, 3, [], 0), (18, .iload_n 1, 1, [], 0), (19, .iconst 0, 1, [], 0), (20, .iastore, 1, [], 0), (21, .aload_n 0, 1, [], 0), (22, .getfield 116, 3, [], 0), (25, .iload_n 1, 1, [], 0), (26, .iconst 0, 1, [], 0), (27, .iastore, 1, [], 0), (28, .iconst 0, 1, [], 0), (29, .istore_n 2, 1, [], 0), (30, .iload_n 2, 1, [], 0), (31, .bipush 32, 2, [], 32), (33, .if_icmp .ge 21, 3, [54], 0), (36, .aload_n 0, 1, [], 0), (37, .getfield 92, 3, [], 0), (40, .bipush 32, 2, [], 32), (42, .iload_n 1, 1, [], 0), (43, .imul, 1, [], 0), (44, .iload_n 2, 1, [], 0), (45, .iadd, 1, [], 0), (46, .iconst 0, 1, [], 0), (47, .iastore, 1, [], 0), (48, .iinc 2 1, 3, [], 1), (51, .goto (-21), 3, [30], 0), (54, .iconst 0, 1, [], 0), (55, .istore_n 2, 1, [], 0), (56, .iload_n 2, 1, [], 0), (57, .sipush 544, 3, [], 544), (60, .if_icmp .ge 35, 3, [95], 0), (63, .aload_n 0, 1, [], 0), (64, .getfield 119, 3, [], 0), (67, .sipush 544, 3, [], 544), (70, .iload_n 1, 1, [], 0), (71, .imul, 1, [], 0), (72, .iload_n 2, 1, [], 0), (73, .iadd, 1, [], 0), (74, .iconst 0, 1, [], 0), (75, .bastore, 1, [], 0), (76, .aload_n 0, 1, [], 0), (77, .getfield 122, 3, [], 0), (80, .sipush 544, 3, [], 544), (83, .iload_n 1, 1, [], 0), (84, .imul, 1, [], 0), (85, .iload_n 2, 1, [], 0), (86, .iadd, 1, [], 0), (87, .iconst 0, 1, [], 0), (88, .bastore, 1, [], 0), (89, .iinc 2 1, 3, [], 1), (92, .goto (-36), 3, [56], 0), (95, .iconst 0, 1, [], 0), (96, .istore_n 2, 1, [], 0), (97, .iload_n 2, 1, [], 0), (98, .iconst 3, 1, [], 3), (99, .if_icmp .ge 31, 3, [130], 0), (102, .aload_n 0, 1, [], 0), (103, .getfield 89, 3, [], 0), (106, .iconst 3, 1, [], 3), (107, .iload_n 1, 1, [], 0), (108, .imul, 1, [], 0), (109, .iload_n 2, 1, [], 0), (110, .iadd, 1, [], 0), (111, .iconst 0, 1, [], 0), (112, .iastore, 1, [], 0), (113, .aload_n 0, 1, [], 0), (114, .getfield 137, 3, [], 0), (117, .iconst 3, 1, [], 3), (118, .iload_n 1, 1, [], 0), (119, .imul, 1, [], 0), (120, .iload_n 2, 1, [], 0), (121, .iadd, 1, [], 0), (122, .iconst 0, 1, [], 0), (123, .iastore, 1, [], 0), (124, .iinc 2 1, 3, [], 1), (127, .goto (-30), 3, [97], 0), (130, .iconst 2, 1, [], 2), (131, .iload_n 1, 1, [], 0), (132, .imul, 1, [], 0), (133, .istore_n 2, 1, [], 0), (134, .iload_n 2, 1, [], 0), (135, .iconst 2, 1, [], 2), (136, .iload_n 1, 1, [], 0), (137, .imul, 1, [], 0), (138, .iconst 2, 1, [], 2), (139, .iadd, 1, [], 0), (140, .if_icmp .ge 51, 3, [191], 0), (143, .aload_n 0, 1, [], 0), (144, .getfield 55, 3, [], 0), (147, .iload_n 2, 1, [], 0), (148, .iconst 1, 1, [], 1), (149, .bastore, 1, [], 0), (150, .aload_n 0, 1, [], 0), (151, .getfield 59, 3, [], 0), (154, .iload_n 2, 1, [], 0), (155, .iconst 2, 1, [], 2), (156, .iastore, 1, [], 0), (157, .aload_n 0, 1, [], 0), (158, .getfield 62, 3, [], 0), (161, .iload_n 2, 1, [], 0), (162, .iconst 3, 1, [], 3), (163, .iastore, 1, [], 0), (164, .aload_n 0, 1, [], 0), (165, .getfield 65, 3, [], 0), (168, .iload_n 2, 1, [], 0), (169, .iconst 0, 1, [], 0), (170, .iastore, 1, [], 0), (171, .aload_n 0, 1, [], 0), (172, .getfield 68, 3, [], 0), (175, .iload_n 2, 1, [], 0), (176, .iconst 0, 1, [], 0), (177, .bastore, 1, [], 0), (178, .aload_n 0, 1, [], 0), (179, .getfield 74, 3, [], 0), (182, .iload_n 2, 1, [], 0), (183, .iconst 0, 1, [], 0), (184, .bastore, 1, [], 0), (185, .iinc 2 1, 3, [], 1), (188, .goto (-54), 3, [134], 0), (191, .aload_n 0, 1, [], 0), (192, .getfield 46, 3, [], 0), (195, .iload_n 1, 1, [], 0), (196, .iconst 0, 1, [], 0), (197, .iastore, 1, [], 0), (198, .aload_n 0, 1, [], 0), (199, .getfield 49, 3, [], 0), (202, .iload_n 1, 1, [], 0), (203, .iconst 0, 1, [], 0), (204, .iastore, 1, [], 0), (205, .aload_n 0, 1, [], 0), (206, .getfield 52, 3, [], 0), (209, .iload_n 1, 1, [], 0), (210, .aload_n 0, 1, [], 0), (211, .getfield 155, 3, [], 0), (214, .iastore, 1, [], 0), (215, .aload_n 0, 1, [], 0), (216, .getfield 140, 3, [], 0), (219, .iload_n 1, 1, [], 0), (220, .iconst 0, 1, [], 0), (221, .iastore, 1, [], 0), (222, .iconst 3, 1, [], 3), (223, .iload_n 1, 1, [], 0), (224, .imul, 1, [], 0), (225, .istore_n 2, 1, [], 0), (226, .iload_n 2, 1, [], 0), (227, .iconst 3, 1, [], 3), (228, .iload_n 1, 1, [], 0), (229, .imul, 1, [], 0), (230, .iconst 3, 1, [], 3), (231, .iadd, 1, [], 0), (232, .if_icmp .ge 53, 3, [285], 0), (235, .aload_n 0, 1, [], 0), (236, .getfield 146, 3, [], 0), (239, .iload_n 2, 1, [], 0), (240, .iaload, 1, [], 0), (241, .istore_n 3, 1, [], 0), (242, .iload_n 3, 1, [], 0), (243, .aload_n 0, 1, [], 0), (244, .getfield 143, 3, [], 0), (247, .iload_n 2, 1, [], 0), (248, .iaload, 1, [], 0), (249, .if_icmp .ge 30, 3, [279], 0), (252, .aload_n 0, 1, [], 0), (253, .getfield 140, 3, [], 0), (256, .iload_n 1, 1, [], 0), (257, .dup2, 1, [], 0), (258, .iaload, 1, [], 0), (259, .aload_n 0, 1, [], 0), (260, .getfield 152, 3, [], 0), (263, .sipush 512, 3, [], 512), (266, .iload_n 2, 1, [], 0), (267, .imul, 1, [], 0), (268, .iload_n 3, 1, [], 0), (269, .iadd, 1, [], 0), (270, .iaload, 1, [], 0), (271, .iadd, 1, [], 0), (272, .iastore, 1, [], 0), (273, .iinc 3 1, 3, [], 1), (276, .goto (-34), 3, [242], 0), (279, .iinc 2 1, 3, [], 1), (282, .goto (-56), 3, [226], 0), (285, .return_, 1, [], 0)]
def cd_M_comeUp : List iE := [(0, .aload_n 0, 1, [], 0), (1, .getfield 19, 3, [], 0), (4, .iload_n 1, 1, [], 0), (5, .iconst 3, 1, [], 3), (6, .iastore, 1, [], 0), (7, .aload_n 0, 1, [], 0), (8, .getfield 22, 3, [], 0), (11, .iload_n 1, 1, [], 0), (12, .iload_n 2, 1, [], 0), (13, .iastore, 1, [], 0), (14, .aload_n 0, 1, [], 0), (15, .getfield 25, 3, [], 0), (18, .iload_n 1, 1, [], 0), (19, .iload_n 3, 1, [], 0), (20, .iastore, 1, [], 0), (21, .aload_n 0, 1, [], 0), (22, .iload_n 1, 1, [], 0), (23, .invokevirtual 201, 3, [], 0), (26, .return_, 1, [], 0)]
def cd_M_close : List iE := [(0, .aload_n 0, 1, [], 0), (1, .getfield 19, 3, [], 0), (4, .iload_n 1, 1, [], 0), (5, .iconst 0, 1, [], 0), (6, .iastore, 1, [], 0), (7, .aload_n 0, 1, [], 0), (8, .getfield 22, 3, [], 0), (11, .iload_n 1, 1, [], 0), (12, .iconst 0, 1, [], 0), (13, .iastore, 1, [], 0), (14, .aload_n 0, 1, [], 0), (15, .getfield 25, 3, [], 0), (18, .iload_n 1, 1, [], 0), (19, .iconst 0, 1, [], 0), (20, .iastore, 1, [], 0), (21, .aload_n 0, 1, [], 0), (22, .getfield 28, 3, [], 0), (25, .iload_n 1, 1, [], 0), (26, .iload_n 2, 1, [], 0), (27, .iastore, 1, [], 0), (28, .aload_n 0, 1, [], 0), (29, .iload_n 1, 1, [], 0), (30, .invokevirtual 201, 3, [], 0), (33, .return_, 1, [], 0)]
def cd_M_pathToUse : List iE := [(0, .aload_n 0, 1, [], 0), (1, .getfield 46, 3, [], 0), (4, .iload_n 1, 1, [], 0), (5, .iaload, 1, [], 0), (6, .istore_n 2, 1, [], 0), (7, .aload_n 0, 1, [], 0), (8, .getfield 55, 3, [], 0), (11, .iconst 2, 1, [], 2), (12, .iload_n 1, 1, [], 0), (13, .imul, 1, [], 0), (14, .iload_n 2, 1, [], 0), (15, .iadd, 1, [], 0), (16, .baload, 1, [], 0), (17, .ifCond .ne 18, 3, [35], 0), (20, .aload_n 0, 1, [], 0), (21, .getfield 55, 3, [], 0), (24, .iconst 2, 1, [], 2), (25, .iload_n 1, 1, [], 0), (26, .imul, 1, [], 0), (27, .iconst 1, 1, [], 1), (28, .iadd, 1, [], 0), (29, .iload_n 2, 1, [], 0), (30, .isub, 1, [], 0), (31, .baload, 1, [], 0), (32, .ifCond .ne 7, 3, [39], 0), (35, .iload_n 2, 1, [], 0), (36, .goto 6, 3, [42], 0), (39, .iconst 1, 1, [], 1), (40, .iload_n 2, 1, [], 0), (41, .isub, 1, [], 0), (42, .ireturn, 1, [], 0)]
def cd_M_abort : List iE := [(0, .iload_n 1, 1, [], 0), (1, .invokestatic 171, 3, [], 0), (4, .ifCond .eq 12, 3, [16], 0), (7, .aload_n 0, 1, [], 0), (8, .getfield 19, 3, [], 0), (11, .iload_n 1, 1, [], 0), (12, .iaload, 1, [], 0), (13, .ifCond .ne 5, 3, [18], 0), (16, .iconst 0, 1, [], 0), (17, .ireturn, 1, [], 0), (18, .aload_n 0, 1, [], 0), (19, .getfield 19, 3, [], 0), (22, .iload_n 1, 1, [], 0), (23, .iaload, 1, [], 0), (24, .iconst 3, 1, [], 3), (25, .if_icmp .ne 23, 3, [48], 0), (28, .aload_n 0, 1, [], 0), (29, .iload_n 1, 1, [], 0), (30, .aload_n 0, 1, [], 0), (31, .iload_n 1, 1, [], 0), (32, .invokevirtual 204, 3, [], 0), (35, .aload_n 0, 1, [], 0), (36, .getfield 25, 3, [], 0), (39, .iload_n 1, 1, [], 0), (40, .iaload, 1, [], 0), (41, .bipush 8, 2, [], 8), (43, .iconst 0, 1, [], 0), (44, .iconst 0, 1, [], 0), (45, .invokevirtual 183, 3, [], 0), (48, .aload_n 0, 1, [], 0), (49, .iload_n 1, 1, [], 0), (50, .iconst 3, 1, [], 3), (51, .invokevirtual 208, 3, [], 0), (54, .iconst 1, 1, [], 1), (55, .ireturn, 1, [], 0)]
def cd_M_primary : List iE := [(0, .iload_n 1, 1, [], 0), (1, .invokestatic 171, 3, [], 0), (4, .ifCond .eq 20, 3, [24], 0), (7, .iload_n 2, 1, [], 0), (8, .invokestatic 171, 3, [], 0), (11, .ifCond .eq 13, 3, [24], 0), (14, .aload_n 0, 1, [], 0), (15, .getfield 19, 3, [], 0), (18, .iload_n 1, 1, [], 0), (19, .iaload, 1, [], 0), (20, .iconst 3, 1, [], 3), (21, .if_icmp .eq 5, 3, [26], 0), (24, .iconst 0, 1, [], 0), (25, .ireturn, 1, [], 0), (26, .aload_n 0, 1, [], 0), (27, .getfield 46, 3, [], 0), (30, .iload_n 1, 1, [], 0), (31, .iload_n 2, 1, [], 0), (32, .iastore, 1, [], 0), (33, .iconst 1, 1, [], 1), (34, .ireturn, 1, [], 0)]
def cd_M_deliver : List iE := [(0, .iload_n 1, 1, [], 0), (1, .invokestatic 171, 3, [], 0), (4, .ifCond .eq 23, 3, [27], 0), (7, .iload_n 2, 1, [], 0), (8, .invokestatic 171, 3, [], 0), (11, .ifCond .eq 16, 3, [27], 0), (14, .aload_n 0, 1, [], 0), (15, .getfield 7, 3, [], 0), (18, .iconst 2, 1, [], 2), (19, .iload_n 1, 1, [], 0), (20, .imul, 1, [], 0), (21, .iload_n 2, 1, [], 0), (22, .iadd, 1, [], 0), (23, .iaload, 1, [], 0), (24, .ifCond .ne 5, 3, [29], 0), (27, .iconst (-1), 1, [], (-1)), (28, .ireturn, 1, [], 0), (29, .aload_n 0, 1, [], 0), (30, .iconst 2, 1, [], 2), (31, .iload_n 1, 1, [], 0), (32, .imul, 1, [], 0), (33, .iload_n 2, 1, [], 0), (34, .iadd, 1, [], 0), (35, .invokevirtual 175, 3, [], 0), (38, .aload_n 0, 1, [], 0), (39, .getfield 16, 3, [], 0), (42, .iconst 1, 1, [], 1), (43, .iaload, 1, [], 0), (44, .istore_n 3, 1, [], 0), (45, .iconst 1, 1, [], 1), (46, .iload_n 1, 1, [], 0), (47, .isub, 1, [], 0), (48, .istore 4, 2, [], 0), (50, .iload_n 3, 1, [], 0), (51, .ifCond .ne 32, 3, [83], 0), (54, .iload 4, 2, [], 0), (56, .iconst 1, 1, [], 1), (57, .if_icmp .ne 180, 3, [237], 0), (60, .aload_n 0, 1, [], 0), (61, .getfield 16, 3, [], 0), (64, .iconst 2, 1, [], 2), (65, .iaload, 1, [], 0), (66, .ifCond .eq 171, 3, [237], 0), (69, .aload_n 0, 1, [], 0), (70, .iload_n 2, 1, [], 0), (71, .aload_n 0, 1, [], 0), (72, .getfield 16, 3, [], 0), (75, .iconst 2, 1, [], 2), (76, .iaload, 1, [], 0), (77, .invokevirtual 212, 3, [], 0), (80, .goto 157, 3, [237], 0), (83, .iload_n 3, 1, [], 0), (84, .iconst 2, 1, [], 2), (85, .if_icmp .ne 17, 3, [102], 0), (88, .iload 4, 2, [], 0), (90, .iconst 1, 1, [], 1), (91, .if_icmp .ne 146, 3, [237], 0), (94, .aload_n 0, 1, [], 0), (95, .iload_n 2, 1, [], 0), (96, .invokevirtual 215, 3, [], 0), (99, .goto 138, 3, [237], 0), (102, .aload_n 0, 1, [], 0), (103, .getfield 16, 3, [], 0), (106, .iconst 0, 1, [], 0), (107, .iaload, 1, [], 0), (108, .aload_n 0, 1, [], 0), (109, .getfield 22, 3, [], 0), (112, .iload 4, 2, [], 0), (114, .iaload, 1, [], 0), (115, .if_icmp .ne 31, 3, [146], 0), (118, .iload_n 3, 1, [], 0), (119, .iconst 1, 1, [], 1), (120, .if_icmp .ne 26, 3, [146], 0), (123, .iload 4, 2, [], 0), (125, .ifCond .ne 112, 3, [237], 0), (128, .aload_n 0, 1, [], 0), (129, .getfield 19, 3, [], 0), (132, .iconst 0, 1, [], 0), (133, .iaload, 1, [], 0), (134, .iconst 1, 1, [], 1), (135, .if_icmp .ne 102, 3, [237], 0), (138, .aload_n 0, 1, [], 0), (139, .iload_n 2, 1, [], 0), (140, .invokevirtual 218, 3, [], 0), (143, .goto 94, 3, [237], 0), (146, .aload_n 0, 1, [], 0), (147, .getfield 16, 3, [], 0), (150, .iconst 0, 1, [], 0), (151, .iaload, 1, [], 0), (152, .aload_n 0, 1, [], 0), (153, .getfield 22, 3, [], 0), (156, .iload 4, 2, [], 0), (158, .iaload, 1, [], 0), (159, .if_icmp .ne 43, 3, [202], 0), (162, .iload_n 3, 1, [], 0), (163, .iconst 3, 1, [], 3), (164, .if_icmp .ne 38, 3, [202], 0), (167, .iload 4, 2, [], 0), (169, .ifCond .ne 68, 3, [237], 0), (172, .aload_n 0, 1, [], 0), (173, .getfield 19, 3, [], 0), (176, .iconst 0, 1, [], 0), (177, .iaload, 1, [], 0), (178, .iconst 2, 1, [], 2), (179, .if_icmp .ne 58, 3, [237], 0), (182, .aload_n 0, 1, [], 0), (183, .iconst 0, 1, [], 0), (184, .aload_n 0, 1, [], 0), (185, .getfield 22, 3, [], 0), (188, .iconst 0, 1, [], 0), (189, .iaload, 1, [], 0), (190, .aload_n 0, 1, [], 0), (191, .getfield 25, 3, [], 0), (194, .iconst 0, 1, [], 0), (195, .iaload, 1, [], 0), (196, .invokevirtual 221, 3, [], 0), (199, .goto 38, 3, [237], 0), (202, .aload_n 0, 1, [], 0), (203, .getfield 16, 3, [], 0), (206, .iconst 0, 1, [], 0), (207, .iaload, 1, [], 0), (208, .aload_n 0, 1, [], 0), (209, .getfield 22, 3, [], 0), (212, .iload 4, 2, [], 0), (214, .iaload, 1, [], 0), (215, .if_icmp .ne 22, 3, [237], 0), (218, .aload_n 0, 1, [], 0), (219, .getfield 19, 3, [], 0), (222, .iload 4, 2, [], 0), (224, .iaload, 1, [], 0), (225, .iconst 3, 1, [], 3), (226, .if_icmp .ne 11, 3, [237], 0), (229, .aload_n 0, 1, [], 0), (230, .iload 4, 2, [], 0), (232, .iload_n 2, 1, [], 0), (233, .iload_n 3, 1, [], 0), (234, .invokevirtual 225, 3, [], 0), (237, .iload_n 3, 1, [], 0), (238, .ireturn, 1, [], 0)]
def cd_M_init : List iE := [(0, .aload_n 0, 1, [], 0), (1, .iload_n 2, 1, [], 0), (2, .invokevirtual 228, 3, [], 0), (5, .istore_n 3, 1, [], 0), (6, .aload_n 0, 1, [], 0), (7, .iconst 1, 1, [], 1), (8, .iload_n 1, 1, [], 0), (9, .invokevirtual 179, 3, [], 0), (12, .istore 4, 2, [], 0), (14, .aload_n 0, 1, [], 0), (15, .iconst 1, 1, [], 1), (16, .iload_n 1, 1, [], 0), (17, .iload_n 2, 1, [], 0), (18, .iconst 1, 1, [], 1), (19, .iload_n 3, 1, [], 0), (20, .iload_n 2, 1, [], 0), (21, .invokevirtual 183, 3, [], 0), (24, .iload 4, 2, [], 0), (26, .ifCond .ne 26, 3, [52], 0), (29, .aload_n 0, 1, [], 0), (30, .iconst 2, 1, [], 2), (31, .iload_n 1, 1, [], 0), (32, .iadd, 1, [], 0), (33, .iload_n 3, 1, [], 0), (34, .aload_n 0, 1, [], 0), (35, .getfield 198, 3, [], 0), (38, .aload_n 0, 1, [], 0), (39, .iload_n 2, 1, [], 0), (40, .iload_n 3, 1, [], 0), (41, .aload_n 0, 1, [], 0), (42, .getfield 198, 3, [], 0), (45, .invokevirtual 231, 3, [], 0), (48, .iconst 0, 1, [], 0), (49, .invokevirtual 187, 3, [], 0), (52, .return_, 1, [], 0)]
def cd_M_tagFor : List iE := [(0, .ldc 166, 2, [], (-2128831035)), (2, .aload_n 0, 1, [], 0), (3, .getfield 162, 3, [], 0), (6, .invokestatic 167, 3, [], 0), (9, .istore_n 2, 1, [], 0), (10, .iload_n 1, 1, [], 0), (11, .iload_n 2, 1, [], 0), (12, .if_icmp .ne 7, 3, [19], 0), (15, .iload_n 2, 1, [], 0), (16, .goto 6, 3, [22], 0), (19, .iload_n 1, 1, [], 0), (20, .iload_n 2, 1, [], 0), (21, .ixor, 1, [], 0), (22, .ireturn, 1, [], 0)]
def cd_M_initAck : List iE := [(0, .aload_n 0, 1, [], 0), (1, .getfield 25, 3, [], 0), (4, .iconst 0, 1, [], 0), (5, .aload_n 0, 1, [], 0), (6, .getfield 16, 3, [], 0), (9, .iconst 2, 1, [], 2), (10, .iaload, 1, [], 0), (11, .iastore, 1, [], 0), (12, .iconst 0, 1, [], 0), (13, .istore_n 2, 1, [], 0), (14, .iload_n 2, 1, [], 0), (15, .iconst 4, 1, [], 4), (16, .if_icmp .ge 23, 3, [39], 0), (19, .aload_n 0, 1, [], 0), (20, .getfield 31, 3, [], 0), (23, .iload_n 2, 1, [], 0), (24, .aload_n 0, 1, [], 0), (25, .getfield 16, 3, [], 0), (28, .iconst 3, 1, [], 3), (29, .iload_n 2, 1, [], 0), (30, .iadd, 1, [], 0), (31, .iaload, 1, [], 0), (32, .iastore, 1, [], 0), (33, .iinc 2 1, 3, [], 1), (36, .goto (-22), 3, [14], 0), (39, .aload_n 0, 1, [], 0), (40, .getfield 19, 3, [], 0), (43, .iconst 0, 1, [], 0), (44, .iconst 2, 1, [], 2), (45, .iastore, 1, [], 0), (46, .aload_n 0, 1, [], 0), (47, .iconst 0, 1, [], 0), (48, .iload_n 1, 1, [], 0), (49, .aload_n 0, 1, [], 0), (50, .getfield 25, 3, [], 0), (53, .iconst 0, 1, [], 0), (54, .iaload, 1, [], 0), (55, .iconst 2, 1, [], 2), (56, .iconst 0, 1, [], 0), (57, .invokevirtual 235, 3, [], 0), (60, .aload_n 0, 1, [], 0), (61, .getfield 40, 3, [], 0), (64, .iconst 0, 1, [], 0), (65, .iconst 1, 1, [], 1), (66, .iastore, 1, [], 0), (67, .aload_n 0, 1, [], 0), (68, .getfield 43, 3, [], 0), (71, .iconst 0, 1, [], 0), (72, .aload_n 0, 1, [], 0), (73, .getfield 198, 3, [], 0), (76, .iconst 3, 1, [], 3), (77, .iadd, 1, [], 0), (78, .iastore, 1, [], 0), (79, .return_, 1, [], 0)]
def cd_M_echo : List iE := [(0, .aload_n 0, 1, [], 0), (1, .getfield 16, 3, [], 0), (4, .iconst 3, 1, [], 3), (5, .iaload, 1, [], 0), (6, .istore_n 2, 1, [], 0), (7, .aload_n 0, 1, [], 0), (8, .getfield 16, 3, [], 0), (11, .iconst 4, 1, [], 4), (12, .iaload, 1, [], 0), (13, .istore_n 3, 1, [], 0), (14, .aload_n 0, 1, [], 0), (15, .getfield 16, 3, [], 0), (18, .iconst 5, 1, [], 5), (19, .iaload, 1, [], 0), (20, .istore 4, 2, [], 0), (22, .aload_n 0, 1, [], 0), (23, .getfield 198, 3, [], 0), (26, .i2l, 1, [], 0), (27, .iload 4, 2, [], 0), (29, .i2l, 1, [], 0), (30, .lsub, 1, [], 0), (31, .lstore 5, 2, [], 0), (33, .aload_n 0, 1, [], 0), (34, .getfield 16, 3, [], 0), (37, .bipush 6, 2, [], 6), (39, .iaload, 1, [], 0), (40, .aload_n 0, 1, [], 0), (41, .iload_n 2, 1, [], 0), (42, .iload_n 3, 1, [], 0), (43, .iload 4, 2, [], 0), (45, .invokevirtual 231, 3, [], 0), (48, .if_icmp .ne 20, 3, [68], 0), (51, .iload_n 2, 1, [], 0), (52, .ifCond .eq 16, 3, [68], 0), (55, .iload_n 3, 1, [], 0), (56, .aload_n 0, 1, [], 0), (57, .iload_n 2, 1, [], 0), (58, .invokevirtual 228, 3, [], 0), (61, .if_icmp .ne 7, 3, [68], 0), (64, .iconst 1, 1, [], 1), (65, .goto 4, 3, [69], 0), (68, .iconst 0, 1, [], 0), (69, .istore 7, 2, [], 0), (71, .iload 7, 2, [], 0), (73, .ifCond .eq 29, 3, [102], 0), (76, .aload_n 0, 1, [], 0), (77, .getfield 16, 3, [], 0), (80, .iconst 0, 1, [], 0), (81, .iaload, 1, [], 0), (82, .iload_n 3, 1, [], 0), (83, .if_icmp .ne 19, 3, [102], 0), (86, .lload 5, 2, [], 0), (88, .lconst 0, 1, [], 0), (89, .lcmp, 1, [], 0), (90, .ifCond .lt 12, 3, [102], 0), (93, .lload 5, 2, [], 0), (95, .ldc2_w 238, 3, [], 20), (98, .lcmp, 1, [], 0), (99, .ifCond .le 4, 3, [103], 0), (102, .return_, 1, [], 0), (103, .aload_n 0, 1, [], 0), (104, .getfield 19, 3, [], 0), (107, .iconst 1, 1, [], 1), (108, .iaload, 1, [], 0), (109, .ifCond .ne 45, 3, [154], 0), (112, .aload_n 0, 1, [], 0), (113, .getfield 37, 3, [], 0), (116, .aload_n 0, 1, [], 0), (117, .getfield 240, 3, [], 0), (120, .iload_n 3, 1, [], 0), (121, .invokestatic 194, 3, [], 0), (124, .ifCond .ne 30, 3, [154], 0), (127, .aload_n 0, 1, [], 0), (128, .getfield 37, 3, [], 0), (131, .aload_n 0, 1, [], 0), (132, .getfield 240, 3, [], 0), (135, .iload_n 3, 1, [], 0), (136, .iastore, 1, [], 0), (137, .aload_n 0, 1, [], 0), (138, .dup, 1, [], 0), (139, .getfield 240, 3, [], 0), (142, .iconst 1, 1, [], 1), (143, .iadd, 1, [], 0), (144, .putfield 240, 3, [], 0), (147, .aload_n 0, 1, [], 0), (148, .iconst 1, 1, [], 1), (149, .iload_n 3, 1, [], 0), (150, .iload_n 2, 1, [], 0), (151, .invokevirtual 221, 3, [], 0), (154, .aload_n 0, 1, [], 0), (155, .getfield 22, 3, [], 0), (158, .iconst 1, 1, [], 1), (159, .iaload, 1, [], 0), (160, .iload_n 3, 1, [], 0), (161, .if_icmp .ne 28, 3, [189], 0), (164, .aload_n 0, 1, [], 0), (165, .getfield 25, 3, [], 0), (168, .iconst 1, 1, [], 1), (169, .iaload, 1, [], 0), (170, .iload_n 2, 1, [], 0), (171, .if_icmp .ne 18, 3, [189], 0), (174, .aload_n 0, 1, [], 0), (175, .iconst 1, 1, [], 1), (176, .iload_n 1, 1, [], 0), (177, .aload_n 0, 1, [], 0), (178, .getfield 25, 3, [], 0), (181, .iconst 1, 1, [], 1), (182, .iaload, 1, [], 0), (183, .iconst 3, 1, [], 3), (184, .iconst 0, 1, [], 0), (185, .iconst 0, 1, [], 0), (186, .invokevirtual 183, 3, [], 0), (189, .return_, 1, [], 0)]
def cd_M_hear : List iE := [(0, .iload_n 3, 1, [], 0), (1, .iconst 4, 1, [], 4), (2, .if_icmp .ne 12, 3, [14], 0), (5, .aload_n 0, 1, [], 0), (6, .iload_n 1, 1, [], 0), (7, .iload_n 2, 1, [], 0), (8, .invokevirtual 243, 3, [], 0), (11, .goto 131, 3, [142], 0), (14, .iload_n 3, 1, [], 0), (15, .iconst 5, 1, [], 5), (16, .if_icmp .ne 11, 3, [27], 0), (19, .aload_n 0, 1, [], 0), (20, .iload_n 1, 1, [], 0), (21, .invokevirtual 246, 3, [], 0), (24, .goto 118, 3, [142], 0), (27, .iload_n 3, 1, [], 0), (28, .bipush 6, 2, [], 6), (30, .if_icmp .ne 27, 3, [57], 0), (33, .aload_n 0, 1, [], 0), (34, .iload_n 1, 1, [], 0), (35, .iload_n 2, 1, [], 0), (36, .aload_n 0, 1, [], 0), (37, .getfield 25, 3, [], 0), (40, .iload_n 1, 1, [], 0), (41, .iaload, 1, [], 0), (42, .bipush 7, 2, [], 7), (44, .aload_n 0, 1, [], 0), (45, .getfield 16, 3, [], 0), (48, .iconst 2, 1, [], 2), (49, .iaload, 1, [], 0), (50, .iconst 0, 1, [], 0), (51, .invokevirtual 183, 3, [], 0), (54, .goto 88, 3, [142], 0), (57, .iload_n 3, 1, [], 0), (58, .bipush 7, 2, [], 7), (60, .if_icmp .ne 70, 3, [130], 0), (63, .iconst 2, 1, [], 2), (64, .iload_n 1, 1, [], 0), (65, .imul, 1, [], 0), (66, .iload_n 2, 1, [], 0), (67, .iadd, 1, [], 0), (68, .istore 4, 2, [], 0), (70, .aload_n 0, 1, [], 0), (71, .getfield 74, 3, [], 0), (74, .iload 4, 2, [], 0), (76, .baload, 1, [], 0), (77, .ifCond .eq 50, 3, [127], 0), (80, .aload_n 0, 1, [], 0), (81, .getfield 77, 3, [], 0), (84, .iload 4, 2, [], 0), (86, .iaload, 1, [], 0), (87, .aload_n 0, 1, [], 0), (88, .getfield 16, 3, [], 0), (91, .iconst 2, 1, [], 2), (92, .iaload, 1, [], 0), (93, .if_icmp .ne 34, 3, [127], 0), (96, .aload_n 0, 1, [], 0), (97, .getfield 74, 3, [], 0), (100, .iload 4, 2, [], 0), (102, .iconst 0, 1, [], 0), (103, .bastore, 1, [], 0), (104, .aload_n 0, 1, [], 0), (105, .getfield 55, 3, [], 0), (108, .iload 4, 2, [], 0), (110, .iconst 1, 1, [], 1), (111, .bastore, 1, [], 0), (112, .aload_n 0, 1, [], 0), (113, .getfield 65, 3, [], 0), (116, .iload 4, 2, [], 0), (118, .iconst 0, 1, [], 0), (119, .iastore, 1, [], 0), (120, .aload_n 0, 1, [], 0), (121, .getfield 49, 3, [], 0), (124, .iload_n 1, 1, [], 0), (125, .iconst 0, 1, [], 0), (126, .iastore, 1, [], 0), (127, .goto 15, 3, [142], 0), (130, .iload_n 3, 1, [], 0), (131, .bipush 8, 2, [], 8), (133, .if_icmp .ne 9, 3, [142], 0), (136, .aload_n 0, 1, [], 0), (137, .iload_n 1, 1, [], 0), (138, .iconst 3, 1, [], 3), (139, .invokevirtual 208, 3, [], 0), (142, .return_, 1, [], 0)]
def cd_M_count : List iE := [(0, .iconst 0, 1, [], 0), (1, .istore 4, 2, [], 0), (3, .aload_n 0, 1, [], 0), (4, .getfield 83, 3, [], 0), (7, .iload_n 1, 1, [], 0), (8, .iaload, 1, [], 0), (9, .iconst 1, 1, [], 1), (10, .iadd, 1, [], 0), (11, .istore 5, 2, [], 0), (13, .iload 5, 2, [], 0), (15, .aload_n 0, 1, [], 0), (16, .getfield 86, 3, [], 0), (19, .iload_n 1, 1, [], 0), (20, .iaload, 1, [], 0), (21, .if_icmp .gt 58, 3, [79], 0), (24, .bipush 32, 2, [], 32), (26, .iload_n 1, 1, [], 0), (27, .imul, 1, [], 0), (28, .iload 5, 2, [], 0), (30, .bipush 32, 2, [], 32), (32, .irem, 1, [], 0), (33, .iadd, 1, [], 0), (34, .istore 6, 2, [], 0), (36, .aload_n 0, 1, [], 0), (37, .getfield 92, 3, [], 0), (40, .iload 6, 2, [], 0), (42, .iaload, 1, [], 0), (43, .iload_n 2, 1, [], 0), (44, .if_icmp .ne 25, 3, [69], 0), (47, .iload_n 3, 1, [], 0), (48, .ifCond .lt 14, 3, [62], 0), (51, .aload_n 0, 1, [], 0), (52, .getfield 107, 3, [], 0), (55, .iload 6, 2, [], 0), (57, .iaload, 1, [], 0), (58, .iload_n 3, 1, [], 0), (59, .if_icmp .ne 10, 3, [69], 0), (62, .iload 4, 2, [], 0), (64, .iconst 1, 1, [], 1), (65, .iadd, 1, [], 0), (66, .goto 5, 3, [71], 0), (69, .iload 4, 2, [], 0), (71, .istore 4, 2, [], 0), (73, .iinc 5 1, 3, [], 1), (76, .goto (-63), 3, [13], 0), (79, .iload 4, 2, [], 0), (81, .ireturn, 1, [], 0)]
def cd_M_sendWhatMay : List iE := [(0, .iconst 0, 1, [], 0), (1, .istore_n 2, 1, [], 0), (2, .iload_n 2, 1, [], 0), (3, .bipush 64, 2, [], 64), (5, .if_icmp .ge 374, 3, [379], 0), (8, .aload_n 0, 1, [], 0), (9, .getfield 83, 3, [], 0), (12, .iload_n 1, 1, [], 0), (13, .iaload, 1, [], 0), (14, .iconst 1, 1, [], 1), (15, .iadd, 1, [], 0), (16, .istore_n 3, 1, [], 0), (17, .iload_n 3, 1, [], 0), (18, .aload_n 0, 1, [], 0), (19, .getfield 86, 3, [], 0), (22, .iload_n 1, 1, [], 0), (23, .iaload, 1, [], 0), (24, .if_icmp .gt 45, 3, [69], 0), (27, .aload_n 0, 1, [], 0), (28, .getfield 92, 3, [], 0), (31, .bipush 32, 2, [], 32), (33, .iload_n 1, 1, [], 0), (34, .imul, 1, [], 0), (35, .iload_n 3, 1, [], 0), (36, .bipush 32, 2, [], 32), (38, .irem, 1, [], 0), (39, .iadd, 1, [], 0), (40, .iaload, 1, [], 0), (41, .iconst 1, 1, [], 1), (42, .if_icmp .eq 27, 3, [69], 0), (45, .aload_n 0, 1, [], 0), (46, .getfield 92, 3, [], 0), (49, .bipush 32, 2, [], 32), (51, .iload_n 1, 1, [], 0), (52, .imul, 1, [], 0), (53, .iload_n 3, 1, [], 0), (54, .bipush 32, 2, [], 32), (56, .irem, 1, [], 0), (57, .iadd, 1, [], 0), (58, .iaload, 1, [], 0), (59, .iconst 3, 1, [], 3), (60, .if_icmp .eq 9, 3, [69], 0), (63, .iinc 3 1, 3, [], 1), (66, .goto (-49), 3, [17], 0), (69, .iload_n 3, 1, [], 0), (70, .aload_n 0, 1, [], 0), (71, .getfield 86, 3, [], 0), (74, .iload_n 1, 1, [], 0), (75, .iaload, 1, [], 0), (76, .if_icmp .le 4, 3, [80], 0), (79, .return_, 1, [], 0), (80, .bipush 32, 2, [], 32), (82, .iload_n 1, 1, [], 0), (83, .imul, 1, [], 0), (84, .iload_n 3, 1, [], 0), (85, .bipush 32, 2, [], 32), (87, .irem, 1, [], 0), (88, .iadd, 1, [], 0), (89, .istore 4, 2, [], 0), (91, .aload_n 0, 1, [], 0), (92, .getfield 92, 3, [], 0), (95, .iload 4, 2, [], 0), (97, .iaload, 1, [], 0), (98, .iconst 1, 1, [], 1), (99, .if_icmp .ne 7, 3, [106], 0), (102, .iconst 1, 1, [], 1), (103, .goto 4, 3, [107], 0), (106, .iconst 0, 1, [], 0), (107, .istore 5, 2, [], 0), (109, .iload 5, 2, [], 0), (111, .ifCond .ne 28, 3, [139], 0), (114, .aload_n 0, 1, [], 0), (115, .getfield 55, 3, [], 0), (118, .iconst 2, 1, [], 2), (119, .iload_n 1, 1, [], 0), (120, .imul, 1, [], 0), (121, .iconst 1, 1, [], 1), (122, .iadd, 1, [], 0), (123, .aload_n 0, 1, [], 0), (124, .getfield 107, 3, [], 0), (127, .iload 4, 2, [], 0), (129, .iaload, 1, [], 0), (130, .isub, 1, [], 0), (131, .baload, 1, [], 0), (132, .ifCond .eq 7, 3, [139], 0), (135, .iconst 1, 1, [], 1), (136, .goto 4, 3, [140], 0), (139, .iconst 0, 1, [], 0), (140, .istore 6, 2, [], 0), (142, .iload 6, 2, [], 0), (144, .ifCond .eq 15, 3, [159], 0), (147, .iconst 1, 1, [], 1), (148, .aload_n 0, 1, [], 0), (149, .getfield 107, 3, [], 0), (152, .iload 4, 2, [], 0), (154, .iaload, 1, [], 0), (155, .isub, 1, [], 0), (156, .goto 8, 3, [164], 0), (159, .aload_n 0, 1, [], 0), (160, .iload_n 1, 1, [], 0), (161, .invokevirtual 204, 3, [], 0), (164, .istore 7, 2, [], 0), (166, .aload_n 0, 1, [], 0), (167, .iload_n 1, 1, [], 0), (168, .iconst 2, 1, [], 2), (169, .iconst (-1), 1, [], (-1)), (170, .invokevirtual 249, 3, [], 0), (173, .aload_n 0, 1, [], 0), (174, .iload_n 1, 1, [], 0), (175, .iconst 3, 1, [], 3), (176, .iconst (-1), 1, [], (-1)), (177, .invokevirtual 249, 3, [], 0), (180, .iadd, 1, [], 0), (181, .istore 8, 2, [], 0), (183, .aload_n 0, 1, [], 0), (184, .iload_n 1, 1, [], 0), (185, .iconst 2, 1, [], 2), (186, .iload 7, 2, [], 0), (188, .invokevirtual 249, 3, [], 0), (191, .aload_n 0, 1, [], 0), (192, .getfield 59, 3, [], 0), (195, .iconst 2, 1, [], 2), (196, .iload_n 1, 1, [], 0), (197, .imul, 1, [], 0), (198, .iload 7, 2, [], 0), (200, .iadd, 1, [], 0), (201, .iaload, 1, [], 0), (202, .if_icmp .ge 24, 3, [226], 0), (205, .iload 5, 2, [], 0), (207, .ifCond .eq 20, 3, [227], 0), (210, .iload 8, 2, [], 0), (212, .aload_n 0, 1, [], 0), (213, .getfield 52, 3, [], 0), (216, .iload_n 1, 1, [], 0), (217, .iaload, 1, [], 0), (218, .if_icmp .lt 9, 3, [227], 0), (221, .iload 8, 2, [], 0), (223, .ifCond .le 4, 3, [227], 0), (226, .return_, 1, [], 0), (227, .aload_n 0, 1, [], 0), (228, .iload_n 1, 1, [], 0), (229, .iload 7, 2, [], 0), (231, .invokevirtual 179, 3, [], 0), (234, .istore 9, 2, [], 0), (236, .aload_n 0, 1, [], 0), (237, .iload_n 1, 1, [], 0), (238, .iload 7, 2, [], 0), (240, .aload_n 0, 1, [], 0), (241, .getfield 25, 3, [], 0), (244, .iload_n 1, 1, [], 0), (245, .iaload, 1, [], 0), (246, .iconst 4, 1, [], 4), (247, .iload_n 3, 1, [], 0), (248, .aload_n 0, 1, [], 0), (249, .getfield 95, 3, [], 0), (252, .iload 4, 2, [], 0), (254, .iaload, 1, [], 0), (255, .invokevirtual 183, 3, [], 0), (258, .iload 9, 2, [], 0), (260, .ifCond .ne 35, 3, [295], 0), (263, .aload_n 0, 1, [], 0), (264, .iconst 2, 1, [], 2), (265, .iload_n 1, 1, [], 0), (266, .imul, 1, [], 0), (267, .iload 7, 2, [], 0), (269, .iadd, 1, [], 0), (270, .aload_n 0, 1, [], 0), (271, .getfield 98, 3, [], 0), (274, .iload 4, 2, [], 0), (276, .iaload, 1, [], 0), (277, .aload_n 0, 1, [], 0), (278, .getfield 101, 3, [], 0), (281, .iload 4, 2, [], 0), (283, .iaload, 1, [], 0), (284, .aload_n 0, 1, [], 0), (285, .getfield 104, 3, [], 0), (288, .iload 4, 2, [], 0), (290, .iaload, 1, [], 0), (291, .iconst 0, 1, [], 0), (292, .invokevirtual 187, 3, [], 0), (295, .aload_n 0, 1, [], 0), (296, .getfield 92, 3, [], 0), (299, .iload 4, 2, [], 0), (301, .iconst 2, 1, [], 2), (302, .iastore, 1, [], 0), (303, .aload_n 0, 1, [], 0), (304, .getfield 107, 3, [], 0), (307, .iload 4, 2, [], 0), (309, .iload 7, 2, [], 0), (311, .iastore, 1, [], 0), (312, .aload_n 0, 1, [], 0), (313, .getfield 110, 3, [], 0), (316, .iload 4, 2, [], 0), (318, .iconst 0, 1, [], 0), (319, .iastore, 1, [], 0), (320, .aload_n 0, 1, [], 0), (321, .getfield 68, 3, [], 0), (324, .iconst 2, 1, [], 2), (325, .iload_n 1, 1, [], 0), (326, .imul, 1, [], 0), (327, .iload 7, 2, [], 0), (329, .iadd, 1, [], 0), (330, .baload, 1, [], 0), (331, .ifCond .ne 42, 3, [373], 0), (334, .aload_n 0, 1, [], 0), (335, .getfield 68, 3, [], 0), (338, .iconst 2, 1, [], 2), (339, .iload_n 1, 1, [], 0), (340, .imul, 1, [], 0), (341, .iload 7, 2, [], 0), (343, .iadd, 1, [], 0), (344, .iconst 1, 1, [], 1), (345, .bastore, 1, [], 0), (346, .aload_n 0, 1, [], 0), (347, .getfield 71, 3, [], 0), (350, .iconst 2, 1, [], 2), (351, .iload_n 1, 1, [], 0), (352, .imul, 1, [], 0), (353, .iload 7, 2, [], 0), (355, .iadd, 1, [], 0), (356, .aload_n 0, 1, [], 0), (357, .getfield 198, 3, [], 0), (360, .aload_n 0, 1, [], 0), (361, .getfield 62, 3, [], 0), (364, .iconst 2, 1, [], 2), (365, .iload_n 1, 1, [], 0), (366, .imul, 1, [], 0), (367, .iload 7, 2, [], 0), (369, .iadd, 1, [], 0), (370, .iaload, 1, [], 0), (371, .iadd, 1, [], 0), (372, .iastore, 1, [], 0), (373, .iinc 2 1, 3, [], 1), (376, .goto (-374), 3, [2], 0), (379, .return_, 1, [], 0)]
def cd_M_send : List iE := [(0, .iload_n 1, 1, [], 0), (1, .invokestatic 171, 3, [], 0), (4, .ifCond .eq 55, 3, [59], 0), (7, .iload_n 2, 1, [], 0), (8, .ifCond .lt 51, 3, [59], 0), (11, .iload_n 2, 1, [], 0), (12, .iconst 2, 1, [], 2), (13, .if_icmp .gt 46, 3, [59], 0), (16, .iload 5, 2, [], 0), (18, .iconst 1, 1, [], 1), (19, .if_icmp .lt 40, 3, [59], 0), (22, .iload 5, 2, [], 0), (24, .iconst 4, 1, [], 4), (25, .if_icmp .gt 34, 3, [59], 0), (28, .aload_n 0, 1, [], 0), (29, .getfield 19, 3, [], 0), (32, .iload_n 1, 1, [], 0), (33, .iaload, 1, [], 0), (34, .iconst 3, 1, [], 3), (35, .if_icmp .ne 24, 3, [59], 0), (38, .aload_n 0, 1, [], 0), (39, .getfield 86, 3, [], 0), (42, .iload_n 1, 1, [], 0), (43, .iaload, 1, [], 0), (44, .aload_n 0, 1, [], 0), (45, .getfield 83, 3, [], 0), (48, .iload_n 1, 1, [], 0), (49, .iaload, 1, [], 0), (50, .isub, 1, [], 0), (51, .iload 5, 2, [], 0), (53, .iadd, 1, [], 0), (54, .bipush 24, 2, [], 24), (56, .if_icmp .le 5, 3, [61], 0), (59, .iconst 0, 1, [], 0), (60, .ireturn, 1, [], 0), (61, .iconst 0, 1, [], 0), (62, .istore 6, 2, [], 0), (64, .iload 6, 2, [], 0), (66, .iload 5, 2, [], 0), (68, .if_icmp .ge 146, 3, [214], 0), (71, .aload_n 0, 1, [], 0), (72, .getfield 86, 3, [], 0), (75, .iload_n 1, 1, [], 0), (76, .dup2, 1, [], 0), (77, .iaload, 1, [], 0), (78, .iconst 1, 1, [], 1), (79, .iadd, 1, [], 0), (80, .iastore, 1, [], 0), (81, .bipush 32, 2, [], 32), (83, .iload_n 1, 1, [], 0), (84, .imul, 1, [], 0), (85, .aload_n 0, 1, [], 0), (86, .getfield 86, 3, [], 0), (89, .iload_n 1, 1, [], 0), (90, .iaload, 1, [], 0), (91, .bipush 32, 2, [], 32), (93, .irem, 1, [], 0), (94, .iadd, 1, [], 0), (95, .istore 7, 2, [], 0), (97, .aload_n 0, 1, [], 0), (98, .getfield 92, 3, [], 0), (101, .iload 7, 2, [], 0), (103, .iconst 1, 1, [], 1), (104, .iastore, 1, [], 0), (105, .aload_n 0, 1, [], 0), (106, .getfield 95, 3, [], 0), (109, .iload 7, 2, [], 0), (111, .iload 4, 2, [], 0), (113, .iload 6, 2, [], 0), (115, .iadd, 1, [], 0), (116, .iastore, 1, [], 0), (117, .aload_n 0, 1, [], 0), (118, .getfield 98, 3, [], 0), (121, .iload 7, 2, [], 0), (123, .iload_n 2, 1, [], 0), (124, .iastore, 1, [], 0), (125, .aload_n 0, 1, [], 0), (126, .getfield 101, 3, [], 0), (129, .iload 7, 2, [], 0), (131, .iload_n 3, 1, [], 0), (132, .ifCond .eq 7, 3, [139], 0), (135, .iconst 0, 1, [], 0), (136, .goto 13, 3, [149], 0), (139, .aload_n 0, 1, [], 0), (140, .getfield 89, 3, [], 0), (143, .iconst 3, 1, [], 3), (144, .iload_n 1, 1, [], 0), (145, .imul, 1, [], 0), (146, .iload_n 2, 1, [], 0), (147, .iadd, 1, [], 0), (148, .iaload, 1, [], 0), (149, .iastore, 1, [], 0), (150, .aload_n 0, 1, [], 0), (151, .getfield 104, 3, [], 0), (154, .iload 7, 2, [], 0), (156, .iload 6, 2, [], 0), (158, .ifCond .ne 7, 3, [165], 0), (161, .iconst 1, 1, [], 1), (162, .goto 4, 3, [166], 0), (165, .iconst 0, 1, [], 0), (166, .iload 6, 2, [], 0), (168, .iload 5, 2, [], 0), (170, .iconst 1, 1, [], 1), (171, .isub, 1, [], 0), (172, .if_icmp .ne 7, 3, [179], 0), (175, .iconst 2, 1, [], 2), (176, .goto 4, 3, [180], 0), (179, .iconst 0, 1, [], 0), (180, .iadd, 1, [], 0), (181, .iload_n 3, 1, [], 0), (182, .ifCond .eq 7, 3, [189], 0), (185, .iconst 4, 1, [], 4), (186, .goto 4, 3, [190], 0), (189, .iconst 0, 1, [], 0), (190, .iadd, 1, [], 0), (191, .iastore, 1, [], 0), (192, .aload_n 0, 1, [], 0), (193, .getfield 107, 3, [], 0), (196, .iload 7, 2, [], 0), (198, .iconst 0, 1, [], 0), (199, .iastore, 1, [], 0), (200, .aload_n 0, 1, [], 0), (201, .getfield 110, 3, [], 0), (204, .iload 7, 2, [], 0), (206, .iconst 0, 1, [], 0), (207, .iastore, 1, [], 0), (208, .iinc 6 1, 3, [], 1), (211, .goto (-147), 3, [64], 0), (214, .aload_n 0, 1, [], 0), (215, .getfield 89, 3, [], 0), (218, .iconst 3, 1, [], 3), (219, .iload_n 1, 1, [], 0), (220, .imul, 1, [], 0), (221, .iload_n 2, 1, [], 0), (222, .iadd, 1, [], 0), (223, .dup2, 1, [], 0), (224, .iaload, 1, [], 0), (225, .iload_n 3, 1, [], 0), (226, .ifCond .eq 7, 3, [233], 0), (229, .iconst 0, 1, [], 0), (230, .goto 4, 3, [234], 0), (233, .iconst 1, 1, [], 1), (234, .iadd, 1, [], 0), (235, .iastore, 1, [], 0), (236, .aload_n 0, 1, [], 0), (237, .iload_n 1, 1, [], 0), (238, .invokevirtual 252, 3, [], 0), (241, .iconst 1, 1, [], 1), (242, .ireturn, 1, [], 0)]
def cd_M_sack : List iE := [(0, .aload_n 0, 1, [], 0), (1, .getfield 16, 3, [], 0), (4, .iconst 2, 1, [], 2), (5, .iaload, 1, [], 0), (6, .istore_n 2, 1, [], 0), (7, .aload_n 0, 1, [], 0), (8, .getfield 16, 3, [], 0), (11, .iconst 3, 1, [], 3), (12, .iaload, 1, [], 0), (13, .istore_n 3, 1, [], 0), (14, .iload_n 2, 1, [], 0), (15, .aload_n 0, 1, [], 0), (16, .getfield 113, 3, [], 0), (19, .iload_n 1, 1, [], 0), (20, .iaload, 1, [], 0), (21, .if_icmp .lt 13, 3, [34], 0), (24, .iload_n 2, 1, [], 0), (25, .aload_n 0, 1, [], 0), (26, .getfield 86, 3, [], 0), (29, .iload_n 1, 1, [], 0), (30, .iaload, 1, [], 0), (31, .if_icmp .le 4, 3, [35], 0), (34, .return_, 1, [], 0), (35, .aload_n 0, 1, [], 0), (36, .getfield 113, 3, [], 0), (39, .iload_n 1, 1, [], 0), (40, .iload_n 2, 1, [], 0), (41, .iastore, 1, [], 0), (42, .aload_n 0, 1, [], 0), (43, .getfield 80, 3, [], 0), (46, .iconst 2, 1, [], 2), (47, .iload_n 1, 1, [], 0), (48, .imul, 1, [], 0), (49, .iconst 0, 1, [], 0), (50, .bastore, 1, [], 0), (51, .aload_n 0, 1, [], 0), (52, .getfield 80, 3, [], 0), (55, .iconst 2, 1, [], 2), (56, .iload_n 1, 1, [], 0), (57, .imul, 1, [], 0), (58, .iconst 1, 1, [], 1), (59, .iadd, 1, [], 0), (60, .iconst 0, 1, [], 0), (61, .bastore, 1, [], 0), (62, .aload_n 0, 1, [], 0), (63, .getfield 83, 3, [], 0), (66, .iload_n 1, 1, [], 0), (67, .iaload, 1, [], 0), (68, .iconst 1, 1, [], 1), (69, .iadd, 1, [], 0), (70, .istore 4, 2, [], 0), (72, .iload 4, 2, [], 0), (74, .aload_n 0, 1, [], 0), (75, .getfield 86, 3, [], 0), (78, .iload_n 1, 1, [], 0), (79, .iaload, 1, [], 0), (80, .if_icmp .gt 111, 3, [191], 0), (83, .bipush 32, 2, [], 32), (85, .iload_n 1, 1, [], 0), (86, .imul, 1, [], 0), (87, .iload 4, 2, [], 0), (89, .bipush 32, 2, [], 32), (91, .irem, 1, [], 0), (92, .iadd, 1, [], 0), (93, .istore 5, 2, [], 0), (95, .iload 4, 2, [], 0), (97, .iload_n 2, 1, [], 0), (98, .isub, 1, [], 0), (99, .iconst 1, 1, [], 1), (100, .isub, 1, [], 0), (101, .istore 6, 2, [], 0), (103, .iload 4, 2, [], 0), (105, .iload_n 2, 1, [], 0), (106, .if_icmp .le 20, 3, [126], 0), (109, .iload 6, 2, [], 0), (111, .bipush 16, 2, [], 16), (113, .if_icmp .ge 17, 3, [130], 0), (116, .iload_n 3, 1, [], 0), (117, .iload 6, 2, [], 0), (119, .ishr, 1, [], 0), (120, .iconst 1, 1, [], 1), (121, .iand, 1, [], 0), (122, .iconst 1, 1, [], 1), (123, .if_icmp .ne 7, 3, [130], 0), (126, .iconst 1, 1, [], 1), (127, .goto 4, 3, [131], 0), (130, .iconst 0, 1, [], 0), (131, .istore 7, 2, [], 0), (133, .iload 7, 2, [], 0), (135, .ifCond .eq 50, 3, [185], 0), (138, .aload_n 0, 1, [], 0), (139, .getfield 92, 3, [], 0), (142, .iload 5, 2, [], 0), (144, .iaload, 1, [], 0), (145, .iconst 2, 1, [], 2), (146, .if_icmp .eq 14, 3, [160], 0), (149, .aload_n 0, 1, [], 0), (150, .getfield 92, 3, [], 0), (153, .iload 5, 2, [], 0), (155, .iaload, 1, [], 0), (156, .iconst 3, 1, [], 3), (157, .if_icmp .ne 28, 3, [185], 0), (160, .aload_n 0, 1, [], 0), (161, .getfield 80, 3, [], 0), (164, .iconst 2, 1, [], 2), (165, .iload_n 1, 1, [], 0), (166, .imul, 1, [], 0), (167, .aload_n 0, 1, [], 0), (168, .getfield 107, 3, [], 0), (171, .iload 5, 2, [], 0), (173, .iaload, 1, [], 0), (174, .iadd, 1, [], 0), (175, .iconst 1, 1, [], 1), (176, .bastore, 1, [], 0), (177, .aload_n 0, 1, [], 0), (178, .getfield 92, 3, [], 0), (181, .iload 5, 2, [], 0), (183, .iconst 4, 1, [], 4), (184, .iastore, 1, [], 0), (185, .iinc 4 1, 3, [], 1), (188, .goto (-116), 3, [72], 0), (191, .aload_n 0, 1, [], 0), (192, .getfield 83, 3, [], 0), (195, .iload_n 1, 1, [], 0), (196, .iaload, 1, [], 0), (197, .iconst 1, 1, [], 1), (198, .iadd, 1, [], 0), (199, .istore 4, 2, [], 0), (201, .iload 4, 2, [], 0), (203, .iload_n 2, 1, [], 0), (204, .if_icmp .gt 25, 3, [229], 0), (207, .aload_n 0, 1, [], 0), (208, .getfield 92, 3, [], 0), (211, .bipush 32, 2, [], 32), (213, .iload_n 1, 1, [], 0), (214, .imul, 1, [], 0), (215, .iload 4, 2, [], 0), (217, .bipush 32, 2, [], 32), (219, .irem, 1, [], 0), (220, .iadd, 1, [], 0), (221, .iconst 0, 1, [], 0), (222, .iastore, 1, [], 0), (223, .iinc 4 1, 3, [], 1), (226, .goto (-25), 3, [201], 0), (229, .aload_n 0, 1, [], 0), (230, .getfield 83, 3, [], 0), (233, .iload_n 1, 1, [], 0), (234, .iload_n 2, 1, [], 0), (235, .aload_n 0, 1, [], 0), (236, .getfield 83, 3, [], 0), (239, .iload_n 1, 1, [], 0), (240, .iaload, 1, [], 0), (241, .if_icmp .le 7, 3, [248], 0), (244, .iload_n 2, 1, [], 0), (245, .goto 9, 3, [254], 0), (248, .aload_n 0, 1, [], 0), (249, .getfield 83, 3, [], 0), (252, .iload_n 1, 1, [], 0), (253, .iaload, 1, [], 0), (254, .iastore, 1, [], 0), (255, .aload_n 0, 1, [], 0), (256, .getfield 52, 3, [], 0), (259, .iload_n 1, 1, [], 0), (260, .aload_n 0, 1, [], 0), (261, .getfield 16, 3, [], 0), (264, .iconst 4, 1, [], 4), (265, .iaload, 1, [], 0), (266, .iastore, 1, [], 0), (267, .iconst 2, 1, [], 2), (268, .iload_n 1, 1, [], 0), (269, .imul, 1, [], 0), (270, .istore 4, 2, [], 0), (272, .iload 4, 2, [], 0), (274, .iconst 2, 1, [], 2), (275, .iload_n 1, 1, [], 0), (276, .imul, 1, [], 0), (277, .iconst 2, 1, [], 2), (278, .iadd, 1, [], 0), (279, .if_icmp .ge 83, 3, [362], 0), (282, .aload_n 0, 1, [], 0), (283, .getfield 80, 3, [], 0), (286, .iload 4, 2, [], 0), (288, .baload, 1, [], 0), (289, .ifCond .eq 67, 3, [356], 0), (292, .aload_n 0, 1, [], 0), (293, .getfield 65, 3, [], 0), (296, .iload 4, 2, [], 0), (298, .iconst 0, 1, [], 0), (299, .iastore, 1, [], 0), (300, .aload_n 0, 1, [], 0), (301, .getfield 49, 3, [], 0), (304, .iload_n 1, 1, [], 0), (305, .iconst 0, 1, [], 0), (306, .iastore, 1, [], 0), (307, .aload_n 0, 1, [], 0), (308, .getfield 62, 3, [], 0), (311, .iload 4, 2, [], 0), (313, .iconst 3, 1, [], 3), (314, .iastore, 1, [], 0), (315, .aload_n 0, 1, [], 0), (316, .getfield 59, 3, [], 0), (319, .iload 4, 2, [], 0), (321, .aload_n 0, 1, [], 0), (322, .getfield 59, 3, [], 0), (325, .iload 4, 2, [], 0), (327, .iaload, 1, [], 0), (328, .bipush 8, 2, [], 8), (330, .if_icmp .ge 15, 3, [345], 0), (333, .aload_n 0, 1, [], 0), (334, .getfield 59, 3, [], 0), (337, .iload 4, 2, [], 0), (339, .iaload, 1, [], 0), (340, .iconst 1, 1, [], 1), (341, .iadd, 1, [], 0), (342, .goto 5, 3, [347], 0), (345, .bipush 8, 2, [], 8), (347, .iastore, 1, [], 0), (348, .aload_n 0, 1, [], 0), (349, .getfield 55, 3, [], 0), (352, .iload 4, 2, [], 0), (354, .iconst 1, 1, [], 1), (355, .bastore, 1, [], 0), (356, .iinc 4 1, 3, [], 1), (359, .goto (-87), 3, [272], 0), (362, .aload_n 0, 1, [], 0), (363, .iload_n 1, 1, [], 0), (364, .iload_n 2, 1, [], 0), (365, .iload_n 3, 1, [], 0), (366, .invokevirtual 255, 3, [], 0), (369, .iconst 2, 1, [], 2), (370, .iload_n 1, 1, [], 0), (371, .imul, 1, [], 0), (372, .istore 4, 2, [], 0), (374, .iload 4, 2, [], 0), (376, .iconst 2, 1, [], 2), (377, .iload_n 1, 1, [], 0), (378, .imul, 1, [], 0), (379, .iconst 2, 1, [], 2), (380, .iadd, 1, [], 0), (381, .if_icmp .ge 64, 3, [445], 0), (384, .aload_n 0, 1, [], 0), (385, .iload_n 1, 1, [], 0), (386, .iconst 2, 1, [], 2), (387, .iload 4, 2, [], 0), (389, .iconst 2, 1, [], 2), (390, .iload_n 1, 1, [], 0), (391, .imul, 1, [], 0), (392, .isub, 1, [], 0), (393, .invokevirtual 249, 3, [], 0), (396, .ifCond .ne 14, 3, [410], 0), (399, .aload_n 0, 1, [], 0), (400, .getfield 68, 3, [], 0), (403, .iload 4, 2, [], 0), (405, .iconst 0, 1, [], 0), (406, .bastore, 1, [], 0), (407, .goto 32, 3, [439], 0), (410, .aload_n 0, 1, [], 0), (411, .getfield 80, 3, [], 0), (414, .iload 4, 2, [], 0), (416, .baload, 1, [], 0), (417, .ifCond .eq 22, 3, [439], 0), (420, .aload_n 0, 1, [], 0), (421, .getfield 71, 3, [], 0), (424, .iload 4, 2, [], 0), (426, .aload_n 0, 1, [], 0), (427, .getfield 198, 3, [], 0), (430, .aload_n 0, 1, [], 0), (431, .getfield 62, 3, [], 0), (434, .iload 4, 2, [], 0), (436, .iaload, 1, [], 0), (437, .iadd, 1, [], 0), (438, .iastore, 1, [], 0), (439, .iinc 4 1, 3, [], 1), (442, .goto (-68), 3, [374], 0), (445, .aload_n 0, 1, [], 0), (446, .iload_n 1, 1, [], 0), (447, .invokevirtual 252, 3, [], 0), (450, .return_, 1, [], 0)]
def cd_M_strike : List iE := [(0, .iconst 0, 1, [], 0), (1, .istore 4, 2, [], 0), (3, .iconst 0, 1, [], 0), (4, .istore 5, 2, [], 0), (6, .iload 5, 2, [], 0), (8, .bipush 16, 2, [], 16), (10, .if_icmp .ge 32, 3, [42], 0), (13, .iload_n 3, 1, [], 0), (14, .iload 5, 2, [], 0), (16, .ishr, 1, [], 0), (17, .iconst 1, 1, [], 1), (18, .iand, 1, [], 0), (19, .iconst 1, 1, [], 1), (20, .if_icmp .ne 12, 3, [32], 0), (23, .iload_n 2, 1, [], 0), (24, .iconst 1, 1, [], 1), (25, .iadd, 1, [], 0), (26, .iload 5, 2, [], 0), (28, .iadd, 1, [], 0), (29, .goto 5, 3, [34], 0), (32, .iload 4, 2, [], 0), (34, .istore 4, 2, [], 0), (36, .iinc 5 1, 3, [], 1), (39, .goto (-33), 3, [6], 0), (42, .aload_n 0, 1, [], 0), (43, .getfield 83, 3, [], 0), (46, .iload_n 1, 1, [], 0), (47, .iaload, 1, [], 0), (48, .iconst 1, 1, [], 1), (49, .iadd, 1, [], 0), (50, .istore 5, 2, [], 0), (52, .iload 5, 2, [], 0), (54, .aload_n 0, 1, [], 0), (55, .getfield 86, 3, [], 0), (58, .iload_n 1, 1, [], 0), (59, .iaload, 1, [], 0), (60, .if_icmp .gt 123, 3, [183], 0), (63, .iload 5, 2, [], 0), (65, .iload 4, 2, [], 0), (67, .if_icmp .ge 116, 3, [183], 0), (70, .bipush 32, 2, [], 32), (72, .iload_n 1, 1, [], 0), (73, .imul, 1, [], 0), (74, .iload 5, 2, [], 0), (76, .bipush 32, 2, [], 32), (78, .irem, 1, [], 0), (79, .iadd, 1, [], 0), (80, .istore 6, 2, [], 0), (82, .aload_n 0, 1, [], 0), (83, .getfield 92, 3, [], 0), (86, .iload 6, 2, [], 0), (88, .iaload, 1, [], 0), (89, .iconst 2, 1, [], 2), (90, .if_icmp .ne 87, 3, [177], 0), (93, .aload_n 0, 1, [], 0), (94, .getfield 110, 3, [], 0), (97, .iload 6, 2, [], 0), (99, .dup2, 1, [], 0), (100, .iaload, 1, [], 0), (101, .iconst 1, 1, [], 1), (102, .iadd, 1, [], 0), (103, .iastore, 1, [], 0), (104, .aload_n 0, 1, [], 0), (105, .getfield 110, 3, [], 0), (108, .iload 6, 2, [], 0), (110, .iaload, 1, [], 0), (111, .iconst 3, 1, [], 3), (112, .if_icmp .ne 65, 3, [177], 0), (115, .iconst 2, 1, [], 2), (116, .iload_n 1, 1, [], 0), (117, .imul, 1, [], 0), (118, .aload_n 0, 1, [], 0), (119, .getfield 107, 3, [], 0), (122, .iload 6, 2, [], 0), (124, .iaload, 1, [], 0), (125, .iadd, 1, [], 0), (126, .istore 7, 2, [], 0), (128, .aload_n 0, 1, [], 0), (129, .getfield 92, 3, [], 0), (132, .iload 6, 2, [], 0), (134, .iconst 3, 1, [], 3), (135, .iastore, 1, [], 0), (136, .aload_n 0, 1, [], 0), (137, .getfield 110, 3, [], 0), (140, .iload 6, 2, [], 0), (142, .iconst 0, 1, [], 0), (143, .iastore, 1, [], 0), (144, .aload_n 0, 1, [], 0), (145, .getfield 59, 3, [], 0), (148, .iload 7, 2, [], 0), (150, .aload_n 0, 1, [], 0), (151, .getfield 59, 3, [], 0), (154, .iload 7, 2, [], 0), (156, .iaload, 1, [], 0), (157, .iconst 2, 1, [], 2), (158, .idiv, 1, [], 0), (159, .iconst 1, 1, [], 1), (160, .if_icmp .ge 7, 3, [167], 0), (163, .iconst 1, 1, [], 1), (164, .goto 12, 3, [176], 0), (167, .aload_n 0, 1, [], 0), (168, .getfield 59, 3, [], 0), (171, .iload 7, 2, [], 0), (173, .iaload, 1, [], 0), (174, .iconst 2, 1, [], 2), (175, .idiv, 1, [], 0), (176, .iastore, 1, [], 0), (177, .iinc 5 1, 3, [], 1), (180, .goto (-128), 3, [52], 0), (183, .return_, 1, [], 0)]
def cd_M_has : List iE := [(0, .iload_n 2, 1, [], 0), (1, .aload_n 0, 1, [], 0), (2, .getfield 116, 3, [], 0), (5, .iload_n 1, 1, [], 0), (6, .iaload, 1, [], 0), (7, .if_icmp .le 31, 3, [38], 0), (10, .iload_n 2, 1, [], 0), (11, .aload_n 0, 1, [], 0), (12, .getfield 116, 3, [], 0), (15, .iload_n 1, 1, [], 0), (16, .iaload, 1, [], 0), (17, .bipush 16, 2, [], 16), (19, .iadd, 1, [], 0), (20, .if_icmp .gt 22, 3, [42], 0), (23, .aload_n 0, 1, [], 0), (24, .getfield 119, 3, [], 0), (27, .sipush 544, 3, [], 544), (30, .iload_n 1, 1, [], 0), (31, .imul, 1, [], 0), (32, .iload_n 2, 1, [], 0), (33, .iadd, 1, [], 0), (34, .baload, 1, [], 0), (35, .ifCond .eq 7, 3, [42], 0), (38, .iconst 1, 1, [], 1), (39, .goto 4, 3, [43], 0), (42, .iconst 0, 1, [], 0), (43, .ireturn, 1, [], 0)]
def cd_M_data : List iE := [(0, .aload_n 0, 1, [], 0), (1, .getfield 16, 3, [], 0), (4, .iconst 2, 1, [], 2), (5, .iaload, 1, [], 0), (6, .istore_n 3, 1, [], 0), (7, .iload_n 3, 1, [], 0), (8, .iconst 1, 1, [], 1), (9, .if_icmp .lt 50, 3, [59], 0), (12, .aload_n 0, 1, [], 0), (13, .iload_n 1, 1, [], 0), (14, .iload_n 3, 1, [], 0), (15, .invokevirtual 258, 3, [], 0), (18, .ifCond .ne 41, 3, [59], 0), (21, .iload_n 3, 1, [], 0), (22, .aload_n 0, 1, [], 0), (23, .getfield 116, 3, [], 0), (26, .iload_n 1, 1, [], 0), (27, .iaload, 1, [], 0), (28, .bipush 16, 2, [], 16), (30, .iadd, 1, [], 0), (31, .if_icmp .gt 28, 3, [59], 0), (34, .aload_n 0, 1, [], 0), (35, .getfield 140, 3, [], 0), (38, .iload_n 1, 1, [], 0), (39, .iaload, 1, [], 0), (40, .aload_n 0, 1, [], 0), (41, .getfield 155, 3, [], 0), (44, .if_icmp .lt 19, 3, [63], 0), (47, .iload_n 3, 1, [], 0), (48, .aload_n 0, 1, [], 0), (49, .getfield 116, 3, [], 0), (52, .iload_n 1, 1, [], 0), (53, .iaload, 1, [], 0), (54, .iconst 1, 1, [], 1), (55, .iadd, 1, [], 0), (56, .if_icmp .eq 7, 3, [63], 0), (59, .iconst 1, 1, [], 1), (60, .goto 4, 3, [64], 0), (63, .iconst 0, 1, [], 0), (64, .istore 4, 2, [], 0), (66, .iload 4, 2, [], 0), (68, .ifCond .ne 148, 3, [216], 0), (71, .sipush 544, 3, [], 544), (74, .iload_n 1, 1, [], 0), (75, .imul, 1, [], 0), (76, .iload_n 3, 1, [], 0), (77, .iadd, 1, [], 0), (78, .istore 5, 2, [], 0), (80, .aload_n 0, 1, [], 0), (81, .getfield 119, 3, [], 0), (84, .iload 5, 2, [], 0), (86, .iconst 1, 1, [], 1), (87, .bastore, 1, [], 0), (88, .aload_n 0, 1, [], 0), (89, .getfield 122, 3, [], 0), (92, .iload 5, 2, [], 0), (94, .iconst 1, 1, [], 1), (95, .bastore, 1, [], 0), (96, .aload_n 0, 1, [], 0), (97, .getfield 125, 3, [], 0), (100, .iload 5, 2, [], 0), (102, .aload_n 0, 1, [], 0), (103, .getfield 16, 3, [], 0), (106, .iconst 3, 1, [], 3), (107, .iaload, 1, [], 0), (108, .iastore, 1, [], 0), (109, .aload_n 0, 1, [], 0), (110, .getfield 128, 3, [], 0), (113, .iload 5, 2, [], 0), (115, .aload_n 0, 1, [], 0), (116, .getfield 16, 3, [], 0), (119, .iconst 4, 1, [], 4), (120, .iaload, 1, [], 0), (121, .iastore, 1, [], 0), (122, .aload_n 0, 1, [], 0), (123, .getfield 131, 3, [], 0), (126, .iload 5, 2, [], 0), (128, .aload_n 0, 1, [], 0), (129, .getfield 16, 3, [], 0), (132, .iconst 5, 1, [], 5), (133, .iaload, 1, [], 0), (134, .iastore, 1, [], 0), (135, .aload_n 0, 1, [], 0), (136, .getfield 134, 3, [], 0), (139, .iload 5, 2, [], 0), (141, .aload_n 0, 1, [], 0), (142, .getfield 16, 3, [], 0), (145, .bipush 6, 2, [], 6), (147, .iaload, 1, [], 0), (148, .iastore, 1, [], 0), (149, .aload_n 0, 1, [], 0), (150, .getfield 140, 3, [], 0), (153, .iload_n 1, 1, [], 0), (154, .dup2, 1, [], 0), (155, .iaload, 1, [], 0), (156, .iconst 1, 1, [], 1), (157, .iadd, 1, [], 0), (158, .iastore, 1, [], 0), (159, .aload_n 0, 1, [], 0), (160, .getfield 119, 3, [], 0), (163, .sipush 544, 3, [], 544), (166, .iload_n 1, 1, [], 0), (167, .imul, 1, [], 0), (168, .aload_n 0, 1, [], 0), (169, .getfield 116, 3, [], 0), (172, .iload_n 1, 1, [], 0), (173, .iaload, 1, [], 0), (174, .iadd, 1, [], 0), (175, .iconst 1, 1, [], 1), (176, .iadd, 1, [], 0), (177, .baload, 1, [], 0), (178, .ifCond .eq 16, 3, [194], 0), (181, .aload_n 0, 1, [], 0), (182, .getfield 116, 3, [], 0), (185, .iload_n 1, 1, [], 0), (186, .dup2, 1, [], 0), (187, .iaload, 1, [], 0), (188, .iconst 1, 1, [], 1), (189, .iadd, 1, [], 0), (190, .iastore, 1, [], 0), (191, .goto (-32), 3, [159], 0), (194, .aload_n 0, 1, [], 0), (195, .iload_n 1, 1, [], 0), (196, .invokevirtual 261, 3, [], 0), (199, .istore 6, 2, [], 0), (201, .iload 6, 2, [], 0), (203, .ifCond .eq 13, 3, [216], 0), (206, .aload_n 0, 1, [], 0), (207, .iload_n 1, 1, [], 0), (208, .invokevirtual 261, 3, [], 0), (211, .istore 6, 2, [], 0), (213, .goto (-12), 3, [201], 0), (216, .iconst 0, 1, [], 0), (217, .istore 5, 2, [], 0), (219, .iconst 0, 1, [], 0), (220, .istore 6, 2, [], 0), (222, .iload 6, 2, [], 0), (224, .bipush 16, 2, [], 16), (226, .if_icmp .ge 48, 3, [274], 0), (229, .aload_n 0, 1, [], 0), (230, .getfield 119, 3, [], 0), (233, .sipush 544, 3, [], 544), (236, .iload_n 1, 1, [], 0), (237, .imul, 1, [], 0), (238, .aload_n 0, 1, [], 0), (239, .getfield 116, 3, [], 0), (242, .iload_n 1, 1, [], 0), (243, .iaload, 1, [], 0), (244, .iadd, 1, [], 0), (245, .iconst 1, 1, [], 1), (246, .iadd, 1, [], 0), (247, .iload 6, 2, [], 0), (249, .iadd, 1, [], 0), (250, .baload, 1, [], 0), (251, .ifCond .eq 13, 3, [264], 0), (254, .iload 5, 2, [], 0), (256, .iconst 1, 1, [], 1), (257, .iload 6, 2, [], 0), (259, .ishl, 1, [], 0), (260, .ior, 1, [], 0), (261, .goto 5, 3, [266], 0), (264, .iload 5, 2, [], 0), (266, .istore 5, 2, [], 0), (268, .iinc 6 1, 3, [], 1), (271, .goto (-49), 3, [222], 0), (274, .aload_n 0, 1, [], 0), (275, .iload_n 1, 1, [], 0), (276, .iload_n 2, 1, [], 0), (277, .invokevirtual 179, 3, [], 0), (280, .istore 6, 2, [], 0), (282, .aload_n 0, 1, [], 0), (283, .getfield 155, 3, [], 0), (286, .aload_n 0, 1, [], 0), (287, .getfield 140, 3, [], 0), (290, .iload_n 1, 1, [], 0), (291, .iaload, 1, [], 0), (292, .isub, 1, [], 0), (293, .istore 7, 2, [], 0), (295, .aload_n 0, 1, [], 0), (296, .iload_n 1, 1, [], 0), (297, .iload_n 2, 1, [], 0), (298, .aload_n 0, 1, [], 0), (299, .getfield 25, 3, [], 0), (302, .iload_n 1, 1, [], 0), (303, .iaload, 1, [], 0), (304, .iconst 5, 1, [], 5), (305, .aload_n 0, 1, [], 0), (306, .getfield 116, 3, [], 0), (309, .iload_n 1, 1, [], 0), (310, .iaload, 1, [], 0), (311, .iload 5, 2, [], 0), (313, .invokevirtual 183, 3, [], 0), (316, .iload 6, 2, [], 0), (318, .ifCond .ne 26, 3, [344], 0), (321, .aload_n 0, 1, [], 0), (322, .iconst 2, 1, [], 2), (323, .iload_n 1, 1, [], 0), (324, .imul, 1, [], 0), (325, .iload_n 2, 1, [], 0), (326, .iadd, 1, [], 0), (327, .iload 7, 2, [], 0), (329, .ifCond .ge 7, 3, [336], 0), (332, .iconst 0, 1, [], 0), (333, .goto 5, 3, [338], 0), (336, .iload 7, 2, [], 0), (338, .iconst 0, 1, [], 0), (339, .iconst 0, 1, [], 0), (340, .iconst 0, 1, [], 0), (341, .invokevirtual 187, 3, [], 0), (344, .return_, 1, [], 0)]
def cd_M_oneReady : List iE := [(0, .iconst 1, 1, [], 1), (1, .istore_n 2, 1, [], 0), (2, .iload_n 2, 1, [], 0), (3, .aload_n 0, 1, [], 0), (4, .getfield 116, 3, [], 0), (7, .iload_n 1, 1, [], 0), (8, .iaload, 1, [], 0), (9, .bipush 16, 2, [], 16), (11, .iadd, 1, [], 0), (12, .if_icmp .gt 207, 3, [219], 0), (15, .sipush 544, 3, [], 544), (18, .iload_n 1, 1, [], 0), (19, .imul, 1, [], 0), (20, .iload_n 2, 1, [], 0), (21, .iadd, 1, [], 0), (22, .istore_n 3, 1, [], 0), (23, .aload_n 0, 1, [], 0), (24, .getfield 122, 3, [], 0), (27, .iload_n 3, 1, [], 0), (28, .baload, 1, [], 0), (29, .ifCond .eq 184, 3, [213], 0), (32, .aload_n 0, 1, [], 0), (33, .getfield 134, 3, [], 0), (36, .iload_n 3, 1, [], 0), (37, .iaload, 1, [], 0), (38, .iconst 1, 1, [], 1), (39, .iand, 1, [], 0), (40, .iconst 1, 1, [], 1), (41, .if_icmp .ne 172, 3, [213], 0), (44, .aload_n 0, 1, [], 0), (45, .iload_n 1, 1, [], 0), (46, .iload_n 2, 1, [], 0), (47, .invokevirtual 264, 3, [], 0), (50, .istore 4, 2, [], 0), (52, .iconst 3, 1, [], 3), (53, .iload_n 1, 1, [], 0), (54, .imul, 1, [], 0), (55, .aload_n 0, 1, [], 0), (56, .getfield 128, 3, [], 0), (59, .iload_n 3, 1, [], 0), (60, .iaload, 1, [], 0), (61, .iadd, 1, [], 0), (62, .istore 5, 2, [], 0), (64, .aload_n 0, 1, [], 0), (65, .getfield 134, 3, [], 0), (68, .iload_n 3, 1, [], 0), (69, .iaload, 1, [], 0), (70, .iconst 4, 1, [], 4), (71, .iand, 1, [], 0), (72, .ifCond .eq 7, 3, [79], 0), (75, .iconst 1, 1, [], 1), (76, .goto 4, 3, [80], 0), (79, .iconst 0, 1, [], 0), (80, .istore 6, 2, [], 0), (82, .iload 4, 2, [], 0), (84, .ifCond .le 129, 3, [213], 0), (87, .iload 6, 2, [], 0), (89, .ifCond .ne 19, 3, [108], 0), (92, .aload_n 0, 1, [], 0), (93, .getfield 131, 3, [], 0), (96, .iload_n 3, 1, [], 0), (97, .iaload, 1, [], 0), (98, .aload_n 0, 1, [], 0), (99, .getfield 137, 3, [], 0), (102, .iload 5, 2, [], 0), (104, .iaload, 1, [], 0), (105, .if_icmp .ne 108, 3, [213], 0), (108, .aload_n 0, 1, [], 0), (109, .getfield 137, 3, [], 0), (112, .iload 5, 2, [], 0), (114, .dup2, 1, [], 0), (115, .iaload, 1, [], 0), (116, .iload 6, 2, [], 0), (118, .ifCond .eq 7, 3, [125], 0), (121, .iconst 0, 1, [], 0), (122, .goto 4, 3, [126], 0), (125, .iconst 1, 1, [], 1), (126, .iadd, 1, [], 0), (127, .iastore, 1, [], 0), (128, .aload_n 0, 1, [], 0), (129, .getfield 149, 3, [], 0), (132, .sipush 512, 3, [], 512), (135, .iload 5, 2, [], 0), (137, .imul, 1, [], 0), (138, .aload_n 0, 1, [], 0), (139, .getfield 143, 3, [], 0), (142, .iload 5, 2, [], 0), (144, .iaload, 1, [], 0), (145, .iadd, 1, [], 0), (146, .aload_n 0, 1, [], 0), (147, .getfield 125, 3, [], 0), (150, .iload_n 3, 1, [], 0), (151, .iaload, 1, [], 0), (152, .iastore, 1, [], 0), (153, .aload_n 0, 1, [], 0), (154, .getfield 152, 3, [], 0), (157, .sipush 512, 3, [], 512), (160, .iload 5, 2, [], 0), (162, .imul, 1, [], 0), (163, .aload_n 0, 1, [], 0), (164, .getfield 143, 3, [], 0), (167, .iload 5, 2, [], 0), (169, .iaload, 1, [], 0), (170, .iadd, 1, [], 0), (171, .iload 4, 2, [], 0), (173, .iastore, 1, [], 0), (174, .aload_n 0, 1, [], 0), (175, .getfield 143, 3, [], 0), (178, .iload 5, 2, [], 0), (180, .dup2, 1, [], 0), (181, .iaload, 1, [], 0), (182, .iconst 1, 1, [], 1), (183, .iadd, 1, [], 0), (184, .iastore, 1, [], 0), (185, .iconst 0, 1, [], 0), (186, .istore 7, 2, [], 0), (188, .iload 7, 2, [], 0), (190, .iload 4, 2, [], 0), (192, .if_icmp .ge 19, 3, [211], 0), (195, .aload_n 0, 1, [], 0), (196, .getfield 122, 3, [], 0), (199, .iload_n 3, 1, [], 0), (200, .iload 7, 2, [], 0), (202, .iadd, 1, [], 0), (203, .iconst 0, 1, [], 0), (204, .bastore, 1, [], 0), (205, .iinc 7 1, 3, [], 1), (208, .goto (-20), 3, [188], 0), (211, .iconst 1, 1, [], 1), (212, .ireturn, 1, [], 0), (213, .iinc 2 1, 3, [], 1), (216, .goto (-214), 3, [2], 0), (219, .iconst 0, 1, [], 0), (220, .ireturn, 1, [], 0)]
def cd_M_wholeTo : List iE := [(0, .iconst 0, 1, [], 0), (1, .istore_n 3, 1, [], 0), (2, .iload_n 2, 1, [], 0), (3, .iload_n 3, 1, [], 0), (4, .iadd, 1, [], 0), (5, .aload_n 0, 1, [], 0), (6, .getfield 116, 3, [], 0), (9, .iload_n 1, 1, [], 0), (10, .iaload, 1, [], 0), (11, .bipush 16, 2, [], 16), (13, .iadd, 1, [], 0), (14, .if_icmp .gt 48, 3, [62], 0), (17, .sipush 544, 3, [], 544), (20, .iload_n 1, 1, [], 0), (21, .imul, 1, [], 0), (22, .iload_n 2, 1, [], 0), (23, .iadd, 1, [], 0), (24, .iload_n 3, 1, [], 0), (25, .iadd, 1, [], 0), (26, .istore 4, 2, [], 0), (28, .aload_n 0, 1, [], 0), (29, .getfield 122, 3, [], 0), (32, .iload 4, 2, [], 0), (34, .baload, 1, [], 0), (35, .ifCond .ne 5, 3, [40], 0), (38, .iconst 0, 1, [], 0), (39, .ireturn, 1, [], 0), (40, .aload_n 0, 1, [], 0), (41, .getfield 134, 3, [], 0), (44, .iload 4, 2, [], 0), (46, .iaload, 1, [], 0), (47, .iconst 2, 1, [], 2), (48, .iand, 1, [], 0), (49, .ifCond .eq 7, 3, [56], 0), (52, .iload_n 3, 1, [], 0), (53, .iconst 1, 1, [], 1), (54, .iadd, 1, [], 0), (55, .ireturn, 1, [], 0), (56, .iinc 3 1, 3, [], 1), (59, .goto (-57), 3, [2], 0), (62, .iconst 0, 1, [], 0), (63, .ireturn, 1, [], 0)]
def cd_M_isStream : List iE := [(0, .iload_n 0, 1, [], 0), (1, .ifCond .lt 12, 3, [13], 0), (4, .iload_n 0, 1, [], 0), (5, .iconst 2, 1, [], 2), (6, .if_icmp .gt 7, 3, [13], 0), (9, .iconst 1, 1, [], 1), (10, .goto 4, 3, [14], 0), (13, .iconst 0, 1, [], 0), (14, .ireturn, 1, [], 0)]
def cd_M_read : List iE := [(0, .iload_n 1, 1, [], 0), (1, .invokestatic 171, 3, [], 0), (4, .ifCond .eq 10, 3, [14], 0), (7, .iload_n 2, 1, [], 0), (8, .invokestatic 267, 3, [], 0), (11, .ifCond .ne 5, 3, [16], 0), (14, .iconst 0, 1, [], 0), (15, .ireturn, 1, [], 0), (16, .iconst 3, 1, [], 3), (17, .iload_n 1, 1, [], 0), (18, .imul, 1, [], 0), (19, .iload_n 2, 1, [], 0), (20, .iadd, 1, [], 0), (21, .istore_n 3, 1, [], 0), (22, .aload_n 0, 1, [], 0), (23, .getfield 146, 3, [], 0), (26, .iload_n 3, 1, [], 0), (27, .iaload, 1, [], 0), (28, .aload_n 0, 1, [], 0), (29, .getfield 143, 3, [], 0), (32, .iload_n 3, 1, [], 0), (33, .iaload, 1, [], 0), (34, .if_icmp .ne 5, 3, [39], 0), (37, .iconst 0, 1, [], 0), (38, .ireturn, 1, [], 0), (39, .sipush 512, 3, [], 512), (42, .iload_n 3, 1, [], 0), (43, .imul, 1, [], 0), (44, .aload_n 0, 1, [], 0), (45, .getfield 146, 3, [], 0), (48, .iload_n 3, 1, [], 0), (49, .iaload, 1, [], 0), (50, .iadd, 1, [], 0), (51, .istore 4, 2, [], 0), (53, .aload_n 0, 1, [], 0), (54, .getfield 146, 3, [], 0), (57, .iload_n 3, 1, [], 0), (58, .dup2, 1, [], 0), (59, .iaload, 1, [], 0), (60, .iconst 1, 1, [], 1), (61, .iadd, 1, [], 0), (62, .iastore, 1, [], 0), (63, .aload_n 0, 1, [], 0), (64, .getfield 140, 3, [], 0), (67, .iload_n 1, 1, [], 0), (68, .dup2, 1, [], 0), (69, .iaload, 1, [], 0), (70, .aload_n 0, 1, [], 0), (71, .getfield 152, 3, [], 0), (74, .iload 4, 2, [], 0), (76, .iaload, 1, [], 0), (77, .isub, 1, [], 0), (78, .iastore, 1, [], 0), (79, .aload_n 0, 1, [], 0), (80, .getfield 149, 3, [], 0), (83, .iload 4, 2, [], 0), (85, .iaload, 1, [], 0), (86, .ireturn, 1, [], 0)]
def cd_M_ready : List iE := [(0, .iload_n 1, 1, [], 0), (1, .invokestatic 171, 3, [], 0), (4, .ifCond .eq 34, 3, [38], 0), (7, .iload_n 2, 1, [], 0), (8, .invokestatic 267, 3, [], 0), (11, .ifCond .eq 27, 3, [38], 0), (14, .aload_n 0, 1, [], 0), (15, .getfield 143, 3, [], 0), (18, .iconst 3, 1, [], 3), (19, .iload_n 1, 1, [], 0), (20, .imul, 1, [], 0), (21, .iload_n 2, 1, [], 0), (22, .iadd, 1, [], 0), (23, .iaload, 1, [], 0), (24, .aload_n 0, 1, [], 0), (25, .getfield 146, 3, [], 0), (28, .iconst 3, 1, [], 3), (29, .iload_n 1, 1, [], 0), (30, .imul, 1, [], 0), (31, .iload_n 2, 1, [], 0), (32, .iadd, 1, [], 0), (33, .iaload, 1, [], 0), (34, .isub, 1, [], 0), (35, .goto 4, 3, [39], 0), (38, .iconst (-1), 1, [], (-1)), (39, .ireturn, 1, [], 0)]
def cd_M_length : List iE := [(0, .iload_n 1, 1, [], 0), (1, .invokestatic 171, 3, [], 0), (4, .ifCond .eq 10, 3, [14], 0), (7, .iload_n 2, 1, [], 0), (8, .invokestatic 267, 3, [], 0), (11, .ifCond .ne 5, 3, [16], 0), (14, .iconst 0, 1, [], 0), (15, .ireturn, 1, [], 0), (16, .iconst 3, 1, [], 3), (17, .iload_n 1, 1, [], 0), (18, .imul, 1, [], 0), (19, .iload_n 2, 1, [], 0), (20, .iadd, 1, [], 0), (21, .istore_n 3, 1, [], 0), (22, .aload_n 0, 1, [], 0), (23, .getfield 146, 3, [], 0), (26, .iload_n 3, 1, [], 0), (27, .iaload, 1, [], 0), (28, .aload_n 0, 1, [], 0), (29, .getfield 143, 3, [], 0), (32, .iload_n 3, 1, [], 0), (33, .iaload, 1, [], 0), (34, .if_icmp .ne 7, 3, [41], 0), (37, .iconst 0, 1, [], 0), (38, .goto 20, 3, [58], 0), (41, .aload_n 0, 1, [], 0), (42, .getfield 152, 3, [], 0), (45, .sipush 512, 3, [], 512), (48, .iload_n 3, 1, [], 0), (49, .imul, 1, [], 0), (50, .aload_n 0, 1, [], 0), (51, .getfield 146, 3, [], 0), (54, .iload_n 3, 1, [], 0), (55, .iaload, 1, [], 0), (56, .iadd, 1, [], 0), (57, .iaload, 1, [], 0), (58, .ireturn, 1, [], 0)]
def cd_M_forge : List iE := [(0, .iload_n 1, 1, [], 0), (1, .invokestatic 171, 3, [], 0), (4, .ifCond .eq 43, 3, [47], 0), (7, .iload_n 2, 1, [], 0), (8, .ifCond .eq 14, 3, [22], 0), (11, .iload_n 2, 1, [], 0), (12, .iconst 2, 1, [], 2), (13, .if_icmp .eq 9, 3, [22], 0), (16, .iload_n 2, 1, [], 0), (17, .bipush 8, 2, [], 8), (19, .if_icmp .ne 28, 3, [47], 0), (22, .iload_n 2, 1, [], 0), (23, .ifCond .eq 13, 3, [36], 0), (26, .iload_n 3, 1, [], 0), (27, .aload_n 0, 1, [], 0), (28, .getfield 22, 3, [], 0), (31, .iload_n 1, 1, [], 0), (32, .iaload, 1, [], 0), (33, .if_icmp .eq 14, 3, [47], 0), (36, .aload_n 0, 1, [], 0), (37, .iconst 1, 1, [], 1), (38, .iload_n 1, 1, [], 0), (39, .isub, 1, [], 0), (40, .iconst 0, 1, [], 0), (41, .invokevirtual 179, 3, [], 0), (44, .ifCond .eq 5, 3, [49], 0), (47, .iconst 0, 1, [], 0), (48, .ireturn, 1, [], 0), (49, .aload_n 0, 1, [], 0), (50, .iconst 1, 1, [], 1), (51, .iload_n 1, 1, [], 0), (52, .isub, 1, [], 0), (53, .iconst 0, 1, [], 0), (54, .iload_n 2, 1, [], 0), (55, .ifCond .ne 7, 3, [62], 0), (58, .iconst 0, 1, [], 0), (59, .goto 4, 3, [63], 0), (62, .iload_n 3, 1, [], 0), (63, .iload_n 2, 1, [], 0), (64, .iload_n 2, 1, [], 0), (65, .ifCond .ne 8, 3, [73], 0), (68, .iload 4, 2, [], 0), (70, .goto 4, 3, [74], 0), (73, .iconst 0, 1, [], 0), (74, .iload_n 2, 1, [], 0), (75, .iconst 2, 1, [], 2), (76, .if_icmp .ne 8, 3, [84], 0), (79, .iload 4, 2, [], 0), (81, .goto 4, 3, [85], 0), (84, .iconst 0, 1, [], 0), (85, .invokevirtual 183, 3, [], 0), (88, .iload_n 2, 1, [], 0), (89, .iconst 2, 1, [], 2), (90, .if_icmp .ne 19, 3, [109], 0), (93, .aload_n 0, 1, [], 0), (94, .iconst 2, 1, [], 2), (95, .iconst 1, 1, [], 1), (96, .iload_n 1, 1, [], 0), (97, .isub, 1, [], 0), (98, .imul, 1, [], 0), (99, .iload 5, 2, [], 0), (101, .iload 6, 2, [], 0), (103, .iload 7, 2, [], 0), (105, .iconst 0, 1, [], 0), (106, .invokevirtual 187, 3, [], 0), (109, .iconst 1, 1, [], 1), (110, .ireturn, 1, [], 0)]
def cd_M_fail : List iE := [(0, .aload_n 0, 1, [], 0), (1, .getfield 65, 3, [], 0), (4, .iconst 2, 1, [], 2), (5, .iload_n 1, 1, [], 0), (6, .imul, 1, [], 0), (7, .iload_n 2, 1, [], 0), (8, .iadd, 1, [], 0), (9, .dup2, 1, [], 0), (10, .iaload, 1, [], 0), (11, .iconst 1, 1, [], 1), (12, .iadd, 1, [], 0), (13, .iastore, 1, [], 0), (14, .aload_n 0, 1, [], 0), (15, .getfield 49, 3, [], 0), (18, .iload_n 1, 1, [], 0), (19, .dup2, 1, [], 0), (20, .iaload, 1, [], 0), (21, .iconst 1, 1, [], 1), (22, .iadd, 1, [], 0), (23, .iastore, 1, [], 0), (24, .aload_n 0, 1, [], 0), (25, .getfield 55, 3, [], 0), (28, .iconst 2, 1, [], 2), (29, .iload_n 1, 1, [], 0), (30, .imul, 1, [], 0), (31, .iload_n 2, 1, [], 0), (32, .iadd, 1, [], 0), (33, .aload_n 0, 1, [], 0), (34, .getfield 55, 3, [], 0), (37, .iconst 2, 1, [], 2), (38, .iload_n 1, 1, [], 0), (39, .imul, 1, [], 0), (40, .iload_n 2, 1, [], 0), (41, .iadd, 1, [], 0), (42, .baload, 1, [], 0), (43, .ifCond .eq 21, 3, [64], 0), (46, .aload_n 0, 1, [], 0), (47, .getfield 65, 3, [], 0), (50, .iconst 2, 1, [], 2), (51, .iload_n 1, 1, [], 0), (52, .imul, 1, [], 0), (53, .iload_n 2, 1, [], 0), (54, .iadd, 1, [], 0), (55, .iaload, 1, [], 0), (56, .iconst 3, 1, [], 3), (57, .if_icmp .ge 7, 3, [64], 0), (60, .iconst 1, 1, [], 1), (61, .goto 4, 3, [65], 0), (64, .iconst 0, 1, [], 0), (65, .bastore, 1, [], 0), (66, .aload_n 0, 1, [], 0), (67, .getfield 49, 3, [], 0), (70, .iload_n 1, 1, [], 0), (71, .iaload, 1, [], 0), (72, .aload_n 0, 1, [], 0), (73, .getfield 159, 3, [], 0), (76, .if_icmp .le 29, 3, [105], 0), (79, .aload_n 0, 1, [], 0), (80, .iload_n 1, 1, [], 0), (81, .aload_n 0, 1, [], 0), (82, .iload_n 1, 1, [], 0), (83, .invokevirtual 204, 3, [], 0), (86, .aload_n 0, 1, [], 0), (87, .getfield 25, 3, [], 0), (90, .iload_n 1, 1, [], 0), (91, .iaload, 1, [], 0), (92, .bipush 8, 2, [], 8), (94, .iconst 0, 1, [], 0), (95, .iconst 0, 1, [], 0), (96, .invokevirtual 183, 3, [], 0), (99, .aload_n 0, 1, [], 0), (100, .iload_n 1, 1, [], 0), (101, .iconst 1, 1, [], 1), (102, .invokevirtual 208, 3, [], 0), (105, .return_, 1, [], 0)]
def cd_M_again : List iE := [(0, .aload_n 0, 1, [], 0), (1, .getfield 40, 3, [], 0), (4, .iload_n 1, 1, [], 0), (5, .iaload, 1, [], 0), (6, .aload_n 0, 1, [], 0), (7, .getfield 159, 3, [], 0), (10, .if_icmp .ne 10, 3, [20], 0), (13, .aload_n 0, 1, [], 0), (14, .iload_n 1, 1, [], 0), (15, .iconst 2, 1, [], 2), (16, .invokevirtual 208, 3, [], 0), (19, .return_, 1, [], 0), (20, .aload_n 0, 1, [], 0), (21, .getfield 40, 3, [], 0), (24, .iload_n 1, 1, [], 0), (25, .dup2, 1, [], 0), (26, .iaload, 1, [], 0), (27, .iconst 1, 1, [], 1), (28, .iadd, 1, [], 0), (29, .iastore, 1, [], 0), (30, .aload_n 0, 1, [], 0), (31, .getfield 43, 3, [], 0), (34, .iload_n 1, 1, [], 0), (35, .aload_n 0, 1, [], 0), (36, .getfield 198, 3, [], 0), (39, .iconst 3, 1, [], 3), (40, .iadd, 1, [], 0), (41, .iastore, 1, [], 0), (42, .aload_n 0, 1, [], 0), (43, .getfield 19, 3, [], 0), (46, .iload_n 1, 1, [], 0), (47, .iaload, 1, [], 0), (48, .iconst 1, 1, [], 1), (49, .if_icmp .ne 28, 3, [77], 0), (52, .aload_n 0, 1, [], 0), (53, .iload_n 1, 1, [], 0), (54, .aload_n 0, 1, [], 0), (55, .getfield 40, 3, [], 0), (58, .iload_n 1, 1, [], 0), (59, .iaload, 1, [], 0), (60, .iconst 2, 1, [], 2), (61, .irem, 1, [], 0), (62, .iconst 0, 1, [], 0), (63, .iconst 0, 1, [], 0), (64, .aload_n 0, 1, [], 0), (65, .getfield 22, 3, [], 0), (68, .iload_n 1, 1, [], 0), (69, .iaload, 1, [], 0), (70, .iconst 0, 1, [], 0), (71, .invokevirtual 183, 3, [], 0), (74, .goto 24, 3, [98], 0), (77, .aload_n 0, 1, [], 0), (78, .iload_n 1, 1, [], 0), (79, .aload_n 0, 1, [], 0), (80, .getfield 40, 3, [], 0), (83, .iload_n 1, 1, [], 0), (84, .iaload, 1, [], 0), (85, .iconst 2, 1, [], 2), (86, .irem, 1, [], 0), (87, .aload_n 0, 1, [], 0), (88, .getfield 25, 3, [], 0), (91, .iload_n 1, 1, [], 0), (92, .iaload, 1, [], 0), (93, .iconst 2, 1, [], 2), (94, .iconst 0, 1, [], 0), (95, .invokevirtual 235, 3, [], 0), (98, .return_, 1, [], 0)]
def cd_M_tickPath : List iE := [(0, .iconst 2, 1, [], 2), (1, .iload_n 1, 1, [], 0), (2, .imul, 1, [], 0), (3, .iload_n 2, 1, [], 0), (4, .iadd, 1, [], 0), (5, .istore_n 3, 1, [], 0), (6, .aload_n 0, 1, [], 0), (7, .getfield 68, 3, [], 0), (10, .iload_n 3, 1, [], 0), (11, .baload, 1, [], 0), (12, .ifCond .eq 150, 3, [162], 0), (15, .aload_n 0, 1, [], 0), (16, .getfield 71, 3, [], 0), (19, .iload_n 3, 1, [], 0), (20, .iaload, 1, [], 0), (21, .aload_n 0, 1, [], 0), (22, .getfield 198, 3, [], 0), (25, .if_icmp .ne 137, 3, [162], 0), (28, .aload_n 0, 1, [], 0), (29, .getfield 83, 3, [], 0), (32, .iload_n 1, 1, [], 0), (33, .iaload, 1, [], 0), (34, .iconst 1, 1, [], 1), (35, .iadd, 1, [], 0), (36, .istore 4, 2, [], 0), (38, .iload 4, 2, [], 0), (40, .aload_n 0, 1, [], 0), (41, .getfield 86, 3, [], 0), (44, .iload_n 1, 1, [], 0), (45, .iaload, 1, [], 0), (46, .if_icmp .gt 61, 3, [107], 0), (49, .bipush 32, 2, [], 32), (51, .iload_n 1, 1, [], 0), (52, .imul, 1, [], 0), (53, .iload 4, 2, [], 0), (55, .bipush 32, 2, [], 32), (57, .irem, 1, [], 0), (58, .iadd, 1, [], 0), (59, .istore 5, 2, [], 0), (61, .aload_n 0, 1, [], 0), (62, .getfield 92, 3, [], 0), (65, .iload 5, 2, [], 0), (67, .aload_n 0, 1, [], 0), (68, .getfield 92, 3, [], 0), (71, .iload 5, 2, [], 0), (73, .iaload, 1, [], 0), (74, .iconst 2, 1, [], 2), (75, .if_icmp .ne 18, 3, [93], 0), (78, .aload_n 0, 1, [], 0), (79, .getfield 107, 3, [], 0), (82, .iload 5, 2, [], 0), (84, .iaload, 1, [], 0), (85, .iload_n 2, 1, [], 0), (86, .if_icmp .ne 7, 3, [93], 0), (89, .iconst 3, 1, [], 3), (90, .goto 10, 3, [100], 0), (93, .aload_n 0, 1, [], 0), (94, .getfield 92, 3, [], 0), (97, .iload 5, 2, [], 0), (99, .iaload, 1, [], 0), (100, .iastore, 1, [], 0), (101, .iinc 4 1, 3, [], 1), (104, .goto (-66), 3, [38], 0), (107, .aload_n 0, 1, [], 0), (108, .getfield 59, 3, [], 0), (111, .iload_n 3, 1, [], 0), (112, .iconst 1, 1, [], 1), (113, .iastore, 1, [], 0), (114, .aload_n 0, 1, [], 0), (115, .getfield 62, 3, [], 0), (118, .iload_n 3, 1, [], 0), (119, .aload_n 0, 1, [], 0), (120, .getfield 62, 3, [], 0), (123, .iload_n 3, 1, [], 0), (124, .iaload, 1, [], 0), (125, .iconst 2, 1, [], 2), (126, .imul, 1, [], 0), (127, .bipush 24, 2, [], 24), (129, .if_icmp .le 8, 3, [137], 0), (132, .bipush 24, 2, [], 24), (134, .goto 11, 3, [145], 0), (137, .aload_n 0, 1, [], 0), (138, .getfield 62, 3, [], 0), (141, .iload_n 3, 1, [], 0), (142, .iaload, 1, [], 0), (143, .iconst 2, 1, [], 2), (144, .imul, 1, [], 0), (145, .iastore, 1, [], 0), (146, .aload_n 0, 1, [], 0), (147, .getfield 68, 3, [], 0), (150, .iload_n 3, 1, [], 0), (151, .iconst 0, 1, [], 0), (152, .bastore, 1, [], 0), (153, .aload_n 0, 1, [], 0), (154, .iload_n 1, 1, [], 0), (155, .iload_n 2, 1, [], 0), (156, .invokevirtual 270, 3, [], 0), (159, .goto 84, 3, [243], 0), (162, .aload_n 0, 1, [], 0), (163, .getfield 198, 3, [], 0), (166, .bipush 8, 2, [], 8), (168, .irem, 1, [], 0), (169, .ifCond .ne 74, 3, [243], 0), (172, .aload_n 0, 1, [], 0), (173, .iload_n 1, 1, [], 0), (174, .iconst 2, 1, [], 2), (175, .iload_n 2, 1, [], 0), (176, .invokevirtual 249, 3, [], 0), (179, .ifCond .ne 64, 3, [243], 0), (182, .aload_n 0, 1, [], 0), (183, .getfield 74, 3, [], 0), (186, .iload_n 3, 1, [], 0), (187, .baload, 1, [], 0), (188, .ifCond .eq 9, 3, [197], 0), (191, .aload_n 0, 1, [], 0), (192, .iload_n 1, 1, [], 0), (193, .iload_n 2, 1, [], 0), (194, .invokevirtual 270, 3, [], 0), (197, .aload_n 0, 1, [], 0), (198, .getfield 19, 3, [], 0), (201, .iload_n 1, 1, [], 0), (202, .iaload, 1, [], 0), (203, .iconst 3, 1, [], 3), (204, .if_icmp .ne 39, 3, [243], 0), (207, .aload_n 0, 1, [], 0), (208, .getfield 74, 3, [], 0), (211, .iload_n 3, 1, [], 0), (212, .iconst 1, 1, [], 1), (213, .bastore, 1, [], 0), (214, .aload_n 0, 1, [], 0), (215, .getfield 77, 3, [], 0), (218, .iload_n 3, 1, [], 0), (219, .aload_n 0, 1, [], 0), (220, .getfield 198, 3, [], 0), (223, .iastore, 1, [], 0), (224, .aload_n 0, 1, [], 0), (225, .iload_n 1, 1, [], 0), (226, .iload_n 2, 1, [], 0), (227, .aload_n 0, 1, [], 0), (228, .getfield 25, 3, [], 0), (231, .iload_n 1, 1, [], 0), (232, .iaload, 1, [], 0), (233, .bipush 6, 2, [], 6), (235, .aload_n 0, 1, [], 0), (236, .getfield 198, 3, [], 0), (239, .iconst 0, 1, [], 0), (240, .invokevirtual 183, 3, [], 0), (243, .return_, 1, [], 0)]
def cd_M_tick : List iE := [(0, .aload_n 0, 1, [], 0), (1, .dup, 1, [], 0), (2, .getfield 198, 3, [], 0), (5, .iconst 1, 1, [], 1), (6, .iadd, 1, [], 0), (7, .putfield 198, 3, [], 0), (10, .iconst 0, 1, [], 0), (11, .istore_n 1, 1, [], 0), (12, .iload_n 1, 1, [], 0), (13, .iconst 2, 1, [], 2), (14, .if_icmp .ge 97, 3, [111], 0), (17, .aload_n 0, 1, [], 0), (18, .getfield 19, 3, [], 0), (21, .iload_n 1, 1, [], 0), (22, .iaload, 1, [], 0), (23, .iconst 1, 1, [], 1), (24, .if_icmp .eq 13, 3, [37], 0), (27, .aload_n 0, 1, [], 0), (28, .getfield 19, 3, [], 0), (31, .iload_n 1, 1, [], 0), (32, .iaload, 1, [], 0), (33, .iconst 2, 1, [], 2), (34, .if_icmp .ne 24, 3, [58], 0), (37, .aload_n 0, 1, [], 0), (38, .getfield 198, 3, [], 0), (41, .aload_n 0, 1, [], 0), (42, .getfield 43, 3, [], 0), (45, .iload_n 1, 1, [], 0), (46, .iaload, 1, [], 0), (47, .if_icmp .ne 11, 3, [58], 0), (50, .aload_n 0, 1, [], 0), (51, .iload_n 1, 1, [], 0), (52, .invokevirtual 273, 3, [], 0), (55, .goto 50, 3, [105], 0), (58, .aload_n 0, 1, [], 0), (59, .getfield 19, 3, [], 0), (62, .iload_n 1, 1, [], 0), (63, .iaload, 1, [], 0), (64, .iconst 3, 1, [], 3), (65, .if_icmp .ne 40, 3, [105], 0), (68, .aload_n 0, 1, [], 0), (69, .iload_n 1, 1, [], 0), (70, .iconst 0, 1, [], 0), (71, .invokevirtual 276, 3, [], 0), (74, .aload_n 0, 1, [], 0), (75, .getfield 19, 3, [], 0), (78, .iload_n 1, 1, [], 0), (79, .iaload, 1, [], 0), (80, .iconst 3, 1, [], 3), (81, .if_icmp .ne 9, 3, [90], 0), (84, .aload_n 0, 1, [], 0), (85, .iload_n 1, 1, [], 0), (86, .iconst 1, 1, [], 1), (87, .invokevirtual 276, 3, [], 0), (90, .aload_n 0, 1, [], 0), (91, .getfield 19, 3, [], 0), (94, .iload_n 1, 1, [], 0), (95, .iaload, 1, [], 0), (96, .iconst 3, 1, [], 3), (97, .if_icmp .ne 8, 3, [105], 0), (100, .aload_n 0, 1, [], 0), (101, .iload_n 1, 1, [], 0), (102, .invokevirtual 252, 3, [], 0), (105, .iinc 1 1, 3, [], 1), (108, .goto (-96), 3, [12], 0), (111, .aload_n 0, 1, [], 0), (112, .getfield 198, 3, [], 0), (115, .ireturn, 1, [], 0)]
def cd_M_about : List iE := [(0, .iload_n 1, 1, [], 0), (1, .invokestatic 171, 3, [], 0), (4, .ifCond .eq 13, 3, [17], 0), (7, .iload_n 2, 1, [], 0), (8, .ifCond .lt 9, 3, [17], 0), (11, .iload_n 2, 1, [], 0), (12, .bipush 9, 2, [], 9), (14, .if_icmp .le 5, 3, [19], 0), (17, .iconst (-1), 1, [], (-1)), (18, .ireturn, 1, [], 0), (19, .iload_n 2, 1, [], 0), (20, .iconst 4, 1, [], 4), (21, .if_icmp .ge 51, 3, [72], 0), (24, .iload_n 2, 1, [], 0), (25, .ifCond .ne 12, 3, [37], 0), (28, .aload_n 0, 1, [], 0), (29, .getfield 19, 3, [], 0), (32, .iload_n 1, 1, [], 0), (33, .iaload, 1, [], 0), (34, .goto 37, 3, [71], 0), (37, .iload_n 2, 1, [], 0), (38, .iconst 1, 1, [], 1), (39, .if_icmp .ne 12, 3, [51], 0), (42, .aload_n 0, 1, [], 0), (43, .getfield 22, 3, [], 0), (46, .iload_n 1, 1, [], 0), (47, .iaload, 1, [], 0), (48, .goto 23, 3, [71], 0), (51, .iload_n 2, 1, [], 0), (52, .iconst 2, 1, [], 2), (53, .if_icmp .ne 12, 3, [65], 0), (56, .aload_n 0, 1, [], 0), (57, .getfield 25, 3, [], 0), (60, .iload_n 1, 1, [], 0), (61, .iaload, 1, [], 0), (62, .goto 9, 3, [71], 0), (65, .aload_n 0, 1, [], 0), (66, .getfield 28, 3, [], 0), (69, .iload_n 1, 1, [], 0), (70, .iaload, 1, [], 0), (71, .ireturn, 1, [], 0), (72, .iload_n 2, 1, [], 0), (73, .iconst 4, 1, [], 4), (74, .if_icmp .ne 17, 3, [91], 0), (77, .aload_n 0, 1, [], 0), (78, .getfield 86, 3, [], 0), (81, .iload_n 1, 1, [], 0), (82, .iaload, 1, [], 0), (83, .aload_n 0, 1, [], 0), (84, .getfield 83, 3, [], 0), (87, .iload_n 1, 1, [], 0), (88, .iaload, 1, [], 0), (89, .isub, 1, [], 0), (90, .ireturn, 1, [], 0), (91, .iload_n 2, 1, [], 0), (92, .bipush 6, 2, [], 6), (94, .if_icmp .ne 10, 3, [104], 0), (97, .aload_n 0, 1, [], 0), (98, .getfield 140, 3, [], 0), (101, .iload_n 1, 1, [], 0), (102, .iaload, 1, [], 0), (103, .ireturn, 1, [], 0), (104, .aload_n 0, 1, [], 0), (105, .getfield 19, 3, [], 0), (108, .iload_n 1, 1, [], 0), (109, .iaload, 1, [], 0), (110, .iconst 3, 1, [], 3), (111, .if_icmp .eq 5, 3, [116], 0), (114, .iconst 0, 1, [], 0), (115, .ireturn, 1, [], 0), (116, .iload_n 2, 1, [], 0), (117, .iconst 5, 1, [], 5), (118, .if_icmp .ne 12, 3, [130], 0), (121, .aload_n 0, 1, [], 0), (122, .getfield 116, 3, [], 0), (125, .iload_n 1, 1, [], 0), (126, .iaload, 1, [], 0), (127, .goto 38, 3, [165], 0), (130, .iload_n 2, 1, [], 0), (131, .bipush 7, 2, [], 7), (133, .if_icmp .ne 12, 3, [145], 0), (136, .aload_n 0, 1, [], 0), (137, .getfield 49, 3, [], 0), (140, .iload_n 1, 1, [], 0), (141, .iaload, 1, [], 0), (142, .goto 23, 3, [165], 0), (145, .iload_n 2, 1, [], 0), (146, .bipush 8, 2, [], 8), (148, .if_icmp .ne 12, 3, [160], 0), (151, .aload_n 0, 1, [], 0), (152, .getfield 52, 3, [], 0), (155, .iload_n 1, 1, [], 0), (156, .iaload, 1, [], 0), (157, .goto 8, 3, [165], 0), (160, .aload_n 0, 1, [], 0), (161, .iload_n 1, 1, [], 0), (162, .invokevirtual 204, 3, [], 0), (165, .ireturn, 1, [], 0)]
def cd_M_path : List iE := [(0, .iload_n 1, 1, [], 0), (1, .invokestatic 171, 3, [], 0), (4, .ifCond .eq 20, 3, [24], 0), (7, .iload_n 2, 1, [], 0), (8, .invokestatic 171, 3, [], 0), (11, .ifCond .eq 13, 3, [24], 0), (14, .iload_n 3, 1, [], 0), (15, .ifCond .lt 9, 3, [24], 0), (18, .iload_n 3, 1, [], 0), (19, .bipush 6, 2, [], 6), (21, .if_icmp .le 5, 3, [26], 0), (24, .iconst (-1), 1, [], (-1)), (25, .ireturn, 1, [], 0), (26, .iconst 2, 1, [], 2), (27, .iload_n 1, 1, [], 0), (28, .imul, 1, [], 0), (29, .iload_n 2, 1, [], 0), (30, .iadd, 1, [], 0), (31, .istore 4, 2, [], 0), (33, .aload_n 0, 1, [], 0), (34, .getfield 19, 3, [], 0), (37, .iload_n 1, 1, [], 0), (38, .iaload, 1, [], 0), (39, .iconst 3, 1, [], 3), (40, .if_icmp .eq 5, 3, [45], 0), (43, .iconst 0, 1, [], 0), (44, .ireturn, 1, [], 0), (45, .iload_n 3, 1, [], 0), (46, .iconst 3, 1, [], 3), (47, .if_icmp .ge 40, 3, [87], 0), (50, .iload_n 3, 1, [], 0), (51, .ifCond .ne 13, 3, [64], 0), (54, .aload_n 0, 1, [], 0), (55, .getfield 59, 3, [], 0), (58, .iload 4, 2, [], 0), (60, .iaload, 1, [], 0), (61, .goto 25, 3, [86], 0), (64, .iload_n 3, 1, [], 0), (65, .iconst 1, 1, [], 1), (66, .if_icmp .ne 13, 3, [79], 0), (69, .aload_n 0, 1, [], 0), (70, .getfield 62, 3, [], 0), (73, .iload 4, 2, [], 0), (75, .iaload, 1, [], 0), (76, .goto 10, 3, [86], 0), (79, .aload_n 0, 1, [], 0), (80, .getfield 65, 3, [], 0), (83, .iload 4, 2, [], 0), (85, .iaload, 1, [], 0), (86, .ireturn, 1, [], 0), (87, .iload_n 3, 1, [], 0), (88, .iconst 4, 1, [], 4), (89, .if_icmp .ne 13, 3, [102], 0), (92, .aload_n 0, 1, [], 0), (93, .iload_n 1, 1, [], 0), (94, .iconst 2, 1, [], 2), (95, .iload_n 2, 1, [], 0), (96, .invokevirtual 249, 3, [], 0), (99, .goto 54, 3, [153], 0), (102, .iload_n 3, 1, [], 0), (103, .iconst 3, 1, [], 3), (104, .if_icmp .ne 16, 3, [120], 0), (107, .aload_n 0, 1, [], 0), (108, .getfield 55, 3, [], 0), (111, .iload 4, 2, [], 0), (113, .baload, 1, [], 0), (114, .ifCond .eq 38, 3, [152], 0), (117, .goto 31, 3, [148], 0), (120, .iload_n 3, 1, [], 0), (121, .iconst 5, 1, [], 5), (122, .if_icmp .ne 16, 3, [138], 0), (125, .aload_n 0, 1, [], 0), (126, .getfield 68, 3, [], 0), (129, .iload 4, 2, [], 0), (131, .baload, 1, [], 0), (132, .ifCond .eq 20, 3, [152], 0), (135, .goto 13, 3, [148], 0), (138, .aload_n 0, 1, [], 0), (139, .getfield 74, 3, [], 0), (142, .iload 4, 2, [], 0), (144, .baload, 1, [], 0), (145, .ifCond .eq 7, 3, [152], 0), (148, .iconst 1, 1, [], 1), (149, .goto 4, 3, [153], 0), (152, .iconst 0, 1, [], 0), (153, .ireturn, 1, [], 0)]
def cd_M_word : List iE := [(0, .iload_n 1, 1, [], 0), (1, .invokestatic 171, 3, [], 0), (4, .ifCond .eq 40, 3, [44], 0), (7, .iload_n 2, 1, [], 0), (8, .aload_n 0, 1, [], 0), (9, .getfield 83, 3, [], 0), (12, .iload_n 1, 1, [], 0), (13, .iaload, 1, [], 0), (14, .if_icmp .le 30, 3, [44], 0), (17, .iload_n 2, 1, [], 0), (18, .aload_n 0, 1, [], 0), (19, .getfield 86, 3, [], 0), (22, .iload_n 1, 1, [], 0), (23, .iaload, 1, [], 0), (24, .if_icmp .gt 20, 3, [44], 0), (27, .aload_n 0, 1, [], 0), (28, .getfield 92, 3, [], 0), (31, .bipush 32, 2, [], 32), (33, .iload_n 1, 1, [], 0), (34, .imul, 1, [], 0), (35, .iload_n 2, 1, [], 0), (36, .bipush 32, 2, [], 32), (38, .irem, 1, [], 0), (39, .iadd, 1, [], 0), (40, .iaload, 1, [], 0), (41, .goto 4, 3, [45], 0), (44, .iconst 0, 1, [], 0), (45, .ireturn, 1, [], 0)]
def cd_Cookie_new : List iE := [(0, .aload_n 0, 1, [], 0), (1, .invokespecial 1, 3, [], 0), (4, .return_, 1, [], 0)]
def cd_Cookie_set : List iE := [(0, .aload_n 0, 1, [], 0), (1, .iload_n 1, 1, [], 0), (2, .putfield 7, 3, [], 0), (5, .aload_n 0, 1, [], 0), (6, .iload_n 2, 1, [], 0), (7, .putfield 13, 3, [], 0), (10, .aload_n 0, 1, [], 0), (11, .iload_n 3, 1, [], 0), (12, .putfield 16, 3, [], 0), (15, .aload_n 0, 1, [], 0), (16, .iload 4, 2, [], 0), (18, .putfield 19, 3, [], 0), (21, .return_, 1, [], 0)]
def cd_Cookie_copyFrom : List iE := [(0, .aload_n 0, 1, [], 0), (1, .aload_n 1, 1, [], 0), (2, .getfield 7, 3, [], 0), (5, .putfield 7, 3, [], 0), (8, .aload_n 0, 1, [], 0), (9, .aload_n 1, 1, [], 0), (10, .getfield 13, 3, [], 0), (13, .putfield 13, 3, [], 0), (16, .aload_n 0, 1, [], 0), (17, .aload_n 1, 1, [], 0), (18, .getfield 16, 3, [], 0), (21, .putfield 16, 3, [], 0), (24, .aload_n 0, 1, [], 0), (25, .aload_n 1, 1, [], 0), (26, .getfield 19, 3, [], 0), (29, .putfield 19, 3, [], 0), (32, .return_, 1, [], 0)]
def cd_End_new : List iE := [(0, .aload_n 0, 1, [], 0), (1, .invokespecial 3, 3, [], 0), (4, .aload_n 0, 1, [], 0), (5, .iconst 2, 1, [], 2), (6, .anewarray 9, 3, [], 0), (9, .putfield 11, 3, [], 0), (12, .aload_n 0, 1, [], 0), (13, .new 17, 3, [], 0), (16, .dup, 1, [], 0), (17, .invokespecial 19, 3, [], 0), (20, .putfield 20, 3, [], 0), (23, .aload_n 0, 1, [], 0), (24, .iconst 0, 1, [], 0), (25, .putfield 24, 3, [], 0), (28, .aload_n 0, 1, [], 0), (29, .iconst 0, 1, [], 0), (30, .putfield 28, 3, [], 0), (33, .aload_n 0, 1, [], 0), (34, .iconst 0, 1, [], 0), (35, .putfield 31, 3, [], 0), (38, .aload_n 0, 1, [], 0), (39, .iconst 0, 1, [], 0), (40, .putfield 34, 3, [], 0), (43, .aload_n 0, 1, [], 0), (44, .new 37, 3, [], 0), (47, .dup, 1, [], 0), (48, .invokespecial 39, 3, [], 0), (51, .putfield 40, 3, [], 0), (54, .aload_n 0, 1, [], 0), (55, .iconst 0, 1, [], 0), (56, .putfield 44, 3, [], 0), (59, .aload_n 0, 1, [], 0), (60, .iconst 0, 1, [], 0), (61, .putfield 47, 3, [], 0), (64, .aload_n 0, 1, [], 0), (65, .iconst 0, 1, [], 0), (66, .putfield 50, 3, [], 0), (69, .aload_n 0, 1, [], 0), (70, .iconst 0, 1, [], 0), (71, .putfield 53, 3, [], 0), (74, .aload_n 0, 1, [], 0), (75, .iload_n 1, 1, [], 0), (76, .putfield 56, 3, [], 0), (79, .aload_n 0, 1, [], 0), (80, .iload_n 2, 1, [], 0), (81, .putfield 59, 3, [], 0), (84, .aload_n 0, 1, [], 0), (85, .new 62, 3, [], 0), (88, .dup, 1, [], 0), (89, .iload_n 1, 1, [], 0), (90, .invokespecial 64, 3, [], 0), (93, .putfield 67, 3, [], 0), (96, .iconst 0, 1, [], 0), (97, .istore_n 3, 1, [], 0), (98, .iload_n 3, 1, [], 0), (99, .iconst 2, 1, [], 2), (100, .if_icmp .ge 22, 3, [122], 0), (103, .aload_n 0, 1, [], 0), (104, .getfield 11, 3, [], 0), (107, .iload_n 3, 1, [], 0), (108, .new 9, 3, [], 0), (111, .dup, 1, [], 0), (112, .invokespecial 71, 3, [], 0), (115, .aastore, 1, [], 0), (116, .iinc 3 1, 3, [], 1), (119, .goto (-21), 3, [98], 0), (122, .return_, 1, [], 0)]
def cd_End_startOpening : List iE := [(0, .aload_n 0, 1, [], 0), (1, .iconst 1, 1, [], 1), (2, .putfield 24, 3, [], 0), (5, .aload_n 0, 1, [], 0), (6, .iload_n 1, 1, [], 0), (7, .putfield 28, 3, [], 0), (10, .aload_n 0, 1, [], 0), (11, .iload_n 2, 1, [], 0), (12, .invokevirtual 72, 3, [], 0), (15, .aload_n 0, 1, [], 0), (16, .iconst 0, 1, [], 0), (17, .invokevirtual 75, 3, [], 0), (20, .return_, 1, [], 0)]
def cd_End_comeUp : List iE := [(0, .aload_n 0, 1, [], 0), (1, .iconst 3, 1, [], 3), (2, .putfield 24, 3, [], 0), (5, .aload_n 0, 1, [], 0), (6, .getfield 20, 3, [], 0), (9, .aload_n 0, 1, [], 0), (10, .getfield 56, 3, [], 0), (13, .invokevirtual 78, 3, [], 0), (16, .aload_n 0, 1, [], 0), (17, .getfield 67, 3, [], 0), (20, .invokevirtual 81, 3, [], 0), (23, .iconst 0, 1, [], 0), (24, .istore_n 1, 1, [], 0), (25, .iload_n 1, 1, [], 0), (26, .iconst 2, 1, [], 2), (27, .if_icmp .ge 18, 3, [45], 0), (30, .aload_n 0, 1, [], 0), (31, .getfield 11, 3, [], 0), (34, .iload_n 1, 1, [], 0), (35, .aaload, 1, [], 0), (36, .invokevirtual 83, 3, [], 0), (39, .iinc 1 1, 3, [], 1), (42, .goto (-17), 3, [25], 0), (45, .aload_n 0, 1, [], 0), (46, .iconst 0, 1, [], 0), (47, .putfield 34, 3, [], 0), (50, .aload_n 0, 1, [], 0), (51, .iconst 0, 1, [], 0), (52, .putfield 47, 3, [], 0), (55, .return_, 1, [], 0)]
def cd_End_close : List iE := [(0, .aload_n 0, 1, [], 0), (1, .iconst 0, 1, [], 0), (2, .putfield 24, 3, [], 0), (5, .aload_n 0, 1, [], 0), (6, .iload_n 1, 1, [], 0), (7, .putfield 44, 3, [], 0), (10, .aload_n 0, 1, [], 0), (11, .iconst 0, 1, [], 0), (12, .putfield 28, 3, [], 0), (15, .aload_n 0, 1, [], 0), (16, .iconst 0, 1, [], 0), (17, .putfield 31, 3, [], 0), (20, .aload_n 0, 1, [], 0), (21, .getfield 20, 3, [], 0), (24, .iconst 0, 1, [], 0), (25, .invokevirtual 78, 3, [], 0), (28, .aload_n 0, 1, [], 0), (29, .getfield 67, 3, [], 0), (32, .invokevirtual 81, 3, [], 0), (35, .return_, 1, [], 0)]
def cd_End_post : List iE := [(0, .aload_n 0, 1, [], 0), (1, .getfield 11, 3, [], 0), (4, .iload_n 1, 1, [], 0), (5, .aaload, 1, [], 0), (6, .getfield 84, 3, [], 0), (9, .invokevirtual 88, 3, [], 0), (12, .astore_n 3, 1, [], 0), (13, .aload_n 3, 1, [], 0), (14, .iload_n 2, 1, [], 0), (15, .putfield 94, 3, [], 0), (18, .aload_n 3, 1, [], 0), (19, .aload_n 0, 1, [], 0), (20, .getfield 31, 3, [], 0), (23, .putfield 99, 3, [], 0), (26, .aload_n 3, 1, [], 0), (27, .areturn, 1, [], 0)]
def cd_End_postAbort : List iE := [(0, .aload_n 0, 1, [], 0), (1, .aload_n 0, 1, [], 0), (2, .invokevirtual 102, 3, [], 0), (5, .bipush 8, 2, [], 8), (7, .invokevirtual 106, 3, [], 0), (10, .pop, 1, [], 0), (11, .return_, 1, [], 0)]
def cd_End_takeInitAck : List iE := [(0, .aload_n 0, 1, [], 0), (1, .getfield 24, 3, [], 0), (4, .iconst 1, 1, [], 1), (5, .if_icmp .ne 14, 3, [19], 0), (8, .aload_n 2, 1, [], 0), (9, .getfield 99, 3, [], 0), (12, .aload_n 0, 1, [], 0), (13, .getfield 28, 3, [], 0), (16, .if_icmp .eq 4, 3, [20], 0), (19, .return_, 1, [], 0), (20, .aload_n 0, 1, [], 0), (21, .aload_n 2, 1, [], 0), (22, .getfield 110, 3, [], 0), (25, .putfield 31, 3, [], 0), (28, .aload_n 0, 1, [], 0), (29, .getfield 40, 3, [], 0), (32, .aload_n 2, 1, [], 0), (33, .getfield 113, 3, [], 0), (36, .invokevirtual 114, 3, [], 0), (39, .aload_n 0, 1, [], 0), (40, .iconst 2, 1, [], 2), (41, .putfield 24, 3, [], 0), (44, .aload_n 0, 1, [], 0), (45, .iload_n 3, 1, [], 0), (46, .invokevirtual 72, 3, [], 0), (49, .aload_n 0, 1, [], 0), (50, .iload_n 1, 1, [], 0), (51, .invokevirtual 75, 3, [], 0), (54, .return_, 1, [], 0)]
def cd_End_takeEchoAck : List iE := [(0, .aload_n 0, 1, [], 0), (1, .getfield 24, 3, [], 0), (4, .iconst 2, 1, [], 2), (5, .if_icmp .ne 18, 3, [23], 0), (8, .aload_n 1, 1, [], 0), (9, .getfield 99, 3, [], 0), (12, .aload_n 0, 1, [], 0), (13, .getfield 28, 3, [], 0), (16, .if_icmp .ne 7, 3, [23], 0), (19, .aload_n 0, 1, [], 0), (20, .invokevirtual 118, 3, [], 0), (23, .return_, 1, [], 0)]
def cd_End_takeWhenUp : List iE := [(0, .aload_n 2, 1, [], 0), (1, .getfield 94, 3, [], 0), (4, .tableswitch 99 4 8 #[36, 48, 57, 74, 91], 36, [103, 40, 52, 61, 78, 95], 0), (40, .aload_n 0, 1, [], 0), (41, .iload_n 1, 1, [], 0), (42, .aload_n 2, 1, [], 0), (43, .getfield 121, 3, [], 0), (46, .invokevirtual 125, 3, [], 0), (49, .goto 54, 3, [103], 0), (52, .aload_n 0, 1, [], 0), (53, .aload_n 2, 1, [], 0), (54, .iload_n 3, 1, [], 0), (55, .invokevirtual 129, 3, [], 0), (58, .goto 45, 3, [103], 0), (61, .aload_n 0, 1, [], 0), (62, .iload_n 1, 1, [], 0), (63, .bipush 7, 2, [], 7), (65, .invokevirtual 106, 3, [], 0), (68, .aload_n 2, 1, [], 0), (69, .getfield 133, 3, [], 0), (72, .putfield 133, 3, [], 0), (75, .goto 28, 3, [103], 0), (78, .aload_n 0, 1, [], 0), (79, .aload_n 0, 1, [], 0), (80, .getfield 11, 3, [], 0), (83, .iload_n 1, 1, [], 0), (84, .aaload, 1, [], 0), (85, .aload_n 2, 1, [], 0), (86, .getfield 133, 3, [], 0), (89, .invokevirtual 136, 3, [], 0), (92, .goto 11, 3, [103], 0), (95, .aload_n 0, 1, [], 0), (96, .iconst 3, 1, [], 3), (97, .invokevirtual 140, 3, [], 0), (100, .goto 3, 3, [103], 0), (103, .return_, 1, [], 0)]
def cd_End_passTick : List iE := [(0, .aload_n 0, 1, [], 0), (1, .getfield 24, 3, [], 0), (4, .iconst 1, 1, [], 1), (5, .if_icmp .eq 11, 3, [16], 0), (8, .aload_n 0, 1, [], 0), (9, .getfield 24, 3, [], 0), (12, .iconst 2, 1, [], 2), (13, .if_icmp .ne 16, 3, [29], 0), (16, .iload_n 1, 1, [], 0), (17, .aload_n 0, 1, [], 0), (18, .getfield 53, 3, [], 0), (21, .if_icmp .lt 8, 3, [29], 0), (24, .aload_n 0, 1, [], 0), (25, .iload_n 1, 1, [], 0), (26, .invokevirtual 143, 3, [], 0), (29, .iconst 0, 1, [], 0), (30, .istore_n 2, 1, [], 0), (31, .iload_n 2, 1, [], 0), (32, .iconst 2, 1, [], 2), (33, .if_icmp .ge 23, 3, [56], 0), (36, .aload_n 0, 1, [], 0), (37, .getfield 24, 3, [], 0), (40, .iconst 3, 1, [], 3), (41, .if_icmp .ne 15, 3, [56], 0), (44, .aload_n 0, 1, [], 0), (45, .iload_n 2, 1, [], 0), (46, .iload_n 1, 1, [], 0), (47, .invokevirtual 146, 3, [], 0), (50, .iinc 2 1, 3, [], 1), (53, .goto (-22), 3, [31], 0), (56, .aload_n 0, 1, [], 0), (57, .getfield 24, 3, [], 0), (60, .iconst 3, 1, [], 3), (61, .if_icmp .ne 8, 3, [69], 0), (64, .aload_n 0, 1, [], 0), (65, .iload_n 1, 1, [], 0), (66, .invokevirtual 150, 3, [], 0), (69, .return_, 1, [], 0)]
def cd_End_sendWhatItMay : List iE := [(0, .iconst 0, 1, [], 0), (1, .istore_n 2, 1, [], 0), (2, .iload_n 2, 1, [], 0), (3, .bipush 24, 2, [], 24), (5, .if_icmp .ge 62, 3, [67], 0), (8, .aload_n 0, 1, [], 0), (9, .getfield 20, 3, [], 0), (12, .invokevirtual 153, 3, [], 0), (15, .istore_n 3, 1, [], 0), (16, .iload_n 3, 1, [], 0), (17, .iconst (-1), 1, [], (-1)), (18, .if_icmp .ne 4, 3, [22], 0), (21, .return_, 1, [], 0), (22, .aload_n 0, 1, [], 0), (23, .getfield 20, 3, [], 0), (26, .iload_n 3, 1, [], 0), (27, .invokevirtual 156, 3, [], 0), (30, .astore 4, 2, [], 0), (32, .aload_n 0, 1, [], 0), (33, .aload 4, 2, [], 0), (35, .invokevirtual 160, 3, [], 0), (38, .istore 5, 2, [], 0), (40, .aload_n 0, 1, [], 0), (41, .aload 4, 2, [], 0), (43, .iload 5, 2, [], 0), (45, .invokevirtual 164, 3, [], 0), (48, .ifCond .ne 4, 3, [52], 0), (51, .return_, 1, [], 0), (52, .aload_n 0, 1, [], 0), (53, .aload 4, 2, [], 0), (55, .iload 5, 2, [], 0), (57, .iload_n 1, 1, [], 0), (58, .invokevirtual 168, 3, [], 0), (61, .iinc 2 1, 3, [], 1), (64, .goto (-62), 3, [2], 0), (67, .return_, 1, [], 0)]
def cd_End_pathToUse : List iE := [(0, .iconst 1, 1, [], 1), (1, .aload_n 0, 1, [], 0), (2, .getfield 34, 3, [], 0), (5, .isub, 1, [], 0), (6, .istore_n 1, 1, [], 0), (7, .aload_n 0, 1, [], 0), (8, .getfield 11, 3, [], 0), (11, .aload_n 0, 1, [], 0), (12, .getfield 34, 3, [], 0), (15, .aaload, 1, [], 0), (16, .getfield 172, 3, [], 0), (19, .ifCond .ne 19, 3, [38], 0), (22, .aload_n 0, 1, [], 0), (23, .getfield 11, 3, [], 0), (26, .iload_n 1, 1, [], 0), (27, .aaload, 1, [], 0), (28, .getfield 172, 3, [], 0), (31, .ifCond .eq 7, 3, [38], 0), (34, .iload_n 1, 1, [], 0), (35, .goto 7, 3, [42], 0), (38, .aload_n 0, 1, [], 0), (39, .getfield 34, 3, [], 0), (42, .ireturn, 1, [], 0)]
def cd_End_tell : List iE := [(0, .iload_n 1, 1, [], 0), (1, .tableswitch 165 0 9 #[55, 60, 65, 70, 75, 83, 103, 111, 128, 148], 55, [166, 56, 61, 66, 71, 76, 84, 104, 112, 129, 149], 0), (56, .aload_n 0, 1, [], 0), (57, .getfield 24, 3, [], 0), (60, .ireturn, 1, [], 0), (61, .aload_n 0, 1, [], 0), (62, .getfield 28, 3, [], 0), (65, .ireturn, 1, [], 0), (66, .aload_n 0, 1, [], 0), (67, .getfield 31, 3, [], 0), (70, .ireturn, 1, [], 0), (71, .aload_n 0, 1, [], 0), (72, .getfield 44, 3, [], 0), (75, .ireturn, 1, [], 0), (76, .aload_n 0, 1, [], 0), (77, .getfield 20, 3, [], 0), (80, .invokevirtual 176, 3, [], 0), (83, .ireturn, 1, [], 0), (84, .aload_n 0, 1, [], 0), (85, .getfield 24, 3, [], 0), (88, .iconst 3, 1, [], 3), (89, .if_icmp .ne 13, 3, [102], 0), (92, .aload_n 0, 1, [], 0), (93, .getfield 67, 3, [], 0), (96, .getfield 179, 3, [], 0), (99, .goto 4, 3, [103], 0), (102, .iconst 0, 1, [], 0), (103, .ireturn, 1, [], 0), (104, .aload_n 0, 1, [], 0), (105, .getfield 67, 3, [], 0), (108, .invokevirtual 182, 3, [], 0), (111, .ireturn, 1, [], 0), (112, .aload_n 0, 1, [], 0), (113, .getfield 24, 3, [], 0), (116, .iconst 3, 1, [], 3), (117, .if_icmp .ne 10, 3, [127], 0), (120, .aload_n 0, 1, [], 0), (121, .getfield 47, 3, [], 0), (124, .goto 4, 3, [128], 0), (127, .iconst 0, 1, [], 0), (128, .ireturn, 1, [], 0), (129, .aload_n 0, 1, [], 0), (130, .getfield 24, 3, [], 0), (133, .iconst 3, 1, [], 3), (134, .if_icmp .ne 13, 3, [147], 0), (137, .aload_n 0, 1, [], 0), (138, .getfield 20, 3, [], 0), (141, .getfield 185, 3, [], 0), (144, .goto 4, 3, [148], 0), (147, .iconst 0, 1, [], 0), (148, .ireturn, 1, [], 0), (149, .aload_n 0, 1, [], 0), (150, .getfield 24, 3, [], 0), (153, .iconst 3, 1, [], 3), (154, .if_icmp .ne 10, 3, [164], 0), (157, .aload_n 0, 1, [], 0), (158, .invokevirtual 102, 3, [], 0), (161, .goto 4, 3, [165], 0), (164, .iconst 0, 1, [], 0), (165, .ireturn, 1, [], 0), (166, .iconst (-1), 1, [], (-1)), (167, .ireturn, 1, [], 0)]
def cd_End_tellOfPath : List iE := [(0, .iload_n 2, 1, [], 0), (1, .ifCond .lt 9, 3, [10], 0), (4, .iload_n 2, 1, [], 0), (5, .bipush 6, 2, [], 6), (7, .if_icmp .le 5, 3, [12], 0), (10, .iconst (-1), 1, [], (-1)), (11, .ireturn, 1, [], 0), (12, .aload_n 0, 1, [], 0), (13, .getfield 24, 3, [], 0), (16, .iconst 3, 1, [], 3), (17, .if_icmp .eq 5, 3, [22], 0), (20, .iconst 0, 1, [], 0), (21, .ireturn, 1, [], 0), (22, .aload_n 0, 1, [], 0), (23, .getfield 11, 3, [], 0), (26, .iload_n 1, 1, [], 0), (27, .aaload, 1, [], 0), (28, .astore_n 3, 1, [], 0), (29, .iload_n 2, 1, [], 0), (30, .tableswitch 88 0 5 #[38, 43, 48, 53, 66, 75], 38, [118, 68, 73, 78, 83, 96, 105], 0), (68, .aload_n 3, 1, [], 0), (69, .getfield 188, 3, [], 0), (72, .ireturn, 1, [], 0), (73, .aload_n 3, 1, [], 0), (74, .getfield 191, 3, [], 0), (77, .ireturn, 1, [], 0), (78, .aload_n 3, 1, [], 0), (79, .getfield 194, 3, [], 0), (82, .ireturn, 1, [], 0), (83, .aload_n 3, 1, [], 0), (84, .getfield 172, 3, [], 0), (87, .ifCond .eq 7, 3, [94], 0), (90, .iconst 1, 1, [], 1), (91, .goto 4, 3, [95], 0), (94, .iconst 0, 1, [], 0), (95, .ireturn, 1, [], 0), (96, .aload_n 0, 1, [], 0), (97, .getfield 20, 3, [], 0), (100, .iload_n 1, 1, [], 0), (101, .invokevirtual 197, 3, [], 0), (104, .ireturn, 1, [], 0), (105, .aload_n 3, 1, [], 0), (106, .getfield 201, 3, [], 0), (109, .ifCond .eq 7, 3, [116], 0), (112, .iconst 1, 1, [], 1), (113, .goto 4, 3, [117], 0), (116, .iconst 0, 1, [], 0), (117, .ireturn, 1, [], 0), (118, .aload_n 3, 1, [], 0), (119, .getfield 204, 3, [], 0), (122, .ifCond .eq 7, 3, [129], 0), (125, .iconst 1, 1, [], 1), (126, .goto 4, 3, [130], 0), (129, .iconst 0, 1, [], 0), (130, .ireturn, 1, [], 0)]
def cd_End_startTries : List iE := [(0, .aload_n 0, 1, [], 0), (1, .iconst 1, 1, [], 1), (2, .putfield 50, 3, [], 0), (5, .aload_n 0, 1, [], 0), (6, .iload_n 1, 1, [], 0), (7, .iconst 3, 1, [], 3), (8, .iadd, 1, [], 0), (9, .putfield 53, 3, [], 0), (12, .return_, 1, [], 0)]
def cd_End_tryAgain : List iE := [(0, .aload_n 0, 1, [], 0), (1, .getfield 50, 3, [], 0), (4, .aload_n 0, 1, [], 0), (5, .getfield 59, 3, [], 0), (8, .if_icmp .lt 9, 3, [17], 0), (11, .aload_n 0, 1, [], 0), (12, .iconst 2, 1, [], 2), (13, .invokevirtual 140, 3, [], 0), (16, .return_, 1, [], 0), (17, .aload_n 0, 1, [], 0), (18, .dup, 1, [], 0), (19, .getfield 50, 3, [], 0), (22, .iconst 1, 1, [], 1), (23, .iadd, 1, [], 0), (24, .putfield 50, 3, [], 0), (27, .aload_n 0, 1, [], 0), (28, .iload_n 1, 1, [], 0), (29, .iconst 3, 1, [], 3), (30, .iadd, 1, [], 0), (31, .putfield 53, 3, [], 0), (34, .aload_n 0, 1, [], 0), (35, .aload_n 0, 1, [], 0), (36, .getfield 50, 3, [], 0), (39, .iconst 2, 1, [], 2), (40, .irem, 1, [], 0), (41, .invokevirtual 75, 3, [], 0), (44, .return_, 1, [], 0)]
def cd_End_postOpening : List iE := [(0, .aload_n 0, 1, [], 0), (1, .getfield 24, 3, [], 0), (4, .iconst 1, 1, [], 1), (5, .if_icmp .ne 26, 3, [31], 0), (8, .aload_n 0, 1, [], 0), (9, .iload_n 1, 1, [], 0), (10, .iconst 0, 1, [], 0), (11, .invokevirtual 106, 3, [], 0), (14, .astore_n 2, 1, [], 0), (15, .aload_n 2, 1, [], 0), (16, .iconst 0, 1, [], 0), (17, .putfield 99, 3, [], 0), (20, .aload_n 2, 1, [], 0), (21, .aload_n 0, 1, [], 0), (22, .getfield 28, 3, [], 0), (25, .putfield 110, 3, [], 0), (28, .goto 19, 3, [47], 0), (31, .aload_n 0, 1, [], 0), (32, .iload_n 1, 1, [], 0), (33, .iconst 2, 1, [], 2), (34, .invokevirtual 106, 3, [], 0), (37, .getfield 113, 3, [], 0), (40, .aload_n 0, 1, [], 0), (41, .getfield 40, 3, [], 0), (44, .invokevirtual 114, 3, [], 0), (47, .return_, 1, [], 0)]
def cd_End_takeData : List iE := [(0, .aload_n 0, 1, [], 0), (1, .getfield 67, 3, [], 0), (4, .aload_n 2, 1, [], 0), (5, .invokevirtual 207, 3, [], 0), (8, .aload_n 0, 1, [], 0), (9, .iload_n 1, 1, [], 0), (10, .iconst 5, 1, [], 5), (11, .invokevirtual 106, 3, [], 0), (14, .astore_n 3, 1, [], 0), (15, .aload_n 3, 1, [], 0), (16, .aload_n 0, 1, [], 0), (17, .getfield 67, 3, [], 0), (20, .getfield 179, 3, [], 0), (23, .putfield 211, 3, [], 0), (26, .aload_n 3, 1, [], 0), (27, .aload_n 0, 1, [], 0), (28, .getfield 67, 3, [], 0), (31, .invokevirtual 214, 3, [], 0), (34, .putfield 217, 3, [], 0), (37, .aload_n 3, 1, [], 0), (38, .aload_n 0, 1, [], 0), (39, .getfield 67, 3, [], 0), (42, .invokevirtual 219, 3, [], 0), (45, .putfield 221, 3, [], 0), (48, .return_, 1, [], 0)]
def cd_End_takeBeatAck : List iE := [(0, .aload_n 1, 1, [], 0), (1, .getfield 204, 3, [], 0), (4, .ifCond .eq 31, 3, [35], 0), (7, .aload_n 1, 1, [], 0), (8, .getfield 222, 3, [], 0), (11, .iload_n 2, 1, [], 0), (12, .if_icmp .ne 23, 3, [35], 0), (15, .aload_n 1, 1, [], 0), (16, .iconst 0, 1, [], 0), (17, .putfield 204, 3, [], 0), (20, .aload_n 1, 1, [], 0), (21, .iconst 1, 1, [], 1), (22, .putfield 172, 3, [], 0), (25, .aload_n 1, 1, [], 0), (26, .iconst 0, 1, [], 0), (27, .putfield 194, 3, [], 0), (30, .aload_n 0, 1, [], 0), (31, .iconst 0, 1, [], 0), (32, .putfield 47, 3, [], 0), (35, .return_, 1, [], 0)]
def cd_End_takeSack : List iE := [(0, .aload_n 1, 1, [], 0), (1, .getfield 211, 3, [], 0), (4, .aload_n 0, 1, [], 0), (5, .getfield 20, 3, [], 0), (8, .getfield 225, 3, [], 0), (11, .iconst 1, 1, [], 1), (12, .isub, 1, [], 0), (13, .if_icmp .lt 17, 3, [30], 0), (16, .aload_n 1, 1, [], 0), (17, .getfield 211, 3, [], 0), (20, .aload_n 0, 1, [], 0), (21, .getfield 20, 3, [], 0), (24, .getfield 228, 3, [], 0), (27, .if_icmp .lt 4, 3, [31], 0), (30, .return_, 1, [], 0), (31, .iconst 0, 1, [], 0), (32, .istore_n 3, 1, [], 0), (33, .iload_n 3, 1, [], 0), (34, .iconst 2, 1, [], 2), (35, .if_icmp .ge 19, 3, [54], 0), (38, .aload_n 0, 1, [], 0), (39, .getfield 11, 3, [], 0), (42, .iload_n 3, 1, [], 0), (43, .aaload, 1, [], 0), (44, .iconst 0, 1, [], 0), (45, .putfield 231, 3, [], 0), (48, .iinc 3 1, 3, [], 1), (51, .goto (-18), 3, [33], 0), (54, .aload_n 0, 1, [], 0), (55, .aload_n 1, 1, [], 0), (56, .getfield 211, 3, [], 0), (59, .invokevirtual 234, 3, [], 0), (62, .aload_n 0, 1, [], 0), (63, .aload_n 1, 1, [], 0), (64, .getfield 217, 3, [], 0), (67, .invokevirtual 237, 3, [], 0), (70, .aload_n 0, 1, [], 0), (71, .getfield 20, 3, [], 0), (74, .aload_n 1, 1, [], 0), (75, .getfield 221, 3, [], 0), (78, .putfield 185, 3, [], 0), (81, .aload_n 0, 1, [], 0), (82, .invokevirtual 240, 3, [], 0), (85, .aload_n 0, 1, [], 0), (86, .aload_n 1, 1, [], 0), (87, .getfield 217, 3, [], 0), (90, .invokevirtual 243, 3, [], 0), (93, .aload_n 0, 1, [], 0), (94, .iload_n 2, 1, [], 0), (95, .invokevirtual 246, 3, [], 0), (98, .aload_n 0, 1, [], 0), (99, .iload_n 2, 1, [], 0), (100, .invokevirtual 150, 3, [], 0), (103, .return_, 1, [], 0)]
def cd_End_dropUpTo : List iE := [(0, .aload_n 0, 1, [], 0), (1, .getfield 20, 3, [], 0), (4, .getfield 225, 3, [], 0), (7, .istore_n 2, 1, [], 0), (8, .iload_n 2, 1, [], 0), (9, .iload_n 1, 1, [], 0), (10, .if_icmp .gt 47, 3, [57], 0), (13, .aload_n 0, 1, [], 0), (14, .getfield 20, 3, [], 0), (17, .iload_n 2, 1, [], 0), (18, .invokevirtual 156, 3, [], 0), (21, .astore_n 3, 1, [], 0), (22, .aload_n 3, 1, [], 0), (23, .getfield 249, 3, [], 0), (26, .iconst 2, 1, [], 2), (27, .if_icmp .eq 11, 3, [38], 0), (30, .aload_n 3, 1, [], 0), (31, .getfield 249, 3, [], 0), (34, .iconst 3, 1, [], 3), (35, .if_icmp .ne 16, 3, [51], 0), (38, .aload_n 0, 1, [], 0), (39, .getfield 11, 3, [], 0), (42, .aload_n 3, 1, [], 0), (43, .getfield 252, 3, [], 0), (46, .aaload, 1, [], 0), (47, .iconst 1, 1, [], 1), (48, .putfield 231, 3, [], 0), (51, .iinc 2 1, 3, [], 1), (54, .goto (-46), 3, [8], 0), (57, .aload_n 0, 1, [], 0), (58, .getfield 20, 3, [], 0), (61, .iload_n 1, 1, [], 0), (62, .iconst 1, 1, [], 1), (63, .iadd, 1, [], 0), (64, .putfield 225, 3, [], 0), (67, .return_, 1, [], 0)]
def cd_End_holdGaps : List iE := [(0, .iconst 0, 1, [], 0), (1, .istore_n 2, 1, [], 0), (2, .iload_n 2, 1, [], 0), (3, .bipush 16, 2, [], 16), (5, .if_icmp .ge 79, 3, [84], 0), (8, .aload_n 0, 1, [], 0), (9, .getfield 20, 3, [], 0), (12, .getfield 225, 3, [], 0), (15, .iload_n 2, 1, [], 0), (16, .iadd, 1, [], 0), (17, .istore_n 3, 1, [], 0), (18, .aload_n 0, 1, [], 0), (19, .getfield 20, 3, [], 0), (22, .iload_n 3, 1, [], 0), (23, .invokevirtual 255, 3, [], 0), (26, .istore 4, 2, [], 0), (28, .iload_n 1, 1, [], 0), (29, .iload_n 2, 1, [], 0), (30, .invokestatic 258, 3, [], 0), (33, .ifCond .eq 45, 3, [78], 0), (36, .iload 4, 2, [], 0), (38, .iconst 2, 1, [], 2), (39, .if_icmp .eq 9, 3, [48], 0), (42, .iload 4, 2, [], 0), (44, .iconst 3, 1, [], 3), (45, .if_icmp .ne 33, 3, [78], 0), (48, .aload_n 0, 1, [], 0), (49, .getfield 20, 3, [], 0), (52, .iload_n 3, 1, [], 0), (53, .invokevirtual 156, 3, [], 0), (56, .astore 5, 2, [], 0), (58, .aload 5, 2, [], 0), (60, .iconst 4, 1, [], 4), (61, .putfield 249, 3, [], 0), (64, .aload_n 0, 1, [], 0), (65, .getfield 11, 3, [], 0), (68, .aload 5, 2, [], 0), (70, .getfield 252, 3, [], 0), (73, .aaload, 1, [], 0), (74, .iconst 1, 1, [], 1), (75, .putfield 231, 3, [], 0), (78, .iinc 2 1, 3, [], 1), (81, .goto (-79), 3, [2], 0), (84, .return_, 1, [], 0)]
def cd_End_rewardGoodPaths : List iE := [(0, .iconst 0, 1, [], 0), (1, .istore_n 1, 1, [], 0), (2, .iload_n 1, 1, [], 0), (3, .iconst 2, 1, [], 2), (4, .if_icmp .ge 35, 3, [39], 0), (7, .aload_n 0, 1, [], 0), (8, .getfield 11, 3, [], 0), (11, .iload_n 1, 1, [], 0), (12, .aaload, 1, [], 0), (13, .getfield 231, 3, [], 0), (16, .ifCond .eq 17, 3, [33], 0), (19, .aload_n 0, 1, [], 0), (20, .getfield 11, 3, [], 0), (23, .iload_n 1, 1, [], 0), (24, .aaload, 1, [], 0), (25, .invokevirtual 262, 3, [], 0), (28, .aload_n 0, 1, [], 0), (29, .iconst 0, 1, [], 0), (30, .putfield 47, 3, [], 0), (33, .iinc 1 1, 3, [], 1), (36, .goto (-34), 3, [2], 0), (39, .return_, 1, [], 0)]
def cd_End_strikeBelow : List iE := [(0, .bipush 15, 2, [], 15), (2, .istore_n 2, 1, [], 0), (3, .iload_n 2, 1, [], 0), (4, .ifCond .le 17, 3, [21], 0), (7, .iload_n 1, 1, [], 0), (8, .iload_n 2, 1, [], 0), (9, .invokestatic 258, 3, [], 0), (12, .ifCond .ne 9, 3, [21], 0), (15, .iinc 2 (-1), 3, [], (-1)), (18, .goto (-15), 3, [3], 0), (21, .iconst 0, 1, [], 0), (22, .istore_n 3, 1, [], 0), (23, .iload_n 3, 1, [], 0), (24, .iload_n 2, 1, [], 0), (25, .if_icmp .ge 46, 3, [71], 0), (28, .aload_n 0, 1, [], 0), (29, .getfield 20, 3, [], 0), (32, .getfield 225, 3, [], 0), (35, .iload_n 3, 1, [], 0), (36, .iadd, 1, [], 0), (37, .istore 4, 2, [], 0), (39, .aload_n 0, 1, [], 0), (40, .getfield 20, 3, [], 0), (43, .iload 4, 2, [], 0), (45, .invokevirtual 255, 3, [], 0), (48, .iconst 2, 1, [], 2), (49, .if_icmp .ne 16, 3, [65], 0), (52, .aload_n 0, 1, [], 0), (53, .aload_n 0, 1, [], 0), (54, .getfield 20, 3, [], 0), (57, .iload 4, 2, [], 0), (59, .invokevirtual 156, 3, [], 0), (62, .invokevirtual 265, 3, [], 0), (65, .iinc 3 1, 3, [], 1), (68, .goto (-45), 3, [23], 0), (71, .return_, 1, [], 0)]
def cd_End_strike : List iE := [(0, .aload_n 1, 1, [], 0), (1, .dup, 1, [], 0), (2, .getfield 269, 3, [], 0), (5, .iconst 1, 1, [], 1), (6, .iadd, 1, [], 0), (7, .putfield 269, 3, [], 0), (10, .aload_n 1, 1, [], 0), (11, .getfield 269, 3, [], 0), (14, .iconst 3, 1, [], 3), (15, .if_icmp .lt 37, 3, [52], 0), (18, .aload_n 1, 1, [], 0), (19, .iconst 3, 1, [], 3), (20, .putfield 249, 3, [], 0), (23, .aload_n 1, 1, [], 0), (24, .iconst 0, 1, [], 0), (25, .putfield 269, 3, [], 0), (28, .aload_n 0, 1, [], 0), (29, .getfield 11, 3, [], 0), (32, .aload_n 1, 1, [], 0), (33, .getfield 252, 3, [], 0), (36, .aaload, 1, [], 0), (37, .astore_n 2, 1, [], 0), (38, .aload_n 2, 1, [], 0), (39, .iconst 1, 1, [], 1), (40, .aload_n 2, 1, [], 0), (41, .getfield 188, 3, [], 0), (44, .iconst 2, 1, [], 2), (45, .idiv, 1, [], 0), (46, .invokestatic 272, 3, [], 0), (49, .putfield 188, 3, [], 0), (52, .return_, 1, [], 0)]
def cd_End_settleTimers : List iE := [(0, .iconst 0, 1, [], 0), (1, .istore_n 2, 1, [], 0), (2, .iload_n 2, 1, [], 0), (3, .iconst 2, 1, [], 2), (4, .if_icmp .ge 55, 3, [59], 0), (7, .aload_n 0, 1, [], 0), (8, .getfield 20, 3, [], 0), (11, .iload_n 2, 1, [], 0), (12, .invokevirtual 197, 3, [], 0), (15, .ifCond .ne 16, 3, [31], 0), (18, .aload_n 0, 1, [], 0), (19, .getfield 11, 3, [], 0), (22, .iload_n 2, 1, [], 0), (23, .aaload, 1, [], 0), (24, .iconst 0, 1, [], 0), (25, .putfield 201, 3, [], 0), (28, .goto 25, 3, [53], 0), (31, .aload_n 0, 1, [], 0), (32, .getfield 11, 3, [], 0), (35, .iload_n 2, 1, [], 0), (36, .aaload, 1, [], 0), (37, .getfield 231, 3, [], 0), (40, .ifCond .eq 13, 3, [53], 0), (43, .aload_n 0, 1, [], 0), (44, .getfield 11, 3, [], 0), (47, .iload_n 2, 1, [], 0), (48, .aaload, 1, [], 0), (49, .iload_n 1, 1, [], 0), (50, .invokevirtual 278, 3, [], 0), (53, .iinc 2 1, 3, [], 1), (56, .goto (-54), 3, [2], 0), (59, .return_, 1, [], 0)]
def cd_End_pathFor : List iE := [(0, .iconst 1, 1, [], 1), (1, .aload_n 1, 1, [], 0), (2, .getfield 252, 3, [], 0), (5, .isub, 1, [], 0), (6, .istore_n 2, 1, [], 0), (7, .aload_n 1, 1, [], 0), (8, .getfield 249, 3, [], 0), (11, .iconst 3, 1, [], 3), (12, .if_icmp .ne 19, 3, [31], 0), (15, .aload_n 0, 1, [], 0), (16, .getfield 11, 3, [], 0), (19, .iload_n 2, 1, [], 0), (20, .aaload, 1, [], 0), (21, .getfield 172, 3, [], 0), (24, .ifCond .eq 7, 3, [31], 0), (27, .iload_n 2, 1, [], 0), (28, .goto 7, 3, [35], 0), (31, .aload_n 0, 1, [], 0), (32, .invokevirtual 102, 3, [], 0), (35, .ireturn, 1, [], 0)]
def cd_End_mayGo : List iE := [(0, .aload_n 0, 1, [], 0), (1, .getfield 20, 3, [], 0), (4, .iload_n 2, 1, [], 0), (5, .invokevirtual 197, 3, [], 0), (8, .aload_n 0, 1, [], 0), (9, .getfield 11, 3, [], 0), (12, .iload_n 2, 1, [], 0), (13, .aaload, 1, [], 0), (14, .getfield 188, 3, [], 0), (17, .if_icmp .lt 5, 3, [22], 0), (20, .iconst 0, 1, [], 0), (21, .ireturn, 1, [], 0), (22, .aload_n 0, 1, [], 0), (23, .getfield 20, 3, [], 0), (26, .invokevirtual 281, 3, [], 0), (29, .istore_n 3, 1, [], 0), (30, .aload_n 1, 1, [], 0), (31, .getfield 249, 3, [], 0), (34, .iconst 1, 1, [], 1), (35, .if_icmp .ne 18, 3, [53], 0), (38, .iload_n 3, 1, [], 0), (39, .ifCond .eq 14, 3, [53], 0), (42, .iload_n 3, 1, [], 0), (43, .aload_n 0, 1, [], 0), (44, .getfield 20, 3, [], 0), (47, .getfield 185, 3, [], 0), (50, .if_icmp .ge 7, 3, [57], 0), (53, .iconst 1, 1, [], 1), (54, .goto 4, 3, [58], 0), (57, .iconst 0, 1, [], 0), (58, .ireturn, 1, [], 0)]
def cd_End_putOut : List iE := [(0, .aload_n 0, 1, [], 0), (1, .iload_n 2, 1, [], 0), (2, .iconst 4, 1, [], 4), (3, .invokevirtual 106, 3, [], 0), (6, .getfield 121, 3, [], 0), (9, .aload_n 1, 1, [], 0), (10, .getfield 284, 3, [], 0), (13, .invokevirtual 285, 3, [], 0), (16, .aload_n 1, 1, [], 0), (17, .iconst 2, 1, [], 2), (18, .putfield 249, 3, [], 0), (21, .aload_n 1, 1, [], 0), (22, .iload_n 2, 1, [], 0), (23, .putfield 252, 3, [], 0), (26, .aload_n 1, 1, [], 0), (27, .iconst 0, 1, [], 0), (28, .putfield 269, 3, [], 0), (31, .aload_n 0, 1, [], 0), (32, .getfield 11, 3, [], 0), (35, .iload_n 2, 1, [], 0), (36, .aaload, 1, [], 0), (37, .getfield 201, 3, [], 0), (40, .ifCond .ne 13, 3, [53], 0), (43, .aload_n 0, 1, [], 0), (44, .getfield 11, 3, [], 0), (47, .iload_n 2, 1, [], 0), (48, .aaload, 1, [], 0), (49, .iload_n 3, 1, [], 0), (50, .invokevirtual 278, 3, [], 0), (53, .return_, 1, [], 0)]
def cd_End_passPathTick : List iE := [(0, .aload_n 0, 1, [], 0), (1, .getfield 11, 3, [], 0), (4, .iload_n 1, 1, [], 0), (5, .aaload, 1, [], 0), (6, .astore_n 3, 1, [], 0), (7, .aload_n 3, 1, [], 0), (8, .getfield 201, 3, [], 0), (11, .ifCond .eq 31, 3, [42], 0), (14, .iload_n 2, 1, [], 0), (15, .aload_n 3, 1, [], 0), (16, .getfield 289, 3, [], 0), (19, .if_icmp .lt 23, 3, [42], 0), (22, .aload_n 0, 1, [], 0), (23, .getfield 20, 3, [], 0), (26, .iload_n 1, 1, [], 0), (27, .invokevirtual 292, 3, [], 0), (30, .aload_n 3, 1, [], 0), (31, .invokevirtual 295, 3, [], 0), (34, .aload_n 0, 1, [], 0), (35, .aload_n 3, 1, [], 0), (36, .invokevirtual 298, 3, [], 0), (39, .goto 47, 3, [86], 0), (42, .iload_n 2, 1, [], 0), (43, .bipush 8, 2, [], 8), (45, .irem, 1, [], 0), (46, .ifCond .ne 40, 3, [86], 0), (49, .aload_n 0, 1, [], 0), (50, .getfield 20, 3, [], 0), (53, .iload_n 1, 1, [], 0), (54, .invokevirtual 197, 3, [], 0), (57, .ifCond .ne 29, 3, [86], 0), (60, .aload_n 3, 1, [], 0), (61, .getfield 204, 3, [], 0), (64, .ifCond .eq 8, 3, [72], 0), (67, .aload_n 0, 1, [], 0), (68, .aload_n 3, 1, [], 0), (69, .invokevirtual 298, 3, [], 0), (72, .aload_n 0, 1, [], 0), (73, .getfield 24, 3, [], 0), (76, .iconst 3, 1, [], 3), (77, .if_icmp .ne 9, 3, [86], 0), (80, .aload_n 0, 1, [], 0), (81, .iload_n 1, 1, [], 0), (82, .iload_n 2, 1, [], 0), (83, .invokevirtual 302, 3, [], 0), (86, .return_, 1, [], 0)]
def cd_End_postBeat : List iE := [(0, .aload_n 0, 1, [], 0), (1, .getfield 11, 3, [], 0), (4, .iload_n 1, 1, [], 0), (5, .aaload, 1, [], 0), (6, .iconst 1, 1, [], 1), (7, .putfield 204, 3, [], 0), (10, .aload_n 0, 1, [], 0), (11, .getfield 11, 3, [], 0), (14, .iload_n 1, 1, [], 0), (15, .aaload, 1, [], 0), (16, .iload_n 2, 1, [], 0), (17, .putfield 222, 3, [], 0), (20, .aload_n 0, 1, [], 0), (21, .iload_n 1, 1, [], 0), (22, .bipush 6, 2, [], 6), (24, .invokevirtual 106, 3, [], 0), (27, .iload_n 2, 1, [], 0), (28, .putfield 133, 3, [], 0), (31, .return_, 1, [], 0)]
def cd_End_addError : List iE := [(0, .aload_n 1, 1, [], 0), (1, .dup, 1, [], 0), (2, .getfield 194, 3, [], 0), (5, .iconst 1, 1, [], 1), (6, .iadd, 1, [], 0), (7, .putfield 194, 3, [], 0), (10, .aload_n 0, 1, [], 0), (11, .dup, 1, [], 0), (12, .getfield 47, 3, [], 0), (15, .iconst 1, 1, [], 1), (16, .iadd, 1, [], 0), (17, .putfield 47, 3, [], 0), (20, .aload_n 1, 1, [], 0), (21, .getfield 194, 3, [], 0), (24, .iconst 3, 1, [], 3), (25, .if_icmp .lt 8, 3, [33], 0), (28, .aload_n 1, 1, [], 0), (29, .iconst 0, 1, [], 0), (30, .putfield 172, 3, [], 0), (33, .aload_n 0, 1, [], 0), (34, .getfield 47, 3, [], 0), (37, .aload_n 0, 1, [], 0), (38, .getfield 59, 3, [], 0), (41, .if_icmp .le 12, 3, [53], 0), (44, .aload_n 0, 1, [], 0), (45, .invokevirtual 305, 3, [], 0), (48, .aload_n 0, 1, [], 0), (49, .iconst 1, 1, [], 1), (50, .invokevirtual 140, 3, [], 0), (53, .return_, 1, [], 0)]
def cd_Inbox_new : List iE := [(0, .aload_n 0, 1, [], 0), (1, .invokespecial 3, 3, [], 0), (4, .aload_n 0, 1, [], 0), (5, .new 9, 3, [], 0), (8, .dup, 1, [], 0), (9, .invokespecial 11, 3, [], 0), (12, .putfield 12, 3, [], 0), (15, .aload_n 0, 1, [], 0), (16, .bipush 32, 2, [], 32), (18, .anewarray 18, 3, [], 0), (21, .putfield 20, 3, [], 0), (24, .aload_n 0, 1, [], 0), (25, .bipush 32, 2, [], 32), (27, .newarray .boolean, 2, [], 0), (29, .putfield 24, 3, [], 0), (32, .aload_n 0, 1, [], 0), (33, .iconst 3, 1, [], 3), (34, .newarray .int, 2, [], 0), (36, .putfield 28, 3, [], 0), (39, .aload_n 0, 1, [], 0), (40, .iload_n 1, 1, [], 0), (41, .putfield 32, 3, [], 0), (44, .iconst 0, 1, [], 0), (45, .istore_n 2, 1, [], 0), (46, .iload_n 2, 1, [], 0), (47, .bipush 32, 2, [], 32), (49, .if_icmp .ge 22, 3, [71], 0), (52, .aload_n 0, 1, [], 0), (53, .getfield 20, 3, [], 0), (56, .iload_n 2, 1, [], 0), (57, .new 18, 3, [], 0), (60, .dup, 1, [], 0), (61, .invokespecial 36, 3, [], 0), (64, .aastore, 1, [], 0), (65, .iinc 2 1, 3, [], 1), (68, .goto (-22), 3, [46], 0), (71, .aload_n 0, 1, [], 0), (72, .invokevirtual 37, 3, [], 0), (75, .return_, 1, [], 0)]
def cd_Inbox_reset : List iE := [(0, .aload_n 0, 1, [], 0), (1, .iconst 0, 1, [], 0), (2, .putfield 40, 3, [], 0), (5, .aload_n 0, 1, [], 0), (6, .iconst 0, 1, [], 0), (7, .putfield 43, 3, [], 0), (10, .iconst 0, 1, [], 0), (11, .istore_n 1, 1, [], 0), (12, .iload_n 1, 1, [], 0), (13, .bipush 32, 2, [], 32), (15, .if_icmp .ge 26, 3, [41], 0), (18, .aload_n 0, 1, [], 0), (19, .getfield 20, 3, [], 0), (22, .iload_n 1, 1, [], 0), (23, .aaload, 1, [], 0), (24, .iconst 0, 1, [], 0), (25, .putfield 46, 3, [], 0), (28, .aload_n 0, 1, [], 0), (29, .getfield 24, 3, [], 0), (32, .iload_n 1, 1, [], 0), (33, .iconst 0, 1, [], 0), (34, .bastore, 1, [], 0), (35, .iinc 1 1, 3, [], 1), (38, .goto (-26), 3, [12], 0), (41, .iconst 0, 1, [], 0), (42, .istore_n 1, 1, [], 0), (43, .iload_n 1, 1, [], 0), (44, .iconst 3, 1, [], 3), (45, .if_icmp .ge 16, 3, [61], 0), (48, .aload_n 0, 1, [], 0), (49, .getfield 28, 3, [], 0), (52, .iload_n 1, 1, [], 0), (53, .iconst 0, 1, [], 0), (54, .iastore, 1, [], 0), (55, .iinc 1 1, 3, [], 1), (58, .goto (-15), 3, [43], 0), (61, .return_, 1, [], 0)]
def cd_Inbox_kept : List iE := [(0, .aload_n 0, 1, [], 0), (1, .getfield 43, 3, [], 0), (4, .aload_n 0, 1, [], 0), (5, .getfield 12, 3, [], 0), (8, .getfield 49, 3, [], 0), (11, .iadd, 1, [], 0), (12, .ireturn, 1, [], 0)]
def cd_Inbox_window : List iE := [(0, .iconst 0, 1, [], 0), (1, .aload_n 0, 1, [], 0), (2, .getfield 32, 3, [], 0), (5, .aload_n 0, 1, [], 0), (6, .invokevirtual 52, 3, [], 0), (9, .isub, 1, [], 0), (10, .invokestatic 56, 3, [], 0), (13, .ireturn, 1, [], 0)]
def cd_Inbox_gaps : List iE := [(0, .iconst 0, 1, [], 0), (1, .istore_n 1, 1, [], 0), (2, .iconst 0, 1, [], 0), (3, .istore_n 2, 1, [], 0), (4, .iload_n 2, 1, [], 0), (5, .bipush 16, 2, [], 16), (7, .if_icmp .ge 30, 3, [37], 0), (10, .aload_n 0, 1, [], 0), (11, .aload_n 0, 1, [], 0), (12, .getfield 40, 3, [], 0), (15, .iconst 1, 1, [], 1), (16, .iadd, 1, [], 0), (17, .iload_n 2, 1, [], 0), (18, .iadd, 1, [], 0), (19, .invokevirtual 62, 3, [], 0), (22, .ifCond .eq 9, 3, [31], 0), (25, .iload_n 1, 1, [], 0), (26, .iconst 1, 1, [], 1), (27, .iload_n 2, 1, [], 0), (28, .ishl, 1, [], 0), (29, .ior, 1, [], 0), (30, .istore_n 1, 1, [], 0), (31, .iinc 2 1, 3, [], 1), (34, .goto (-30), 3, [4], 0), (37, .iload_n 1, 1, [], 0), (38, .ireturn, 1, [], 0)]
def cd_Inbox_take : List iE := [(0, .aload_n 0, 1, [], 0), (1, .aload_n 1, 1, [], 0), (2, .getfield 46, 3, [], 0), (5, .invokevirtual 66, 3, [], 0), (8, .ifCond .eq 4, 3, [12], 0), (11, .return_, 1, [], 0), (12, .aload_n 1, 1, [], 0), (13, .getfield 46, 3, [], 0), (16, .invokestatic 69, 3, [], 0), (19, .istore_n 2, 1, [], 0), (20, .aload_n 0, 1, [], 0), (21, .getfield 20, 3, [], 0), (24, .iload_n 2, 1, [], 0), (25, .aaload, 1, [], 0), (26, .aload_n 1, 1, [], 0), (27, .invokevirtual 73, 3, [], 0), (30, .aload_n 0, 1, [], 0), (31, .getfield 24, 3, [], 0), (34, .iload_n 2, 1, [], 0), (35, .iconst 1, 1, [], 1), (36, .bastore, 1, [], 0), (37, .aload_n 0, 1, [], 0), (38, .dup, 1, [], 0), (39, .getfield 43, 3, [], 0), (42, .iconst 1, 1, [], 1), (43, .iadd, 1, [], 0), (44, .putfield 43, 3, [], 0), (47, .aload_n 0, 1, [], 0), (48, .invokevirtual 77, 3, [], 0), (51, .iconst 0, 1, [], 0), (52, .istore_n 3, 1, [], 0), (53, .iload_n 3, 1, [], 0), (54, .bipush 16, 2, [], 16), (56, .if_icmp .ge 32, 3, [88], 0), (59, .aload_n 0, 1, [], 0), (60, .aload_n 0, 1, [], 0), (61, .getfield 40, 3, [], 0), (64, .iconst 1, 1, [], 1), (65, .iadd, 1, [], 0), (66, .invokevirtual 62, 3, [], 0), (69, .ifCond .eq 19, 3, [88], 0), (72, .aload_n 0, 1, [], 0), (73, .dup, 1, [], 0), (74, .getfield 40, 3, [], 0), (77, .iconst 1, 1, [], 1), (78, .iadd, 1, [], 0), (79, .putfield 40, 3, [], 0), (82, .iinc 3 1, 3, [], 1), (85, .goto (-32), 3, [53], 0), (88, .return_, 1, [], 0)]
def cd_Inbox_isDropped : List iE := [(0, .iload_n 1, 1, [], 0), (1, .iconst 1, 1, [], 1), (2, .if_icmp .lt 22, 3, [24], 0), (5, .iload_n 1, 1, [], 0), (6, .aload_n 0, 1, [], 0), (7, .getfield 40, 3, [], 0), (10, .bipush 16, 2, [], 16), (12, .iadd, 1, [], 0), (13, .if_icmp .gt 11, 3, [24], 0), (16, .aload_n 0, 1, [], 0), (17, .iload_n 1, 1, [], 0), (18, .invokevirtual 62, 3, [], 0), (21, .ifCond .eq 5, 3, [26], 0), (24, .iconst 1, 1, [], 1), (25, .ireturn, 1, [], 0), (26, .aload_n 0, 1, [], 0), (27, .invokevirtual 52, 3, [], 0), (30, .aload_n 0, 1, [], 0), (31, .getfield 32, 3, [], 0), (34, .if_icmp .lt 17, 3, [51], 0), (37, .iload_n 1, 1, [], 0), (38, .aload_n 0, 1, [], 0), (39, .getfield 40, 3, [], 0), (42, .iconst 1, 1, [], 1), (43, .iadd, 1, [], 0), (44, .if_icmp .eq 7, 3, [51], 0), (47, .iconst 1, 1, [], 1), (48, .goto 4, 3, [52], 0), (51, .iconst 0, 1, [], 0), (52, .ireturn, 1, [], 0)]
def cd_Inbox_slotOf : List iE := [(0, .iload_n 0, 1, [], 0), (1, .bipush 31, 2, [], 31), (3, .iand, 1, [], 0), (4, .ireturn, 1, [], 0)]
def cd_Inbox_has : List iE := [(0, .iload_n 1, 1, [], 0), (1, .aload_n 0, 1, [], 0), (2, .getfield 40, 3, [], 0), (5, .if_icmp .le 19, 3, [24], 0), (8, .aload_n 0, 1, [], 0), (9, .getfield 20, 3, [], 0), (12, .iload_n 1, 1, [], 0), (13, .invokestatic 69, 3, [], 0), (16, .aaload, 1, [], 0), (17, .getfield 46, 3, [], 0), (20, .iload_n 1, 1, [], 0), (21, .if_icmp .ne 7, 3, [28], 0), (24, .iconst 1, 1, [], 1), (25, .goto 4, 3, [29], 0), (28, .iconst 0, 1, [], 0), (29, .ireturn, 1, [], 0)]
def cd_Inbox_makeReady : List iE := [(0, .aload_n 0, 1, [], 0), (1, .getfield 40, 3, [], 0), (4, .iconst 1, 1, [], 1), (5, .iadd, 1, [], 0), (6, .iconst 4, 1, [], 4), (7, .isub, 1, [], 0), (8, .istore_n 1, 1, [], 0), (9, .iload_n 1, 1, [], 0), (10, .aload_n 0, 1, [], 0), (11, .getfield 40, 3, [], 0), (14, .bipush 16, 2, [], 16), (16, .iadd, 1, [], 0), (17, .if_icmp .gt 41, 3, [58], 0), (20, .aload_n 0, 1, [], 0), (21, .iload_n 1, 1, [], 0), (22, .invokevirtual 80, 3, [], 0), (25, .istore_n 2, 1, [], 0), (26, .iload_n 2, 1, [], 0), (27, .ifCond .le 25, 3, [52], 0), (30, .aload_n 0, 1, [], 0), (31, .aload_n 0, 1, [], 0), (32, .getfield 20, 3, [], 0), (35, .iload_n 1, 1, [], 0), (36, .invokestatic 69, 3, [], 0), (39, .aaload, 1, [], 0), (40, .invokevirtual 83, 3, [], 0), (43, .ifCond .eq 9, 3, [52], 0), (46, .aload_n 0, 1, [], 0), (47, .iload_n 1, 1, [], 0), (48, .iload_n 2, 1, [], 0), (49, .invokevirtual 87, 3, [], 0), (52, .iinc 1 1, 3, [], 1), (55, .goto (-46), 3, [9], 0), (58, .return_, 1, [], 0)]
def cd_Inbox_wholeLength : List iE := [(0, .aload_n 0, 1, [], 0), (1, .getfield 20, 3, [], 0), (4, .iload_n 1, 1, [], 0), (5, .invokestatic 69, 3, [], 0), (8, .aaload, 1, [], 0), (9, .getfield 91, 3, [], 0), (12, .ifCond .ne 5, 3, [17], 0), (15, .iconst 0, 1, [], 0), (16, .ireturn, 1, [], 0), (17, .iconst 0, 1, [], 0), (18, .istore_n 2, 1, [], 0), (19, .iload_n 2, 1, [], 0), (20, .iconst 4, 1, [], 4), (21, .if_icmp .ge 58, 3, [79], 0), (24, .iload_n 1, 1, [], 0), (25, .iload_n 2, 1, [], 0), (26, .iadd, 1, [], 0), (27, .invokestatic 69, 3, [], 0), (30, .istore_n 3, 1, [], 0), (31, .aload_n 0, 1, [], 0), (32, .getfield 24, 3, [], 0), (35, .iload_n 3, 1, [], 0), (36, .baload, 1, [], 0), (37, .ifCond .eq 18, 3, [55], 0), (40, .aload_n 0, 1, [], 0), (41, .getfield 20, 3, [], 0), (44, .iload_n 3, 1, [], 0), (45, .aaload, 1, [], 0), (46, .getfield 46, 3, [], 0), (49, .iload_n 1, 1, [], 0), (50, .iload_n 2, 1, [], 0), (51, .iadd, 1, [], 0), (52, .if_icmp .eq 5, 3, [57], 0), (55, .iconst 0, 1, [], 0), (56, .ireturn, 1, [], 0), (57, .aload_n 0, 1, [], 0), (58, .getfield 20, 3, [], 0), (61, .iload_n 3, 1, [], 0), (62, .aaload, 1, [], 0), (63, .getfield 95, 3, [], 0), (66, .ifCond .eq 7, 3, [73], 0), (69, .iload_n 2, 1, [], 0), (70, .iconst 1, 1, [], 1), (71, .iadd, 1, [], 0), (72, .ireturn, 1, [], 0), (73, .iinc 2 1, 3, [], 1), (76, .goto (-57), 3, [19], 0), (79, .iconst 0, 1, [], 0), (80, .ireturn, 1, [], 0)]
def cd_Inbox_mayBeReady : List iE := [(0, .aload_n 1, 1, [], 0), (1, .getfield 98, 3, [], 0), (4, .ifCond .ne 19, 3, [23], 0), (7, .aload_n 1, 1, [], 0), (8, .getfield 101, 3, [], 0), (11, .aload_n 0, 1, [], 0), (12, .getfield 28, 3, [], 0), (15, .aload_n 1, 1, [], 0), (16, .getfield 104, 3, [], 0), (19, .iaload, 1, [], 0), (20, .if_icmp .ne 7, 3, [27], 0), (23, .iconst 1, 1, [], 1), (24, .goto 4, 3, [28], 0), (27, .iconst 0, 1, [], 0), (28, .ireturn, 1, [], 0)]
def cd_Inbox_moveToReady : List iE := [(0, .aload_n 0, 1, [], 0), (1, .getfield 20, 3, [], 0), (4, .iload_n 1, 1, [], 0), (5, .invokestatic 69, 3, [], 0), (8, .aaload, 1, [], 0), (9, .astore_n 3, 1, [], 0), (10, .aload_n 0, 1, [], 0), (11, .getfield 12, 3, [], 0), (14, .aload_n 3, 1, [], 0), (15, .getfield 104, 3, [], 0), (18, .aload_n 3, 1, [], 0), (19, .getfield 107, 3, [], 0), (22, .iload_n 2, 1, [], 0), (23, .invokevirtual 110, 3, [], 0), (26, .aload_n 3, 1, [], 0), (27, .getfield 98, 3, [], 0), (30, .ifCond .ne 16, 3, [46], 0), (33, .aload_n 0, 1, [], 0), (34, .getfield 28, 3, [], 0), (37, .aload_n 3, 1, [], 0), (38, .getfield 104, 3, [], 0), (41, .dup2, 1, [], 0), (42, .iaload, 1, [], 0), (43, .iconst 1, 1, [], 1), (44, .iadd, 1, [], 0), (45, .iastore, 1, [], 0), (46, .iconst 0, 1, [], 0), (47, .istore 4, 2, [], 0), (49, .iload 4, 2, [], 0), (51, .iload_n 2, 1, [], 0), (52, .if_icmp .ge 22, 3, [74], 0), (55, .aload_n 0, 1, [], 0), (56, .getfield 24, 3, [], 0), (59, .iload_n 1, 1, [], 0), (60, .iload 4, 2, [], 0), (62, .iadd, 1, [], 0), (63, .invokestatic 69, 3, [], 0), (66, .iconst 0, 1, [], 0), (67, .bastore, 1, [], 0), (68, .iinc 4 1, 3, [], 1), (71, .goto (-22), 3, [49], 0), (74, .aload_n 0, 1, [], 0), (75, .dup, 1, [], 0), (76, .getfield 43, 3, [], 0), (79, .iload_n 2, 1, [], 0), (80, .isub, 1, [], 0), (81, .putfield 43, 3, [], 0), (84, .return_, 1, [], 0)]
def cd_Outbox_new : List iE := [(0, .aload_n 0, 1, [], 0), (1, .invokespecial 3, 3, [], 0), (4, .aload_n 0, 1, [], 0), (5, .bipush 24, 2, [], 24), (7, .anewarray 9, 3, [], 0), (10, .putfield 11, 3, [], 0), (13, .aload_n 0, 1, [], 0), (14, .iconst 3, 1, [], 3), (15, .newarray .int, 2, [], 0), (17, .putfield 17, 3, [], 0), (20, .iconst 0, 1, [], 0), (21, .istore_n 1, 1, [], 0), (22, .iload_n 1, 1, [], 0), (23, .bipush 24, 2, [], 24), (25, .if_icmp .ge 22, 3, [47], 0), (28, .aload_n 0, 1, [], 0), (29, .getfield 11, 3, [], 0), (32, .iload_n 1, 1, [], 0), (33, .new 9, 3, [], 0), (36, .dup, 1, [], 0), (37, .invokespecial 21, 3, [], 0), (40, .aastore, 1, [], 0), (41, .iinc 1 1, 3, [], 1), (44, .goto (-22), 3, [22], 0), (47, .aload_n 0, 1, [], 0), (48, .iconst 0, 1, [], 0), (49, .invokevirtual 22, 3, [], 0), (52, .return_, 1, [], 0)]
def cd_Outbox_reset : List iE := [(0, .aload_n 0, 1, [], 0), (1, .iconst 1, 1, [], 1), (2, .putfield 26, 3, [], 0), (5, .aload_n 0, 1, [], 0), (6, .iconst 1, 1, [], 1), (7, .putfield 30, 3, [], 0), (10, .aload_n 0, 1, [], 0), (11, .iload_n 1, 1, [], 0), (12, .putfield 33, 3, [], 0), (15, .iconst 0, 1, [], 0), (16, .istore_n 2, 1, [], 0), (17, .iload_n 2, 1, [], 0), (18, .iconst 3, 1, [], 3), (19, .if_icmp .ge 16, 3, [35], 0), (22, .aload_n 0, 1, [], 0), (23, .getfield 17, 3, [], 0), (26, .iload_n 2, 1, [], 0), (27, .iconst 0, 1, [], 0), (28, .iastore, 1, [], 0), (29, .iinc 2 1, 3, [], 1), (32, .goto (-15), 3, [17], 0), (35, .return_, 1, [], 0)]
def cd_Outbox_count : List iE := [(0, .aload_n 0, 1, [], 0), (1, .getfield 30, 3, [], 0), (4, .aload_n 0, 1, [], 0), (5, .getfield 26, 3, [], 0), (8, .isub, 1, [], 0), (9, .ireturn, 1, [], 0)]
def cd_Outbox_has : List iE := [(0, .iload_n 1, 1, [], 0), (1, .aload_n 0, 1, [], 0), (2, .getfield 26, 3, [], 0), (5, .if_icmp .lt 15, 3, [20], 0), (8, .iload_n 1, 1, [], 0), (9, .aload_n 0, 1, [], 0), (10, .getfield 30, 3, [], 0), (13, .if_icmp .ge 7, 3, [20], 0), (16, .iconst 1, 1, [], 1), (17, .goto 4, 3, [21], 0), (20, .iconst 0, 1, [], 0), (21, .ireturn, 1, [], 0)]
def cd_Outbox_at : List iE := [(0, .aload_n 0, 1, [], 0), (1, .getfield 11, 3, [], 0), (4, .iload_n 1, 1, [], 0), (5, .bipush 24, 2, [], 24), (7, .invokestatic 36, 3, [], 0), (10, .aaload, 1, [], 0), (11, .areturn, 1, [], 0)]
def cd_Outbox_stateOf : List iE := [(0, .aload_n 0, 1, [], 0), (1, .iload_n 1, 1, [], 0), (2, .invokevirtual 42, 3, [], 0), (5, .ifCond .eq 14, 3, [19], 0), (8, .aload_n 0, 1, [], 0), (9, .iload_n 1, 1, [], 0), (10, .invokevirtual 46, 3, [], 0), (13, .getfield 50, 3, [], 0), (16, .goto 4, 3, [20], 0), (19, .iconst 0, 1, [], 0), (20, .ireturn, 1, [], 0)]
def cd_Outbox_addMessage : List iE := [(0, .iload_n 2, 1, [], 0), (1, .ifCond .eq 7, 3, [8], 0), (4, .iconst 0, 1, [], 0), (5, .goto 9, 3, [14], 0), (8, .aload_n 0, 1, [], 0), (9, .getfield 17, 3, [], 0), (12, .iload_n 1, 1, [], 0), (13, .iaload, 1, [], 0), (14, .istore 5, 2, [], 0), (16, .iconst 0, 1, [], 0), (17, .istore 6, 2, [], 0), (19, .iload 6, 2, [], 0), (21, .iload 4, 2, [], 0), (23, .if_icmp .ge 139, 3, [162], 0), (26, .aload_n 0, 1, [], 0), (27, .aload_n 0, 1, [], 0), (28, .getfield 30, 3, [], 0), (31, .invokevirtual 46, 3, [], 0), (34, .astore 7, 2, [], 0), (36, .aload 7, 2, [], 0), (38, .getfield 53, 3, [], 0), (41, .aload_n 0, 1, [], 0), (42, .getfield 30, 3, [], 0), (45, .putfield 57, 3, [], 0), (48, .aload 7, 2, [], 0), (50, .getfield 53, 3, [], 0), (53, .iload_n 3, 1, [], 0), (54, .iload 6, 2, [], 0), (56, .iadd, 1, [], 0), (57, .putfield 62, 3, [], 0), (60, .aload 7, 2, [], 0), (62, .getfield 53, 3, [], 0), (65, .iload_n 1, 1, [], 0), (66, .putfield 65, 3, [], 0), (69, .aload 7, 2, [], 0), (71, .getfield 53, 3, [], 0), (74, .iload 5, 2, [], 0), (76, .putfield 68, 3, [], 0), (79, .aload 7, 2, [], 0), (81, .getfield 53, 3, [], 0), (84, .iload 6, 2, [], 0), (86, .ifCond .ne 7, 3, [93], 0), (89, .iconst 1, 1, [], 1), (90, .goto 4, 3, [94], 0), (93, .iconst 0, 1, [], 0), (94, .putfield 71, 3, [], 0), (97, .aload 7, 2, [], 0), (99, .getfield 53, 3, [], 0), (102, .iload 6, 2, [], 0), (104, .iload 4, 2, [], 0), (106, .iconst 1, 1, [], 1), (107, .isub, 1, [], 0), (108, .if_icmp .ne 7, 3, [115], 0), (111, .iconst 1, 1, [], 1), (112, .goto 4, 3, [116], 0), (115, .iconst 0, 1, [], 0), (116, .putfield 75, 3, [], 0), (119, .aload 7, 2, [], 0), (121, .getfield 53, 3, [], 0), (124, .iload_n 2, 1, [], 0), (125, .putfield 78, 3, [], 0), (128, .aload 7, 2, [], 0), (130, .iconst 1, 1, [], 1), (131, .putfield 50, 3, [], 0), (134, .aload 7, 2, [], 0), (136, .iconst 0, 1, [], 0), (137, .putfield 81, 3, [], 0), (140, .aload 7, 2, [], 0), (142, .iconst 0, 1, [], 0), (143, .putfield 84, 3, [], 0), (146, .aload_n 0, 1, [], 0), (147, .dup, 1, [], 0), (148, .getfield 30, 3, [], 0), (151, .iconst 1, 1, [], 1), (152, .iadd, 1, [], 0), (153, .putfield 30, 3, [], 0), (156, .iinc 6 1, 3, [], 1), (159, .goto (-140), 3, [19], 0), (162, .iload_n 2, 1, [], 0), (163, .ifCond .ne 13, 3, [176], 0), (166, .aload_n 0, 1, [], 0), (167, .getfield 17, 3, [], 0), (170, .iload_n 1, 1, [], 0), (171, .dup2, 1, [], 0), (172, .iaload, 1, [], 0), (173, .iconst 1, 1, [], 1), (174, .iadd, 1, [], 0), (175, .iastore, 1, [], 0), (176, .return_, 1, [], 0)]
def cd_Outbox_firstToSend : List iE := [(0, .aload_n 0, 1, [], 0), (1, .getfield 26, 3, [], 0), (4, .istore_n 1, 1, [], 0), (5, .iload_n 1, 1, [], 0), (6, .aload_n 0, 1, [], 0), (7, .getfield 30, 3, [], 0), (10, .if_icmp .ge 30, 3, [40], 0), (13, .aload_n 0, 1, [], 0), (14, .iload_n 1, 1, [], 0), (15, .invokevirtual 46, 3, [], 0), (18, .getfield 50, 3, [], 0), (21, .istore_n 2, 1, [], 0), (22, .iload_n 2, 1, [], 0), (23, .iconst 1, 1, [], 1), (24, .if_icmp .eq 8, 3, [32], 0), (27, .iload_n 2, 1, [], 0), (28, .iconst 3, 1, [], 3), (29, .if_icmp .ne 5, 3, [34], 0), (32, .iload_n 1, 1, [], 0), (33, .ireturn, 1, [], 0), (34, .iinc 1 1, 3, [], 1), (37, .goto (-32), 3, [5], 0), (40, .iconst (-1), 1, [], (-1)), (41, .ireturn, 1, [], 0)]
def cd_Outbox_countOut : List iE := [(0, .iconst 0, 1, [], 0), (1, .istore_n 2, 1, [], 0), (2, .aload_n 0, 1, [], 0), (3, .getfield 26, 3, [], 0), (6, .istore_n 3, 1, [], 0), (7, .iload_n 3, 1, [], 0), (8, .aload_n 0, 1, [], 0), (9, .getfield 30, 3, [], 0), (12, .if_icmp .ge 36, 3, [48], 0), (15, .aload_n 0, 1, [], 0), (16, .iload_n 3, 1, [], 0), (17, .invokevirtual 46, 3, [], 0), (20, .getfield 50, 3, [], 0), (23, .iconst 2, 1, [], 2), (24, .if_icmp .ne 18, 3, [42], 0), (27, .aload_n 0, 1, [], 0), (28, .iload_n 3, 1, [], 0), (29, .invokevirtual 46, 3, [], 0), (32, .getfield 81, 3, [], 0), (35, .iload_n 1, 1, [], 0), (36, .if_icmp .ne 6, 3, [42], 0), (39, .iinc 2 1, 3, [], 1), (42, .iinc 3 1, 3, [], 1), (45, .goto (-38), 3, [7], 0), (48, .iload_n 2, 1, [], 0), (49, .ireturn, 1, [], 0)]
def cd_Outbox_countOutOrMarked : List iE := [(0, .iconst 0, 1, [], 0), (1, .istore_n 1, 1, [], 0), (2, .aload_n 0, 1, [], 0), (3, .getfield 26, 3, [], 0), (6, .istore_n 2, 1, [], 0), (7, .iload_n 2, 1, [], 0), (8, .aload_n 0, 1, [], 0), (9, .getfield 30, 3, [], 0), (12, .if_icmp .ge 36, 3, [48], 0), (15, .aload_n 0, 1, [], 0), (16, .iload_n 2, 1, [], 0), (17, .invokevirtual 46, 3, [], 0), (20, .getfield 50, 3, [], 0), (23, .iconst 2, 1, [], 2), (24, .if_icmp .eq 15, 3, [39], 0), (27, .aload_n 0, 1, [], 0), (28, .iload_n 2, 1, [], 0), (29, .invokevirtual 46, 3, [], 0), (32, .getfield 50, 3, [], 0), (35, .iconst 3, 1, [], 3), (36, .if_icmp .ne 6, 3, [42], 0), (39, .iinc 1 1, 3, [], 1), (42, .iinc 2 1, 3, [], 1), (45, .goto (-38), 3, [7], 0), (48, .iload_n 1, 1, [], 0), (49, .ireturn, 1, [], 0)]
def cd_Outbox_markAllOut : List iE := [(0, .aload_n 0, 1, [], 0), (1, .getfield 26, 3, [], 0), (4, .istore_n 2, 1, [], 0), (5, .iload_n 2, 1, [], 0), (6, .aload_n 0, 1, [], 0), (7, .getfield 30, 3, [], 0), (10, .if_icmp .ge 42, 3, [52], 0), (13, .aload_n 0, 1, [], 0), (14, .iload_n 2, 1, [], 0), (15, .invokevirtual 46, 3, [], 0), (18, .getfield 50, 3, [], 0), (21, .iconst 2, 1, [], 2), (22, .if_icmp .ne 24, 3, [46], 0), (25, .aload_n 0, 1, [], 0), (26, .iload_n 2, 1, [], 0), (27, .invokevirtual 46, 3, [], 0), (30, .getfield 81, 3, [], 0), (33, .iload_n 1, 1, [], 0), (34, .if_icmp .ne 12, 3, [46], 0), (37, .aload_n 0, 1, [], 0), (38, .iload_n 2, 1, [], 0), (39, .invokevirtual 46, 3, [], 0), (42, .iconst 3, 1, [], 3), (43, .putfield 50, 3, [], 0), (46, .iinc 2 1, 3, [], 1), (49, .goto (-44), 3, [5], 0), (52, .return_, 1, [], 0)]
def cd_Packet_new : List iE := [(0, .aload_n 0, 1, [], 0), (1, .invokespecial 1, 3, [], 0), (4, .aload_n 0, 1, [], 0), (5, .new 7, 3, [], 0), (8, .dup, 1, [], 0), (9, .invokespecial 9, 3, [], 0), (12, .putfield 10, 3, [], 0), (15, .aload_n 0, 1, [], 0), (16, .new 16, 3, [], 0), (19, .dup, 1, [], 0), (20, .invokespecial 18, 3, [], 0), (23, .putfield 19, 3, [], 0), (26, .return_, 1, [], 0)]
def cd_Packet_copyFrom : List iE := [(0, .aload_n 0, 1, [], 0), (1, .aload_n 1, 1, [], 0), (2, .getfield 23, 3, [], 0), (5, .putfield 23, 3, [], 0), (8, .aload_n 0, 1, [], 0), (9, .aload_n 1, 1, [], 0), (10, .getfield 27, 3, [], 0), (13, .putfield 27, 3, [], 0), (16, .aload_n 0, 1, [], 0), (17, .aload_n 1, 1, [], 0), (18, .getfield 30, 3, [], 0), (21, .putfield 30, 3, [], 0), (24, .aload_n 0, 1, [], 0), (25, .getfield 10, 3, [], 0), (28, .aload_n 1, 1, [], 0), (29, .getfield 10, 3, [], 0), (32, .invokevirtual 33, 3, [], 0), (35, .aload_n 0, 1, [], 0), (36, .getfield 19, 3, [], 0), (39, .aload_n 1, 1, [], 0), (40, .getfield 19, 3, [], 0), (43, .invokevirtual 37, 3, [], 0), (46, .aload_n 0, 1, [], 0), (47, .aload_n 1, 1, [], 0), (48, .getfield 40, 3, [], 0), (51, .putfield 40, 3, [], 0), (54, .aload_n 0, 1, [], 0), (55, .aload_n 1, 1, [], 0), (56, .getfield 43, 3, [], 0), (59, .putfield 43, 3, [], 0), (62, .aload_n 0, 1, [], 0), (63, .aload_n 1, 1, [], 0), (64, .getfield 46, 3, [], 0), (67, .putfield 46, 3, [], 0), (70, .aload_n 0, 1, [], 0), (71, .aload_n 1, 1, [], 0), (72, .getfield 49, 3, [], 0), (75, .putfield 49, 3, [], 0), (78, .return_, 1, [], 0)]
def cd_Path_new : List iE := [(0, .aload_n 0, 1, [], 0), (1, .invokespecial 3, 3, [], 0), (4, .aload_n 0, 1, [], 0), (5, .new 9, 3, [], 0), (8, .dup, 1, [], 0), (9, .invokespecial 11, 3, [], 0), (12, .putfield 12, 3, [], 0), (15, .return_, 1, [], 0)]
def cd_Path_reset : List iE := [(0, .aload_n 0, 1, [], 0), (1, .iconst 2, 1, [], 2), (2, .putfield 18, 3, [], 0), (5, .aload_n 0, 1, [], 0), (6, .iconst 3, 1, [], 3), (7, .putfield 22, 3, [], 0), (10, .aload_n 0, 1, [], 0), (11, .iconst 0, 1, [], 0), (12, .putfield 25, 3, [], 0), (15, .aload_n 0, 1, [], 0), (16, .iconst 1, 1, [], 1), (17, .putfield 28, 3, [], 0), (20, .aload_n 0, 1, [], 0), (21, .iconst 0, 1, [], 0), (22, .putfield 32, 3, [], 0), (25, .aload_n 0, 1, [], 0), (26, .iconst 0, 1, [], 0), (27, .putfield 35, 3, [], 0), (30, .aload_n 0, 1, [], 0), (31, .iconst 0, 1, [], 0), (32, .putfield 38, 3, [], 0), (35, .aload_n 0, 1, [], 0), (36, .iconst 0, 1, [], 0), (37, .putfield 41, 3, [], 0), (40, .aload_n 0, 1, [], 0), (41, .iconst 0, 1, [], 0), (42, .putfield 44, 3, [], 0), (45, .return_, 1, [], 0)]
def cd_Path_startTimer : List iE := [(0, .aload_n 0, 1, [], 0), (1, .iconst 1, 1, [], 1), (2, .putfield 32, 3, [], 0), (5, .aload_n 0, 1, [], 0), (6, .iload_n 1, 1, [], 0), (7, .aload_n 0, 1, [], 0), (8, .getfield 22, 3, [], 0), (11, .iadd, 1, [], 0), (12, .putfield 35, 3, [], 0), (15, .return_, 1, [], 0)]
def cd_Path_slowDown : List iE := [(0, .aload_n 0, 1, [], 0), (1, .iconst 1, 1, [], 1), (2, .putfield 18, 3, [], 0), (5, .aload_n 0, 1, [], 0), (6, .bipush 24, 2, [], 24), (8, .aload_n 0, 1, [], 0), (9, .getfield 22, 3, [], 0), (12, .iconst 2, 1, [], 2), (13, .imul, 1, [], 0), (14, .invokestatic 47, 3, [], 0), (17, .putfield 22, 3, [], 0), (20, .aload_n 0, 1, [], 0), (21, .iconst 0, 1, [], 0), (22, .putfield 32, 3, [], 0), (25, .return_, 1, [], 0)]
def cd_Path_reward : List iE := [(0, .aload_n 0, 1, [], 0), (1, .iconst 0, 1, [], 0), (2, .putfield 25, 3, [], 0), (5, .aload_n 0, 1, [], 0), (6, .iconst 3, 1, [], 3), (7, .putfield 22, 3, [], 0), (10, .aload_n 0, 1, [], 0), (11, .bipush 8, 2, [], 8), (13, .aload_n 0, 1, [], 0), (14, .getfield 18, 3, [], 0), (17, .iconst 1, 1, [], 1), (18, .iadd, 1, [], 0), (19, .invokestatic 47, 3, [], 0), (22, .putfield 18, 3, [], 0), (25, .aload_n 0, 1, [], 0), (26, .iconst 1, 1, [], 1), (27, .putfield 28, 3, [], 0), (30, .return_, 1, [], 0)]
def cd_ReadyList_new : List iE := [(0, .aload_n 0, 1, [], 0), (1, .invokespecial 3, 3, [], 0), (4, .aload_n 0, 1, [], 0), (5, .sipush 512, 3, [], 512), (8, .newarray .int, 2, [], 0), (10, .putfield 9, 3, [], 0), (13, .aload_n 0, 1, [], 0), (14, .sipush 512, 3, [], 512), (17, .newarray .int, 2, [], 0), (19, .putfield 15, 3, [], 0), (22, .aload_n 0, 1, [], 0), (23, .sipush 512, 3, [], 512), (26, .newarray .int, 2, [], 0), (28, .putfield 18, 3, [], 0), (31, .aload_n 0, 1, [], 0), (32, .iconst 0, 1, [], 0), (33, .putfield 21, 3, [], 0), (36, .aload_n 0, 1, [], 0), (37, .iconst 0, 1, [], 0), (38, .putfield 25, 3, [], 0), (41, .return_, 1, [], 0)]
def cd_ReadyList_add : List iE := [(0, .aload_n 0, 1, [], 0), (1, .getfield 21, 3, [], 0), (4, .sipush 512, 3, [], 512), (7, .if_icmp .ge 53, 3, [60], 0), (10, .aload_n 0, 1, [], 0), (11, .getfield 9, 3, [], 0), (14, .aload_n 0, 1, [], 0), (15, .getfield 21, 3, [], 0), (18, .iload_n 1, 1, [], 0), (19, .iastore, 1, [], 0), (20, .aload_n 0, 1, [], 0), (21, .getfield 15, 3, [], 0), (24, .aload_n 0, 1, [], 0), (25, .getfield 21, 3, [], 0), (28, .iload_n 2, 1, [], 0), (29, .iastore, 1, [], 0), (30, .aload_n 0, 1, [], 0), (31, .getfield 18, 3, [], 0), (34, .aload_n 0, 1, [], 0), (35, .getfield 21, 3, [], 0), (38, .iload_n 3, 1, [], 0), (39, .iastore, 1, [], 0), (40, .aload_n 0, 1, [], 0), (41, .dup, 1, [], 0), (42, .getfield 21, 3, [], 0), (45, .iconst 1, 1, [], 1), (46, .iadd, 1, [], 0), (47, .putfield 21, 3, [], 0), (50, .aload_n 0, 1, [], 0), (51, .dup, 1, [], 0), (52, .getfield 25, 3, [], 0), (55, .iload_n 3, 1, [], 0), (56, .iadd, 1, [], 0), (57, .putfield 25, 3, [], 0), (60, .return_, 1, [], 0)]
def cd_ReadyList_countOf : List iE := [(0, .iconst 0, 1, [], 0), (1, .istore_n 2, 1, [], 0), (2, .iconst 0, 1, [], 0), (3, .istore_n 3, 1, [], 0), (4, .iload_n 3, 1, [], 0), (5, .aload_n 0, 1, [], 0), (6, .getfield 21, 3, [], 0), (9, .if_icmp .ge 22, 3, [31], 0), (12, .aload_n 0, 1, [], 0), (13, .getfield 9, 3, [], 0), (16, .iload_n 3, 1, [], 0), (17, .iaload, 1, [], 0), (18, .iload_n 1, 1, [], 0), (19, .if_icmp .ne 6, 3, [25], 0), (22, .iinc 2 1, 3, [], 1), (25, .iinc 3 1, 3, [], 1), (28, .goto (-24), 3, [4], 0), (31, .iload_n 2, 1, [], 0), (32, .ireturn, 1, [], 0)]
def cd_ReadyList_firstLength : List iE := [(0, .aload_n 0, 1, [], 0), (1, .iload_n 1, 1, [], 0), (2, .invokevirtual 28, 3, [], 0), (5, .istore_n 2, 1, [], 0), (6, .iload_n 2, 1, [], 0), (7, .iconst (-1), 1, [], (-1)), (8, .if_icmp .ne 7, 3, [15], 0), (11, .iconst 0, 1, [], 0), (12, .goto 9, 3, [21], 0), (15, .aload_n 0, 1, [], 0), (16, .getfield 18, 3, [], 0), (19, .iload_n 2, 1, [], 0), (20, .iaload, 1, [], 0), (21, .ireturn, 1, [], 0)]
def cd_ReadyList_takeFirst : List iE := [(0, .aload_n 0, 1, [], 0), (1, .iload_n 1, 1, [], 0), (2, .invokevirtual 28, 3, [], 0), (5, .istore_n 2, 1, [], 0), (6, .iload_n 2, 1, [], 0), (7, .iconst (-1), 1, [], (-1)), (8, .if_icmp .ne 5, 3, [13], 0), (11, .iconst 0, 1, [], 0), (12, .ireturn, 1, [], 0), (13, .aload_n 0, 1, [], 0), (14, .getfield 15, 3, [], 0), (17, .iload_n 2, 1, [], 0), (18, .iaload, 1, [], 0), (19, .istore_n 3, 1, [], 0), (20, .aload_n 0, 1, [], 0), (21, .dup, 1, [], 0), (22, .getfield 25, 3, [], 0), (25, .aload_n 0, 1, [], 0), (26, .getfield 18, 3, [], 0), (29, .iload_n 2, 1, [], 0), (30, .iaload, 1, [], 0), (31, .isub, 1, [], 0), (32, .putfield 25, 3, [], 0), (35, .aload_n 0, 1, [], 0), (36, .dup, 1, [], 0), (37, .getfield 21, 3, [], 0), (40, .iconst 1, 1, [], 1), (41, .isub, 1, [], 0), (42, .putfield 21, 3, [], 0), (45, .iload_n 2, 1, [], 0), (46, .istore 4, 2, [], 0), (48, .iload 4, 2, [], 0), (50, .aload_n 0, 1, [], 0), (51, .getfield 21, 3, [], 0), (54, .if_icmp .ge 57, 3, [111], 0), (57, .aload_n 0, 1, [], 0), (58, .getfield 9, 3, [], 0), (61, .iload 4, 2, [], 0), (63, .aload_n 0, 1, [], 0), (64, .getfield 9, 3, [], 0), (67, .iload 4, 2, [], 0), (69, .iconst 1, 1, [], 1), (70, .iadd, 1, [], 0), (71, .iaload, 1, [], 0), (72, .iastore, 1, [], 0), (73, .aload_n 0, 1, [], 0), (74, .getfield 15, 3, [], 0), (77, .iload 4, 2, [], 0), (79, .aload_n 0, 1, [], 0), (80, .getfield 15, 3, [], 0), (83, .iload 4, 2, [], 0), (85, .iconst 1, 1, [], 1), (86, .iadd, 1, [], 0), (87, .iaload, 1, [], 0), (88, .iastore, 1, [], 0), (89, .aload_n 0, 1, [], 0), (90, .getfield 18, 3, [], 0), (93, .iload 4, 2, [], 0), (95, .aload_n 0, 1, [], 0), (96, .getfield 18, 3, [], 0), (99, .iload 4, 2, [], 0), (101, .iconst 1, 1, [], 1), (102, .iadd, 1, [], 0), (103, .iaload, 1, [], 0), (104, .iastore, 1, [], 0), (105, .iinc 4 1, 3, [], 1), (108, .goto (-60), 3, [48], 0), (111, .iload_n 3, 1, [], 0), (112, .ireturn, 1, [], 0)]
def cd_ReadyList_firstOf : List iE := [(0, .iconst 0, 1, [], 0), (1, .istore_n 2, 1, [], 0), (2, .iload_n 2, 1, [], 0), (3, .aload_n 0, 1, [], 0), (4, .getfield 21, 3, [], 0), (7, .if_icmp .ge 21, 3, [28], 0), (10, .aload_n 0, 1, [], 0), (11, .getfield 9, 3, [], 0), (14, .iload_n 2, 1, [], 0), (15, .iaload, 1, [], 0), (16, .iload_n 1, 1, [], 0), (17, .if_icmp .ne 5, 3, [22], 0), (20, .iload_n 2, 1, [], 0), (21, .ireturn, 1, [], 0), (22, .iinc 2 1, 3, [], 1), (25, .goto (-23), 3, [2], 0), (28, .iconst (-1), 1, [], (-1)), (29, .ireturn, 1, [], 0)]
def cd_Row_new : List iE := [(0, .aload_n 0, 1, [], 0), (1, .invokespecial 3, 3, [], 0), (4, .aload_n 0, 1, [], 0), (5, .bipush 8, 2, [], 8), (7, .anewarray 9, 3, [], 0), (10, .putfield 11, 3, [], 0), (13, .aload_n 0, 1, [], 0), (14, .new 9, 3, [], 0), (17, .dup, 1, [], 0), (18, .invokespecial 17, 3, [], 0), (21, .putfield 18, 3, [], 0), (24, .aload_n 0, 1, [], 0), (25, .iconst 0, 1, [], 0), (26, .putfield 22, 3, [], 0), (29, .aload_n 0, 1, [], 0), (30, .iconst 0, 1, [], 0), (31, .putfield 26, 3, [], 0), (34, .iconst 0, 1, [], 0), (35, .istore_n 1, 1, [], 0), (36, .iload_n 1, 1, [], 0), (37, .bipush 8, 2, [], 8), (39, .if_icmp .ge 22, 3, [61], 0), (42, .aload_n 0, 1, [], 0), (43, .getfield 11, 3, [], 0), (46, .iload_n 1, 1, [], 0), (47, .new 9, 3, [], 0), (50, .dup, 1, [], 0), (51, .invokespecial 17, 3, [], 0), (54, .aastore, 1, [], 0), (55, .iinc 1 1, 3, [], 1), (58, .goto (-22), 3, [36], 0), (61, .return_, 1, [], 0)]
def cd_Row_isFull : List iE := [(0, .aload_n 0, 1, [], 0), (1, .getfield 26, 3, [], 0), (4, .bipush 8, 2, [], 8), (6, .if_icmp .lt 7, 3, [13], 0), (9, .iconst 1, 1, [], 1), (10, .goto 4, 3, [14], 0), (13, .iconst 0, 1, [], 0), (14, .ireturn, 1, [], 0)]
def cd_Row_oldest : List iE := [(0, .aload_n 0, 1, [], 0), (1, .getfield 11, 3, [], 0), (4, .aload_n 0, 1, [], 0), (5, .getfield 22, 3, [], 0), (8, .aaload, 1, [], 0), (9, .areturn, 1, [], 0)]
def cd_Row_removeOldest : List iE := [(0, .aload_n 0, 1, [], 0), (1, .getfield 26, 3, [], 0), (4, .ifCond .le 26, 3, [30], 0), (7, .aload_n 0, 1, [], 0), (8, .aload_n 0, 1, [], 0), (9, .getfield 22, 3, [], 0), (12, .iconst 1, 1, [], 1), (13, .iadd, 1, [], 0), (14, .bipush 8, 2, [], 8), (16, .irem, 1, [], 0), (17, .putfield 22, 3, [], 0), (20, .aload_n 0, 1, [], 0), (21, .dup, 1, [], 0), (22, .getfield 26, 3, [], 0), (25, .iconst 1, 1, [], 1), (26, .isub, 1, [], 0), (27, .putfield 26, 3, [], 0), (30, .return_, 1, [], 0)]
def cd_Row_addNew : List iE := [(0, .aload_n 0, 1, [], 0), (1, .invokevirtual 29, 3, [], 0), (4, .ifCond .eq 8, 3, [12], 0), (7, .aload_n 0, 1, [], 0), (8, .getfield 18, 3, [], 0), (11, .areturn, 1, [], 0), (12, .aload_n 0, 1, [], 0), (13, .getfield 11, 3, [], 0), (16, .aload_n 0, 1, [], 0), (17, .getfield 22, 3, [], 0), (20, .aload_n 0, 1, [], 0), (21, .getfield 26, 3, [], 0), (24, .iadd, 1, [], 0), (25, .bipush 8, 2, [], 8), (27, .irem, 1, [], 0), (28, .aaload, 1, [], 0), (29, .astore_n 1, 1, [], 0), (30, .aload_n 0, 1, [], 0), (31, .dup, 1, [], 0), (32, .getfield 26, 3, [], 0), (35, .iconst 1, 1, [], 1), (36, .iadd, 1, [], 0), (37, .putfield 26, 3, [], 0), (40, .aload_n 1, 1, [], 0), (41, .areturn, 1, [], 0)]
def cd_SentWord_new : List iE := [(0, .aload_n 0, 1, [], 0), (1, .invokespecial 1, 3, [], 0), (4, .aload_n 0, 1, [], 0), (5, .new 7, 3, [], 0), (8, .dup, 1, [], 0), (9, .invokespecial 9, 3, [], 0), (12, .putfield 10, 3, [], 0), (15, .return_, 1, [], 0)]
def cd_TagList_new : List iE := [(0, .aload_n 0, 1, [], 0), (1, .invokespecial 3, 3, [], 0), (4, .aload_n 0, 1, [], 0), (5, .sipush 512, 3, [], 512), (8, .newarray .int, 2, [], 0), (10, .putfield 9, 3, [], 0), (13, .aload_n 0, 1, [], 0), (14, .iconst 0, 1, [], 0), (15, .putfield 15, 3, [], 0), (18, .return_, 1, [], 0)]
def cd_TagList_add : List iE := [(0, .iconst 0, 1, [], 0), (1, .istore_n 2, 1, [], 0), (2, .iload_n 2, 1, [], 0), (3, .aload_n 0, 1, [], 0), (4, .getfield 15, 3, [], 0), (7, .if_icmp .ge 21, 3, [28], 0), (10, .aload_n 0, 1, [], 0), (11, .getfield 9, 3, [], 0), (14, .iload_n 2, 1, [], 0), (15, .iaload, 1, [], 0), (16, .iload_n 1, 1, [], 0), (17, .if_icmp .ne 5, 3, [22], 0), (20, .iconst 0, 1, [], 0), (21, .ireturn, 1, [], 0), (22, .iinc 2 1, 3, [], 1), (25, .goto (-23), 3, [2], 0), (28, .aload_n 0, 1, [], 0), (29, .getfield 15, 3, [], 0), (32, .sipush 512, 3, [], 512), (35, .if_icmp .lt 5, 3, [40], 0), (38, .iconst 0, 1, [], 0), (39, .ireturn, 1, [], 0), (40, .aload_n 0, 1, [], 0), (41, .getfield 9, 3, [], 0), (44, .aload_n 0, 1, [], 0), (45, .getfield 15, 3, [], 0), (48, .iload_n 1, 1, [], 0), (49, .iastore, 1, [], 0), (50, .aload_n 0, 1, [], 0), (51, .dup, 1, [], 0), (52, .getfield 15, 3, [], 0), (55, .iconst 1, 1, [], 1), (56, .iadd, 1, [], 0), (57, .putfield 15, 3, [], 0), (60, .iconst 1, 1, [], 1), (61, .ireturn, 1, [], 0)]
def cd_Word_new : List iE := [(0, .aload_n 0, 1, [], 0), (1, .invokespecial 1, 3, [], 0), (4, .return_, 1, [], 0)]
def cd_Word_copyFrom : List iE := [(0, .aload_n 0, 1, [], 0), (1, .aload_n 1, 1, [], 0), (2, .getfield 7, 3, [], 0), (5, .putfield 7, 3, [], 0), (8, .aload_n 0, 1, [], 0), (9, .aload_n 1, 1, [], 0), (10, .getfield 13, 3, [], 0), (13, .putfield 13, 3, [], 0), (16, .aload_n 0, 1, [], 0), (17, .aload_n 1, 1, [], 0), (18, .getfield 16, 3, [], 0), (21, .putfield 16, 3, [], 0), (24, .aload_n 0, 1, [], 0), (25, .aload_n 1, 1, [], 0), (26, .getfield 19, 3, [], 0), (29, .putfield 19, 3, [], 0), (32, .aload_n 0, 1, [], 0), (33, .aload_n 1, 1, [], 0), (34, .getfield 22, 3, [], 0), (37, .putfield 22, 3, [], 0), (40, .aload_n 0, 1, [], 0), (41, .aload_n 1, 1, [], 0), (42, .getfield 26, 3, [], 0), (45, .putfield 26, 3, [], 0), (48, .aload_n 0, 1, [], 0), (49, .aload_n 1, 1, [], 0), (50, .getfield 29, 3, [], 0), (53, .putfield 29, 3, [], 0), (56, .return_, 1, [], 0)]
def cd_Law_cell : List iE := [(0, .iload_n 1, 1, [], 0), (1, .aload_n 0, 1, [], 0), (2, .arraylength, 1, [], 0), (3, .if_icmp .ge 9, 3, [12], 0), (6, .aload_n 0, 1, [], 0), (7, .iload_n 1, 1, [], 0), (8, .iaload, 1, [], 0), (9, .goto 4, 3, [13], 0), (12, .iconst 0, 1, [], 0), (13, .ireturn, 1, [], 0)]
def cd_Math_floorMod : List iE := [(0, .iload_n 0, 1, [], 0), (1, .iload_n 1, 1, [], 0), (2, .irem, 1, [], 0), (3, .istore_n 2, 1, [], 0), (4, .iload_n 2, 1, [], 0), (5, .iload_n 1, 1, [], 0), (6, .ixor, 1, [], 0), (7, .ifCond .ge 11, 3, [18], 0), (10, .iload_n 2, 1, [], 0), (11, .ifCond .eq 7, 3, [18], 0), (14, .iload_n 2, 1, [], 0), (15, .iload_n 1, 1, [], 0), (16, .iadd, 1, [], 0), (17, .istore_n 2, 1, [], 0), (18, .iload_n 2, 1, [], 0), (19, .ireturn, 1, [], 0)]
def cd_Math_max : List iE := [(0, .iload_n 0, 1, [], 0), (1, .iload_n 1, 1, [], 0), (2, .if_icmp .lt 7, 3, [9], 0), (5, .iload_n 0, 1, [], 0), (6, .goto 4, 3, [10], 0), (9, .iload_n 1, 1, [], 0), (10, .ireturn, 1, [], 0)]
def cd_Math_min : List iE := [(0, .iload_n 0, 1, [], 0), (1, .iload_n 1, 1, [], 0), (2, .if_icmp .gt 7, 3, [9], 0), (5, .iload_n 0, 1, [], 0), (6, .goto 4, 3, [10], 0), (9, .iload_n 1, 1, [], 0), (10, .ireturn, 1, [], 0)]
def cd_Law_law : List iE := [(0, .new 7, 3, [], 0), (3, .dup, 1, [], 0), (4, .aload_n 0, 1, [], 0), (5, .iconst 0, 1, [], 0), (6, .invokestatic 9, 3, [], 0), (9, .aload_n 0, 1, [], 0), (10, .iconst 1, 1, [], 1), (11, .invokestatic 9, 3, [], 0), (14, .aload_n 0, 1, [], 0), (15, .iconst 2, 1, [], 2), (16, .invokestatic 9, 3, [], 0), (19, .invokespecial 15, 3, [], 0), (22, .astore_n 1, 1, [], 0), (23, .new 18, 3, [], 0), (26, .dup, 1, [], 0), (27, .aload_n 0, 1, [], 0), (28, .iconst 0, 1, [], 0), (29, .invokestatic 9, 3, [], 0), (32, .aload_n 0, 1, [], 0), (33, .iconst 1, 1, [], 1), (34, .invokestatic 9, 3, [], 0), (37, .aload_n 0, 1, [], 0), (38, .iconst 2, 1, [], 2), (39, .invokestatic 9, 3, [], 0), (42, .invokespecial 20, 3, [], 0), (45, .astore_n 2, 1, [], 0), (46, .iconst 3, 1, [], 3), (47, .istore_n 3, 1, [], 0), (48, .iload_n 3, 1, [], 0), (49, .aload_n 0, 1, [], 0), (50, .arraylength, 1, [], 0), (51, .bipush 8, 2, [], 8), (53, .isub, 1, [], 0), (54, .if_icmp .gt 679, 3, [733], 0), (57, .aload_n 0, 1, [], 0), (58, .iload_n 3, 1, [], 0), (59, .iaload, 1, [], 0), (60, .bipush 15, 2, [], 15), (62, .iand, 1, [], 0), (63, .tableswitch 664 0 14 #[73, 96, 175, 208, 267, 354, 367, 400, 433, 466, 489, 522, 555, 598, 631], 73, [727, 136, 159, 238, 271, 330, 417, 430, 463, 496, 529, 552, 585, 618, 661, 694], 0), (136, .aload_n 1, 1, [], 0), (137, .aload_n 0, 1, [], 0), (138, .iload_n 3, 1, [], 0), (139, .iconst 1, 1, [], 1), (140, .iadd, 1, [], 0), (141, .iaload, 1, [], 0), (142, .invokevirtual 21, 3, [], 0), (145, .aload_n 2, 1, [], 0), (146, .aload_n 0, 1, [], 0), (147, .iload_n 3, 1, [], 0), (148, .iconst 1, 1, [], 1), (149, .iadd, 1, [], 0), (150, .iaload, 1, [], 0), (151, .invokevirtual 25, 3, [], 0), (154, .if_icmp .eq 573, 3, [727], 0), (157, .iconst 0, 1, [], 0), (158, .ireturn, 1, [], 0), (159, .aload_n 1, 1, [], 0), (160, .aload_n 0, 1, [], 0), (161, .iload_n 3, 1, [], 0), (162, .iconst 1, 1, [], 1), (163, .iadd, 1, [], 0), (164, .iaload, 1, [], 0), (165, .aload_n 0, 1, [], 0), (166, .iload_n 3, 1, [], 0), (167, .iconst 2, 1, [], 2), (168, .iadd, 1, [], 0), (169, .iaload, 1, [], 0), (170, .aload_n 0, 1, [], 0), (171, .iload_n 3, 1, [], 0), (172, .iconst 3, 1, [], 3), (173, .iadd, 1, [], 0), (174, .iaload, 1, [], 0), (175, .ifCond .eq 7, 3, [182], 0), (178, .iconst 1, 1, [], 1), (179, .goto 4, 3, [183], 0), (182, .iconst 0, 1, [], 0), (183, .aload_n 0, 1, [], 0), (184, .iload_n 3, 1, [], 0), (185, .iconst 4, 1, [], 4), (186, .iadd, 1, [], 0), (187, .iaload, 1, [], 0), (188, .aload_n 0, 1, [], 0), (189, .iload_n 3, 1, [], 0), (190, .iconst 5, 1, [], 5), (191, .iadd, 1, [], 0), (192, .iaload, 1, [], 0), (193, .invokevirtual 26, 3, [], 0), (196, .aload_n 2, 1, [], 0), (197, .aload_n 0, 1, [], 0), (198, .iload_n 3, 1, [], 0), (199, .iconst 1, 1, [], 1), (200, .iadd, 1, [], 0), (201, .iaload, 1, [], 0), (202, .aload_n 0, 1, [], 0), (203, .iload_n 3, 1, [], 0), (204, .iconst 2, 1, [], 2), (205, .iadd, 1, [], 0), (206, .iaload, 1, [], 0), (207, .aload_n 0, 1, [], 0), (208, .iload_n 3, 1, [], 0), (209, .iconst 3, 1, [], 3), (210, .iadd, 1, [], 0), (211, .iaload, 1, [], 0), (212, .ifCond .eq 7, 3, [219], 0), (215, .iconst 1, 1, [], 1), (216, .goto 4, 3, [220], 0), (219, .iconst 0, 1, [], 0), (220, .aload_n 0, 1, [], 0), (221, .iload_n 3, 1, [], 0), (222, .iconst 4, 1, [], 4), (223, .iadd, 1, [], 0), (224, .iaload, 1, [], 0), (225, .aload_n 0, 1, [], 0), (226, .iload_n 3, 1, [], 0), (227, .iconst 5, 1, [], 5), (228, .iadd, 1, [], 0), (229, .iaload, 1, [], 0), (230, .invokevirtual 30, 3, [], 0), (233, .if_icmp .eq 494, 3, [727], 0), (236, .iconst 0, 1, [], 0), (237, .ireturn, 1, [], 0), (238, .aload_n 1, 1, [], 0), (239, .aload_n 0, 1, [], 0), (240, .iload_n 3, 1, [], 0), (241, .iconst 1, 1, [], 1), (242, .iadd, 1, [], 0), (243, .iaload, 1, [], 0), (244, .aload_n 0, 1, [], 0), (245, .iload_n 3, 1, [], 0), (246, .iconst 2, 1, [], 2), (247, .iadd, 1, [], 0), (248, .iaload, 1, [], 0), (249, .invokevirtual 31, 3, [], 0), (252, .aload_n 2, 1, [], 0), (253, .aload_n 0, 1, [], 0), (254, .iload_n 3, 1, [], 0), (255, .iconst 1, 1, [], 1), (256, .iadd, 1, [], 0), (257, .iaload, 1, [], 0), (258, .aload_n 0, 1, [], 0), (259, .iload_n 3, 1, [], 0), (260, .iconst 2, 1, [], 2), (261, .iadd, 1, [], 0), (262, .iaload, 1, [], 0), (263, .invokevirtual 35, 3, [], 0), (266, .if_icmp .eq 461, 3, [727], 0), (269, .iconst 0, 1, [], 0), (270, .ireturn, 1, [], 0), (271, .aload_n 1, 1, [], 0), (272, .aload_n 0, 1, [], 0), (273, .iload_n 3, 1, [], 0), (274, .iconst 1, 1, [], 1), (275, .iadd, 1, [], 0), (276, .iaload, 1, [], 0), (277, .aload_n 0, 1, [], 0), (278, .iload_n 3, 1, [], 0), (279, .iconst 2, 1, [], 2), (280, .iadd, 1, [], 0), (281, .iaload, 1, [], 0), (282, .aload_n 0, 1, [], 0), (283, .iload_n 3, 1, [], 0), (284, .iconst 3, 1, [], 3), (285, .iadd, 1, [], 0), (286, .iaload, 1, [], 0), (287, .ifCond .eq 7, 3, [294], 0), (290, .iconst 1, 1, [], 1), (291, .goto 4, 3, [295], 0), (294, .iconst 0, 1, [], 0), (295, .invokevirtual 36, 3, [], 0), (298, .aload_n 2, 1, [], 0), (299, .aload_n 0, 1, [], 0), (300, .iload_n 3, 1, [], 0), (301, .iconst 1, 1, [], 1), (302, .iadd, 1, [], 0), (303, .iaload, 1, [], 0), (304, .aload_n 0, 1, [], 0), (305, .iload_n 3, 1, [], 0), (306, .iconst 2, 1, [], 2), (307, .iadd, 1, [], 0), (308, .iaload, 1, [], 0), (309, .aload_n 0, 1, [], 0), (310, .iload_n 3, 1, [], 0), (311, .iconst 3, 1, [], 3), (312, .iadd, 1, [], 0), (313, .iaload, 1, [], 0), (314, .ifCond .eq 7, 3, [321], 0), (317, .iconst 1, 1, [], 1), (318, .goto 4, 3, [322], 0), (321, .iconst 0, 1, [], 0), (322, .invokevirtual 40, 3, [], 0), (325, .if_icmp .eq 402, 3, [727], 0), (328, .iconst 0, 1, [], 0), (329, .ireturn, 1, [], 0), (330, .aload_n 1, 1, [], 0), (331, .aload_n 0, 1, [], 0), (332, .iload_n 3, 1, [], 0), (333, .iconst 1, 1, [], 1), (334, .iadd, 1, [], 0), (335, .iaload, 1, [], 0), (336, .aload_n 0, 1, [], 0), (337, .iload_n 3, 1, [], 0), (338, .iconst 2, 1, [], 2), (339, .iadd, 1, [], 0), (340, .iaload, 1, [], 0), (341, .aload_n 0, 1, [], 0), (342, .iload_n 3, 1, [], 0), (343, .iconst 3, 1, [], 3), (344, .iadd, 1, [], 0), (345, .iaload, 1, [], 0), (346, .aload_n 0, 1, [], 0), (347, .iload_n 3, 1, [], 0), (348, .iconst 4, 1, [], 4), (349, .iadd, 1, [], 0), (350, .iaload, 1, [], 0), (351, .aload_n 0, 1, [], 0), (352, .iload_n 3, 1, [], 0), (353, .iconst 5, 1, [], 5), (354, .iadd, 1, [], 0), (355, .iaload, 1, [], 0), (356, .aload_n 0, 1, [], 0), (357, .iload_n 3, 1, [], 0), (358, .bipush 6, 2, [], 6), (360, .iadd, 1, [], 0), (361, .iaload, 1, [], 0), (362, .aload_n 0, 1, [], 0), (363, .iload_n 3, 1, [], 0), (364, .bipush 7, 2, [], 7), (366, .iadd, 1, [], 0), (367, .iaload, 1, [], 0), (368, .invokevirtual 41, 3, [], 0), (371, .aload_n 2, 1, [], 0), (372, .aload_n 0, 1, [], 0), (373, .iload_n 3, 1, [], 0), (374, .iconst 1, 1, [], 1), (375, .iadd, 1, [], 0), (376, .iaload, 1, [], 0), (377, .aload_n 0, 1, [], 0), (378, .iload_n 3, 1, [], 0), (379, .iconst 2, 1, [], 2), (380, .iadd, 1, [], 0), (381, .iaload, 1, [], 0), (382, .aload_n 0, 1, [], 0), (383, .iload_n 3, 1, [], 0), (384, .iconst 3, 1, [], 3), (385, .iadd, 1, [], 0), (386, .iaload, 1, [], 0), (387, .aload_n 0, 1, [], 0), (388, .iload_n 3, 1, [], 0), (389, .iconst 4, 1, [], 4), (390, .iadd, 1, [], 0), (391, .iaload, 1, [], 0), (392, .aload_n 0, 1, [], 0), (393, .iload_n 3, 1, [], 0), (394, .iconst 5, 1, [], 5), (395, .iadd, 1, [], 0), (396, .iaload, 1, [], 0), (397, .aload_n 0, 1, [], 0), (398, .iload_n 3, 1, [], 0), (399, .bipush 6, 2, [], 6), (401, .iadd, 1, [], 0), (402, .iaload, 1, [], 0), (403, .aload_n 0, 1, [], 0), (404, .iload_n 3, 1, [], 0), (405, .bipush 7, 2, [], 7), (407, .iadd, 1, [], 0), (408, .iaload, 1, [], 0), (409, .invokevirtual 45, 3, [], 0), (412, .if_icmp .eq 315, 3, [727], 0), (415, .iconst 0, 1, [], 0), (416, .ireturn, 1, [], 0), (417, .aload_n 1, 1, [], 0), (418, .invokevirtual 46, 3, [], 0), (421, .aload_n 2, 1, [], 0), (422, .invokevirtual 50, 3, [], 0), (425, .if_icmp .eq 302, 3, [727], 0), (428, .iconst 0, 1, [], 0), (429, .ireturn, 1, [], 0), (430, .aload_n 1, 1, [], 0), (431, .aload_n 0, 1, [], 0), (432, .iload_n 3, 1, [], 0), (433, .iconst 1, 1, [], 1), (434, .iadd, 1, [], 0), (435, .iaload, 1, [], 0), (436, .aload_n 0, 1, [], 0), (437, .iload_n 3, 1, [], 0), (438, .iconst 2, 1, [], 2), (439, .iadd, 1, [], 0), (440, .iaload, 1, [], 0), (441, .invokevirtual 51, 3, [], 0), (444, .aload_n 2, 1, [], 0), (445, .aload_n 0, 1, [], 0), (446, .iload_n 3, 1, [], 0), (447, .iconst 1, 1, [], 1), (448, .iadd, 1, [], 0), (449, .iaload, 1, [], 0), (450, .aload_n 0, 1, [], 0), (451, .iload_n 3, 1, [], 0), (452, .iconst 2, 1, [], 2), (453, .iadd, 1, [], 0), (454, .iaload, 1, [], 0), (455, .invokevirtual 54, 3, [], 0), (458, .if_icmp .eq 269, 3, [727], 0), (461, .iconst 0, 1, [], 0), (462, .ireturn, 1, [], 0), (463, .aload_n 1, 1, [], 0), (464, .aload_n 0, 1, [], 0), (465, .iload_n 3, 1, [], 0), (466, .iconst 1, 1, [], 1), (467, .iadd, 1, [], 0), (468, .iaload, 1, [], 0), (469, .aload_n 0, 1, [], 0), (470, .iload_n 3, 1, [], 0), (471, .iconst 2, 1, [], 2), (472, .iadd, 1, [], 0), (473, .iaload, 1, [], 0), (474, .invokevirtual 55, 3, [], 0), (477, .aload_n 2, 1, [], 0), (478, .aload_n 0, 1, [], 0), (479, .iload_n 3, 1, [], 0), (480, .iconst 1, 1, [], 1), (481, .iadd, 1, [], 0), (482, .iaload, 1, [], 0), (483, .aload_n 0, 1, [], 0), (484, .iload_n 3, 1, [], 0), (485, .iconst 2, 1, [], 2), (486, .iadd, 1, [], 0), (487, .iaload, 1, [], 0), (488, .invokevirtual 58, 3, [], 0), (491, .if_icmp .eq 236, 3, [727], 0), (494, .iconst 0, 1, [], 0), (495, .ireturn, 1, [], 0), (496, .aload_n 1, 1, [], 0), (497, .aload_n 0, 1, [], 0), (498, .iload_n 3, 1, [], 0), (499, .iconst 1, 1, [], 1), (500, .iadd, 1, [], 0), (501, .iaload, 1, [], 0), (502, .aload_n 0, 1, [], 0), (503, .iload_n 3, 1, [], 0), (504, .iconst 2, 1, [], 2), (505, .iadd, 1, [], 0), (506, .iaload, 1, [], 0), (507, .invokevirtual 59, 3, [], 0), (510, .aload_n 2, 1, [], 0), (511, .aload_n 0, 1, [], 0), (512, .iload_n 3, 1, [], 0), (513, .iconst 1, 1, [], 1), (514, .iadd, 1, [], 0), (515, .iaload, 1, [], 0), (516, .aload_n 0, 1, [], 0), (517, .iload_n 3, 1, [], 0), (518, .iconst 2, 1, [], 2), (519, .iadd, 1, [], 0), (520, .iaload, 1, [], 0), (521, .invokevirtual 62, 3, [], 0), (524, .if_icmp .eq 203, 3, [727], 0), (527, .iconst 0, 1, [], 0), (528, .ireturn, 1, [], 0), (529, .aload_n 1, 1, [], 0), (530, .aload_n 0, 1, [], 0), (531, .iload_n 3, 1, [], 0), (532, .iconst 1, 1, [], 1), (533, .iadd, 1, [], 0), (534, .iaload, 1, [], 0), (535, .invokevirtual 63, 3, [], 0), (538, .aload_n 2, 1, [], 0), (539, .aload_n 0, 1, [], 0), (540, .iload_n 3, 1, [], 0), (541, .iconst 1, 1, [], 1), (542, .iadd, 1, [], 0), (543, .iaload, 1, [], 0), (544, .invokevirtual 66, 3, [], 0), (547, .if_icmp .eq 180, 3, [727], 0), (550, .iconst 0, 1, [], 0), (551, .ireturn, 1, [], 0), (552, .aload_n 1, 1, [], 0), (553, .aload_n 0, 1, [], 0), (554, .iload_n 3, 1, [], 0), (555, .iconst 1, 1, [], 1), (556, .iadd, 1, [], 0), (557, .iaload, 1, [], 0), (558, .aload_n 0, 1, [], 0), (559, .iload_n 3, 1, [], 0), (560, .iconst 2, 1, [], 2), (561, .iadd, 1, [], 0), (562, .iaload, 1, [], 0), (563, .invokevirtual 67, 3, [], 0), (566, .aload_n 2, 1, [], 0), (567, .aload_n 0, 1, [], 0), (568, .iload_n 3, 1, [], 0), (569, .iconst 1, 1, [], 1), (570, .iadd, 1, [], 0), (571, .iaload, 1, [], 0), (572, .aload_n 0, 1, [], 0), (573, .iload_n 3, 1, [], 0), (574, .iconst 2, 1, [], 2), (575, .iadd, 1, [], 0), (576, .iaload, 1, [], 0), (577, .invokevirtual 71, 3, [], 0), (580, .if_icmp .eq 147, 3, [727], 0), (583, .iconst 0, 1, [], 0), (584, .ireturn, 1, [], 0), (585, .aload_n 1, 1, [], 0), (586, .aload_n 0, 1, [], 0), (587, .iload_n 3, 1, [], 0), (588, .iconst 1, 1, [], 1), (589, .iadd, 1, [], 0), (590, .iaload, 1, [], 0), (591, .aload_n 0, 1, [], 0), (592, .iload_n 3, 1, [], 0), (593, .iconst 2, 1, [], 2), (594, .iadd, 1, [], 0), (595, .iaload, 1, [], 0), (596, .invokevirtual 72, 3, [], 0), (599, .aload_n 2, 1, [], 0), (600, .aload_n 0, 1, [], 0), (601, .iload_n 3, 1, [], 0), (602, .iconst 1, 1, [], 1), (603, .iadd, 1, [], 0), (604, .iaload, 1, [], 0), (605, .aload_n 0, 1, [], 0), (606, .iload_n 3, 1, [], 0), (607, .iconst 2, 1, [], 2), (608, .iadd, 1, [], 0), (609, .iaload, 1, [], 0), (610, .invokevirtual 75, 3, [], 0), (613, .if_icmp .eq 114, 3, [727], 0), (616, .iconst 0, 1, [], 0), (617, .ireturn, 1, [], 0), (618, .aload_n 1, 1, [], 0), (619, .aload_n 0, 1, [], 0), (620, .iload_n 3, 1, [], 0), (621, .iconst 1, 1, [], 1), (622, .iadd, 1, [], 0), (623, .iaload, 1, [], 0), (624, .aload_n 0, 1, [], 0), (625, .iload_n 3, 1, [], 0), (626, .iconst 2, 1, [], 2), (627, .iadd, 1, [], 0), (628, .iaload, 1, [], 0), (629, .aload_n 0, 1, [], 0), (630, .iload_n 3, 1, [], 0), (631, .iconst 3, 1, [], 3), (632, .iadd, 1, [], 0), (633, .iaload, 1, [], 0), (634, .invokevirtual 76, 3, [], 0), (637, .aload_n 2, 1, [], 0), (638, .aload_n 0, 1, [], 0), (639, .iload_n 3, 1, [], 0), (640, .iconst 1, 1, [], 1), (641, .iadd, 1, [], 0), (642, .iaload, 1, [], 0), (643, .aload_n 0, 1, [], 0), (644, .iload_n 3, 1, [], 0), (645, .iconst 2, 1, [], 2), (646, .iadd, 1, [], 0), (647, .iaload, 1, [], 0), (648, .aload_n 0, 1, [], 0), (649, .iload_n 3, 1, [], 0), (650, .iconst 3, 1, [], 3), (651, .iadd, 1, [], 0), (652, .iaload, 1, [], 0), (653, .invokevirtual 80, 3, [], 0), (656, .if_icmp .eq 71, 3, [727], 0), (659, .iconst 0, 1, [], 0), (660, .ireturn, 1, [], 0), (661, .aload_n 1, 1, [], 0), (662, .aload_n 0, 1, [], 0), (663, .iload_n 3, 1, [], 0), (664, .iconst 1, 1, [], 1), (665, .iadd, 1, [], 0), (666, .iaload, 1, [], 0), (667, .aload_n 0, 1, [], 0), (668, .iload_n 3, 1, [], 0), (669, .iconst 2, 1, [], 2), (670, .iadd, 1, [], 0), (671, .iaload, 1, [], 0), (672, .invokevirtual 81, 3, [], 0), (675, .aload_n 2, 1, [], 0), (676, .aload_n 0, 1, [], 0), (677, .iload_n 3, 1, [], 0), (678, .iconst 1, 1, [], 1), (679, .iadd, 1, [], 0), (680, .iaload, 1, [], 0), (681, .aload_n 0, 1, [], 0), (682, .iload_n 3, 1, [], 0), (683, .iconst 2, 1, [], 2), (684, .iadd, 1, [], 0), (685, .iaload, 1, [], 0), (686, .invokevirtual 84, 3, [], 0), (689, .if_icmp .eq 38, 3, [727], 0), (692, .iconst 0, 1, [], 0), (693, .ireturn, 1, [], 0), (694, .aload_n 1, 1, [], 0), (695, .aload_n 0, 1, [], 0), (696, .iload_n 3, 1, [], 0), (697, .iconst 1, 1, [], 1), (698, .iadd, 1, [], 0), (699, .iaload, 1, [], 0), (700, .aload_n 0, 1, [], 0), (701, .iload_n 3, 1, [], 0), (702, .iconst 2, 1, [], 2), (703, .iadd, 1, [], 0), (704, .iaload, 1, [], 0), (705, .invokevirtual 85, 3, [], 0), (708, .aload_n 2, 1, [], 0), (709, .aload_n 0, 1, [], 0), (710, .iload_n 3, 1, [], 0), (711, .iconst 1, 1, [], 1), (712, .iadd, 1, [], 0), (713, .iaload, 1, [], 0), (714, .aload_n 0, 1, [], 0), (715, .iload_n 3, 1, [], 0), (716, .iconst 2, 1, [], 2), (717, .iadd, 1, [], 0), (718, .iaload, 1, [], 0), (719, .invokevirtual 88, 3, [], 0), (722, .if_icmp .eq 5, 3, [727], 0), (725, .iconst 0, 1, [], 0), (726, .ireturn, 1, [], 0), (727, .iinc 3 8, 3, [], 8), (730, .goto (-682), 3, [48], 0), (733, .iconst 1, 1, [], 1), (734, .ireturn, 1, [], 0)]
def cnT : List String := ["StreamLink", "StreamLinkModel", "StreamLink$Cookie", "StreamLink$End", "StreamLink$Inbox", "StreamLink$Outbox", "StreamLink$Packet", "StreamLink$Path", "StreamLink$ReadyList", "StreamLink$Row", "StreamLink$SentWord", "StreamLink$TagList", "StreamLink$Word", "StreamLinkLaw", "java/lang/Math"]
abbrev cn (k : Nat) : String := cnT.getD k ""
def mthL : List (Nat × Nat × Nat × List iE) := [(0, 0, 7, cd_L_new), (0, 2, 3, cd_L_open), (0, 2, 7, cd_L_send), (0, 1, 7, cd_L_deliver), (0, 2, 5, cd_L_alter), (0, 2, 10, cd_L_forge), (0, 1, 2, cd_L_tick), (0, 1, 3, cd_L_read), (0, 1, 3, cd_L_ready), (0, 1, 3, cd_L_length), (0, 2, 2, cd_L_abort), (0, 2, 3, cd_L_primary), (0, 1, 3, cd_L_about), (0, 1, 4, cd_L_path), (0, 1, 3, cd_L_waiting), (0, 1, 3, cd_L_word), (0, 2, 1, cd_L_isEnd), (0, 2, 1, cd_L_isPath), (0, 2, 1, cd_L_isStream), (0, 2, 2, cd_L_isSet), (0, 1, 3, cd_L_mixIn), (0, 1, 3, cd_L_serverTagFor), (0, 1, 5, cd_L_sealOf), (0, 0, 4, cd_L_takeMaking), (0, 0, 5, cd_L_answerInit), (0, 0, 5, cd_L_answerEcho), (0, 2, 4, cd_L_isGenuine), (1, 0, 4, cd_M_new), (1, 2, 1, cd_M_isTwo), (1, 1, 3, cd_M_mixed), (1, 1, 5, cd_M_seal), (1, 0, 10, cd_M_post), (1, 0, 7, cd_M_more), (1, 2, 3, cd_M_full), (1, 0, 4, cd_M_take), (1, 2, 6, cd_M_alter), (1, 1, 3, cd_M_waiting), (1, 0, 7, cd_M_sendCookie), (1, 2, 2, cd_M_open), (1, 2, 5, cd_M_among), (1, 0, 4, cd_M_empty), (1, 0, 4, cd_M_comeUp), (1, 0, 3, cd_M_close), (1, 1, 3, cd_M_pathToUse), (1, 2, 2, cd_M_abort), (1, 2, 3, cd_M_primary), (1, 1, 5, cd_M_deliver), (1, 0, 5, cd_M_init), (1, 1, 3, cd_M_tagFor), (1, 0, 3, cd_M_initAck), (1, 0, 8, cd_M_echo), (1, 0, 5, cd_M_hear), (1, 1, 7, cd_M_count), (1, 0, 10, cd_M_sendWhatMay), (1, 2, 8, cd_M_send), (1, 0, 8, cd_M_sack), (1, 0, 8, cd_M_strike), (1, 2, 3, cd_M_has), (1, 0, 8, cd_M_data), (1, 2, 8, cd_M_oneReady), (1, 1, 5, cd_M_wholeTo), (1, 2, 1, cd_M_isStream), (1, 1, 5, cd_M_read), (1, 1, 3, cd_M_ready), (1, 1, 4, cd_M_length), (1, 2, 8, cd_M_forge), (1, 0, 3, cd_M_fail), (1, 0, 2, cd_M_again), (1, 0, 6, cd_M_tickPath), (1, 1, 2, cd_M_tick), (1, 1, 3, cd_M_about), (1, 1, 5, cd_M_path), (1, 1, 3, cd_M_word), (2, 0, 1, cd_Cookie_new), (2, 0, 5, cd_Cookie_set), (2, 0, 2, cd_Cookie_copyFrom), (3, 0, 4, cd_End_new), (3, 0, 3, cd_End_startOpening), (3, 0, 2, cd_End_comeUp), (3, 0, 2, cd_End_close), (3, 3, 4, cd_End_post), (3, 0, 1, cd_End_postAbort), (3, 0, 4, cd_End_takeInitAck), (3, 0, 2, cd_End_takeEchoAck), (3, 0, 4, cd_End_takeWhenUp), (3, 0, 3, cd_End_passTick), (3, 0, 6, cd_End_sendWhatItMay), (3, 1, 2, cd_End_pathToUse), (3, 1, 2, cd_End_tell), (3, 1, 4, cd_End_tellOfPath), (3, 0, 2, cd_End_startTries), (3, 0, 2, cd_End_tryAgain), (3, 0, 3, cd_End_postOpening), (3, 0, 4, cd_End_takeData), (3, 0, 3, cd_End_takeBeatAck), (3, 0, 4, cd_End_takeSack), (3, 0, 4, cd_End_dropUpTo), (3, 0, 6, cd_End_holdGaps), (3, 0, 2, cd_End_rewardGoodPaths), (3, 0, 5, cd_End_strikeBelow), (3, 0, 3, cd_End_strike), (3, 0, 3, cd_End_settleTimers), (3, 1, 3, cd_End_pathFor), (3, 2, 4, cd_End_mayGo), (3, 0, 4, cd_End_putOut), (3, 0, 4, cd_End_passPathTick), (3, 0, 3, cd_End_postBeat), (3, 0, 2, cd_End_addError), (4, 0, 3, cd_Inbox_new), (4, 0, 2, cd_Inbox_reset), (4, 1, 1, cd_Inbox_kept), (4, 1, 1, cd_Inbox_window), (4, 1, 3, cd_Inbox_gaps), (4, 0, 4, cd_Inbox_take), (4, 2, 2, cd_Inbox_isDropped), (4, 1, 1, cd_Inbox_slotOf), (4, 2, 2, cd_Inbox_has), (4, 0, 3, cd_Inbox_makeReady), (4, 1, 4, cd_Inbox_wholeLength), (4, 2, 2, cd_Inbox_mayBeReady), (4, 0, 5, cd_Inbox_moveToReady), (5, 0, 2, cd_Outbox_new), (5, 0, 3, cd_Outbox_reset), (5, 1, 1, cd_Outbox_count), (5, 2, 2, cd_Outbox_has), (5, 3, 2, cd_Outbox_at), (5, 1, 2, cd_Outbox_stateOf), (5, 0, 8, cd_Outbox_addMessage), (5, 1, 3, cd_Outbox_firstToSend), (5, 1, 4, cd_Outbox_countOut), (5, 1, 3, cd_Outbox_countOutOrMarked), (5, 0, 3, cd_Outbox_markAllOut), (6, 0, 1, cd_Packet_new), (6, 0, 2, cd_Packet_copyFrom), (7, 0, 1, cd_Path_new), (7, 0, 1, cd_Path_reset), (7, 0, 2, cd_Path_startTimer), (7, 0, 1, cd_Path_slowDown), (7, 0, 1, cd_Path_reward), (8, 0, 1, cd_ReadyList_new), (8, 0, 4, cd_ReadyList_add), (8, 1, 4, cd_ReadyList_countOf), (8, 1, 3, cd_ReadyList_firstLength), (8, 1, 5, cd_ReadyList_takeFirst), (8, 1, 3, cd_ReadyList_firstOf), (9, 0, 2, cd_Row_new), (9, 2, 1, cd_Row_isFull), (9, 3, 1, cd_Row_oldest), (9, 0, 1, cd_Row_removeOldest), (9, 3, 2, cd_Row_addNew), (10, 0, 1, cd_SentWord_new), (11, 0, 1, cd_TagList_new), (11, 2, 3, cd_TagList_add), (12, 0, 1, cd_Word_new), (12, 0, 2, cd_Word_copyFrom), (13, 1, 2, cd_Law_cell), (14, 1, 3, cd_Math_floorMod), (14, 1, 2, cd_Math_max), (14, 1, 2, cd_Math_min), (13, 2, 4, cd_Law_law)]
def mthT (j : Nat) : Option (Nat × Nat × Nat × List iE) := match j with
  | 0 => none
  | k + 1 => mthL[k]?
def tgL : List (List (Nat × Nat × Nat)) := [[(1, 0, 1), (9, 159, 2), (15, 158, 2), (28, 77, 3), (33, 152, 1), (47, 153, 2), (51, 78, 3), (54, 17, 1), (57, 19, 1), (64, 124, 1), (70, 128, 5), (74, 87, 2), (78, 18, 1), (95, 148, 1), (99, 149, 1), (107, 24, 4), (117, 85, 4), (121, 147, 1), (125, 150, 1), (128, 134, 2), (132, 81, 3), (143, 75, 5), (149, 86, 2), (162, 144, 2), (168, 142, 2), (171, 143, 2), (174, 82, 1), (177, 80, 2), (183, 89, 2), (186, 90, 3), (189, 127, 2), (194, 21, 2), (197, 25, 3), (200, 83, 4), (203, 26, 3), (207, 84, 2), (210, 22, 2), (213, 23, 4), (220, 27, 2), (230, 79, 1)],
  [(1, 0, 1), (167, 30, 2), (171, 29, 1), (175, 35, 2), (179, 34, 3), (183, 32, 7), (187, 33, 6), (194, 40, 3), (201, 41, 2), (204, 44, 2), (208, 43, 3), (212, 48, 3), (215, 51, 2), (218, 50, 2), (221, 42, 4), (225, 52, 4), (228, 49, 2), (231, 31, 4), (235, 38, 6), (243, 59, 3), (246, 56, 2), (249, 53, 4), (252, 54, 2), (255, 57, 4), (258, 58, 3), (261, 60, 2), (264, 61, 3), (267, 62, 1), (270, 67, 3), (273, 68, 2), (276, 69, 3)],
  [(1, 0, 1)],
  [(3, 0, 1), (19, 122, 1), (39, 74, 1), (64, 109, 2), (71, 135, 1), (72, 91, 2), (75, 93, 2), (78, 123, 2), (81, 110, 1), (83, 136, 1), (88, 150, 1), (102, 88, 1), (106, 81, 3), (114, 76, 2), (118, 79, 1), (125, 94, 3), (129, 96, 3), (136, 95, 3), (140, 80, 2), (143, 92, 2), (146, 106, 3), (150, 87, 2), (153, 129, 1), (156, 126, 2), (160, 103, 2), (164, 104, 3), (168, 105, 4), (176, 124, 1), (182, 111, 1), (197, 130, 2), (207, 114, 2), (214, 113, 1), (219, 112, 1), (234, 97, 2), (237, 98, 2), (240, 99, 1), (243, 100, 2), (246, 102, 2), (255, 127, 2), (258, 20, 2), (262, 139, 1), (265, 101, 2), (272, 158, 2), (278, 137, 2), (281, 131, 1), (285, 155, 2), (292, 132, 2), (295, 138, 1), (298, 108, 2), (302, 107, 3), (305, 82, 1)],
  [(3, 0, 1), (11, 140, 1), (36, 154, 1), (37, 110, 1), (52, 111, 1), (56, 158, 2), (62, 117, 2), (66, 115, 2), (69, 116, 1), (73, 155, 2), (77, 118, 1), (80, 119, 2), (83, 120, 2), (87, 121, 3), (110, 141, 4)],
  [(3, 0, 1), (21, 151, 1), (22, 123, 2), (36, 157, 2), (42, 125, 2), (46, 126, 2)],
  [(1, 0, 1), (9, 74, 1), (18, 154, 1), (33, 76, 2), (37, 155, 2)],
  [(3, 0, 1), (11, 146, 1), (47, 159, 2)],
  [(3, 0, 1), (28, 145, 2)],
  [(3, 0, 1), (17, 133, 1), (29, 147, 1)],
  [(1, 0, 1), (9, 154, 1)],
  [(3, 0, 1)],
  [(1, 0, 1)],
  [(9, 156, 2), (15, 1, 4), (20, 28, 4), (21, 2, 2), (25, 39, 2), (26, 3, 6), (30, 55, 6), (31, 4, 3), (35, 47, 3), (36, 5, 4), (40, 36, 4), (41, 6, 8), (45, 66, 8), (46, 7, 1), (50, 70, 1), (51, 8, 3), (54, 63, 3), (55, 9, 3), (58, 64, 3), (59, 10, 3), (62, 65, 3), (63, 11, 2), (66, 45, 2), (67, 12, 3), (71, 46, 3), (72, 13, 3), (75, 71, 3), (76, 14, 4), (80, 72, 4), (81, 15, 3), (84, 37, 3), (85, 16, 3), (88, 73, 3)],
  []]
def iLk2 {α : Type} : List (Nat × α) → Nat → Option α
  | [], _ => none
  | e :: r, k => match Nat.beq e.1 k with
    | true => some e.2
    | false => iLk2 r k
def tgT (own k : Nat) : Option (Nat × Nat) := iLk2 (tgL.getD own []) k
def uT0 : u_T := fun k => match k with
  | 0 => ("StreamLink", "key", "I", true)
  | 1 => ("StreamLink", "ends", "[LStreamLink$End;", true)
  | 2 => ("StreamLink", "openedTags", "LStreamLink$TagList;", true)
  | 3 => ("StreamLink", "servedTags", "LStreamLink$TagList;", true)
  | _ => ("StreamLink", "now", "I", false)
def uT1 : u_T := fun k => match k with
  | 0 => ("StreamLinkModel", "room", "I", true)
  | 1 => ("StreamLinkModel", "limit", "I", true)
  | 2 => ("StreamLinkModel", "key", "I", true)
  | 3 => ("StreamLinkModel", "now", "I", false)
  | 4 => ("StreamLinkModel", "rows", "[I", true)
  | 5 => ("StreamLinkModel", "packet", "[I", true)
  | 6 => ("StreamLinkModel", "arrived", "[I", true)
  | 7 => ("StreamLinkModel", "state", "[I", true)
  | 8 => ("StreamLinkModel", "own", "[I", true)
  | 9 => ("StreamLinkModel", "other", "[I", true)
  | 10 => ("StreamLinkModel", "report", "[I", true)
  | 11 => ("StreamLinkModel", "cookie", "[I", true)
  | 12 => ("StreamLinkModel", "opens", "I", false)
  | 13 => ("StreamLinkModel", "opened", "[I", true)
  | 14 => ("StreamLinkModel", "ups", "I", false)
  | 15 => ("StreamLinkModel", "wasUp", "[I", true)
  | 16 => ("StreamLinkModel", "tries", "[I", true)
  | 17 => ("StreamLinkModel", "due", "[I", true)
  | 18 => ("StreamLinkModel", "primary", "[I", true)
  | 19 => ("StreamLinkModel", "allErrors", "[I", true)
  | 20 => ("StreamLinkModel", "window", "[I", true)
  | 21 => ("StreamLinkModel", "active", "[Z", true)
  | 22 => ("StreamLinkModel", "rate", "[I", true)
  | 23 => ("StreamLinkModel", "wait", "[I", true)
  | 24 => ("StreamLinkModel", "errors", "[I", true)
  | 25 => ("StreamLinkModel", "runs", "[Z", true)
  | 26 => ("StreamLinkModel", "timer", "[I", true)
  | 27 => ("StreamLinkModel", "beating", "[Z", true)
  | 28 => ("StreamLinkModel", "beat", "[I", true)
  | 29 => ("StreamLinkModel", "good", "[Z", true)
  | 30 => ("StreamLinkModel", "gone", "[I", true)
  | 31 => ("StreamLinkModel", "given", "[I", true)
  | 32 => ("StreamLinkModel", "orders", "[I", true)
  | 33 => ("StreamLinkModel", "word", "[I", true)
  | 34 => ("StreamLinkModel", "value", "[I", true)
  | 35 => ("StreamLinkModel", "stream", "[I", true)
  | 36 => ("StreamLinkModel", "order", "[I", true)
  | 37 => ("StreamLinkModel", "flags", "[I", true)
  | 38 => ("StreamLinkModel", "sentOn", "[I", true)
  | 39 => ("StreamLinkModel", "strikes", "[I", true)
  | 40 => ("StreamLinkModel", "sackOf", "[I", true)
  | 41 => ("StreamLinkModel", "latest", "[I", true)
  | 42 => ("StreamLinkModel", "had", "[Z", true)
  | 43 => ("StreamLinkModel", "held", "[Z", true)
  | 44 => ("StreamLinkModel", "hisValue", "[I", true)
  | 45 => ("StreamLinkModel", "hisStream", "[I", true)
  | 46 => ("StreamLinkModel", "hisOrder", "[I", true)
  | 47 => ("StreamLinkModel", "hisFlags", "[I", true)
  | 48 => ("StreamLinkModel", "nextOrder", "[I", true)
  | 49 => ("StreamLinkModel", "kept", "[I", true)
  | 50 => ("StreamLinkModel", "readies", "[I", true)
  | 51 => ("StreamLinkModel", "firstReady", "[I", true)
  | 52 => ("StreamLinkModel", "firstWord", "[I", true)
  | _ => ("StreamLinkModel", "words", "[I", true)
def uT2 : u_T := fun k => match k with
  | 0 => ("StreamLink$Cookie", "clientTag", "I", false)
  | 1 => ("StreamLink$Cookie", "serverTag", "I", false)
  | 2 => ("StreamLink$Cookie", "tick", "I", false)
  | _ => ("StreamLink$Cookie", "seal", "I", false)
def uT3 : u_T := fun k => match k with
  | 0 => ("StreamLink$End", "paths", "[LStreamLink$Path;", true)
  | 1 => ("StreamLink$End", "outbox", "LStreamLink$Outbox;", true)
  | 2 => ("StreamLink$End", "inbox", "LStreamLink$Inbox;", true)
  | 3 => ("StreamLink$End", "state", "I", false)
  | 4 => ("StreamLink$End", "ownTag", "I", false)
  | 5 => ("StreamLink$End", "otherTag", "I", false)
  | 6 => ("StreamLink$End", "primaryPath", "I", false)
  | 7 => ("StreamLink$End", "room", "I", true)
  | 8 => ("StreamLink$End", "limit", "I", true)
  | 9 => ("StreamLink$End", "cookie", "LStreamLink$Cookie;", true)
  | 10 => ("StreamLink$End", "report", "I", false)
  | 11 => ("StreamLink$End", "allErrors", "I", false)
  | 12 => ("StreamLink$End", "tries", "I", false)
  | _ => ("StreamLink$End", "tryDue", "I", false)
def uT4 : u_T := fun k => match k with
  | 0 => ("StreamLink$Inbox", "readyList", "LStreamLink$ReadyList;", true)
  | 1 => ("StreamLink$Inbox", "room", "I", true)
  | 2 => ("StreamLink$Inbox", "slots", "[LStreamLink$Word;", true)
  | 3 => ("StreamLink$Inbox", "unready", "[Z", true)
  | 4 => ("StreamLink$Inbox", "nextOrders", "[I", true)
  | 5 => ("StreamLink$Inbox", "unreadyWords", "I", false)
  | _ => ("StreamLink$Inbox", "latest", "I", false)
def uT5 : u_T := fun k => match k with
  | 0 => ("StreamLink$Outbox", "ring", "[LStreamLink$SentWord;", true)
  | 1 => ("StreamLink$Outbox", "nextOrders", "[I", true)
  | 2 => ("StreamLink$Outbox", "firstNumber", "I", false)
  | 3 => ("StreamLink$Outbox", "nextNumber", "I", false)
  | _ => ("StreamLink$Outbox", "window", "I", false)
def uT6 : u_T := fun k => match k with
  | 0 => ("StreamLink$Packet", "kind", "I", false)
  | 1 => ("StreamLink$Packet", "tag", "I", false)
  | 2 => ("StreamLink$Packet", "newTag", "I", false)
  | 3 => ("StreamLink$Packet", "cookie", "LStreamLink$Cookie;", true)
  | 4 => ("StreamLink$Packet", "word", "LStreamLink$Word;", true)
  | 5 => ("StreamLink$Packet", "number", "I", false)
  | 6 => ("StreamLink$Packet", "gaps", "I", false)
  | 7 => ("StreamLink$Packet", "window", "I", false)
  | _ => ("StreamLink$Packet", "tick", "I", false)
def uT7 : u_T := fun k => match k with
  | 0 => ("StreamLink$Path", "row", "LStreamLink$Row;", true)
  | 1 => ("StreamLink$Path", "rate", "I", false)
  | 2 => ("StreamLink$Path", "wait", "I", false)
  | 3 => ("StreamLink$Path", "errors", "I", false)
  | 4 => ("StreamLink$Path", "active", "Z", false)
  | 5 => ("StreamLink$Path", "timerRuns", "Z", false)
  | 6 => ("StreamLink$Path", "timerDue", "I", false)
  | 7 => ("StreamLink$Path", "beatOpen", "Z", false)
  | 8 => ("StreamLink$Path", "beatTick", "I", false)
  | _ => ("StreamLink$Path", "good", "Z", false)
def uT8 : u_T := fun k => match k with
  | 0 => ("StreamLink$ReadyList", "streams", "[I", true)
  | 1 => ("StreamLink$ReadyList", "firstWords", "[I", true)
  | 2 => ("StreamLink$ReadyList", "lengths", "[I", true)
  | 3 => ("StreamLink$ReadyList", "count", "I", false)
  | _ => ("StreamLink$ReadyList", "words", "I", false)
def uT9 : u_T := fun k => match k with
  | 0 => ("StreamLink$Row", "packets", "[LStreamLink$Packet;", true)
  | 1 => ("StreamLink$Row", "lost", "LStreamLink$Packet;", true)
  | 2 => ("StreamLink$Row", "start", "I", false)
  | _ => ("StreamLink$Row", "count", "I", false)
def uT10 : u_T := fun k => match k with
  | 0 => ("StreamLink$SentWord", "word", "LStreamLink$Word;", true)
  | 1 => ("StreamLink$SentWord", "state", "I", false)
  | 2 => ("StreamLink$SentWord", "lastPath", "I", false)
  | _ => ("StreamLink$SentWord", "strikes", "I", false)
def uT11 : u_T := fun k => match k with
  | 0 => ("StreamLink$TagList", "tags", "[I", true)
  | _ => ("StreamLink$TagList", "count", "I", false)
def uT12 : u_T := fun k => match k with
  | 0 => ("StreamLink$Word", "number", "I", false)
  | 1 => ("StreamLink$Word", "value", "I", false)
  | 2 => ("StreamLink$Word", "stream", "I", false)
  | 3 => ("StreamLink$Word", "order", "I", false)
  | 4 => ("StreamLink$Word", "first", "Z", false)
  | 5 => ("StreamLink$Word", "last", "Z", false)
  | _ => ("StreamLink$Word", "unordered", "Z", false)
abbrev vwC : List vw_C := [("StreamLink", uT0, 5), ("StreamLinkModel", uT1, 54), ("StreamLink$Cookie", uT2, 4), ("StreamLink$End", uT3, 14), ("StreamLink$Inbox", uT4, 7), ("StreamLink$Outbox", uT5, 5), ("StreamLink$Packet", uT6, 9), ("StreamLink$Path", uT7, 10), ("StreamLink$ReadyList", uT8, 5), ("StreamLink$Row", uT9, 4), ("StreamLink$SentWord", uT10, 4), ("StreamLink$TagList", uT11, 2), ("StreamLink$Word", uT12, 7)]
/-- kinds of the fields: 0 int, 1 boolean (the second number is its code), 2 and 3 references (the second is the kind that it points to) -/
def fkL : List (List (Nat × Nat × Nat × Nat)) := [[(0, 1, 0, 0), (2, 64, 0, 0), (2, 11, 0, 0), (2, 11, 0, 1), (0, 2, 0, 0)],
  [(0, 1001, 0, 0), (0, 1002, 0, 0), (0, 1003, 0, 0), (0, 1004, 0, 0), (2, 76, 0, 0), (2, 77, 0, 0), (2, 78, 0, 0), (2, 79, 0, 0), (2, 80, 0, 0), (2, 81, 0, 0), (2, 82, 0, 0), (2, 83, 0, 0), (0, 1013, 0, 0), (2, 84, 0, 0), (0, 1015, 0, 0), (2, 85, 0, 0), (2, 86, 0, 0), (2, 87, 0, 0), (2, 88, 0, 0), (2, 89, 0, 0), (2, 90, 0, 0), (2, 91, 0, 0), (2, 92, 0, 0), (2, 93, 0, 0), (2, 94, 0, 0), (2, 95, 0, 0), (2, 96, 0, 0), (2, 97, 0, 0), (2, 98, 0, 0), (2, 99, 0, 0), (2, 100, 0, 0), (2, 101, 0, 0), (2, 102, 0, 0), (2, 103, 0, 0), (2, 104, 0, 0), (2, 105, 0, 0), (2, 106, 0, 0), (2, 107, 0, 0), (2, 108, 0, 0), (2, 109, 0, 0), (2, 110, 0, 0), (2, 111, 0, 0), (2, 112, 0, 0), (2, 113, 0, 0), (2, 114, 0, 0), (2, 115, 0, 0), (2, 116, 0, 0), (2, 117, 0, 0), (2, 118, 0, 0), (2, 119, 0, 0), (2, 120, 0, 0), (2, 121, 0, 0), (2, 122, 0, 0), (2, 123, 0, 0)],
  [(0, 3, 0, 0), (0, 4, 0, 0), (0, 5, 0, 0), (0, 6, 0, 0)],
  [(2, 67, 0, 0), (2, 5, 0, 0), (2, 4, 0, 0), (0, 7, 0, 0), (0, 8, 0, 0), (0, 9, 0, 0), (0, 10, 0, 0), (0, 11, 0, 0), (0, 12, 0, 0), (2, 2, 0, 36), (0, 13, 0, 0), (0, 14, 0, 0), (0, 15, 0, 0), (0, 16, 0, 0)],
  [(2, 8, 0, 0), (0, 17, 0, 0), (2, 73, 0, 0), (2, 74, 0, 0), (2, 75, 0, 0), (0, 20, 0, 0), (0, 21, 0, 0)],
  [(2, 68, 0, 0), (2, 69, 0, 0), (0, 23, 0, 0), (0, 24, 0, 0), (0, 25, 0, 0)],
  [(0, 26, 0, 0), (0, 27, 0, 0), (0, 28, 0, 0), (2, 2, 0, 0), (2, 12, 0, 0), (0, 29, 0, 0), (0, 30, 0, 0), (0, 31, 0, 0), (0, 32, 0, 0)],
  [(2, 9, 0, 0), (0, 33, 0, 0), (0, 34, 0, 0), (0, 35, 0, 0), (1, 36, 0, 0), (1, 37, 0, 0), (0, 38, 0, 0), (1, 39, 0, 0), (0, 40, 0, 0), (1, 41, 0, 0)],
  [(2, 70, 0, 0), (2, 71, 0, 0), (2, 72, 0, 0), (0, 45, 0, 0), (0, 46, 0, 0)],
  [(2, 66, 0, 0), (3, 6, 9, 8), (0, 47, 0, 0), (0, 48, 0, 0)],
  [(2, 12, 0, 36), (0, 49, 0, 0), (0, 50, 0, 0), (0, 51, 0, 0)],
  [(2, 65, 0, 0), (0, 53, 0, 0)],
  [(0, 54, 0, 0), (0, 55, 0, 0), (0, 56, 0, 0), (0, 57, 0, 0), (1, 58, 0, 0), (1, 59, 0, 0), (1, 60, 0, 0)]]
/-- kinds of the arrays: kind, code or kind of the elements, two numbers, length; how many, the type of the elements -/
def akL : List ((Nat × Nat × Nat × Nat × Nat) × Nat × Nat) := [((2, 3, 0, 0, 2), 1, 2), ((0, 52, 0, 0, 512), 2, 0), ((3, 6, 9, 0, 8), 4, 3), ((3, 7, 2, 0, 2), 2, 4), ((3, 10, 24, 0, 24), 2, 5), ((0, 22, 0, 0, 3), 2, 0), ((0, 42, 0, 0, 512), 2, 0), ((0, 43, 0, 0, 512), 2, 0), ((0, 44, 0, 0, 512), 2, 0), ((4, 12, 32, 84, 32), 2, 6), ((1, 18, 0, 0, 32), 2, 1), ((0, 19, 0, 0, 3), 2, 0), ((0, 1005, 0, 0, 4), 1, 0), ((0, 1006, 0, 0, 256), 1, 0), ((0, 1007, 0, 0, 8), 1, 0), ((0, 1008, 0, 0, 2), 1, 0), ((0, 1009, 0, 0, 2), 1, 0), ((0, 1010, 0, 0, 2), 1, 0), ((0, 1011, 0, 0, 2), 1, 0), ((0, 1012, 0, 0, 4), 1, 0), ((0, 1014, 0, 0, 512), 1, 0), ((0, 1016, 0, 0, 512), 1, 0), ((0, 1017, 0, 0, 2), 1, 0), ((0, 1018, 0, 0, 2), 1, 0), ((0, 1019, 0, 0, 2), 1, 0), ((0, 1020, 0, 0, 2), 1, 0), ((0, 1021, 0, 0, 2), 1, 0), ((1, 1022, 0, 0, 4), 1, 1), ((0, 1023, 0, 0, 4), 1, 0), ((0, 1024, 0, 0, 4), 1, 0), ((0, 1025, 0, 0, 4), 1, 0), ((1, 1026, 0, 0, 4), 1, 1), ((0, 1027, 0, 0, 4), 1, 0), ((1, 1028, 0, 0, 4), 1, 1), ((0, 1029, 0, 0, 4), 1, 0), ((1, 1030, 0, 0, 4), 1, 1), ((0, 1031, 0, 0, 2), 1, 0), ((0, 1032, 0, 0, 2), 1, 0), ((0, 1033, 0, 0, 6), 1, 0), ((0, 1034, 0, 0, 64), 1, 0), ((0, 1035, 0, 0, 64), 1, 0), ((0, 1036, 0, 0, 64), 1, 0), ((0, 1037, 0, 0, 64), 1, 0), ((0, 1038, 0, 0, 64), 1, 0), ((0, 1039, 0, 0, 64), 1, 0), ((0, 1040, 0, 0, 64), 1, 0), ((0, 1041, 0, 0, 2), 1, 0), ((0, 1042, 0, 0, 2), 1, 0), ((1, 1043, 0, 0, 1088), 1, 1), ((1, 1044, 0, 0, 1088), 1, 1), ((0, 1045, 0, 0, 1088), 1, 0), ((0, 1046, 0, 0, 1088), 1, 0), ((0, 1047, 0, 0, 1088), 1, 0), ((0, 1048, 0, 0, 1088), 1, 0), ((0, 1049, 0, 0, 6), 1, 0), ((0, 1050, 0, 0, 2), 1, 0), ((0, 1051, 0, 0, 6), 1, 0), ((0, 1052, 0, 0, 6), 1, 0), ((0, 1053, 0, 0, 3072), 1, 0), ((0, 1054, 0, 0, 3072), 1, 0)]
def flL : List (List (Nat × Nat × Nat × Nat × Nat × Nat × Nat)) := [[(18, 0, 0, 0, 1, 0, 0), (24, 0, 1, 2, 64, 0, 0), (34, 0, 2, 2, 11, 0, 0), (38, 0, 3, 2, 11, 0, 1), (41, 0, 4, 0, 2, 0, 0), (44, 3, 3, 0, 7, 0, 0), (60, 3, 1, 2, 5, 0, 0), (81, 3, 0, 2, 67, 0, 0), (85, 7, 0, 2, 9, 0, 0), (91, 9, 3, 0, 48, 0, 0), (102, 6, 0, 0, 26, 0, 0), (111, 6, 1, 0, 27, 0, 0), (114, 3, 4, 0, 8, 0, 0), (136, 6, 2, 0, 28, 0, 0), (139, 6, 3, 2, 2, 0, 0), (152, 3, 2, 2, 4, 0, 0), (156, 4, 0, 2, 8, 0, 0), (180, 3, 6, 0, 10, 0, 0), (217, 2, 1, 0, 4, 0, 0), (224, 2, 0, 0, 3, 0, 0), (227, 3, 5, 0, 9, 0, 0), (233, 2, 2, 0, 5, 0, 0), (236, 2, 3, 0, 6, 0, 0)],
  [(7, 1, 4, 2, 76, 0, 0), (13, 1, 5, 2, 77, 0, 0), (16, 1, 6, 2, 78, 0, 0), (19, 1, 7, 2, 79, 0, 0), (22, 1, 8, 2, 80, 0, 0), (25, 1, 9, 2, 81, 0, 0), (28, 1, 10, 2, 82, 0, 0), (31, 1, 11, 2, 83, 0, 0), (34, 1, 13, 2, 84, 0, 0), (37, 1, 15, 2, 85, 0, 0), (40, 1, 16, 2, 86, 0, 0), (43, 1, 17, 2, 87, 0, 0), (46, 1, 18, 2, 88, 0, 0), (49, 1, 19, 2, 89, 0, 0), (52, 1, 20, 2, 90, 0, 0), (55, 1, 21, 2, 91, 0, 0), (59, 1, 22, 2, 92, 0, 0), (62, 1, 23, 2, 93, 0, 0), (65, 1, 24, 2, 94, 0, 0), (68, 1, 25, 2, 95, 0, 0), (71, 1, 26, 2, 96, 0, 0), (74, 1, 27, 2, 97, 0, 0), (77, 1, 28, 2, 98, 0, 0), (80, 1, 29, 2, 99, 0, 0), (83, 1, 30, 2, 100, 0, 0), (86, 1, 31, 2, 101, 0, 0), (89, 1, 32, 2, 102, 0, 0), (92, 1, 33, 2, 103, 0, 0), (95, 1, 34, 2, 104, 0, 0), (98, 1, 35, 2, 105, 0, 0), (101, 1, 36, 2, 106, 0, 0), (104, 1, 37, 2, 107, 0, 0), (107, 1, 38, 2, 108, 0, 0), (110, 1, 39, 2, 109, 0, 0), (113, 1, 40, 2, 110, 0, 0), (116, 1, 41, 2, 111, 0, 0), (119, 1, 42, 2, 112, 0, 0), (122, 1, 43, 2, 113, 0, 0), (125, 1, 44, 2, 114, 0, 0), (128, 1, 45, 2, 115, 0, 0), (131, 1, 46, 2, 116, 0, 0), (134, 1, 47, 2, 117, 0, 0), (137, 1, 48, 2, 118, 0, 0), (140, 1, 49, 2, 119, 0, 0), (143, 1, 50, 2, 120, 0, 0), (146, 1, 51, 2, 121, 0, 0), (149, 1, 52, 2, 122, 0, 0), (152, 1, 53, 2, 123, 0, 0), (155, 1, 0, 0, 1001, 0, 0), (159, 1, 1, 0, 1002, 0, 0), (162, 1, 2, 0, 1003, 0, 0), (191, 1, 12, 0, 1013, 0, 0), (198, 1, 3, 0, 1004, 0, 0), (240, 1, 14, 0, 1015, 0, 0)],
  [(7, 2, 0, 0, 3, 0, 0), (13, 2, 1, 0, 4, 0, 0), (16, 2, 2, 0, 5, 0, 0), (19, 2, 3, 0, 6, 0, 0)],
  [(11, 3, 0, 2, 67, 0, 0), (20, 3, 1, 2, 5, 0, 0), (24, 3, 3, 0, 7, 0, 0), (28, 3, 4, 0, 8, 0, 0), (31, 3, 5, 0, 9, 0, 0), (34, 3, 6, 0, 10, 0, 0), (40, 3, 9, 2, 2, 0, 36), (44, 3, 10, 0, 13, 0, 0), (47, 3, 11, 0, 14, 0, 0), (50, 3, 12, 0, 15, 0, 0), (53, 3, 13, 0, 16, 0, 0), (56, 3, 7, 0, 11, 0, 0), (59, 3, 8, 0, 12, 0, 0), (67, 3, 2, 2, 4, 0, 0), (84, 7, 0, 2, 9, 0, 0), (94, 6, 0, 0, 26, 0, 0), (99, 6, 1, 0, 27, 0, 0), (110, 6, 2, 0, 28, 0, 0), (113, 6, 3, 2, 2, 0, 0), (121, 6, 4, 2, 12, 0, 0), (133, 6, 8, 0, 32, 0, 0), (172, 7, 4, 1, 36, 0, 0), (179, 4, 6, 0, 21, 0, 0), (185, 5, 4, 0, 25, 0, 0), (188, 7, 1, 0, 33, 0, 0), (191, 7, 2, 0, 34, 0, 0), (194, 7, 3, 0, 35, 0, 0), (201, 7, 5, 1, 37, 0, 0), (204, 7, 7, 1, 39, 0, 0), (211, 6, 5, 0, 29, 0, 0), (217, 6, 6, 0, 30, 0, 0), (221, 6, 7, 0, 31, 0, 0), (222, 7, 8, 0, 40, 0, 0), (225, 5, 2, 0, 23, 0, 0), (228, 5, 3, 0, 24, 0, 0), (231, 7, 9, 1, 41, 0, 0), (249, 10, 1, 0, 49, 0, 0), (252, 10, 2, 0, 50, 0, 0), (269, 10, 3, 0, 51, 0, 0), (284, 10, 0, 2, 12, 0, 36), (289, 7, 6, 0, 38, 0, 0)],
  [(12, 4, 0, 2, 8, 0, 0), (20, 4, 2, 2, 73, 0, 0), (24, 4, 3, 2, 74, 0, 0), (28, 4, 4, 2, 75, 0, 0), (32, 4, 1, 0, 17, 0, 0), (40, 4, 6, 0, 21, 0, 0), (43, 4, 5, 0, 20, 0, 0), (46, 12, 0, 0, 54, 0, 0), (49, 8, 4, 0, 46, 0, 0), (91, 12, 4, 1, 58, 0, 0), (95, 12, 5, 1, 59, 0, 0), (98, 12, 6, 1, 60, 0, 0), (101, 12, 3, 0, 57, 0, 0), (104, 12, 2, 0, 56, 0, 0), (107, 12, 1, 0, 55, 0, 0)],
  [(11, 5, 0, 2, 68, 0, 0), (17, 5, 1, 2, 69, 0, 0), (26, 5, 2, 0, 23, 0, 0), (30, 5, 3, 0, 24, 0, 0), (33, 5, 4, 0, 25, 0, 0), (50, 10, 1, 0, 49, 0, 0), (53, 10, 0, 2, 12, 0, 36), (57, 12, 0, 0, 54, 0, 0), (62, 12, 1, 0, 55, 0, 0), (65, 12, 2, 0, 56, 0, 0), (68, 12, 3, 0, 57, 0, 0), (71, 12, 4, 1, 58, 0, 0), (75, 12, 5, 1, 59, 0, 0), (78, 12, 6, 1, 60, 0, 0), (81, 10, 2, 0, 50, 0, 0), (84, 10, 3, 0, 51, 0, 0)],
  [(10, 6, 3, 2, 2, 0, 0), (19, 6, 4, 2, 12, 0, 0), (23, 6, 0, 0, 26, 0, 0), (27, 6, 1, 0, 27, 0, 0), (30, 6, 2, 0, 28, 0, 0), (40, 6, 5, 0, 29, 0, 0), (43, 6, 6, 0, 30, 0, 0), (46, 6, 7, 0, 31, 0, 0), (49, 6, 8, 0, 32, 0, 0)],
  [(12, 7, 0, 2, 9, 0, 0), (18, 7, 1, 0, 33, 0, 0), (22, 7, 2, 0, 34, 0, 0), (25, 7, 3, 0, 35, 0, 0), (28, 7, 4, 1, 36, 0, 0), (32, 7, 5, 1, 37, 0, 0), (35, 7, 6, 0, 38, 0, 0), (38, 7, 7, 1, 39, 0, 0), (41, 7, 8, 0, 40, 0, 0), (44, 7, 9, 1, 41, 0, 0)],
  [(9, 8, 0, 2, 70, 0, 0), (15, 8, 1, 2, 71, 0, 0), (18, 8, 2, 2, 72, 0, 0), (21, 8, 3, 0, 45, 0, 0), (25, 8, 4, 0, 46, 0, 0)],
  [(11, 9, 0, 2, 66, 0, 0), (18, 9, 1, 3, 6, 9, 8), (22, 9, 2, 0, 47, 0, 0), (26, 9, 3, 0, 48, 0, 0)],
  [(10, 10, 0, 2, 12, 0, 36)],
  [(9, 11, 0, 2, 65, 0, 0), (15, 11, 1, 0, 53, 0, 0)],
  [(7, 12, 0, 0, 54, 0, 0), (13, 12, 1, 0, 55, 0, 0), (16, 12, 2, 0, 56, 0, 0), (19, 12, 3, 0, 57, 0, 0), (22, 12, 4, 1, 58, 0, 0), (26, 12, 5, 1, 59, 0, 0), (29, 12, 6, 1, 60, 0, 0)],
  [],
  []]
abbrev cL_key : Nat := 1
abbrev cL_now : Nat := 2
abbrev cCookie_clientTag : Nat := 3
abbrev cCookie_serverTag : Nat := 4
abbrev cCookie_tick : Nat := 5
abbrev cCookie_seal : Nat := 6
abbrev cEnd_state : Nat := 7
abbrev cEnd_ownTag : Nat := 8
abbrev cEnd_otherTag : Nat := 9
abbrev cEnd_primaryPath : Nat := 10
abbrev cEnd_room : Nat := 11
abbrev cEnd_limit : Nat := 12
abbrev cEnd_report : Nat := 13
abbrev cEnd_allErrors : Nat := 14
abbrev cEnd_tries : Nat := 15
abbrev cEnd_tryDue : Nat := 16
abbrev cInbox_room : Nat := 17
abbrev cInbox_unready : Nat := 18
abbrev cInbox_nextOrders : Nat := 19
abbrev cInbox_unreadyWords : Nat := 20
abbrev cInbox_latest : Nat := 21
abbrev cOutbox_nextOrders : Nat := 22
abbrev cOutbox_firstNumber : Nat := 23
abbrev cOutbox_nextNumber : Nat := 24
abbrev cOutbox_window : Nat := 25
abbrev cPacket_kind : Nat := 26
abbrev cPacket_tag : Nat := 27
abbrev cPacket_newTag : Nat := 28
abbrev cPacket_number : Nat := 29
abbrev cPacket_gaps : Nat := 30
abbrev cPacket_window : Nat := 31
abbrev cPacket_tick : Nat := 32
abbrev cPath_rate : Nat := 33
abbrev cPath_wait : Nat := 34
abbrev cPath_errors : Nat := 35
abbrev cPath_active : Nat := 36
abbrev cPath_timerRuns : Nat := 37
abbrev cPath_timerDue : Nat := 38
abbrev cPath_beatOpen : Nat := 39
abbrev cPath_beatTick : Nat := 40
abbrev cPath_good : Nat := 41
abbrev cReadyList_streams : Nat := 42
abbrev cReadyList_firstWords : Nat := 43
abbrev cReadyList_lengths : Nat := 44
abbrev cReadyList_count : Nat := 45
abbrev cReadyList_words : Nat := 46
abbrev cRow_start : Nat := 47
abbrev cRow_count : Nat := 48
abbrev cSentWord_state : Nat := 49
abbrev cSentWord_lastPath : Nat := 50
abbrev cSentWord_strikes : Nat := 51
abbrev cTagList_tags : Nat := 52
abbrev cTagList_count : Nat := 53
abbrev cWord_number : Nat := 54
abbrev cWord_value : Nat := 55
abbrev cWord_stream : Nat := 56
abbrev cWord_order : Nat := 57
abbrev cWord_first : Nat := 58
abbrev cWord_last : Nat := 59
abbrev cWord_unordered : Nat := 60
abbrev cM_room : Nat := 1001
abbrev cM_limit : Nat := 1002
abbrev cM_key : Nat := 1003
abbrev cM_now : Nat := 1004
abbrev cM_rows : Nat := 1005
abbrev cM_packet : Nat := 1006
abbrev cM_arrived : Nat := 1007
abbrev cM_state : Nat := 1008
abbrev cM_own : Nat := 1009
abbrev cM_other : Nat := 1010
abbrev cM_report : Nat := 1011
abbrev cM_cookie : Nat := 1012
abbrev cM_opens : Nat := 1013
abbrev cM_opened : Nat := 1014
abbrev cM_ups : Nat := 1015
abbrev cM_wasUp : Nat := 1016
abbrev cM_tries : Nat := 1017
abbrev cM_due : Nat := 1018
abbrev cM_primary : Nat := 1019
abbrev cM_allErrors : Nat := 1020
abbrev cM_window : Nat := 1021
abbrev cM_active : Nat := 1022
abbrev cM_rate : Nat := 1023
abbrev cM_wait : Nat := 1024
abbrev cM_errors : Nat := 1025
abbrev cM_runs : Nat := 1026
abbrev cM_timer : Nat := 1027
abbrev cM_beating : Nat := 1028
abbrev cM_beat : Nat := 1029
abbrev cM_good : Nat := 1030
abbrev cM_gone : Nat := 1031
abbrev cM_given : Nat := 1032
abbrev cM_orders : Nat := 1033
abbrev cM_word : Nat := 1034
abbrev cM_value : Nat := 1035
abbrev cM_stream : Nat := 1036
abbrev cM_order : Nat := 1037
abbrev cM_flags : Nat := 1038
abbrev cM_sentOn : Nat := 1039
abbrev cM_strikes : Nat := 1040
abbrev cM_sackOf : Nat := 1041
abbrev cM_latest : Nat := 1042
abbrev cM_had : Nat := 1043
abbrev cM_held : Nat := 1044
abbrev cM_hisValue : Nat := 1045
abbrev cM_hisStream : Nat := 1046
abbrev cM_hisOrder : Nat := 1047
abbrev cM_hisFlags : Nat := 1048
abbrev cM_nextOrder : Nat := 1049
abbrev cM_kept : Nat := 1050
abbrev cM_readies : Nat := 1051
abbrev cM_firstReady : Nat := 1052
abbrev cM_firstWord : Nat := 1053
abbrev cM_words : Nat := 1054
end
section
/-! The static heap: every object is a kind and a number; ints and booleans lie in a store by code, object and place; references are fixed. -/
abbrev St : Type := Nat → Nat → Nat → Int32
abbrev SS : Type := St × St
def up3 (S : St) (x i j : Nat) (v : Int32) : St := fun x' i' j' => match Nat.beq x' x with
  | false => S x' i' j'
  | true => if i' = i ∧ j' = j then v else S x' i' j'
def sGet (S : SS) (x i j : Nat) : Int32 := match Nat.ble 1000 x with
  | true => S.2 x i j
  | false => S.1 x i j
def sPut (S : SS) (x i j : Nat) (v : Int32) : SS := match Nat.ble 1000 x with
  | true => (S.1, up3 S.2 x i j v)
  | false => (up3 S.1 x i j v, S.2)
/-- a boolean cell as a number -/
def nz (x : Int32) : Int32 := if x = 0 then 0 else 1
abbrev ix (i : Int32) : Nat := i.toNatClampNeg
def inb (i : Int32) (n : Nat) : Bool := !decide (i < 0) && Nat.blt i.toNatClampNeg n
theorem inb_in {i : Int32} {n : Nat} (h : inb i n = true) : vp_in i n := by
  simp only [inb, Bool.and_eq_true, Bool.not_eq_true', decide_eq_false_iff_not, Nat.blt_eq] at h
  exact fun q => q.elim h.1 (fun q => by omega)
def akO (t : Nat) : Option (Nat × Nat × Nat × Nat × Nat) := (akL[t - 64]?).map (fun q => q.1)
def flO (own k : Nat) : Option (Nat × Nat × Nat × Nat × Nat × Nat) := iLk2 (flL.getD own []) k
def hG1 (q : Option (Nat × Nat × Nat × Nat × Nat × Nat)) (t j : Nat) (r : List iV) (S : SS) : Option (List iV × SS) := match q with
  | some (cls, _, kd, x, a, b) => match Nat.beq t cls with
    | true => match kd with
      | 0 => some (vI (sGet S x j 0) :: r, S)
      | 1 => some (vI (nz (sGet S x j 0)) :: r, S)
      | 2 => some (vR x (j + b) :: r, S)
      | _ => some (vR x (a * j + b) :: r, S)
    | false => none
  | none => none
def hGet (own k : Nat) (st : List iV) (S : SS) : Option (List iV × SS) := match st with
  | Sum.inr (Sum.inr (Sum.inl (some (t, j)))) :: r => hG1 (flO own k) t j r S
  | _ => none
def hP1 (q : Option (Nat × Nat × Nat × Nat × Nat × Nat)) (t : Nat) (v : Int32) (j : Nat) (r : List iV) (S : SS) : Option (List iV × SS) := match q with
  | some (cls, _, kd, x, _, _) => match Nat.beq t cls with
    | true => match kd with
      | 0 => some (r, sPut S x j 0 v)
      | 1 => match iIsB v with
        | true => some (r, sPut S x j 0 v)
        | false => none
      | _ => none
    | false => none
  | none => none
def hPut (own k : Nat) (st : List iV) (S : SS) : Option (List iV × SS) := match st with
  | Sum.inl v :: Sum.inr (Sum.inr (Sum.inl (some (t, j)))) :: r => hP1 (flO own k) t v j r S
  | _ => none
def hI1 (q : Option (Nat × Nat × Nat × Nat × Nat)) (i : Int32) (j : Nat) (r : List iV) (S : SS) : Option (List iV × SS) := match q with
  | some (0, x, _, _, n) => match inb i n with
    | true => some (vI (sGet S x j (ix i)) :: r, S)
    | false => none
  | _ => none
def hIscr (scr : Nat × (Nat → Int32)) (i : Int32) (r : List iV) (S : SS) : Option (List iV × SS) := match inb i scr.1 with
  | true => some (vI (scr.2 (ix i)) :: r, S)
  | false => none
def hIald (scr : Nat × (Nat → Int32)) (st : List iV) (S : SS) : Option (List iV × SS) := match st with
  | Sum.inl i :: Sum.inr (Sum.inr (Sum.inl (some (t, j)))) :: r => match Nat.beq t 63 with
    | true => hIscr scr i r S
    | false => hI1 (akO t) i j r S
  | _ => none
def hB1 (q : Option (Nat × Nat × Nat × Nat × Nat)) (i : Int32) (j : Nat) (r : List iV) (S : SS) : Option (List iV × SS) := match q with
  | some (1, x, _, _, n) => match inb i n with
    | true => some (vI (nz (sGet S x j (ix i))) :: r, S)
    | false => none
  | _ => none
def hBald (st : List iV) (S : SS) : Option (List iV × SS) := match st with
  | Sum.inl i :: Sum.inr (Sum.inr (Sum.inl (some (t, j)))) :: r => hB1 (akO t) i j r S
  | _ => none
def hA1 (q : Option (Nat × Nat × Nat × Nat × Nat)) (i : Int32) (j : Nat) (r : List iV) (S : SS) : Option (List iV × SS) := match q with
  | some (2, x, _, _, n) => match inb i n with
    | true => some (vR x (ix i) :: r, S)
    | false => none
  | some (3, x, a, _, n) => match inb i n with
    | true => some (vR x (a * j + ix i) :: r, S)
    | false => none
  | some (4, x, a, b, n) => match inb i n with
    | true => some (vR x (a * j + ix i + b) :: r, S)
    | false => none
  | _ => none
def hAald (st : List iV) (S : SS) : Option (List iV × SS) := match st with
  | Sum.inl i :: Sum.inr (Sum.inr (Sum.inl (some (t, j)))) :: r => hA1 (akO t) i j r S
  | _ => none
def hI2 (q : Option (Nat × Nat × Nat × Nat × Nat)) (v i : Int32) (j : Nat) (r : List iV) (S : SS) : Option (List iV × SS) := match q with
  | some (0, x, _, _, n) => match inb i n with
    | true => some (r, sPut S x j (ix i) v)
    | false => none
  | _ => none
def hIast (st : List iV) (S : SS) : Option (List iV × SS) := match st with
  | Sum.inl v :: Sum.inl i :: Sum.inr (Sum.inr (Sum.inl (some (t, j)))) :: r => hI2 (akO t) v i j r S
  | _ => none
def hB2 (q : Option (Nat × Nat × Nat × Nat × Nat)) (v i : Int32) (j : Nat) (r : List iV) (S : SS) : Option (List iV × SS) := match q with
  | some (1, x, _, _, n) => match inb i n && iIsB v with
    | true => some (r, sPut S x j (ix i) v)
    | false => none
  | _ => none
def hBast (st : List iV) (S : SS) : Option (List iV × SS) := match st with
  | Sum.inl v :: Sum.inl i :: Sum.inr (Sum.inr (Sum.inl (some (t, j)))) :: r => hB2 (akO t) v i j r S
  | _ => none
def hLen (scr : Nat × (Nat → Int32)) (st : List iV) (S : SS) : Option (List iV × SS) := match st with
  | Sum.inr (Sum.inr (Sum.inl (some (t, _)))) :: r => match Nat.beq t 63 with
    | true => some (vI (Int32.ofNat scr.1) :: r, S)
    | false => none
  | _ => none
def hopS (scr : Nat × (Nat → Int32)) (own : Nat) (i : iI) (st : List iV) (S : SS) : Option (List iV × SS) := match i with
  | .getfield k => hGet own k st S
  | .putfield k => hPut own k st S
  | .iaload => hIald scr st S
  | .baload => hBald st S
  | .aaload => hAald st S
  | .iastore => hIast st S
  | .bastore => hBast st S
  | .arraylength => hLen scr st S
  | _ => none
abbrev E0 (scr : Nat × (Nat → Int32)) (d j : Nat) (as : List iV) (S : SS) (o : Option iV × SS) : Prop := Ev (hopS scr) tgT mthT d j as S o
abbrev EB (scr : Nat × (Nat → Int32)) (d own rk : Nat) (cd : List iE) (c : iC) (S : SS) (o : Option iV × SS) : Prop := EvB (hopS scr) tgT mthT d own rk cd c S o
section sRules
variable {scr : Nat × (Nat → Int32)} {d own rk : Nat} {cd : List iE} {pc : Nat} {ls : iL} {r : List iV} {S : SS} {o : Option iV × SS} {i v : Int32} {t j x a b n m k cls fno : Nat} {tx : iX}
theorem ev_hop {c : iC} {q : iI} {st' : List iV} {S' : SS} (hl : iLk cd c.1 = some (q, m, tx)) (hr : iRet rk q c.2.2 = none) (h0 : iStp q tx c = none) (h1 : hopS scr own q c.2.2 S = some (st', S')) (hB : EB scr d own rk cd (c.1 + iLen q, c.2.1, st') S' o) : EB scr d own rk cd c S o :=
  ev_one hl hr (by unfold iOne; rw [h0]; dsimp only; rw [h1]) hB
theorem ev_iald (hl : iLk cd pc = some (.iaload, m, tx)) (ht : Nat.beq t 63 = false) (hk : akO t = some (0, x, a, b, n)) (hg : inb i n = true) (hB : EB scr d own rk cd (pc + 1, ls, vI (sGet S x j (ix i)) :: r) S o) : EB scr d own rk cd (pc, ls, vI i :: vR t j :: r) S o :=
  ev_hop hl rfl rfl (by show (match Nat.beq t 63 with | true => hIscr scr i r S | false => hI1 (akO t) i j r S) = _; rw [ht, hk]; simp only [hI1, hg]) hB
theorem ev_iscr (hl : iLk cd pc = some (.iaload, m, tx)) (hg : inb i scr.1 = true) (hB : EB scr d own rk cd (pc + 1, ls, vI (scr.2 (ix i)) :: r) S o) : EB scr d own rk cd (pc, ls, vI i :: vR 63 j :: r) S o :=
  ev_hop hl rfl rfl (by show hIscr scr i r S = _; simp only [hIscr, hg]) hB
theorem ev_bald (hl : iLk cd pc = some (.baload, m, tx)) (hk : akO t = some (1, x, a, b, n)) (hg : inb i n = true) (hB : EB scr d own rk cd (pc + 1, ls, vI (nz (sGet S x j (ix i))) :: r) S o) : EB scr d own rk cd (pc, ls, vI i :: vR t j :: r) S o :=
  ev_hop hl rfl rfl (by show hB1 (akO t) i j r S = _; rw [hk]; simp only [hB1, hg]) hB
theorem ev_aald2 (hl : iLk cd pc = some (.aaload, m, tx)) (hk : akO t = some (2, x, a, b, n)) (hg : inb i n = true) (hB : EB scr d own rk cd (pc + 1, ls, vR x (ix i) :: r) S o) : EB scr d own rk cd (pc, ls, vI i :: vR t j :: r) S o :=
  ev_hop hl rfl rfl (by show hA1 (akO t) i j r S = _; rw [hk]; simp only [hA1, hg]) hB
theorem ev_aald3 (hl : iLk cd pc = some (.aaload, m, tx)) (hk : akO t = some (3, x, a, b, n)) (hg : inb i n = true) (hB : EB scr d own rk cd (pc + 1, ls, vR x (a * j + ix i) :: r) S o) : EB scr d own rk cd (pc, ls, vI i :: vR t j :: r) S o :=
  ev_hop hl rfl rfl (by show hA1 (akO t) i j r S = _; rw [hk]; simp only [hA1, hg]) hB
theorem ev_aald4 (hl : iLk cd pc = some (.aaload, m, tx)) (hk : akO t = some (4, x, a, b, n)) (hg : inb i n = true) (hB : EB scr d own rk cd (pc + 1, ls, vR x (a * j + ix i + b) :: r) S o) : EB scr d own rk cd (pc, ls, vI i :: vR t j :: r) S o :=
  ev_hop hl rfl rfl (by show hA1 (akO t) i j r S = _; rw [hk]; simp only [hA1, hg]) hB
theorem ev_iast (hl : iLk cd pc = some (.iastore, m, tx)) (hk : akO t = some (0, x, a, b, n)) (hg : inb i n = true) (hB : EB scr d own rk cd (pc + 1, ls, r) (sPut S x j (ix i) v) o) : EB scr d own rk cd (pc, ls, vI v :: vI i :: vR t j :: r) S o :=
  ev_hop hl rfl rfl (by show hI2 (akO t) v i j r S = _; rw [hk]; simp only [hI2, hg]) hB
theorem ev_bast (hl : iLk cd pc = some (.bastore, m, tx)) (hk : akO t = some (1, x, a, b, n)) (hg : inb i n = true) (hv : iIsB v = true) (hB : EB scr d own rk cd (pc + 1, ls, r) (sPut S x j (ix i) v) o) : EB scr d own rk cd (pc, ls, vI v :: vI i :: vR t j :: r) S o :=
  ev_hop hl rfl rfl (by show hB2 (akO t) v i j r S = _; rw [hk]; simp only [hB2, hg, hv, Bool.and_self]) hB
theorem ev_putz (hl : iLk cd pc = some (.putfield k, m, tx)) (hk : flO own k = some (cls, fno, 1, x, a, b)) (ht : Nat.beq t cls = true) (hv : iIsB v = true) (hB : EB scr d own rk cd (pc + 3, ls, r) (sPut S x j 0 v) o) : EB scr d own rk cd (pc, ls, vI v :: vR t j :: r) S o :=
  ev_hop hl rfl rfl (by show hP1 (flO own k) t v j r S = _; rw [hk]; simp only [hP1, ht, hv]) hB
end sRules
theorem isB_nz (x : Int32) : iIsB (nz x) = true := by
  unfold nz
  split
  · rfl
  · rfl
/-! what the functions are made of -/
theorem ifg {α : Type} {c : Prop} {_ : Decidable c} {a : Option α} {x : α} (h : (if c then a else none) = some x) : c ∧ a = some x := by
  split at h
  · exact ⟨‹_›, h⟩
  · cases h
def bd {α β : Type} (o : Option α) (f : α → Option β) : Option β := match o with
  | none => none
  | some a => f a
theorem bd_some {α β : Type} {o : Option α} {f : α → Option β} {x : β} (h : bd o f = some x) : ∃ a, o = some a ∧ f a = some x := by
  unfold bd at h
  split at h
  · cases h
  · exact ⟨_, rfl, h⟩
def bd2 {α β γ : Type} (o : Option (α × β)) (f : α → β → Option γ) : Option γ := match o with
  | none => none
  | some (a, b) => f a b
theorem bd2_some {α β γ : Type} {o : Option (α × β)} {f : α → β → Option γ} {x : γ} (h : bd2 o f = some x) : ∃ a b, o = some (a, b) ∧ f a b = some x := by
  unfold bd2 at h
  split at h
  · cases h
  · exact ⟨_, _, rfl, h⟩
/-- out of a loop -/
def exW {σ ρ : Type} (o : Option ρ) : Option (σ ⊕ ρ) := match o with
  | none => none
  | some r => some (Sum.inr r)
theorem exW_some {σ ρ : Type} {o : Option ρ} {x : σ ⊕ ρ} (h : exW o = some x) : ∃ r, o = some r ∧ x = Sum.inr r := by
  unfold exW at h
  split at h
  · cases h
  · exact ⟨_, rfl, (Option.some.inj h).symm⟩
def iter {σ ρ : Type} (body : σ → Option (σ ⊕ ρ)) : Nat → σ → Option ρ
  | 0, _ => none
  | n + 1, s => match body s with
    | none => none
    | some (Sum.inl s') => iter body n s'
    | some (Sum.inr r) => some r
theorem iter_ind {σ ρ : Type} {body : σ → Option (σ ⊕ ρ)} {P : σ → Prop} {G : ρ → Prop} (hb : ∀ s x, body s = some x → Sum.elim P G x → P s) : ∀ {n : Nat} {s : σ} {r : ρ}, iter body n s = some r → G r → P s := by
  intro n
  induction n with
  | zero => intro s r h; cases h
  | succ n ih =>
    intro s r h hG
    unfold iter at h
    split at h
    · cases h
    · rename_i s' hs
      exact hb s _ hs (ih h hG)
    · rename_i r' hs
      cases h
      exact hb s _ hs hG
/-- a trial -/
theorem try_1 (scr : Nat × (Nat → Int32)) (S T : St) (j : Nat) (o : Option iV × SS) (h : EB scr 3 9 0 cd_Row_removeOldest (20, [some (vR 9 j)], []) (up3 S cRow_start j 0 (iRem (S cRow_start j 0 + 1) 8), T) o) : EB scr 3 9 0 cd_Row_removeOldest (7, [some (vR 9 j)], []) (S, T) o := by
  refine ev_steps 8 (c' := (20, [some (vR 9 j)], [])) (h' := (up3 S cRow_start j 0 (iRem (S cRow_start j 0 + 1) 8), T)) rfl ?_
  exact h
end
