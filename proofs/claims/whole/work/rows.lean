section
-- ===== PART A: goes FIRST, ahead of the names: the tables' words, and 'selects' of the private methods out of them =====
/-- a private method of a class that the tables say can be made, by its rows of tables_1 -/
def lw_okq (q : MethodName × Nat) : Prop := (q.1.cls ≠ "java/lang/invoke/MethodHandle" ∧ q.1.cls ≠ "java/lang/invoke/VarHandle") ∧ Cond.instantiable q.1.cls q.2 ∈ tables_1 ∧ Cond.privateMethod q.1 ∈ tables_1 ∧ Cond.instanceMethod q.1 ∈ tables_1
theorem lw_p0 : lw_okq (⟨"java/lang/Throwable", "fillInStackTrace", "(I)Ljava/lang/Throwable;"⟩, 6) := ⟨⟨by decide +kernel, by decide +kernel⟩, List.mem_of_getElem? (i := 308) (by decide +kernel), List.mem_of_getElem? (i := 306) (by decide +kernel), List.mem_of_getElem? (i := 307) (by decide +kernel)⟩
theorem lw_p1 : lw_okq (⟨"CausalBroadcast", "requireView", "(I)V"⟩, 5) := ⟨⟨by decide +kernel, by decide +kernel⟩, List.mem_of_getElem? (i := 26) (by decide +kernel), List.mem_of_getElem? (i := 370) (by decide +kernel), List.mem_of_getElem? (i := 371) (by decide +kernel)⟩
theorem lw_p2 : lw_okq (⟨"CausalBroadcast$Group", "force", "(II)I"⟩, 8) := ⟨⟨by decide +kernel, by decide +kernel⟩, List.mem_of_getElem? (i := 72) (by decide +kernel), List.mem_of_getElem? (i := 479) (by decide +kernel), List.mem_of_getElem? (i := 480) (by decide +kernel)⟩
theorem lw_p3 : lw_okq (⟨"CausalBroadcast$Group", "isLoggedAmong", "(II)Z"⟩, 8) := ⟨⟨by decide +kernel, by decide +kernel⟩, List.mem_of_getElem? (i := 72) (by decide +kernel), List.mem_of_getElem? (i := 483) (by decide +kernel), List.mem_of_getElem? (i := 484) (by decide +kernel)⟩
theorem lw_p4 : lw_okq (⟨"CausalBroadcast$Group", "deliver", "(II)V"⟩, 8) := ⟨⟨by decide +kernel, by decide +kernel⟩, List.mem_of_getElem? (i := 72) (by decide +kernel), List.mem_of_getElem? (i := 508) (by decide +kernel), List.mem_of_getElem? (i := 509) (by decide +kernel)⟩
theorem lw_p5 : lw_okq (⟨"CausalBroadcast$Group", "welcome", "(ILCausalBroadcast$Replica;)V"⟩, 8) := ⟨⟨by decide +kernel, by decide +kernel⟩, List.mem_of_getElem? (i := 72) (by decide +kernel), List.mem_of_getElem? (i := 524) (by decide +kernel), List.mem_of_getElem? (i := 525) (by decide +kernel)⟩
theorem lw_p6 : lw_okq (⟨"CausalBroadcast$Group", "beginView", "()V"⟩, 8) := ⟨⟨by decide +kernel, by decide +kernel⟩, List.mem_of_getElem? (i := 72) (by decide +kernel), List.mem_of_getElem? (i := 529) (by decide +kernel), List.mem_of_getElem? (i := 530) (by decide +kernel)⟩
theorem lw_p7 : lw_okq (⟨"CausalBroadcast$Messages", "greatestDepthBefore", "(I)I"⟩, 7) := ⟨⟨by decide +kernel, by decide +kernel⟩, List.mem_of_getElem? (i := 78) (by decide +kernel), List.mem_of_getElem? (i := 564) (by decide +kernel), List.mem_of_getElem? (i := 565) (by decide +kernel)⟩
theorem lw_p8 : lw_okq (⟨"CausalBroadcast", "requireMessage", "(I)V"⟩, 5) := ⟨⟨by decide +kernel, by decide +kernel⟩, List.mem_of_getElem? (i := 26) (by decide +kernel), List.mem_of_getElem? (i := 583) (by decide +kernel), List.mem_of_getElem? (i := 584) (by decide +kernel)⟩
theorem lw_p9 : lw_okq (⟨"CausalBroadcast", "requireReach", "(II)V"⟩, 5) := ⟨⟨by decide +kernel, by decide +kernel⟩, List.mem_of_getElem? (i := 26) (by decide +kernel), List.mem_of_getElem? (i := 592) (by decide +kernel), List.mem_of_getElem? (i := 593) (by decide +kernel)⟩
theorem lw_p10 : lw_okq (⟨"CausalBroadcast$Group", "deliverWaiting", "(II)I"⟩, 8) := ⟨⟨by decide +kernel, by decide +kernel⟩, List.mem_of_getElem? (i := 72) (by decide +kernel), List.mem_of_getElem? (i := 606) (by decide +kernel), List.mem_of_getElem? (i := 607) (by decide +kernel)⟩
theorem lw_p11 : lw_okq (⟨"CausalBroadcast", "requireMember", "(I)V"⟩, 5) := ⟨⟨by decide +kernel, by decide +kernel⟩, List.mem_of_getElem? (i := 26) (by decide +kernel), List.mem_of_getElem? (i := 617) (by decide +kernel), List.mem_of_getElem? (i := 618) (by decide +kernel)⟩
theorem lw_p12 : lw_okq (⟨"CausalBroadcast", "requireLogged", "(II)V"⟩, 5) := ⟨⟨by decide +kernel, by decide +kernel⟩, List.mem_of_getElem? (i := 26) (by decide +kernel), List.mem_of_getElem? (i := 728) (by decide +kernel), List.mem_of_getElem? (i := 729) (by decide +kernel)⟩
theorem lw_p13 : lw_okq (⟨"CausalBroadcast$Replica", "countSwappedBehind", "(ILCausalBroadcast$Replica;)I"⟩, 6) := ⟨⟨by decide +kernel, by decide +kernel⟩, List.mem_of_getElem? (i := 118) (by decide +kernel), List.mem_of_getElem? (i := 817) (by decide +kernel), List.mem_of_getElem? (i := 818) (by decide +kernel)⟩
theorem lw_p14 : lw_okq (⟨"CausalBroadcast$Script", "readEvent", "()Z"⟩, 8) := ⟨⟨by decide +kernel, by decide +kernel⟩, List.mem_of_getElem? (i := 34) (by decide +kernel), List.mem_of_getElem? (i := 934) (by decide +kernel), List.mem_of_getElem? (i := 935) (by decide +kernel)⟩
theorem lw_p15 : lw_okq (⟨"CausalBroadcast$Script", "readSign", "(C)Z"⟩, 8) := ⟨⟨by decide +kernel, by decide +kernel⟩, List.mem_of_getElem? (i := 34) (by decide +kernel), List.mem_of_getElem? (i := 938) (by decide +kernel), List.mem_of_getElem? (i := 939) (by decide +kernel)⟩
def lw_privs_1 : List (MethodName × Nat) := [(⟨"java/lang/Throwable", "fillInStackTrace", "(I)Ljava/lang/Throwable;"⟩, 6), (⟨"CausalBroadcast", "requireView", "(I)V"⟩, 5), (⟨"CausalBroadcast$Group", "force", "(II)I"⟩, 8), (⟨"CausalBroadcast$Group", "isLoggedAmong", "(II)Z"⟩, 8), (⟨"CausalBroadcast$Group", "deliver", "(II)V"⟩, 8), (⟨"CausalBroadcast$Group", "welcome", "(ILCausalBroadcast$Replica;)V"⟩, 8), (⟨"CausalBroadcast$Group", "beginView", "()V"⟩, 8), (⟨"CausalBroadcast$Messages", "greatestDepthBefore", "(I)I"⟩, 7), (⟨"CausalBroadcast", "requireMessage", "(I)V"⟩, 5), (⟨"CausalBroadcast", "requireReach", "(II)V"⟩, 5), (⟨"CausalBroadcast$Group", "deliverWaiting", "(II)I"⟩, 8), (⟨"CausalBroadcast", "requireMember", "(I)V"⟩, 5), (⟨"CausalBroadcast", "requireLogged", "(II)V"⟩, 5), (⟨"CausalBroadcast$Replica", "countSwappedBehind", "(ILCausalBroadcast$Replica;)I"⟩, 6), (⟨"CausalBroadcast$Script", "readEvent", "()Z"⟩, 8), (⟨"CausalBroadcast$Script", "readSign", "(C)Z"⟩, 8)]
theorem lw_r1 : ∀ q ∈ lw_privs_1, lw_okq q := List.forall_mem_cons.mpr ⟨lw_p0, List.forall_mem_cons.mpr ⟨lw_p1, List.forall_mem_cons.mpr ⟨lw_p2, List.forall_mem_cons.mpr ⟨lw_p3, List.forall_mem_cons.mpr ⟨lw_p4, List.forall_mem_cons.mpr ⟨lw_p5, List.forall_mem_cons.mpr ⟨lw_p6, List.forall_mem_cons.mpr ⟨lw_p7, List.forall_mem_cons.mpr ⟨lw_p8, List.forall_mem_cons.mpr ⟨lw_p9, List.forall_mem_cons.mpr ⟨lw_p10, List.forall_mem_cons.mpr ⟨lw_p11, List.forall_mem_cons.mpr ⟨lw_p12, List.forall_mem_cons.mpr ⟨lw_p13, List.forall_mem_cons.mpr ⟨lw_p14, List.forall_mem_cons.mpr ⟨lw_p15, fun _ h => absurd h List.not_mem_nil⟩⟩⟩⟩⟩⟩⟩⟩⟩⟩⟩⟩⟩⟩⟩⟩
theorem lw_p16 : lw_okq (⟨"CausalBroadcast$Script", "keep", "(CII)Z"⟩, 8) := ⟨⟨by decide +kernel, by decide +kernel⟩, List.mem_of_getElem? (i := 34) (by decide +kernel), List.mem_of_getElem? (i := 942) (by decide +kernel), List.mem_of_getElem? (i := 943) (by decide +kernel)⟩
theorem lw_p17 : lw_okq (⟨"CausalBroadcast$Script", "readProcess", "()Z"⟩, 8) := ⟨⟨by decide +kernel, by decide +kernel⟩, List.mem_of_getElem? (i := 34) (by decide +kernel), List.mem_of_getElem? (i := 1029) (by decide +kernel), List.mem_of_getElem? (i := 1030) (by decide +kernel)⟩
theorem lw_p18 : lw_okq (⟨"CausalBroadcast$Script", "isDigitNext", "()Z"⟩, 8) := ⟨⟨by decide +kernel, by decide +kernel⟩, List.mem_of_getElem? (i := 34) (by decide +kernel), List.mem_of_getElem? (i := 1033) (by decide +kernel), List.mem_of_getElem? (i := 1034) (by decide +kernel)⟩
theorem lw_p19 : lw_okq (⟨"CausalBroadcast$Script", "readRest", "(C)Z"⟩, 8) := ⟨⟨by decide +kernel, by decide +kernel⟩, List.mem_of_getElem? (i := 34) (by decide +kernel), List.mem_of_getElem? (i := 1038) (by decide +kernel), List.mem_of_getElem? (i := 1039) (by decide +kernel)⟩
theorem lw_p20 : lw_okq (⟨"CausalBroadcast$Script", "readPayload", "()Z"⟩, 8) := ⟨⟨by decide +kernel, by decide +kernel⟩, List.mem_of_getElem? (i := 34) (by decide +kernel), List.mem_of_getElem? (i := 1042) (by decide +kernel), List.mem_of_getElem? (i := 1043) (by decide +kernel)⟩
theorem lw_p21 : lw_okq (⟨"CausalBroadcast$Script", "readDigits", "()Z"⟩, 8) := ⟨⟨by decide +kernel, by decide +kernel⟩, List.mem_of_getElem? (i := 34) (by decide +kernel), List.mem_of_getElem? (i := 1046) (by decide +kernel), List.mem_of_getElem? (i := 1047) (by decide +kernel)⟩
theorem lw_p22 : lw_okq (⟨"CausalBroadcast", "prepareTrial", "()V"⟩, 5) := ⟨⟨by decide +kernel, by decide +kernel⟩, List.mem_of_getElem? (i := 26) (by decide +kernel), List.mem_of_getElem? (i := 1055) (by decide +kernel), List.mem_of_getElem? (i := 1056) (by decide +kernel)⟩
theorem lw_p23 : lw_okq (⟨"CausalBroadcast$Group", "canPerform", "(CII)Z"⟩, 8) := ⟨⟨by decide +kernel, by decide +kernel⟩, List.mem_of_getElem? (i := 72) (by decide +kernel), List.mem_of_getElem? (i := 1063) (by decide +kernel), List.mem_of_getElem? (i := 1064) (by decide +kernel)⟩
theorem lw_p24 : lw_okq (⟨"CausalBroadcast", "swapWithTrial", "()V"⟩, 5) := ⟨⟨by decide +kernel, by decide +kernel⟩, List.mem_of_getElem? (i := 26) (by decide +kernel), List.mem_of_getElem? (i := 1079) (by decide +kernel), List.mem_of_getElem? (i := 1080) (by decide +kernel)⟩
theorem lw_p25 : lw_okq (⟨"CausalBroadcastModel", "no", "(I)I"⟩, 14) := ⟨⟨by decide +kernel, by decide +kernel⟩, List.mem_of_getElem? (i := 1099) (by decide +kernel), List.mem_of_getElem? (i := 1159) (by decide +kernel), List.mem_of_getElem? (i := 1160) (by decide +kernel)⟩
theorem lw_p26 : lw_okq (⟨"CausalBroadcastModel", "isOne", "(I)Z"⟩, 14) := ⟨⟨by decide +kernel, by decide +kernel⟩, List.mem_of_getElem? (i := 1099) (by decide +kernel), List.mem_of_getElem? (i := 1183) (by decide +kernel), List.mem_of_getElem? (i := 1184) (by decide +kernel)⟩
theorem lw_p27 : lw_okq (⟨"CausalBroadcastModel", "members", "()I"⟩, 14) := ⟨⟨by decide +kernel, by decide +kernel⟩, List.mem_of_getElem? (i := 1099) (by decide +kernel), List.mem_of_getElem? (i := 1197) (by decide +kernel), List.mem_of_getElem? (i := 1198) (by decide +kernel)⟩
theorem lw_p28 : lw_okq (⟨"CausalBroadcastModel", "forces", "(II)I"⟩, 14) := ⟨⟨by decide +kernel, by decide +kernel⟩, List.mem_of_getElem? (i := 1099) (by decide +kernel), List.mem_of_getElem? (i := 1205) (by decide +kernel), List.mem_of_getElem? (i := 1206) (by decide +kernel)⟩
theorem lw_p29 : lw_okq (⟨"CausalBroadcastModel", "isDeliverable", "(II)Z"⟩, 14) := ⟨⟨by decide +kernel, by decide +kernel⟩, List.mem_of_getElem? (i := 1099) (by decide +kernel), List.mem_of_getElem? (i := 1209) (by decide +kernel), List.mem_of_getElem? (i := 1210) (by decide +kernel)⟩
theorem lw_p30 : lw_okq (⟨"CausalBroadcastModel", "isNow", "(I)Z"⟩, 14) := ⟨⟨by decide +kernel, by decide +kernel⟩, List.mem_of_getElem? (i := 1099) (by decide +kernel), List.mem_of_getElem? (i := 1213) (by decide +kernel), List.mem_of_getElem? (i := 1214) (by decide +kernel)⟩
theorem lw_p31 : lw_okq (⟨"CausalBroadcastModel", "isLogged", "(II)Z"⟩, 14) := ⟨⟨by decide +kernel, by decide +kernel⟩, List.mem_of_getElem? (i := 1099) (by decide +kernel), List.mem_of_getElem? (i := 1217) (by decide +kernel), List.mem_of_getElem? (i := 1218) (by decide +kernel)⟩
def lw_privs_2 : List (MethodName × Nat) := [(⟨"CausalBroadcast$Script", "keep", "(CII)Z"⟩, 8), (⟨"CausalBroadcast$Script", "readProcess", "()Z"⟩, 8), (⟨"CausalBroadcast$Script", "isDigitNext", "()Z"⟩, 8), (⟨"CausalBroadcast$Script", "readRest", "(C)Z"⟩, 8), (⟨"CausalBroadcast$Script", "readPayload", "()Z"⟩, 8), (⟨"CausalBroadcast$Script", "readDigits", "()Z"⟩, 8), (⟨"CausalBroadcast", "prepareTrial", "()V"⟩, 5), (⟨"CausalBroadcast$Group", "canPerform", "(CII)Z"⟩, 8), (⟨"CausalBroadcast", "swapWithTrial", "()V"⟩, 5), (⟨"CausalBroadcastModel", "no", "(I)I"⟩, 14), (⟨"CausalBroadcastModel", "isOne", "(I)Z"⟩, 14), (⟨"CausalBroadcastModel", "members", "()I"⟩, 14), (⟨"CausalBroadcastModel", "forces", "(II)I"⟩, 14), (⟨"CausalBroadcastModel", "isDeliverable", "(II)Z"⟩, 14), (⟨"CausalBroadcastModel", "isNow", "(I)Z"⟩, 14), (⟨"CausalBroadcastModel", "isLogged", "(II)Z"⟩, 14)]
theorem lw_r2 : ∀ q ∈ lw_privs_2, lw_okq q := List.forall_mem_cons.mpr ⟨lw_p16, List.forall_mem_cons.mpr ⟨lw_p17, List.forall_mem_cons.mpr ⟨lw_p18, List.forall_mem_cons.mpr ⟨lw_p19, List.forall_mem_cons.mpr ⟨lw_p20, List.forall_mem_cons.mpr ⟨lw_p21, List.forall_mem_cons.mpr ⟨lw_p22, List.forall_mem_cons.mpr ⟨lw_p23, List.forall_mem_cons.mpr ⟨lw_p24, List.forall_mem_cons.mpr ⟨lw_p25, List.forall_mem_cons.mpr ⟨lw_p26, List.forall_mem_cons.mpr ⟨lw_p27, List.forall_mem_cons.mpr ⟨lw_p28, List.forall_mem_cons.mpr ⟨lw_p29, List.forall_mem_cons.mpr ⟨lw_p30, List.forall_mem_cons.mpr ⟨lw_p31, fun _ h => absurd h List.not_mem_nil⟩⟩⟩⟩⟩⟩⟩⟩⟩⟩⟩⟩⟩⟩⟩⟩
theorem lw_p32 : lw_okq (⟨"CausalBroadcastModel", "clockOf", "(II)I"⟩, 14) := ⟨⟨by decide +kernel, by decide +kernel⟩, List.mem_of_getElem? (i := 1099) (by decide +kernel), List.mem_of_getElem? (i := 1221) (by decide +kernel), List.mem_of_getElem? (i := 1222) (by decide +kernel)⟩
theorem lw_p33 : lw_okq (⟨"CausalBroadcastModel", "isHeld", "(II)Z"⟩, 14) := ⟨⟨by decide +kernel, by decide +kernel⟩, List.mem_of_getElem? (i := 1099) (by decide +kernel), List.mem_of_getElem? (i := 1225) (by decide +kernel), List.mem_of_getElem? (i := 1226) (by decide +kernel)⟩
theorem lw_p34 : lw_okq (⟨"CausalBroadcastModel", "delivers", "(II)V"⟩, 14) := ⟨⟨by decide +kernel, by decide +kernel⟩, List.mem_of_getElem? (i := 1099) (by decide +kernel), List.mem_of_getElem? (i := 1229) (by decide +kernel), List.mem_of_getElem? (i := 1230) (by decide +kernel)⟩
theorem lw_p35 : lw_okq (⟨"CausalBroadcastModel", "logs", "(II)V"⟩, 14) := ⟨⟨by decide +kernel, by decide +kernel⟩, List.mem_of_getElem? (i := 1099) (by decide +kernel), List.mem_of_getElem? (i := 1233) (by decide +kernel), List.mem_of_getElem? (i := 1234) (by decide +kernel)⟩
theorem lw_p36 : lw_okq (⟨"CausalBroadcastModel", "isMember", "(I)Z"⟩, 14) := ⟨⟨by decide +kernel, by decide +kernel⟩, List.mem_of_getElem? (i := 1099) (by decide +kernel), List.mem_of_getElem? (i := 1237) (by decide +kernel), List.mem_of_getElem? (i := 1238) (by decide +kernel)⟩
theorem lw_p37 : lw_okq (⟨"CausalBroadcastModel", "isInView", "(I)Z"⟩, 14) := ⟨⟨by decide +kernel, by decide +kernel⟩, List.mem_of_getElem? (i := 1099) (by decide +kernel), List.mem_of_getElem? (i := 1245) (by decide +kernel), List.mem_of_getElem? (i := 1246) (by decide +kernel)⟩
theorem lw_p38 : lw_okq (⟨"CausalBroadcastModel", "isMessage", "(I)Z"⟩, 14) := ⟨⟨by decide +kernel, by decide +kernel⟩, List.mem_of_getElem? (i := 1099) (by decide +kernel), List.mem_of_getElem? (i := 1253) (by decide +kernel), List.mem_of_getElem? (i := 1254) (by decide +kernel)⟩
theorem lw_p39 : lw_okq (⟨"CausalBroadcastModel", "isOnTheWay", "(II)Z"⟩, 14) := ⟨⟨by decide +kernel, by decide +kernel⟩, List.mem_of_getElem? (i := 1099) (by decide +kernel), List.mem_of_getElem? (i := 1257) (by decide +kernel), List.mem_of_getElem? (i := 1258) (by decide +kernel)⟩
theorem lw_p40 : lw_okq (⟨"CausalBroadcastModel", "comes", "(II)I"⟩, 14) := ⟨⟨by decide +kernel, by decide +kernel⟩, List.mem_of_getElem? (i := 1099) (by decide +kernel), List.mem_of_getElem? (i := 1261) (by decide +kernel), List.mem_of_getElem? (i := 1262) (by decide +kernel)⟩
theorem lw_p41 : lw_okq (⟨"CausalBroadcastModel", "isBuffered", "(II)Z"⟩, 14) := ⟨⟨by decide +kernel, by decide +kernel⟩, List.mem_of_getElem? (i := 1099) (by decide +kernel), List.mem_of_getElem? (i := 1265) (by decide +kernel), List.mem_of_getElem? (i := 1266) (by decide +kernel)⟩
theorem lw_p42 : lw_okq (⟨"CausalBroadcastModel", "isSent", "(I)Z"⟩, 14) := ⟨⟨by decide +kernel, by decide +kernel⟩, List.mem_of_getElem? (i := 1099) (by decide +kernel), List.mem_of_getElem? (i := 1285) (by decide +kernel), List.mem_of_getElem? (i := 1286) (by decide +kernel)⟩
theorem lw_p43 : lw_okq (⟨"CausalBroadcastModel", "isCauseOf", "(II)Z"⟩, 14) := ⟨⟨by decide +kernel, by decide +kernel⟩, List.mem_of_getElem? (i := 1099) (by decide +kernel), List.mem_of_getElem? (i := 1297) (by decide +kernel), List.mem_of_getElem? (i := 1298) (by decide +kernel)⟩
theorem lw_p44 : lw_okq (⟨"CausalBroadcastModel", "placeOf", "(II)I"⟩, 14) := ⟨⟨by decide +kernel, by decide +kernel⟩, List.mem_of_getElem? (i := 1099) (by decide +kernel), List.mem_of_getElem? (i := 1329) (by decide +kernel), List.mem_of_getElem? (i := 1330) (by decide +kernel)⟩
theorem lw_p45 : lw_okq (⟨"CausalBroadcastModel", "isSafe", "(II)Z"⟩, 14) := ⟨⟨by decide +kernel, by decide +kernel⟩, List.mem_of_getElem? (i := 1099) (by decide +kernel), List.mem_of_getElem? (i := 1373) (by decide +kernel), List.mem_of_getElem? (i := 1374) (by decide +kernel)⟩
theorem lw_p46 : lw_okq (⟨"CausalBroadcastModel", "isWithAll", "(I)Z"⟩, 14) := ⟨⟨by decide +kernel, by decide +kernel⟩, List.mem_of_getElem? (i := 1099) (by decide +kernel), List.mem_of_getElem? (i := 1385) (by decide +kernel), List.mem_of_getElem? (i := 1386) (by decide +kernel)⟩
theorem lw_p47 : lw_okq (⟨"CausalBroadcastModel", "event", "(I)V"⟩, 14) := ⟨⟨by decide +kernel, by decide +kernel⟩, List.mem_of_getElem? (i := 1099) (by decide +kernel), List.mem_of_getElem? (i := 1401) (by decide +kernel), List.mem_of_getElem? (i := 1402) (by decide +kernel)⟩
def lw_privs_3 : List (MethodName × Nat) := [(⟨"CausalBroadcastModel", "clockOf", "(II)I"⟩, 14), (⟨"CausalBroadcastModel", "isHeld", "(II)Z"⟩, 14), (⟨"CausalBroadcastModel", "delivers", "(II)V"⟩, 14), (⟨"CausalBroadcastModel", "logs", "(II)V"⟩, 14), (⟨"CausalBroadcastModel", "isMember", "(I)Z"⟩, 14), (⟨"CausalBroadcastModel", "isInView", "(I)Z"⟩, 14), (⟨"CausalBroadcastModel", "isMessage", "(I)Z"⟩, 14), (⟨"CausalBroadcastModel", "isOnTheWay", "(II)Z"⟩, 14), (⟨"CausalBroadcastModel", "comes", "(II)I"⟩, 14), (⟨"CausalBroadcastModel", "isBuffered", "(II)Z"⟩, 14), (⟨"CausalBroadcastModel", "isSent", "(I)Z"⟩, 14), (⟨"CausalBroadcastModel", "isCauseOf", "(II)Z"⟩, 14), (⟨"CausalBroadcastModel", "placeOf", "(II)I"⟩, 14), (⟨"CausalBroadcastModel", "isSafe", "(II)Z"⟩, 14), (⟨"CausalBroadcastModel", "isWithAll", "(I)Z"⟩, 14), (⟨"CausalBroadcastModel", "event", "(I)V"⟩, 14)]
theorem lw_r3 : ∀ q ∈ lw_privs_3, lw_okq q := List.forall_mem_cons.mpr ⟨lw_p32, List.forall_mem_cons.mpr ⟨lw_p33, List.forall_mem_cons.mpr ⟨lw_p34, List.forall_mem_cons.mpr ⟨lw_p35, List.forall_mem_cons.mpr ⟨lw_p36, List.forall_mem_cons.mpr ⟨lw_p37, List.forall_mem_cons.mpr ⟨lw_p38, List.forall_mem_cons.mpr ⟨lw_p39, List.forall_mem_cons.mpr ⟨lw_p40, List.forall_mem_cons.mpr ⟨lw_p41, List.forall_mem_cons.mpr ⟨lw_p42, List.forall_mem_cons.mpr ⟨lw_p43, List.forall_mem_cons.mpr ⟨lw_p44, List.forall_mem_cons.mpr ⟨lw_p45, List.forall_mem_cons.mpr ⟨lw_p46, List.forall_mem_cons.mpr ⟨lw_p47, fun _ h => absurd h List.not_mem_nil⟩⟩⟩⟩⟩⟩⟩⟩⟩⟩⟩⟩⟩⟩⟩⟩
theorem lw_p48 : lw_okq (⟨"CausalBroadcastModel", "here", "()I"⟩, 14) := ⟨⟨by decide +kernel, by decide +kernel⟩, List.mem_of_getElem? (i := 1099) (by decide +kernel), List.mem_of_getElem? (i := 1405) (by decide +kernel), List.mem_of_getElem? (i := 1406) (by decide +kernel)⟩
theorem lw_p49 : lw_okq (⟨"CausalBroadcastModel", "digit", "(I)I"⟩, 14) := ⟨⟨by decide +kernel, by decide +kernel⟩, List.mem_of_getElem? (i := 1099) (by decide +kernel), List.mem_of_getElem? (i := 1409) (by decide +kernel), List.mem_of_getElem? (i := 1410) (by decide +kernel)⟩
theorem lw_p50 : lw_okq (⟨"CausalBroadcastModel", "sign", "(I)V"⟩, 14) := ⟨⟨by decide +kernel, by decide +kernel⟩, List.mem_of_getElem? (i := 1099) (by decide +kernel), List.mem_of_getElem? (i := 1413) (by decide +kernel), List.mem_of_getElem? (i := 1414) (by decide +kernel)⟩
theorem lw_p51 : lw_okq (⟨"CausalBroadcastModel", "number", "()I"⟩, 14) := ⟨⟨by decide +kernel, by decide +kernel⟩, List.mem_of_getElem? (i := 1099) (by decide +kernel), List.mem_of_getElem? (i := 1417) (by decide +kernel), List.mem_of_getElem? (i := 1418) (by decide +kernel)⟩
theorem lw_p52 : lw_okq (⟨"CausalBroadcastModel", "does", "(I)V"⟩, 14) := ⟨⟨by decide +kernel, by decide +kernel⟩, List.mem_of_getElem? (i := 1099) (by decide +kernel), List.mem_of_getElem? (i := 1424) (by decide +kernel), List.mem_of_getElem? (i := 1425) (by decide +kernel)⟩
def lw_privs_4 : List (MethodName × Nat) := [(⟨"CausalBroadcastModel", "here", "()I"⟩, 14), (⟨"CausalBroadcastModel", "digit", "(I)I"⟩, 14), (⟨"CausalBroadcastModel", "sign", "(I)V"⟩, 14), (⟨"CausalBroadcastModel", "number", "()I"⟩, 14), (⟨"CausalBroadcastModel", "does", "(I)V"⟩, 14)]
theorem lw_r4 : ∀ q ∈ lw_privs_4, lw_okq q := List.forall_mem_cons.mpr ⟨lw_p48, List.forall_mem_cons.mpr ⟨lw_p49, List.forall_mem_cons.mpr ⟨lw_p50, List.forall_mem_cons.mpr ⟨lw_p51, List.forall_mem_cons.mpr ⟨lw_p52, fun _ h => absurd h List.not_mem_nil⟩⟩⟩⟩⟩
def lw_privs : List (MethodName × Nat) := lw_privs_1 ++ (lw_privs_2 ++ (lw_privs_3 ++ (lw_privs_4)))
def lw_tbl : List Cond := k2_sels lw_privs ++ tables_1
theorem lw_privs_ok : ∀ q ∈ lw_privs, lw_okq q := by
  show ∀ q ∈ lw_privs_1 ++ (lw_privs_2 ++ (lw_privs_3 ++ (lw_privs_4))), lw_okq q
  exact List.forall_mem_append.mpr ⟨lw_r1, List.forall_mem_append.mpr ⟨lw_r2, List.forall_mem_append.mpr ⟨lw_r3, lw_r4⟩⟩⟩
/-- the streams that the claim lets the run draw from -/
abbrev lw_cs : List Choice := [Jvm.Choice.named "NaN.bits"]
theorem lw_bits : nanBits ∈ lw_cs := by first | decide | exact List.mem_cons_self | simp [lw_cs, nanBits]
end
section
/-! ===== BEGIN words of one list among another's, by their places ===== -/
theorem goodIn_r {big : List Cond} (ws : List Cond) (ps : List Nat) (hp : ws = ps.filterMap (fun i => big[i]?)) (h : ws.all goodWord = true) : GoodIn big ws := by
  intro w hw
  have h1 := List.all_eq_true.mp h w hw
  rw [hp] at hw
  obtain ⟨i, -, hi⟩ := List.mem_filterMap.mp hw
  have hm : w ∈ big := by first | exact List.mem_of_getElem? hi | exact List.getElem?_mem hi
  exact ⟨hm, good_of_word h1⟩
theorem goodIn_app {big a b : List Cond} (ha : GoodIn big a) (hb : GoodIn big b) : GoodIn big (a ++ b) := fun w h => (List.mem_append.mp h).elim (ha w) (hb w)
theorem goodIn_ca {big a b : List Cond} {c : Cond} (ha : GoodIn big (c :: a)) (hb : GoodIn big b) : GoodIn big (c :: (a ++ b)) := fun w h => (List.mem_cons.mp h).elim (fun e => ha w (List.mem_cons.mpr (Or.inl e))) (fun h => (List.mem_append.mp h).elim (fun h => ha w (List.mem_cons.mpr (Or.inr h))) (hb w))
theorem goodIn_sub {big ws : List Cond} (hm : ∀ w ∈ ws, w ∈ big) (h : ws.all goodWord = true) : GoodIn big ws := fun w hw => ⟨hm w hw, good_of_word (List.all_eq_true.mp h w hw)⟩
/-! ===== END ===== -/

/-! ===== BEGIN exceptions that leave a method, and their catching by the caller (launches without stack traces) ===== -/
section VXA
/-! The laws vx_back, vx_callV, vx_callS, vx_callSW, vx_throw0, vx_throwS follow proofs of the library, with one case more: JvmDerived/Free/Laws.lean (Back.of_free), Shelf42/LK1.lean (callV, callS), Shelf/KitTraced.lean (throwNew0V, throwNewS). -/
/-- where a method has thrown q: the class by its name, the cell, what was written, the world -/
def vx_T (XC : String → State → State → Prop) (st : State) (q : Addr) (t : State) (mc ms : Nat) (free : Addr → Prop) : Prop :=
  ∃ (E : String) (ce : Cell) (L : List Loc), XC E st t ∧ t.heap[q]? = some ce ∧ ce.vm = .none ∧ st.vm.findClass E = some ce.cls ∧ st.WarmedH t.vm ∧ st.sameButNew ({ t with vm := st.vm } : State) L mc ms ∧ ∀ z ∈ L, free z.base
def vx_Q (Qc : Array Value → State → Outcome → State → Prop) (XC : String → State → State → Prop) (mc ms : Nat) (free : Addr → Prop) : Array Value → State → Outcome → State → Prop := fun a st o t =>
  (Qc a st o t ∧ ∃ L, FrameEnd st o t L mc ms ∧ ∀ q ∈ L, free q.base) ∨ ∃ q, o = .threw q ∧ vx_T XC st q t mc ms free
/-- a callee that returns or throws -/
def vx_Met (l : Launch) (y : MethodName) (ws : List Cond) (rm : Room) (Pc : Array Value → State → Prop) (Qc : Array Value → State → Outcome → State → Prop) (XC : String → State → State → Prop) (mc ms : Nat) (free : Addr → Prop) : Prop :=
  MetFree l y (headSpec ws rm) Pc (fun _ _ _ _ _ => True) (vx_Q Qc XC mc ms free)
def vx_Post (XC : String → State → State → Prop) (mc ms : Nat) (free : Addr → Prop) : Pt → Array Value → Addr → Pt → Prop := fun A a q B =>
  ∃ (g : JFrame) (mk : MethodId) (t : State) (L : List Loc) (E : String) (ce : Cell), B.U.heap = t.heap ∧ B.U.vm = t.vm ∧ XC E (A.U.calling g mk a) t ∧ t.heap[q]? = some ce ∧ ce.vm = .none ∧ A.U.vm.findClass E = some ce.cls ∧ B.locs = A.locs ++ L ∧ (∀ z ∈ L, free z.base) ∧ B.cells = A.cells + mc ∧ B.slots = A.slots + ms
def vx_Back (l : Launch) (R : Room) (p : Program) (e : Env) (below : List Frame) (s : State) (sargs : Array Value) (y : MethodName) (len W9 : Nat)
    (Pre : Pt → Array Value → Prop) (Post : Pt → Array Value → Option Value → Pt → Prop) (PostX : Pt → Array Value → Addr → Pt → Prop) : Prop :=
  ∀ (m : MethodId) (meth : Method) (c : Code) (A : Pt) (g : JFrame) (ig : Instr) (mk : MethodId) (a : Array Value),
    Stand p l e R s m sargs below meth c A.U A.locs A.cells A.slots → g.method = m → g.locals.size = c.maxLocals → decode c.code g.pc = .ok (ig, len) →
    2 * g.monitorRoom + (g.stack.map fun v => v.category).sum ≤ W9 → A.U.methodNamed? y = some mk → Pre A a →
    (∃ (v : Option Value) (B : Pt), Stand p l e R s m sargs below meth c B.U B.locs B.cells B.slots ∧ Post A a v B ∧
      Steps p.tables e below (doInvoke e (A.U.setTop g) [] mk a).1 (B.U.setTop { g with pc := g.pc + len, stack := v.toList ++ g.stack })) ∨
    (∃ (q : Addr) (B : Pt), Stand p l e R s m sargs below meth c B.U B.locs B.cells B.slots ∧ PostX A a q B ∧
      Steps p.tables e below (doInvoke e (A.U.setTop g) [] mk a).1 ((B.U.setTop g).pushFrame (.throwing q)))
section Payer
variable {l : Launch} {R : Room} {p : Program} {e : Env} {below : List Frame} {s : State} {sargs : Array Value} {y : MethodName} {len W9 : Nat}
theorem vx_back {ws : List Cond} {rm : Room} {Pc : Array Value → State → Prop} {Qc : Array Value → State → Outcome → State → Prop} {XC : String → State → State → Prop} {mc ms : Nat} {free : Addr → Prop} {bytes : ByteArray} {maxL : Nat} {ret : Option FieldType}
    (hM : vx_Met l y ws rm Pc Qc XC mc ms free) (hblind : FrameBlind Pc) (hrc : rm.cells = mc) (hrs : rm.slots = ms)
    (hframes : rm.frames + 1 ≤ R.frames) (hlocals : W9 + (maxL + 11) + rm.locals ≤ R.locals)
    (hws : ∀ w ∈ ws, ∀ a' U, s.WarmedH U.vm → w.before a' U = true) (hcode : Cond.code y bytes maxL ret ∈ ws) (hinit : ∀ a' U, s.WarmedH U.vm → (Cond.initialized y.cls).before a' U = true) :
    vx_Back l R p e below s sargs y len W9 (PreOf R mc ms Pc) (PostOf Qc mc ms free) (vx_Post XC mc ms free) := by
  intro m meth c A g ig mk a X hg hsize hdg hW hn hp
  have h1 : (headSpec ws rm).pre.before a A.U = true := atoms_intro fun w hw => hws w hw _ _ X.warmed
  have h2 : (Cond.code y bytes maxL ret).before a A.U = true := hws _ hcode _ _ X.warmed
  have h3 : (Cond.initialized y.cls).before a A.U = true := hinit _ _ X.warmed
  have h4 : A.cells + (headSpec ws rm).room.cells ≤ R.cells := by rw [show (headSpec ws rm).room.cells = mc from hrc]; exact hp.1
  have h5 : A.slots + (headSpec ws rm).room.slots ≤ R.slots := by rw [show (headSpec ws rm).room.slots = ms from hrs]; exact hp.2.1
  have hPc : Pc a (A.U.calling g mk a) := hblind _ _ _ _ hp.2.2
  obtain ⟨U, Ls, c0, s0⟩ := A
  dsimp only [Pt.U, Pt.locs, Pt.cells, Pt.slots] at h1 h2 h3 h4 h5 X hn hPc ⊢
  obtain ⟨methY, cY, hmY, hcY, -, hlY, -, -, -, -⟩ := Cond.code_spec hn h2
  obtain ⟨kY, hkY, -⟩ := className_of_methodNamed hn
  have hinitY : kY.init = .initialized := Cond.initialized_spec (findClass_of_methodNamed hn) hkY h3
  have h : At U g.method c below := by rw [hg]; exact X.here
  have hlocals9 : W9 + (maxL + 11) + (headSpec ws rm).room.locals ≤ R.locals := hlocals
  have happ : (headSpec ws rm).appliesLoose y e.platform (U.calling g mk a) = true :=
    Spec.appliesLoose_calling (g := g) h hdg hn hkY hinitY
      (X.room_calling (g := g) (R' := (headSpec ws rm).room) hsize hmY hcY hframes (by rw [hlY]; omega) h4 h5) h1
  obtain ⟨mid, hmid⟩ := h.above
  have hfr : (U.setTop g).frames = (.java g :: mid) ++ below := by rw [State.frames_setTop' g h.top, hmid]; rfl
  obtain ⟨o, s₂, hsteps, -, hend, hq⟩ := Steps.callFree hM p X.admits X.cas X.clock (acts := []) hfr happ hPc trivial
  have hq' : vx_Q Qc XC mc ms free a (U.calling g mk a) o s₂ := hq
  rw [State.frames_setTop' g h.top] at hend
  obtain ⟨g₀, hg0⟩ := Option.isSome_iff_exists.mp h.top
  obtain ⟨r, hr⟩ := State.topJava?_eq_some.mp hg0
  have hr' : (({ U with heap := s₂.heap, slotsUsed := s₂.slotsUsed } : State).setVm s₂.vm).frames = .java g₀ :: r := hr
  rcases hq' with ⟨hqc, L, hfe, hL⟩ | ⟨q, rfl, E, ce, L, hx, hce, hcv, hcl, hW₂, hsm, hL⟩
  · obtain ⟨⟨v, rfl⟩, hW₂, e2, q2, q3, q4, q5, q6⟩ := id hfe
    have e3 : s₂ = ({ (U.calling g mk a).setFrames s₂.frames with heap := s₂.heap, slotsUsed := s₂.slotsUsed } : State).setVm s₂.vm := by
      have : s₂ = ({ s₂ with vm := (U.calling g mk a).vm } : State).setVm s₂.vm := rfl
      rw [e2] at this
      exact this
    obtain ⟨c₂, i₂, len₂, hc₂, hd₂, hf₂⟩ := hend
    have hW' : U.WarmedH s₂.vm := hW₂
    have hcc : c₂ = c := by
      have h1 : s₂.code? g.method = U.code? g.method := by
        rw [State.code?_eq, State.code?_eq, hW'.alike.method?]
      exact Option.some.inj (hc₂.symm.trans (h1.trans h.code))
    subst hcc
    have hlen : len₂ = len := by rw [hdg] at hd₂; cases hd₂; rfl
    subst hlen
    have hs₂ : s₂ = (({ U with heap := s₂.heap, slotsUsed := s₂.slotsUsed } : State).setVm s₂.vm).setTop { g with pc := g.pc + len₂, stack := v.toList ++ g.stack } := by
      refine e3.trans ?_
      rw [hf₂, State.calling_eq h.top, State.setFrames_setFrames, State.setTop_of_frames _ hr', hr]
      rfl
    have hsame : U.sameButNew ({ U with heap := s₂.heap, slotsUsed := s₂.slotsUsed } : State) L mc ms := by
      refine ⟨?_, q2, q3, q4, q5, q6⟩
      obtain ⟨t, ht, -⟩ := State.frames_cons hr
      show ({ U with heap := s₂.heap, slotsUsed := s₂.slotsUsed } : State) = { U.setFrames U.frames with heap := s₂.heap, slotsUsed := s₂.slotsUsed }
      rw [State.setFrames_self ht]
    subst hg
    refine Or.inl ⟨v, ⟨(({ U with heap := s₂.heap, slotsUsed := s₂.slotsUsed } : State).setVm s₂.vm), Ls ++ L, c0 + mc, s0 + ms⟩,
      ⟨X.admits, X.cas, X.clock, X.frames, X.room, X.hears, X.method, X.code, (X.here.setHeapUsed s₂.heap s₂.slotsUsed).setVm hW'.alike, X.tail, State.WarmedH.trans X.warmed hW', X.limits, X.bytes, X.same.trans (hsame.setVm s.vm)⟩,
      ⟨g, mk, s₂, L, rfl, rfl, hqc, rfl, hL, rfl, rfl⟩, ?_⟩
    show Steps p.tables e below _ ((({ U with heap := s₂.heap, slotsUsed := s₂.slotsUsed } : State).setVm s₂.vm).setTop { g with pc := g.pc + len₂, stack := v.toList ++ g.stack })
    rw [← hs₂]
    exact hsteps
  · obtain ⟨e2, q2, q3, q4, q5, q6⟩ := id hsm
    have e3 : s₂ = ({ (U.calling g mk a).setFrames s₂.frames with heap := s₂.heap, slotsUsed := s₂.slotsUsed } : State).setVm s₂.vm := by
      have : s₂ = ({ s₂ with vm := (U.calling g mk a).vm } : State).setVm s₂.vm := rfl
      rw [e2] at this
      exact this
    have hf₂ : s₂.frames = .throwing q :: .java g :: U.frames.tail := hend
    have hW' : U.WarmedH s₂.vm := hW₂
    have hs₂ : s₂ = ((({ U with heap := s₂.heap, slotsUsed := s₂.slotsUsed } : State).setVm s₂.vm).setTop g).pushFrame (.throwing q) := by
      refine e3.trans ?_
      rw [hf₂, State.calling_eq h.top, State.setFrames_setFrames, State.pushFrame, State.frames_setTop _ hr', State.setTop_of_frames _ hr', State.setFrames_setFrames, hr]
      rfl
    have hsame : U.sameButNew ({ U with heap := s₂.heap, slotsUsed := s₂.slotsUsed } : State) L mc ms := by
      refine ⟨?_, q2, q3, q4, q5, q6⟩
      obtain ⟨t, ht, -⟩ := State.frames_cons hr
      show ({ U with heap := s₂.heap, slotsUsed := s₂.slotsUsed } : State) = { U.setFrames U.frames with heap := s₂.heap, slotsUsed := s₂.slotsUsed }
      rw [State.setFrames_self ht]
    subst hg
    refine Or.inr ⟨q, ⟨(({ U with heap := s₂.heap, slotsUsed := s₂.slotsUsed } : State).setVm s₂.vm), Ls ++ L, c0 + mc, s0 + ms⟩,
      ⟨X.admits, X.cas, X.clock, X.frames, X.room, X.hears, X.method, X.code, (X.here.setHeapUsed s₂.heap s₂.slotsUsed).setVm hW'.alike, X.tail, State.WarmedH.trans X.warmed hW', X.limits, X.bytes, X.same.trans (hsame.setVm s.vm)⟩,
      ⟨g, mk, s₂, L, E, ce, rfl, rfl, hx, hce, hcv, hcl, rfl, hL, rfl, rfl⟩, ?_⟩
    show Steps p.tables e below _ (((({ U with heap := s₂.heap, slotsUsed := s₂.slotsUsed } : State).setVm s₂.vm).setTop g).pushFrame (.throwing q))
    rw [← hs₂]
    exact hsteps
end Payer
section Calls
variable {p : Program} {l : Launch} {e : Env} {R : Room} {s : State} {m : MethodId} {args : Array Value} {below : List Frame} {meth : Method} {c : Code} {T : State} {locs : List Loc} {cells slots : Nat}
theorem vx_callV (X : Stand p l e R s m args below meth c T locs cells slots) (hexec : p.tables.exec = Jvm.exec) {own C : String} {index : Nat} {y : MethodName} {bytes : ByteArray} {maxL : Nat} {ret : Option FieldType}
    (hown : s.vm.findClass own = some m.cls) (hlink : (Cond.methodLink own index y).before args s = true) (hinst : (Cond.instanceMethod y).before args s = true) (hsel : (Cond.selects C y y).before args s = true)
    (hcode : (Cond.code y bytes maxL ret).before args s = true) (hy : y.cls ≠ "java/lang/invoke/MethodHandle" ∧ y.cls ≠ "java/lang/invoke/VarHandle")
    {W9 : Nat} {Pre : Pt → Array Value → Prop} {Post : Pt → Array Value → Option Value → Pt → Prop} {PostX : Pt → Array Value → Addr → Pt → Prop} (hK : vx_Back l R p e below s args y 3 W9 Pre Post PostX)
    {b : Addr} {cellB : Cell} (hcell : T.heap[b]? = some cellB) (hobj : cellB.vm.isStatics = false) (hcls : s.vm.findClass C = some cellB.cls)
    {g : JFrame} (hg : g.method = m) (hsize : g.locals.size = c.maxLocals) {argsL rest : List Value} (hlen : ∀ sig, parseMethodDescriptor y.desc = some sig → argsL.length = sig.parameters.length)
    (hstack : g.stack = argsL.reverse ++ .ref b :: rest) (hW : 2 * g.monitorRoom + (rest.map fun v => v.category).sum ≤ W9) (hdg : decode c.code g.pc = .ok (.invokevirtual index, 3))
    (hpre : ∀ vm₁, s.WarmedH vm₁ → Pre ⟨T.setVm vm₁, locs, cells, slots⟩ (Value.ref b :: argsL).toArray) :
    (∃ (v : Option Value) (vm₁ : Vm) (B : Pt), s.WarmedH vm₁ ∧ Stand p l e R s m args below meth c B.U B.locs B.cells B.slots ∧ Post ⟨T.setVm vm₁, locs, cells, slots⟩ (Value.ref b :: argsL).toArray v B ∧
      ∀ target, Steps p.tables e below (B.U.setTop { g with pc := g.pc + 3, stack := v.toList ++ rest }) target → Steps p.tables e below (T.setTop g) target) ∨
    (∃ (q : Addr) (vm₁ : Vm) (B : Pt), s.WarmedH vm₁ ∧ Stand p l e R s m args below meth c B.U B.locs B.cells B.slots ∧ PostX ⟨T.setVm vm₁, locs, cells, slots⟩ (Value.ref b :: argsL).toArray q B ∧
      Steps p.tables e below (T.setTop g) ((B.U.setTop { g with stack := rest }).pushFrame (.throwing q))) := by
  obtain ⟨mk, methM, hnamed, hmethM, hstM, habM⟩ := Cond.instanceMethod_spec hinst
  obtain ⟨methM', cM, hmethM', -, -, -, -, -, -, hsigM⟩ := Cond.code_spec hnamed hcode
  cases hmethM.symm.trans hmethM'
  obtain ⟨c2, r2, m2, q1, q2, q3, q4, kP, hkP, hkPi⟩ := Cond.selects_spec hsel
  cases hcls.symm.trans q1
  cases (State.methodFound?_of_named hnamed hy).symm.trans q2
  cases hnamed.symm.trans q3
  have hselP : selectMethod e.platform s.vm cellB.cls mk = .method mk := by rw [Launch.admits_selectMethod X.admits]; exact q4
  obtain ⟨vm₁, X₁, hstep₁⟩ := X.invokevirtual hexec hown hlink hnamed hmethM hstM hkP hkPi hy (a := b) (cell := cellB) hcell
    (fun z h => by rw [h] at hobj; cases hobj) hselP hmethM habM hkP hkPi (g := g) hg (argsL := argsL) (rest := rest) (hlen _ hsigM) hstack hdg
  rcases hK m meth c ⟨T.setVm vm₁, locs, cells, slots⟩ { g with stack := rest } (.invokevirtual index) mk (Value.ref b :: argsL).toArray X₁ hg hsize hdg hW (X₁.named hnamed) (hpre vm₁ X₁.warmed) with ⟨v, B, X', hpost, hsteps⟩ | ⟨q, B, X', hpost, hsteps⟩
  · exact Or.inl ⟨v, vm₁, B, X₁.warmed, X', hpost, fun target h => hstep₁ _ fun acts => by rw [doInvoke_state]; exact hsteps.trans h⟩
  · exact Or.inr ⟨q, vm₁, B, X₁.warmed, X', hpost, hstep₁ _ fun acts => by rw [doInvoke_state]; exact hsteps⟩
theorem vx_callS (X : Stand p l e R s m args below meth c T locs cells slots) (hexec : p.tables.exec = Jvm.exec) {own : String} {index : Nat} {y : MethodName} {bytes : ByteArray} {maxL : Nat} {ret : Option FieldType}
    (hown : s.vm.findClass own = some m.cls) (hlink : (Cond.methodLink own index y).before args s = true) (hstat : (Cond.static y).before args s = true) (hinit : (Cond.initialized y.cls).before args s = true)
    (hcode : (Cond.code y bytes maxL ret).before args s = true) (hy : y.cls ≠ "java/lang/invoke/MethodHandle" ∧ y.cls ≠ "java/lang/invoke/VarHandle")
    {W9 : Nat} {Pre : Pt → Array Value → Prop} {Post : Pt → Array Value → Option Value → Pt → Prop} {PostX : Pt → Array Value → Addr → Pt → Prop} (hK : vx_Back l R p e below s args y 3 W9 Pre Post PostX)
    {g : JFrame} (hg : g.method = m) (hsize : g.locals.size = c.maxLocals) {argsL rest : List Value} (hlen : ∀ sig, parseMethodDescriptor y.desc = some sig → argsL.length = sig.parameters.length)
    (hstack : g.stack = argsL.reverse ++ rest) (hW : 2 * g.monitorRoom + (rest.map fun v => v.category).sum ≤ W9) (hdg : decode c.code g.pc = .ok (.invokestatic index, 3))
    (hpre : ∀ vm₁, s.WarmedH vm₁ → Pre ⟨T.setVm vm₁, locs, cells, slots⟩ argsL.toArray) :
    (∃ (v : Option Value) (vm₁ : Vm) (B : Pt), s.WarmedH vm₁ ∧ Stand p l e R s m args below meth c B.U B.locs B.cells B.slots ∧ Post ⟨T.setVm vm₁, locs, cells, slots⟩ argsL.toArray v B ∧
      ∀ target, Steps p.tables e below (B.U.setTop { g with pc := g.pc + 3, stack := v.toList ++ rest }) target → Steps p.tables e below (T.setTop g) target) ∨
    (∃ (q : Addr) (vm₁ : Vm) (B : Pt), s.WarmedH vm₁ ∧ Stand p l e R s m args below meth c B.U B.locs B.cells B.slots ∧ PostX ⟨T.setVm vm₁, locs, cells, slots⟩ argsL.toArray q B ∧
      Steps p.tables e below (T.setTop g) ((B.U.setTop { g with stack := rest }).pushFrame (.throwing q))) := by
  obtain ⟨mk, hnamed⟩ := Cond.code_named hcode
  obtain ⟨methM, cM, hmethM, -, -, -, -, -, -, hsigM⟩ := Cond.code_spec hnamed hcode
  have hstatic : methM.isStatic = true := Cond.static_spec hnamed hmethM hstat
  obtain ⟨kP, hkP, -⟩ := className_of_methodNamed hnamed
  have hinitP : kP.init = .initialized := Cond.initialized_spec (findClass_of_methodNamed hnamed) hkP hinit
  obtain ⟨vm₁, X₁, hstep₁⟩ := X.invokestatic hexec hown hlink hnamed hmethM hstatic hkP hinitP hy (g := g) hg (argsL := argsL) (rest := rest) (hlen _ hsigM) hstack hdg
  rcases hK m meth c ⟨T.setVm vm₁, locs, cells, slots⟩ { g with stack := rest } (.invokestatic index) mk argsL.toArray X₁ hg hsize hdg hW (X₁.named hnamed) (hpre vm₁ X₁.warmed) with ⟨v, B, X', hpost, hsteps⟩ | ⟨q, B, X', hpost, hsteps⟩
  · exact Or.inl ⟨v, vm₁, B, X₁.warmed, X', hpost, fun target h => hstep₁ _ fun acts => by rw [doInvoke_state]; exact hsteps.trans h⟩
  · exact Or.inr ⟨q, vm₁, B, X₁.warmed, X', hpost, hstep₁ _ fun acts => by rw [doInvoke_state]; exact hsteps⟩
end Calls
theorem vx_cls {s : State} {T : State} {vm₁ : Vm} {E : String} {k : ClassId} (hW : s.WarmedH vm₁) (h : (T.setVm vm₁).vm.findClass E = some k) : s.vm.findClass E = some k := by
  have h1 : vm₁.findClass E = some k := h
  rw [hW.alike.findClass] at h1
  exact h1
/-- the method's frame g, with q thrown over it -/
def vx_W (p : Program) (l : Launch) (e : Env) (R : Room) (s : State) (m : MethodId) (args : Array Value) (below : List Frame) (meth : Method) (c : Code) (H : Heap) (locs : List Loc) (cells slots : Nat) (Q : State → Prop) (g : JFrame) (q : Addr) : Prop :=
  ∀ T : State, T.heap = H → Stand p l e R s m args below meth c T locs cells slots → ∃ t, Steps p.tables e below ((T.setTop g).pushFrame (.throwing q)) t ∧ Q t
def vx_Run (p : Program) (l : Launch) (e : Env) (R : Room) (s : State) (m : MethodId) (args : Array Value) (below : List Frame) (meth : Method) (c : Code) (H : Heap) (locs : List Loc) (cells slots mc ms : Nat) (g : JFrame) (rest : List Value) (Qa : State → Outcome → State → Prop) (XC : String → State → State → Prop) (free : Addr → Prop) : Prop :=
  ∀ T : State, T.heap = H → Stand p l e R s m args below meth c T locs cells slots →
    (∃ (v : Option Value) (st₀ t T' : State) (L : List Loc), st₀.heap = H ∧ Stand p l e R s m args below meth c T' (locs ++ L) (cells + mc) (slots + ms) ∧ (∀ q ∈ L, free q.base) ∧ T'.heap = t.heap ∧ T'.vm = t.vm ∧ Qa st₀ (.returned v) t ∧
      Goes p e below T g T' { g with pc := g.pc + 3, stack := v.toList ++ rest }) ∨
    (∃ (q : Addr) (st₀ t T' : State) (L : List Loc) (E : String) (ce : Cell), st₀.heap = H ∧ Stand p l e R s m args below meth c T' (locs ++ L) (cells + mc) (slots + ms) ∧ (∀ z ∈ L, free z.base) ∧ T'.heap = t.heap ∧ T'.vm = t.vm ∧ XC E st₀ t ∧ t.heap[q]? = some ce ∧ ce.vm = .none ∧ s.vm.findClass E = some ce.cls ∧
      Steps p.tables e below (T.setTop g) ((T'.setTop { g with stack := rest }).pushFrame (.throwing q)))
def vx_X {S : Type} (px : S → Prop) (B : String → S → State → Prop) (A : Nat → Prop) : String → State → State → Prop := fun E st t => ∃ u : S, px u ∧ B E u t ∧ va_F A st t
section Runs
variable {p : Program} {l : Launch} {e : Env} {R : Room} {s : State} {m : MethodId} {args : Array Value} {below : List Frame} {meth : Method} {c : Code} {H : Heap} {locs : List Loc} {cells slots : Nat}
variable {y : MethodName} {bytes cc : ByteArray} {maxL nL mc ms n index : Nat} {ret : Option FieldType} {ws : List Cond} {rm : Room} {Pc : Array Value → State → Prop} {Qc : Array Value → State → Outcome → State → Prop} {XC : String → State → State → Prop} {free : Addr → Prop} {Ts : List Cond} {own C : String} {b : Addr} {As rest : List Value} {g : JFrame}
theorem vx_callBack (cb : CallB R s args own index y bytes maxL ret ws rm mc ms n) (hM : vx_Met l y ws rm Pc Qc XC mc ms free) (hbl : FrameBlind Pc) : vx_Back l R p e below s args y 3 8 (PreOf R mc ms Pc) (PostOf Qc mc ms free) (vx_Post XC mc ms free) := by
  obtain ⟨hrc, hrs, hfr, hlo, hws, hcw, -, hini, -⟩ := cb
  exact vx_back (bytes := bytes) (maxL := maxL) (ret := ret) hM hbl hrc hrs hfr hlo hws hcw (fun a' U hW => word_at hW (Or.inl (by first | rfl | simp [Cond.onTables, Cond.keeps, Cond.steady])) hini)
theorem vx_runV (S : CallFix p m c cc nL s args Ts own) (hM : vx_Met l y ws rm Pc Qc XC mc ms free) (cw : CallW R s args own C index y bytes maxL ret ws rm mc ms n) (hp : PreV s H C b Pc As)
    (hg : g.method = m) (hn : As.length = n) (hsize : g.locals.size = nL) (hstack : g.stack = As.reverse ++ .ref b :: rest) (hW : 2 * g.monitorRoom + (rest.map fun v => v.category).sum ≤ 8) (hdg : decode cc g.pc = .ok (.invokevirtual index, 3)) (hf : cells + mc ≤ R.cells ∧ slots + ms ≤ R.slots) :
    vx_Run p l e R s m args below meth c H locs cells slots mc ms g rest (Qc (Value.ref b :: As).toArray) XC free := by
  have hK : vx_Back l R p e below s args y 3 8 (PreOf R mc ms Pc) (PostOf Qc mc ms free) (vx_Post XC mc ms free) := vx_callBack cw.1 hM hp.1
  obtain ⟨⟨-, -, -, -, -, -, hcode, -, hy, hlen, hl⟩, hin, hse⟩ := cw
  obtain ⟨hx, hb, hml, ho, -⟩ := S
  obtain ⟨-, ⟨cellB, hcB, hoB, hclB⟩, hPc⟩ := hp
  intro T hT X
  rcases vx_callV X hx (C := C) (bytes := bytes) (maxL := maxL) (ret := ret) ho hl hin hse hcode hy hK (by rw [hT]; exact hcB) hoB hclB hg (hsize.trans hml.symm) (argsL := As) (rest := rest) (fun sig h => hn.trans (hlen sig h)) hstack hW (by rw [hb]; exact hdg)
    (fun vm₁ hW₁ => ⟨hf.1, hf.2, hPc (T.setVm vm₁) hT hW₁⟩) with ⟨v, vm₁, ⟨U', l2, c2, s2⟩, hW₁, X', ⟨g', mk, t, L, e1, e2, hq, h1, hL, h2, h3⟩, st⟩ | ⟨q, vm₁, ⟨U', l2, c2, s2⟩, hW₁, X', ⟨g', mk, t, L, E, ce, e1, e2, hq, hce, hcv, hcl, h1, hL, h2, h3⟩, st⟩
  · dsimp only [Pt.U, Pt.locs, Pt.cells, Pt.slots] at X' e1 e2 h1 h2 h3 st
    subst h1; subst h2; subst h3
    exact Or.inl ⟨v, (T.setVm vm₁).calling g' mk (Value.ref b :: As).toArray, t, U', L, hT, X', hL, e1, e2, hq, st⟩
  · dsimp only [Pt.U, Pt.locs, Pt.cells, Pt.slots] at X' e1 e2 h1 h2 h3 st hcl
    subst h1; subst h2; subst h3
    exact Or.inr ⟨q, (T.setVm vm₁).calling g' mk (Value.ref b :: As).toArray, t, U', L, E, ce, hT, X', hL, e1, e2, hq, hce, hcv, vx_cls hW₁ hcl, st⟩
theorem vx_runS (S : CallFix p m c cc nL s args Ts own) (hM : vx_Met l y ws rm Pc Qc XC mc ms free) (cw : CallB R s args own index y bytes maxL ret ws rm mc ms n ∧ (Cond.static y).before args s = true) (hp : PreS s H Pc As)
    (hg : g.method = m) (hn : As.length = n) (hsize : g.locals.size = nL) (hstack : g.stack = As.reverse ++ rest) (hW : 2 * g.monitorRoom + (rest.map fun v => v.category).sum ≤ 8) (hdg : decode cc g.pc = .ok (.invokestatic index, 3)) (hf : cells + mc ≤ R.cells ∧ slots + ms ≤ R.slots) :
    vx_Run p l e R s m args below meth c H locs cells slots mc ms g rest (Qc As.toArray) XC free := by
  have hK : vx_Back l R p e below s args y 3 8 (PreOf R mc ms Pc) (PostOf Qc mc ms free) (vx_Post XC mc ms free) := vx_callBack cw.1 hM hp.1
  obtain ⟨⟨-, -, -, -, -, -, hcode, hini, hy, hlen, hl⟩, hstt⟩ := cw
  obtain ⟨hx, hb, hml, ho, -⟩ := S
  intro T hT X
  rcases vx_callS X hx (bytes := bytes) (maxL := maxL) (ret := ret) ho hl hstt hini hcode hy hK hg (hsize.trans hml.symm) (argsL := As) (rest := rest) (fun sig h => hn.trans (hlen sig h)) hstack hW (by rw [hb]; exact hdg)
    (fun vm₁ hW₁ => ⟨hf.1, hf.2, hp.2 (T.setVm vm₁) hT hW₁⟩) with ⟨v, vm₁, ⟨U', l2, c2, s2⟩, hW₁, X', ⟨g', mk, t, L, e1, e2, hq, h1, hL, h2, h3⟩, st⟩ | ⟨q, vm₁, ⟨U', l2, c2, s2⟩, hW₁, X', ⟨g', mk, t, L, E, ce, e1, e2, hq, hce, hcv, hcl, h1, hL, h2, h3⟩, st⟩
  · dsimp only [Pt.U, Pt.locs, Pt.cells, Pt.slots] at X' e1 e2 h1 h2 h3 st
    subst h1; subst h2; subst h3
    exact Or.inl ⟨v, (T.setVm vm₁).calling g' mk As.toArray, t, U', L, hT, X', hL, e1, e2, hq, st⟩
  · dsimp only [Pt.U, Pt.locs, Pt.cells, Pt.slots] at X' e1 e2 h1 h2 h3 st hcl
    subst h1; subst h2; subst h3
    exact Or.inr ⟨q, (T.setVm vm₁).calling g' mk As.toArray, t, U', L, E, ce, hT, X', hL, e1, e2, hq, hce, hcv, vx_cls hW₁ hcl, st⟩
end Runs
section Rows
variable {p : Program} {l : Launch} {e : Env} {R : Room} {s : State} {m : MethodId} {args : Array Value} {below : List Frame} {meth : Method} {c : Code} {H : Heap} {locs : List Loc} {cells slots : Nat} {Q : State → Prop}
variable {mc ms : Nat} {free : Addr → Prop} {A0 A1 : Nat → Prop} {H0 : Heap} {a : Array Value} {pc : Nat} {ls : Array Slot} {st0 rest : List Value}
theorem vx_keep {st₀ t T' : State} {L : List Loc} (h0 : st₀.heap = H) (e1 : T'.heap = t.heap) (hS : va_S A0 H0 H locs) (hA : ∀ q, q < H.size → A1 q → A0 q) (hf : ∀ q, free q → A0 q) (hL : ∀ q ∈ L, free q.base) (hF : va_F A1 st₀ t) :
    H.size ≤ T'.heap.size ∧ (∀ q : Nat, q < H.size → ¬ A1 q → T'.heap[q]? = H[q]?) ∧ va_S A0 H0 T'.heap (locs ++ L) := by
  obtain ⟨hz, hk⟩ := hF
  rw [h0] at hz hk
  exact ⟨by rw [e1]; exact hz, fun q h1 h2 => by rw [e1]; exact hk q h1 h2,
    ⟨Nat.le_trans hS.1 (by rw [e1]; exact hz), fun q h1 h2 => by rw [e1, hk q (Nat.lt_of_lt_of_le h1 hS.1) (fun z => h2 (hA q (Nat.lt_of_lt_of_le h1 hS.1) z))]; exact hS.2.1 q h1 h2, fun q hq => by
      rcases List.mem_append.mp hq with h | h
      · exact hS.2.2 q h
      · exact hf _ (hL q h)⟩⟩
theorem vx_calli {S SX : Type} {post : Int32 → S → Prop} {px : SX → Prop} {B : S → State → Prop} {BX : String → SX → State → Prop} {AX : Nat → Prop} (hr : vx_Run p l e R s m args below meth c H locs cells slots mc ms (F0 m pc ls st0) rest (va_Qi post B A1 a) (vx_X px BX AX) free) (hS : va_S A0 H0 H locs) (hA : ∀ q, q < H.size → A1 q → A0 q) (hf : ∀ q, free q → A0 q) (hAX : ∀ q, q < H.size → AX q → A0 q)
    (kx : ∀ (E : String) (ce : Cell) (q9 : Addr) (u : SX) (t : State) (H1 : Heap) (locs1 : List Loc), t.heap = H1 → s.vm.Alike t.vm → px u → BX E u t → H.size ≤ H1.size → (∀ q : Nat, q < H.size → ¬ AX q → H1[q]? = H[q]?) → va_S A0 H0 H1 locs1 → H1[q9]? = some ce → ce.vm = .none → s.vm.findClass E = some ce.cls → vx_W p l e R s m args below meth c H1 locs1 (cells + mc) (slots + ms) Q (F0 m pc ls rest) q9)
    (kk : ∀ (r : Int32) (u : S) (t : State) (H1 : Heap) (locs1 : List Loc), t.heap = H1 → s.vm.Alike t.vm → post r u → B u t → H.size ≤ H1.size → (∀ q : Nat, q < H.size → ¬ A1 q → H1[q]? = H[q]?) → va_S A0 H0 H1 locs1 → W p l e R s m args below meth c H1 locs1 (cells + mc) (slots + ms) Q (F0 m (pc + 3) ls (.int r :: rest))) : W p l e R s m args below meth c H locs cells slots Q (F0 m pc ls st0) := by
  intro T hT X
  rcases hr T hT X with ⟨v, st₀, t, T', L, h0, X', hL, e1, e2, ⟨⟨r, u, hv, hp, hb⟩, hF⟩, st⟩ | ⟨q, st₀, t, T', L, E, ce, h0, X', hL, e1, e2, ⟨u, hp, hb, hF⟩, hce, hcv, hcl, st⟩
  · cases hv
    obtain ⟨k1, k2, k3⟩ := vx_keep h0 e1 hS hA hf hL hF
    obtain ⟨t2, a1, b1⟩ := kk r u t T'.heap (locs ++ L) e1.symm (by rw [← e2]; exact X'.warmed.alike) hp hb k1 k2 k3 T' rfl X'
    exact ⟨t2, st t2 a1, b1⟩
  · obtain ⟨k1, k2, k3⟩ := vx_keep h0 e1 hS hAX hf hL hF
    obtain ⟨t2, a1, b1⟩ := kx E ce q u t T'.heap (locs ++ L) e1.symm (by rw [← e2]; exact X'.warmed.alike) hp hb k1 k2 k3 (by rw [e1]; exact hce) hcv hcl T' rfl X'
    exact ⟨t2, st.trans a1, b1⟩
theorem vx_calll {S SX : Type} {post : Int64 → S → Prop} {px : SX → Prop} {B : S → State → Prop} {BX : String → SX → State → Prop} {AX : Nat → Prop} (hr : vx_Run p l e R s m args below meth c H locs cells slots mc ms (F0 m pc ls st0) rest (va_Ql post B A1 a) (vx_X px BX AX) free) (hS : va_S A0 H0 H locs) (hA : ∀ q, q < H.size → A1 q → A0 q) (hf : ∀ q, free q → A0 q) (hAX : ∀ q, q < H.size → AX q → A0 q)
    (kx : ∀ (E : String) (ce : Cell) (q9 : Addr) (u : SX) (t : State) (H1 : Heap) (locs1 : List Loc), t.heap = H1 → s.vm.Alike t.vm → px u → BX E u t → H.size ≤ H1.size → (∀ q : Nat, q < H.size → ¬ AX q → H1[q]? = H[q]?) → va_S A0 H0 H1 locs1 → H1[q9]? = some ce → ce.vm = .none → s.vm.findClass E = some ce.cls → vx_W p l e R s m args below meth c H1 locs1 (cells + mc) (slots + ms) Q (F0 m pc ls rest) q9)
    (kk : ∀ (r : Int64) (u : S) (t : State) (H1 : Heap) (locs1 : List Loc), t.heap = H1 → s.vm.Alike t.vm → post r u → B u t → H.size ≤ H1.size → (∀ q : Nat, q < H.size → ¬ A1 q → H1[q]? = H[q]?) → va_S A0 H0 H1 locs1 → W p l e R s m args below meth c H1 locs1 (cells + mc) (slots + ms) Q (F0 m (pc + 3) ls (.long r :: rest))) : W p l e R s m args below meth c H locs cells slots Q (F0 m pc ls st0) := by
  intro T hT X
  rcases hr T hT X with ⟨v, st₀, t, T', L, h0, X', hL, e1, e2, ⟨⟨r, u, hv, hp, hb⟩, hF⟩, st⟩ | ⟨q, st₀, t, T', L, E, ce, h0, X', hL, e1, e2, ⟨u, hp, hb, hF⟩, hce, hcv, hcl, st⟩
  · cases hv
    obtain ⟨k1, k2, k3⟩ := vx_keep h0 e1 hS hA hf hL hF
    obtain ⟨t2, a1, b1⟩ := kk r u t T'.heap (locs ++ L) e1.symm (by rw [← e2]; exact X'.warmed.alike) hp hb k1 k2 k3 T' rfl X'
    exact ⟨t2, st t2 a1, b1⟩
  · obtain ⟨k1, k2, k3⟩ := vx_keep h0 e1 hS hAX hf hL hF
    obtain ⟨t2, a1, b1⟩ := kx E ce q u t T'.heap (locs ++ L) e1.symm (by rw [← e2]; exact X'.warmed.alike) hp hb k1 k2 k3 (by rw [e1]; exact hce) hcv hcl T' rfl X'
    exact ⟨t2, st.trans a1, b1⟩
theorem vx_callf {S SX : Type} {post : UInt32 → S → Prop} {px : SX → Prop} {B : S → State → Prop} {BX : String → SX → State → Prop} {AX : Nat → Prop} (hr : vx_Run p l e R s m args below meth c H locs cells slots mc ms (F0 m pc ls st0) rest (va_Qf post B A1 a) (vx_X px BX AX) free) (hS : va_S A0 H0 H locs) (hA : ∀ q, q < H.size → A1 q → A0 q) (hf : ∀ q, free q → A0 q) (hAX : ∀ q, q < H.size → AX q → A0 q)
    (kx : ∀ (E : String) (ce : Cell) (q9 : Addr) (u : SX) (t : State) (H1 : Heap) (locs1 : List Loc), t.heap = H1 → s.vm.Alike t.vm → px u → BX E u t → H.size ≤ H1.size → (∀ q : Nat, q < H.size → ¬ AX q → H1[q]? = H[q]?) → va_S A0 H0 H1 locs1 → H1[q9]? = some ce → ce.vm = .none → s.vm.findClass E = some ce.cls → vx_W p l e R s m args below meth c H1 locs1 (cells + mc) (slots + ms) Q (F0 m pc ls rest) q9)
    (kk : ∀ (r : UInt32) (u : S) (t : State) (H1 : Heap) (locs1 : List Loc), t.heap = H1 → s.vm.Alike t.vm → post r u → B u t → H.size ≤ H1.size → (∀ q : Nat, q < H.size → ¬ A1 q → H1[q]? = H[q]?) → va_S A0 H0 H1 locs1 → W p l e R s m args below meth c H1 locs1 (cells + mc) (slots + ms) Q (F0 m (pc + 3) ls (.float r :: rest))) : W p l e R s m args below meth c H locs cells slots Q (F0 m pc ls st0) := by
  intro T hT X
  rcases hr T hT X with ⟨v, st₀, t, T', L, h0, X', hL, e1, e2, ⟨⟨r, u, hv, hp, hb⟩, hF⟩, st⟩ | ⟨q, st₀, t, T', L, E, ce, h0, X', hL, e1, e2, ⟨u, hp, hb, hF⟩, hce, hcv, hcl, st⟩
  · cases hv
    obtain ⟨k1, k2, k3⟩ := vx_keep h0 e1 hS hA hf hL hF
    obtain ⟨t2, a1, b1⟩ := kk r u t T'.heap (locs ++ L) e1.symm (by rw [← e2]; exact X'.warmed.alike) hp hb k1 k2 k3 T' rfl X'
    exact ⟨t2, st t2 a1, b1⟩
  · obtain ⟨k1, k2, k3⟩ := vx_keep h0 e1 hS hAX hf hL hF
    obtain ⟨t2, a1, b1⟩ := kx E ce q u t T'.heap (locs ++ L) e1.symm (by rw [← e2]; exact X'.warmed.alike) hp hb k1 k2 k3 (by rw [e1]; exact hce) hcv hcl T' rfl X'
    exact ⟨t2, st.trans a1, b1⟩
theorem vx_calld {S SX : Type} {post : UInt64 → S → Prop} {px : SX → Prop} {B : S → State → Prop} {BX : String → SX → State → Prop} {AX : Nat → Prop} (hr : vx_Run p l e R s m args below meth c H locs cells slots mc ms (F0 m pc ls st0) rest (va_Qd post B A1 a) (vx_X px BX AX) free) (hS : va_S A0 H0 H locs) (hA : ∀ q, q < H.size → A1 q → A0 q) (hf : ∀ q, free q → A0 q) (hAX : ∀ q, q < H.size → AX q → A0 q)
    (kx : ∀ (E : String) (ce : Cell) (q9 : Addr) (u : SX) (t : State) (H1 : Heap) (locs1 : List Loc), t.heap = H1 → s.vm.Alike t.vm → px u → BX E u t → H.size ≤ H1.size → (∀ q : Nat, q < H.size → ¬ AX q → H1[q]? = H[q]?) → va_S A0 H0 H1 locs1 → H1[q9]? = some ce → ce.vm = .none → s.vm.findClass E = some ce.cls → vx_W p l e R s m args below meth c H1 locs1 (cells + mc) (slots + ms) Q (F0 m pc ls rest) q9)
    (kk : ∀ (r : UInt64) (u : S) (t : State) (H1 : Heap) (locs1 : List Loc), t.heap = H1 → s.vm.Alike t.vm → post r u → B u t → H.size ≤ H1.size → (∀ q : Nat, q < H.size → ¬ A1 q → H1[q]? = H[q]?) → va_S A0 H0 H1 locs1 → W p l e R s m args below meth c H1 locs1 (cells + mc) (slots + ms) Q (F0 m (pc + 3) ls (.double r :: rest))) : W p l e R s m args below meth c H locs cells slots Q (F0 m pc ls st0) := by
  intro T hT X
  rcases hr T hT X with ⟨v, st₀, t, T', L, h0, X', hL, e1, e2, ⟨⟨r, u, hv, hp, hb⟩, hF⟩, st⟩ | ⟨q, st₀, t, T', L, E, ce, h0, X', hL, e1, e2, ⟨u, hp, hb, hF⟩, hce, hcv, hcl, st⟩
  · cases hv
    obtain ⟨k1, k2, k3⟩ := vx_keep h0 e1 hS hA hf hL hF
    obtain ⟨t2, a1, b1⟩ := kk r u t T'.heap (locs ++ L) e1.symm (by rw [← e2]; exact X'.warmed.alike) hp hb k1 k2 k3 T' rfl X'
    exact ⟨t2, st t2 a1, b1⟩
  · obtain ⟨k1, k2, k3⟩ := vx_keep h0 e1 hS hAX hf hL hF
    obtain ⟨t2, a1, b1⟩ := kx E ce q u t T'.heap (locs ++ L) e1.symm (by rw [← e2]; exact X'.warmed.alike) hp hb k1 k2 k3 (by rw [e1]; exact hce) hcv hcl T' rfl X'
    exact ⟨t2, st.trans a1, b1⟩
theorem vx_callv {S SX : Type} {post : S → Prop} {px : SX → Prop} {B : S → State → Prop} {BX : String → SX → State → Prop} {AX : Nat → Prop} (hr : vx_Run p l e R s m args below meth c H locs cells slots mc ms (F0 m pc ls st0) rest (va_Qv post B A1 a) (vx_X px BX AX) free) (hS : va_S A0 H0 H locs) (hA : ∀ q, q < H.size → A1 q → A0 q) (hf : ∀ q, free q → A0 q) (hAX : ∀ q, q < H.size → AX q → A0 q)
    (kx : ∀ (E : String) (ce : Cell) (q9 : Addr) (u : SX) (t : State) (H1 : Heap) (locs1 : List Loc), t.heap = H1 → s.vm.Alike t.vm → px u → BX E u t → H.size ≤ H1.size → (∀ q : Nat, q < H.size → ¬ AX q → H1[q]? = H[q]?) → va_S A0 H0 H1 locs1 → H1[q9]? = some ce → ce.vm = .none → s.vm.findClass E = some ce.cls → vx_W p l e R s m args below meth c H1 locs1 (cells + mc) (slots + ms) Q (F0 m pc ls rest) q9)
    (kk : ∀ (u : S) (t : State) (H1 : Heap) (locs1 : List Loc), t.heap = H1 → s.vm.Alike t.vm → post u → B u t → H.size ≤ H1.size → (∀ q : Nat, q < H.size → ¬ A1 q → H1[q]? = H[q]?) → va_S A0 H0 H1 locs1 → W p l e R s m args below meth c H1 locs1 (cells + mc) (slots + ms) Q (F0 m (pc + 3) ls (rest))) : W p l e R s m args below meth c H locs cells slots Q (F0 m pc ls st0) := by
  intro T hT X
  rcases hr T hT X with ⟨v, st₀, t, T', L, h0, X', hL, e1, e2, ⟨⟨u, hv, hp, hb⟩, hF⟩, st⟩ | ⟨q, st₀, t, T', L, E, ce, h0, X', hL, e1, e2, ⟨u, hp, hb, hF⟩, hce, hcv, hcl, st⟩
  · cases hv
    obtain ⟨k1, k2, k3⟩ := vx_keep h0 e1 hS hA hf hL hF
    obtain ⟨t2, a1, b1⟩ := kk u t T'.heap (locs ++ L) e1.symm (by rw [← e2]; exact X'.warmed.alike) hp hb k1 k2 k3 T' rfl X'
    exact ⟨t2, st t2 a1, b1⟩
  · obtain ⟨k1, k2, k3⟩ := vx_keep h0 e1 hS hAX hf hL hF
    obtain ⟨t2, a1, b1⟩ := kx E ce q u t T'.heap (locs ++ L) e1.symm (by rw [← e2]; exact X'.warmed.alike) hp hb k1 k2 k3 (by rw [e1]; exact hce) hcv hcl T' rfl X'
    exact ⟨t2, st.trans a1, b1⟩
/-- caught by the row x of this method's table; the rows ahead don't take it -/
theorem vx_catch {own name : String} {E : String} {ce : Cell} {q : Addr} (hown : s.vm.findClass own = some m.cls) (pre : List ExceptionTableEntry) (x : ExceptionTableEntry) (suf : List ExceptionTableEntry) (hsplit : c.exceptionTable.toList = pre ++ x :: suf)
    (hpass : ∀ z ∈ pre, covers z pc = false ∨ (z.catchType ≠ 0 ∧ ∃ nm : String, (Cond.classLink own z.catchType nm).before args s = true ∧ va_Nc E nm s)) (hx : covers x pc = true) (h0 : x.catchType ≠ 0)
    (hlink : (Cond.classLink own x.catchType name).before args s = true) (hcast : (Cond.castable E name).before args s = true) (hcell : H[q]? = some ce) (hv : ce.vm = .none) (hcl : s.vm.findClass E = some ce.cls)
    (kk : W p l e R s m args below meth c H locs cells slots Q (F0 m x.handlerPc ls [.ref q])) : vx_W p l e R s m args below meth c H locs cells slots Q (F0 m pc ls rest) q := by
  intro T hT X
  have hpl : e.platform.magicAccessors = ({} : Platform).magicAccessors := by rw [X.admits.platform]
  obtain ⟨c3, c4, hc3, hc4, hasg⟩ := Cond.castable_spec hcast
  cases Option.some.inj (hc3.symm.trans hcl)
  obtain ⟨c5, hc5, hcl5⟩ := Cond.classLink_spec hown hlink e.platform hpl
  cases Option.some.inj (hc4.symm.trans hc5)
  obtain ⟨vm', X', st⟩ := X.thenCaughtThrough q (g := F0 m pc ls rest) rfl (Steps.refl _) (by rw [hT]; exact hcell) (by rw [hv]; rfl) (by obtain ⟨k9, h9, -⟩ := Vm.findClass_spec hcl; exact ⟨k9, h9⟩) pre x suf hsplit
    (fun z hz => by
      rcases hpass z hz with h | ⟨hz0, nm, hl1, hn1⟩
      · exact Or.inl h
      · obtain ⟨c6, hc6, hcl6⟩ := Cond.classLink_spec hown hl1 e.platform hpl
        obtain ⟨a8, b8, h1, h2, h3⟩ := hn1
        cases Option.some.inj (h1.symm.trans hcl)
        cases Option.some.inj (h2.symm.trans hc6)
        exact Or.inr ⟨hz0, _, hcl6, h3⟩) hx (Or.inr ⟨h0, c4, hcl5, hasg⟩)
  obtain ⟨t, a1, b1⟩ := kk (T.setVm vm') hT X'
  exact ⟨t, st.trans a1, b1⟩
end Rows
section Ends
variable {p : Program} {l : Launch} {e : Env} {R : Room} {s : State} {m : MethodId} {args : Array Value} {below : List Frame} {meth : Method} {c : Code} {H : Heap} {locs : List Loc} {cells slots : Nat} {Q : State → Prop}
variable {mc ms : Nat} {free : Addr → Prop} {A0 A1 : Nat → Prop} {H0 : Heap} {a : Array Value} {ls : Array Slot} {st0 rest : List Value}
variable {Qc : Array Value → State → Outcome → State → Prop} {XC : String → State → State → Prop}
/-- what a body that may throw owes at its end -/
def vx_MQ (below : List Frame) (Qc : Array Value → State → Outcome → State → Prop) (XC : String → State → State → Prop) (a : Array Value) (s : State) (mc ms : Nat) (free : Addr → Prop) : State → Prop := fun t =>
  ∃ o, t.status = .running ∧ Ended t below o ∧ vx_Q Qc XC mc ms free a s o t
theorem vx_ret {g : JFrame} {mc ms : Nat} (k : W p l e R s m args below meth c H locs cells slots (MQ below Qc args s mc ms free) g) : W p l e R s m args below meth c H locs cells slots (vx_MQ below Qc XC args s mc ms free) g := by
  intro T hT X
  obtain ⟨t, a1, o, b1, b2, b3, b4⟩ := k T hT X
  exact ⟨t, a1, o, b1, b2, Or.inl ⟨b3, b4⟩⟩
/-- not caught here: it goes on to the caller -/
theorem vx_widen {g : JFrame} {q : Addr} {k n : Nat} (h1 : cells ≤ k) (h2 : slots ≤ n) (kk : vx_W p l e R s m args below meth c H locs k n Q g q) : vx_W p l e R s m args below meth c H locs cells slots Q g q := fun T hT X => kk T hT (stand_widen X h1 h2)
theorem vx_out {pc : Nat} {E : String} {ce : Cell} {q : Addr} {mc ms : Nat} (hout : ∀ x ∈ c.exceptionTable.toList, covers x pc = false) (hlocks : meth.locks = false) (hcell : H[q]? = some ce) (hv : ce.vm = .none) (hcl : s.vm.findClass E = some ce.cls)
    (hx : ∀ t : State, t.heap = H → s.vm.Alike t.vm → XC E s t) (hf : ∀ z ∈ locs, free z.base) (hc : cells ≤ mc) (hs : slots ≤ ms) :
    vx_W p l e R s m args below meth c H locs cells slots (vx_MQ below Qc XC args s mc ms free) (F0 m pc ls rest) q := by
  intro T hT X
  obtain ⟨st1, hrun, hend, hW, hsm⟩ := X.leaveThrown q (g := F0 m pc ls rest) rfl rfl rfl hout hlocks
  have hcell9 : (T.setFrames (.throwing q :: below)).heap[q]? = some ce := by
    show T.heap[q]? = some ce
    rw [hT]; exact hcell
  exact ⟨_, st1, .threw q, hrun, hend, Or.inr ⟨q, rfl, E, ce, locs, hx _ hT hW.alike, hcell9, hv, hcl, hW, hsm.mono hc hs, hf⟩⟩
theorem vx_frame {U : State} {k n : Nat} (h : s.sameButNew ({ U with vm := s.vm } : State) locs k n) : s.heap.size ≤ U.heap.size ∧ ∀ q : Nat, q < s.heap.size → (∀ z ∈ locs, z.base ≠ q) → U.heap[q]? = s.heap[q]? := by
  obtain ⟨-, h2, -, -, -, h6⟩ := h
  refine ⟨h2, fun q hq hz => ?_⟩
  obtain ⟨c9, e1, e2, e3, e4⟩ := h6 q _ (Array.getElem?_eq_getElem hq)
  have hs : c9.slots = (s.heap[q]).slots := Array.ext_getElem? fun i => e4 i fun hm => hz _ hm rfl
  have h9 : c9 = s.heap[q] := by
    rw [hs] at e2
    exact e2
  have e5 : U.heap[q]? = some c9 := e1
  rw [e5, h9, Array.getElem?_eq_getElem hq]
/-- the words of a throw but the four that speak of the heap -/
def vx_no (w : Cond) : Bool := decide (w ≠ .isRef (.static Bundle.tN "UNASSIGNED_STACK" Bundle.steD)) && decide (w ≠ .isRef (.static Bundle.tN "SUPPRESSED_SENTINEL" Bundle.listD)) && decide (w ≠ .laysStatic Bundle.tN "UNASSIGNED_STACK" Bundle.steD) && decide (w ≠ .laysStatic Bundle.tN "SUPPRESSED_SENTINEL" Bundle.listD)
def vx_at0 (own : String) (ic : Nat) (X : String) (names : List String) : List Cond := (Bundle.ownAtoms0 own ic X names).filter vx_no
def vx_atS (own : String) (ic : Nat) (X : String) (names : List String) : List Cond := (Bundle.ownAtoms own ic X names).filter vx_no
/-- a word that the tables alone decide, or a good one -/
def vx_ot (w : Cond) : Bool := w.onTables || goodWord w
theorem vx_ot_at {args a' : Array Value} {s U : State} {w : Cond} (hW : s.WarmedH U.vm) (hvm : s.vm = U.vm) (hg : vx_ot w = true) (h : w.before args s = true) : w.before a' U = true := by
  simp only [vx_ot, Bool.or_eq_true] at hg
  rcases hg with hg | hg
  · exact va_tabs hg hvm h
  · exact word_at hW (good_of_word hg) h
/-- a list's words: the good ones out of the method's own list, the others by premises of their own -/
theorem vx_hat {args : Array Value} {s : State} {L B : List Cond} (h1 : ∀ w ∈ L.filter goodWord, w.before args s = true) (h2 : ∀ w ∈ L.filter (fun w => !goodWord w), w ∈ B) (h3 : ∀ w ∈ B, w.before args s = true) : ∀ w ∈ L, w.before args s = true := by
  intro w hw
  by_cases g : goodWord w = true
  · exact h1 w (List.mem_filter.mpr ⟨hw, g⟩)
  · refine h3 w (h2 w (List.mem_filter.mpr ⟨hw, ?_⟩))
    show (!goodWord w) = true
    cases hgw : goodWord w
    · rfl
    · exact absurd hgw g
theorem vx_c {args : Array Value} {s : State} {w : Cond} {B : List Cond} (h : w.before args s = true) (t : ∀ w ∈ B, w.before args s = true) : ∀ w' ∈ w :: B, w'.before args s = true := fun w' h' => (List.mem_cons.mp h').elim (fun e => by rw [e]; exact h) (t w')
theorem vx_n {args : Array Value} {s : State} : ∀ w ∈ ([] : List Cond), w.before args s = true := fun _ h => nomatch h
theorem vx_own {args : Array Value} {s : State} {L : List Cond} (h1 : ∀ w ∈ L.filter vx_no, w.before args s = true)
    (hU : (Cond.isRef (.static Bundle.tN "UNASSIGNED_STACK" Bundle.steD)).before args s = true) (hN : (Cond.isRef (.static Bundle.tN "SUPPRESSED_SENTINEL" Bundle.listD)).before args s = true)
    (lU : (Cond.laysStatic Bundle.tN "UNASSIGNED_STACK" Bundle.steD).before args s = true) (lN : (Cond.laysStatic Bundle.tN "SUPPRESSED_SENTINEL" Bundle.listD).before args s = true) : ∀ w ∈ L, w.before args s = true := by
  intro w hw
  by_cases e1 : w = .isRef (.static Bundle.tN "UNASSIGNED_STACK" Bundle.steD)
  · rw [e1]; exact hU
  · by_cases e2 : w = .isRef (.static Bundle.tN "SUPPRESSED_SENTINEL" Bundle.listD)
    · rw [e2]; exact hN
    · by_cases e3 : w = .laysStatic Bundle.tN "UNASSIGNED_STACK" Bundle.steD
      · rw [e3]; exact lU
      · by_cases e4 : w = .laysStatic Bundle.tN "SUPPRESSED_SENTINEL" Bundle.listD
        · rw [e4]; exact lN
        · exact h1 w (List.mem_filter.mpr ⟨hw, by unfold vx_no; rw [decide_eq_true e1, decide_eq_true e2, decide_eq_true e3, decide_eq_true e4]; rfl⟩)
/-- where a static field lies, its class's statics cell in H -/
def vx_L (C n d : String) (A : Nat → Prop) (U : State) (H : Heap) : Prop := ∃ (c : ClassId) (k : Class) (i : Nat) (f : Field) (a : Nat) (cell : Cell), U.vm.findClass C = some c ∧ U.fieldFound? C n d = some (c, k, i, f) ∧ f.isStatic = true ∧ k.statics = some a ∧ H[a]? = some cell ∧ cell.vm.isStatics = true ∧ cell.cls = c ∧ f.slot < cell.slots.size ∧ k.staticTypes[f.slot]? = some f.type ∧ ¬ A a
theorem vx_L.moved {C n d : String} {A : Nat → Prop} {u U : State} {H : Heap} (hvm : u.vm.Alike U.vm) (h : vx_L C n d A u H) : vx_L C n d A U H := by
  obtain ⟨c, k, i, f, a, cell, h1, h2, h3, h4, h5, h6, h7, h8, h9, h10⟩ := h
  obtain ⟨k', hi', he⟩ := State.fieldFound?_setVm hvm h2
  exact ⟨c, k', i, f, a, cell, by rw [hvm.findClass]; exact h1, hi', h3, by rw [he]; exact h4, h5, h6, h7, h8, by rw [he]; exact h9, h10⟩
theorem vx_L.kept {C n d : String} {A : Nat → Prop} {U : State} {H H1 : Heap} (h : vx_L C n d A U H) (hq : ∀ a : Nat, a < H.size → ¬ A a → H1[a]? = H[a]?) : vx_L C n d A U H1 := by
  obtain ⟨c, k, i, f, a, cell, h1, h2, h3, h4, h5, h6, h7, h8, h9, h10⟩ := h
  exact ⟨c, k, i, f, a, cell, h1, h2, h3, h4, by rw [hq a (Array.getElem?_eq_some_iff.mp h5).1 h10]; exact h5, h6, h7, h8, h9, h10⟩
theorem vx_L.narrow {C n d : String} {A B : Nat → Prop} {U : State} {H : Heap} (h : vx_L C n d A U H) (hAB : ∀ q, B q → A q) : vx_L C n d B U H := by
  obtain ⟨c, k, i, f, a, cell, h1, h2, h3, h4, h5, h6, h7, h8, h9, h10⟩ := h
  exact ⟨c, k, i, f, a, cell, h1, h2, h3, h4, h5, h6, h7, h8, h9, fun z => h10 (hAB _ z)⟩
theorem vx_L.word {C n d : String} {A : Nat → Prop} {s : State} {args : Array Value} (h : vx_L C n d A s s.heap) : (Cond.laysStatic C n d).before args s = true := by
  obtain ⟨c, k, i, f, a, cell, h1, h2, h3, h4, h5, h6, h7, h8, h9, -⟩ := h
  show (Cond.laysStatic C n d).holds args s none s [] = true
  exact Cond.laysStatic_of h1 h2 h3 h4 h5 h6 h7 h8 h9
/-- .. and what it holds: null or some reference -/
def vx_Zq (C n d : String) (A : Nat → Prop) (U : State) (H : Heap) : Prop := va_Zq C n d A U H ∧ vx_L C n d A U H
theorem vx_Zq.moved {C n d : String} {A : Nat → Prop} {u U : State} {H : Heap} (hvm : u.vm.Alike U.vm) (h : vx_Zq C n d A u H) : vx_Zq C n d A U H := ⟨va_Zq.moved hvm h.1, vx_L.moved hvm h.2⟩
theorem vx_Zq.kept {C n d : String} {A : Nat → Prop} {U : State} {H H1 : Heap} (h : vx_Zq C n d A U H) (hq : ∀ a : Nat, a < H.size → ¬ A a → H1[a]? = H[a]?) : vx_Zq C n d A U H1 := ⟨va_Zq.kept h.1 hq, vx_L.kept h.2 hq⟩
theorem vx_Zq.narrow {C n d : String} {A B : Nat → Prop} {U : State} {H : Heap} (h : vx_Zq C n d A U H) (hAB : ∀ q, B q → A q) : vx_Zq C n d B U H := ⟨va_Zq.narrow h.1 hAB, vx_L.narrow h.2 hAB⟩
theorem vx_Zqof {args : Array Value} {s : State} {C n d : String} {A : Nat → Prop} (hl : (Cond.laysStatic C n d).before args s = true) (hini : (Cond.initialized C).before args s = true) (h : (Cond.isRef (.static C n d)).before args s = true) (hA : ∀ a : Nat, a < s.heap.size → ¬ A a) : vx_Zq C n d A s s.heap := by
  refine ⟨va_Zqof hl hini h hA, ?_⟩
  obtain ⟨c, k, i, f, a, cell, h1, h2, h3, h4, h5, h6, h7, h8, h9⟩ := Cond.laysStatic_spec hl
  exact ⟨c, k, i, f, a, cell, h1, h2, h3, h4, h5, h6, h7, h8, h9, hA a (Array.getElem?_eq_some_iff.mp h5).1⟩
theorem vx_isRef {C n d : String} {v : Value} {A : Nat → Prop} {s : State} {args : Array Value} (h : va_Z C n d v A s s.heap) (hv : v.isRef = true) : (Cond.isRef (.static C n d)).before args s = true := by
  obtain ⟨cf, kf, fi, f, a, cell, h1, h2, h3, h4, h5, h6, h7, -⟩ := h
  have he : (Term.static C n d).eval args s none [] s = some v := by
    simp [Term.eval, State.fieldNamed?, h1, h2, h4, h5, h6, h7]
  simp only [Cond.before, Cond.holds, Cond.value, he]
  cases v <;> simp_all [Value.isRef]
theorem vx_isRefq {C n d : String} {A : Nat → Prop} {s : State} {args : Array Value} (h : va_Zq C n d A s s.heap) : (Cond.isRef (.static C n d)).before args s = true := by
  rcases h with h | ⟨t, h⟩
  · exact vx_isRef h rfl
  · exact vx_isRef h rfl
/-- the same frame, seen from here: as if the method were called anew in this heap -/
theorem vx_rebase {T : State} (X : Stand p l e R s m args below meth c T locs cells slots) {R' : Room} (hf : R'.frames ≤ R.frames) (hl : R'.locals ≤ R.locals) (hc : cells + R'.cells ≤ R.cells) (hs : slots + R'.slots ≤ R.slots) :
    Stand p l e R' ((T.setVm s.vm).setFrames (.invoking m args :: below)) m args below meth c T [] 0 0 := by
  have htop : (T.setVm s.vm).topJava?.isSome := X.here.top
  have hF : ((T.setVm s.vm).setFrames (.invoking m args :: below)).frames = .invoking m args :: below := State.frames_setFrames _ (State.cur_lt_of_top htop)
  obtain ⟨g₀, hg0⟩ := Option.isSome_iff_exists.mp htop
  obtain ⟨r, hr⟩ := State.topJava?_eq_some.mp hg0
  have hl9 : e.platform.stackLimits (T.setVm s.vm).me = e.platform.stackLimits s.me := X.limits
  have hb9 : (T.setVm s.vm).me.stackBytes = s.me.stackBytes := X.bytes
  refine ⟨X.admits, X.cas, X.clock, hF, ?_, X.hears, X.method, X.code, X.here, X.tail, X.warmed, ?_, ?_, ?_⟩
  · have h := X.room
    have hU : ((T.setVm s.vm).setFrames (.invoking m args :: below)).localsInUse = s.localsInUse := by
      rw [State.localsInUse_invoking hF (meth := meth) (c := c) X.method X.code, State.localsInUse_invoking X.frames X.method X.code]
    simp only [State.hasRoom, Bool.and_eq_true, decide_eq_true_eq] at h ⊢
    obtain ⟨⟨⟨⟨h1, h2, h3, h4, h5, h6⟩, h7⟩, h8⟩, h9⟩ := h
    rw [X.frames, List.length_cons] at h2 h3
    have q1 := X.heapSize
    have q2 := X.used
    simp only [hF, hU, List.length_cons, State.stackLimits_setFrames, State.stackBytes_setFrames, hl9, hb9]
    refine ⟨⟨⟨⟨by omega, by omega, by omega, by omega, by omega, h6⟩, ?_⟩, ?_⟩, X.book⟩
    · show T.heap.size + R'.cells ≤ e.platform.maxCells
      omega
    · show T.slotsUsed + R'.slots ≤ e.platform.maxSlots
      omega
  · rw [State.stackLimits_setFrames]; rfl
  · rw [State.stackBytes_setFrames]; rfl
  · refine ⟨?_, Nat.le_refl _, Nat.le_refl _, ?_, ?_, fun a c9 h9 => ⟨c9, h9, rfl, rfl, fun _ _ => rfl⟩⟩
    · obtain ⟨t, ht, -⟩ := State.frames_cons hr
      show T.setVm s.vm = { ((T.setVm s.vm).setFrames (.invoking m args :: below)).setFrames (T.setVm s.vm).frames with heap := T.heap, slotsUsed := T.slotsUsed }
      rw [State.setFrames_setFrames, State.setFrames_self ht]
      rfl
    · show T.slotsUsed = T.slotsUsed + ((T.heap.toList.drop T.heap.size).map (·.slots.size)).sum
      rw [List.drop_eq_nil_of_le (Nat.le_of_eq Array.length_toList)]
      rfl
    · show ((T.heap.toList.drop T.heap.size).map (·.slots.size)).sum ≤ 0
      rw [List.drop_eq_nil_of_le (Nat.le_of_eq Array.length_toList)]
      exact Nat.le_refl _
/-- 'throw new E()': new; dup; invokespecial; athrow -/
theorem vx_throw0 {cc : ByteArray} {pc : Nat} (hexec : p.tables.exec = Jvm.exec) (hb : c.code = cc) (hl : l.stackTraces = false) {own cls : String} {names : List String} {ik ic mc ms : Nat} {A : Nat → Prop}
    (hown : s.vm.findClass own = some m.cls) (hcls : Bundle.fit cls = true) (hnames : ∀ n ∈ names, Bundle.fit n = true)
    (hk : (Cond.classLink own ik cls).before args s = true) (hini : (Cond.initialized cls).before args s = true) (hat : ∀ w ∈ vx_at0 own ic cls names, w.before args s = true)
    (hgood : ∀ w ∈ Cond.classLink own ik cls :: Cond.initialized cls :: vx_at0 own ic cls names, vx_ot w = true)
    (hU : vx_Zq Bundle.tN "UNASSIGNED_STACK" Bundle.steD A s s.heap) (hN : vx_Zq Bundle.tN "SUPPRESSED_SENTINEL" Bundle.listD A s s.heap) (hS : va_S A s.heap H locs) (hsize : ls.size = c.maxLocals)
    (d0 : decode cc pc = .ok (.new ik, 3)) (d3 : decode cc (pc + 3) = .ok (.dup, 1)) (d4 : decode cc (pc + 4) = .ok (.invokespecial ic, 3)) (d7 : decode cc (pc + 7) = .ok (.athrow, 1))
    (hout : ∀ x ∈ c.exceptionTable.toList, covers x (pc + 7) = false)
    (hRframes : names.length + 3 < R.frames) (hRlocals : (rest.map fun v => v.category).sum + (13 * (names.length + 1) + 42) ≤ R.locals) (hRcells : cells + 1 ≤ R.cells) (hRslots : slots + 6 ≤ R.slots) (hlocks : meth.locks = false)
    (hx : ∀ t : State, s.vm.Alike t.vm → H.size ≤ t.heap.size → (∀ q : Nat, q < H.size → t.heap[q]? = H[q]?) → XC cls s t)
    (hf : ∀ z ∈ locs, free z.base) (hc : cells + 1 ≤ mc) (hs : slots + 6 ≤ ms) :
    W p l e R s m args below meth c H locs cells slots (vx_MQ below Qc XC args s mc ms free) (F0 m pc ls rest) := by
  intro T hT X
  have htr : e.platform.stackTraces = false := (show e.platform.stackTraces = l.stackTraces by rw [X.admits.platform]).trans hl
  have Y := vx_rebase X (R' := { frames := R.frames, locals := R.locals, cells := 1, slots := 6 }) (Nat.le_refl _) (Nat.le_refl _) hRcells hRslots
  obtain ⟨s', hA⟩ : ∃ z, z = (T.setVm s.vm).setFrames (.invoking m args :: below) := ⟨_, rfl⟩
  rw [← hA] at Y
  have hvm : s'.vm = s.vm := by rw [hA]; rfl
  have hhp : s'.heap = H := by rw [hA]; exact hT
  have hW0 : s.WarmedH s'.vm := by rw [hvm]; exact State.WarmedH.refl s
  have hat' : ∀ w ∈ vx_at0 own ic cls names, w.before args s' = true := fun w hw => vx_ot_at hW0 hvm.symm (hgood w (List.mem_cons_of_mem _ (List.mem_cons_of_mem _ hw))) (hat w hw)
  have hk' : (Cond.classLink own ik cls).before args s' = true := vx_ot_at hW0 hvm.symm (hgood _ List.mem_cons_self) hk
  have hini' : (Cond.initialized cls).before args s' = true := vx_ot_at hW0 hvm.symm (hgood _ (List.mem_cons_of_mem _ List.mem_cons_self)) hini
  have hU' : vx_Zq Bundle.tN "UNASSIGNED_STACK" Bundle.steD A s' s'.heap := by rw [hhp]; exact vx_Zq.moved hW0.alike (hU.kept hS.2.1)
  have hN' : vx_Zq Bundle.tN "SUPPRESSED_SENTINEL" Bundle.listD A s' s'.heap := by rw [hhp]; exact vx_Zq.moved hW0.alike (hN.kept hS.2.1)
  have h : ∀ w ∈ Bundle.ownAtoms0 own ic cls names, w.before args s' = true := vx_own hat' (vx_isRefq hU'.1) (vx_isRefq hN'.1) hU'.2.word hN'.2.word
  have hown' : s'.vm.findClass own = some m.cls := by rw [hvm]; exact hown
  have hins : (Cond.instantiable cls 6).before args s' = true := h _ (by simp [Bundle.ownAtoms0])
  obtain ⟨vm₁, cX, kX, hfX, hkX, -, -, X₁, st1⟩ := Y.newCold hexec (own := own) (C := cls) (index := ik) (n := 6) hown' hk' hins hini'
    (g := F0 m pc ls rest) rfl (by rw [hb]; exact d0) (Nat.le_refl _) (Nat.le_refl _)
  generalize hT1 : (T.setVm vm₁).pushCell { cls := cX, slots := kX.instanceTypes.map defaultValue, vm := .none } = T1 at X₁ st1
  have hcat : (Value.ref T.heap.size).category = 1 := rfl
  have hcellA : T1.heap[T.heap.size]? = some (freshCell cX kX) := by rw [← hT1]; exact State.heap_pushCell_size _ _
  have d3' : decode c.code (pc + 3) = .ok (.dup, 1) := by rw [hb]; exact d3
  obtain ⟨U, hsteps, hrun, hend, hW, hsame, ce, hce, hO⟩ := X₁.ctorThrow0 hexec htr (own := own) (cls := cls) (names := names) (ic := ic) hown' hcls hnames h (fun x hx => nomatch hx) hfX hkX hcellA (by rw [hhp, hT]; exact Nat.le_refl _)
    (g := { method := m, pc := pc + 4, locals := ls, stack := .ref T.heap.size :: .ref T.heap.size :: rest, locked := none }) rfl hsize rfl rfl (rest := rest) rfl
    (by rw [hb]; exact d4) (by rw [hb]; exact d7) hout hRframes (by simp only [List.map_cons, List.sum_cons, hcat]; omega) hlocks
  obtain ⟨f1, f2⟩ := vx_frame hsame
  rw [hhp] at f1 f2
  have hWs : s.WarmedH U.vm := State.WarmedH.trans hW0 hW
  have hcl : s.vm.findClass cls = some ce.cls := by
    have h9 := hO.cls
    rw [hvm] at h9
    exact h9
  have hall : s.sameButNew ({ U with vm := s.vm } : State) locs mc ms := by
    subst hA
    obtain ⟨e1, e2⟩ := hsame
    rw [State.setFrames_setFrames] at e1
    have h2 : (T.setVm s.vm).sameButNew ({ U with vm := s.vm } : State) [] (0 + 1) (0 + 6) := ⟨e1, e2⟩
    have h3 := X.same.trans h2
    rw [List.append_nil] at h3
    exact h3.mono hc hs
  refine ⟨U, ?_, .threw T.heap.size, hrun, hend, Or.inr ⟨T.heap.size, rfl, cls, ce, locs, hx U hWs.alike f1 (fun q hq => f2 q hq (fun z hz => nomatch hz)), hce, hO.vm, hcl, hWs, hall, hf⟩⟩
  refine st1 _ ?_
  show Steps p.tables e below (T1.setTop { method := m, pc := pc + 3, locals := ls, stack := .ref T.heap.size :: rest, locked := none }) _
  jvm_step X₁.here [X₁.here.top, hexec, d3', Value.category]
  exact hsteps
/-- 'throw new E("text")': new; dup; ldc; invokespecial; athrow -/
theorem vx_throwS {cc : ByteArray} {pc : Nat} (hexec : p.tables.exec = Jvm.exec) (hb : c.code = cc) (hl : l.stackTraces = false) {own cls text : String} {names : List String} {ik is ic mc ms sa : Nat} {A : Nat → Prop}
    (hown : s.vm.findClass own = some m.cls) (hcls : Bundle.fit cls = true) (hnames : ∀ n ∈ names, Bundle.fit n = true)
    (hk : (Cond.classLink own ik cls).before args s = true) (hini : (Cond.initialized cls).before args s = true) (hstr : vk_R own is text sa s) (hat : ∀ w ∈ vx_atS own ic cls names, w.before args s = true)
    (hgood : ∀ w ∈ Cond.classLink own ik cls :: Cond.initialized cls :: vx_atS own ic cls names, vx_ot w = true)
    (hU : vx_Zq Bundle.tN "UNASSIGNED_STACK" Bundle.steD A s s.heap) (hN : vx_Zq Bundle.tN "SUPPRESSED_SENTINEL" Bundle.listD A s s.heap) (hS : va_S A s.heap H locs) (hsize : ls.size = c.maxLocals)
    (d0 : decode cc pc = .ok (.new ik, 3)) (d3 : decode cc (pc + 3) = .ok (.dup, 1)) (d4 : decode cc (pc + 4) = .ok (.ldc is, 2)) (d6 : decode cc (pc + 6) = .ok (.invokespecial ic, 3)) (d9 : decode cc (pc + 9) = .ok (.athrow, 1))
    (hout : ∀ x ∈ c.exceptionTable.toList, covers x (pc + 9) = false)
    (hRframes : names.length + 3 < R.frames) (hRlocals : (rest.map fun v => v.category).sum + (13 * (names.length + 1) + 43) ≤ R.locals) (hRcells : cells + 1 ≤ R.cells) (hRslots : slots + 6 ≤ R.slots) (hlocks : meth.locks = false)
    (hx : ∀ t : State, s.vm.Alike t.vm → H.size ≤ t.heap.size → (∀ q : Nat, q < H.size → t.heap[q]? = H[q]?) → XC cls s t)
    (hf : ∀ z ∈ locs, free z.base) (hc : cells + 1 ≤ mc) (hs : slots + 6 ≤ ms) :
    W p l e R s m args below meth c H locs cells slots (vx_MQ below Qc XC args s mc ms free) (F0 m pc ls rest) := by
  intro T hT X
  have htr : e.platform.stackTraces = false := (show e.platform.stackTraces = l.stackTraces by rw [X.admits.platform]).trans hl
  have Y := vx_rebase X (R' := { frames := R.frames, locals := R.locals, cells := 1, slots := 6 }) (Nat.le_refl _) (Nat.le_refl _) hRcells hRslots
  obtain ⟨s', hA⟩ : ∃ z, z = (T.setVm s.vm).setFrames (.invoking m args :: below) := ⟨_, rfl⟩
  rw [← hA] at Y
  have hvm : s'.vm = s.vm := by rw [hA]; rfl
  have hhp : s'.heap = H := by rw [hA]; exact hT
  have hW0 : s.WarmedH s'.vm := by rw [hvm]; exact State.WarmedH.refl s
  have hat' : ∀ w ∈ vx_atS own ic cls names, w.before args s' = true := fun w hw => vx_ot_at hW0 hvm.symm (hgood w (List.mem_cons_of_mem _ (List.mem_cons_of_mem _ hw))) (hat w hw)
  have hk' : (Cond.classLink own ik cls).before args s' = true := vx_ot_at hW0 hvm.symm (hgood _ List.mem_cons_self) hk
  have hini' : (Cond.initialized cls).before args s' = true := vx_ot_at hW0 hvm.symm (hgood _ (List.mem_cons_of_mem _ List.mem_cons_self)) hini
  have hU' : vx_Zq Bundle.tN "UNASSIGNED_STACK" Bundle.steD A s' s'.heap := by rw [hhp]; exact vx_Zq.moved hW0.alike (hU.kept hS.2.1)
  have hN' : vx_Zq Bundle.tN "SUPPRESSED_SENTINEL" Bundle.listD A s' s'.heap := by rw [hhp]; exact vx_Zq.moved hW0.alike (hN.kept hS.2.1)
  have h : ∀ w ∈ Bundle.ownAtoms own ic cls names, w.before args s' = true := vx_own hat' (vx_isRefq hU'.1) (vx_isRefq hN'.1) hU'.2.word hN'.2.word
  have hown' : s'.vm.findClass own = some m.cls := by rw [hvm]; exact hown
  have hins : (Cond.instantiable cls 6).before args s' = true := h _ (by simp [Bundle.ownAtoms])
  obtain ⟨vm₁, cX, kX, hfX, hkX, -, -, X₁, st1⟩ := Y.newCold hexec (own := own) (C := cls) (index := ik) (n := 6) hown' hk' hins hini'
    (g := F0 m pc ls rest) rfl (by rw [hb]; exact d0) (Nat.le_refl _) (Nat.le_refl _)
  generalize hT1 : (T.setVm vm₁).pushCell { cls := cX, slots := kX.instanceTypes.map defaultValue, vm := .none } = T1 at X₁ st1
  have hcat : (Value.ref T.heap.size).category = 1 := rfl
  have hcellA : T1.heap[T.heap.size]? = some (freshCell cX kX) := by rw [← hT1]; exact State.heap_pushCell_size _ _
  have d3' : decode c.code (pc + 3) = .ok (.dup, 1) := by rw [hb]; exact d3
  have d4' : decode c.code (pc + 4) = .ok (.ldc is, 2) := by rw [hb]; exact d4
  have hstr' : vk_R own is text sa s' := vk_R.warm hW0 hstr
  obtain ⟨U, hsteps, hrun, hend, hW, hsame, ce, hce, hO⟩ := X₁.ctorThrowS hexec htr (own := own) (cls := cls) (names := names) (ic := ic) hown' hcls hnames h (fun x hx => nomatch hx) hfX hkX hcellA (by rw [hhp, hT]; exact Nat.le_refl _) (msg := .ref sa) rfl
    (g := { method := m, pc := pc + 6, locals := ls, stack := .ref sa :: .ref T.heap.size :: .ref T.heap.size :: rest, locked := none }) rfl hsize rfl rfl (rest := rest) rfl
    (by rw [hb]; exact d6) (by rw [hb]; exact d9) hout hRframes (by simp only [List.map_cons, List.sum_cons, hcat]; omega) hlocks
  obtain ⟨f1, f2⟩ := vx_frame hsame
  rw [hhp] at f1 f2
  have hWs : s.WarmedH U.vm := State.WarmedH.trans hW0 hW
  have hcl : s.vm.findClass cls = some ce.cls := by
    have h9 := hO.cls
    rw [hvm] at h9
    exact h9
  have hall : s.sameButNew ({ U with vm := s.vm } : State) locs mc ms := by
    subst hA
    obtain ⟨e1, e2⟩ := hsame
    rw [State.setFrames_setFrames] at e1
    have h2 : (T.setVm s.vm).sameButNew ({ U with vm := s.vm } : State) [] (0 + 1) (0 + 6) := ⟨e1, e2⟩
    have h3 := X.same.trans h2
    rw [List.append_nil] at h3
    exact h3.mono hc hs
  refine ⟨U, ?_, .threw T.heap.size, hrun, hend, Or.inr ⟨T.heap.size, rfl, cls, ce, locs, hx U hWs.alike f1 (fun q hq => f2 q hq (fun z hz => nomatch hz)), hce, hO.vm, hcl, hWs, hall, hf⟩⟩
  refine st1 _ ?_
  show Steps p.tables e below (T1.setTop { method := m, pc := pc + 3, locals := ls, stack := .ref T.heap.size :: rest, locked := none }) _
  jvm_step X₁.here [X₁.here.top, hexec, d3', Value.category]
  exact X₁.ldcString hexec (own := own) (text := text) (index := is) (a := sa) hown' hstr'.1 hstr'.2
    (g := { method := m, pc := pc + 4, locals := ls, stack := .ref T.heap.size :: .ref T.heap.size :: rest, locked := none }) rfl d4' _ hsteps
/-- 'throw new E("text")', the text by a wide index -/
theorem vx_throwSW {cc : ByteArray} {pc : Nat} (hexec : p.tables.exec = Jvm.exec) (hb : c.code = cc) (hl : l.stackTraces = false) {own cls text : String} {names : List String} {ik is ic mc ms sa : Nat} {A : Nat → Prop}
    (hown : s.vm.findClass own = some m.cls) (hcls : Bundle.fit cls = true) (hnames : ∀ n ∈ names, Bundle.fit n = true)
    (hk : (Cond.classLink own ik cls).before args s = true) (hini : (Cond.initialized cls).before args s = true) (hstr : vk_R own is text sa s) (hat : ∀ w ∈ vx_atS own ic cls names, w.before args s = true)
    (hgood : ∀ w ∈ Cond.classLink own ik cls :: Cond.initialized cls :: vx_atS own ic cls names, vx_ot w = true)
    (hU : vx_Zq Bundle.tN "UNASSIGNED_STACK" Bundle.steD A s s.heap) (hN : vx_Zq Bundle.tN "SUPPRESSED_SENTINEL" Bundle.listD A s s.heap) (hS : va_S A s.heap H locs) (hsize : ls.size = c.maxLocals)
    (d0 : decode cc pc = .ok (.new ik, 3)) (d3 : decode cc (pc + 3) = .ok (.dup, 1)) (d4 : decode cc (pc + 4) = .ok (.ldc_w is, 3)) (d7 : decode cc (pc + 7) = .ok (.invokespecial ic, 3)) (d10 : decode cc (pc + 10) = .ok (.athrow, 1))
    (hout : ∀ x ∈ c.exceptionTable.toList, covers x (pc + 10) = false)
    (hRframes : names.length + 3 < R.frames) (hRlocals : (rest.map fun v => v.category).sum + (13 * (names.length + 1) + 43) ≤ R.locals) (hRcells : cells + 1 ≤ R.cells) (hRslots : slots + 6 ≤ R.slots) (hlocks : meth.locks = false)
    (hx : ∀ t : State, s.vm.Alike t.vm → H.size ≤ t.heap.size → (∀ q : Nat, q < H.size → t.heap[q]? = H[q]?) → XC cls s t)
    (hf : ∀ z ∈ locs, free z.base) (hc : cells + 1 ≤ mc) (hs : slots + 6 ≤ ms) :
    W p l e R s m args below meth c H locs cells slots (vx_MQ below Qc XC args s mc ms free) (F0 m pc ls rest) := by
  intro T hT X
  have htr : e.platform.stackTraces = false := (show e.platform.stackTraces = l.stackTraces by rw [X.admits.platform]).trans hl
  have Y := vx_rebase X (R' := { frames := R.frames, locals := R.locals, cells := 1, slots := 6 }) (Nat.le_refl _) (Nat.le_refl _) hRcells hRslots
  obtain ⟨s', hA⟩ : ∃ z, z = (T.setVm s.vm).setFrames (.invoking m args :: below) := ⟨_, rfl⟩
  rw [← hA] at Y
  have hvm : s'.vm = s.vm := by rw [hA]; rfl
  have hhp : s'.heap = H := by rw [hA]; exact hT
  have hW0 : s.WarmedH s'.vm := by rw [hvm]; exact State.WarmedH.refl s
  have hat' : ∀ w ∈ vx_atS own ic cls names, w.before args s' = true := fun w hw => vx_ot_at hW0 hvm.symm (hgood w (List.mem_cons_of_mem _ (List.mem_cons_of_mem _ hw))) (hat w hw)
  have hk' : (Cond.classLink own ik cls).before args s' = true := vx_ot_at hW0 hvm.symm (hgood _ List.mem_cons_self) hk
  have hini' : (Cond.initialized cls).before args s' = true := vx_ot_at hW0 hvm.symm (hgood _ (List.mem_cons_of_mem _ List.mem_cons_self)) hini
  have hU' : vx_Zq Bundle.tN "UNASSIGNED_STACK" Bundle.steD A s' s'.heap := by rw [hhp]; exact vx_Zq.moved hW0.alike (hU.kept hS.2.1)
  have hN' : vx_Zq Bundle.tN "SUPPRESSED_SENTINEL" Bundle.listD A s' s'.heap := by rw [hhp]; exact vx_Zq.moved hW0.alike (hN.kept hS.2.1)
  have h : ∀ w ∈ Bundle.ownAtoms own ic cls names, w.before args s' = true := vx_own hat' (vx_isRefq hU'.1) (vx_isRefq hN'.1) hU'.2.word hN'.2.word
  have hown' : s'.vm.findClass own = some m.cls := by rw [hvm]; exact hown
  have hins : (Cond.instantiable cls 6).before args s' = true := h _ (by simp [Bundle.ownAtoms])
  obtain ⟨vm₁, cX, kX, hfX, hkX, -, -, X₁, st1⟩ := Y.newCold hexec (own := own) (C := cls) (index := ik) (n := 6) hown' hk' hins hini'
    (g := F0 m pc ls rest) rfl (by rw [hb]; exact d0) (Nat.le_refl _) (Nat.le_refl _)
  generalize hT1 : (T.setVm vm₁).pushCell { cls := cX, slots := kX.instanceTypes.map defaultValue, vm := .none } = T1 at X₁ st1
  have hcat : (Value.ref T.heap.size).category = 1 := rfl
  have hcellA : T1.heap[T.heap.size]? = some (freshCell cX kX) := by rw [← hT1]; exact State.heap_pushCell_size _ _
  have d3' : decode c.code (pc + 3) = .ok (.dup, 1) := by rw [hb]; exact d3
  have d4' : decode c.code (pc + 4) = .ok (.ldc_w is, 3) := by rw [hb]; exact d4
  have hstr' : vk_R own is text sa s' := vk_R.warm hW0 hstr
  obtain ⟨U, hsteps, hrun, hend, hW, hsame, ce, hce, hO⟩ := X₁.ctorThrowS hexec htr (own := own) (cls := cls) (names := names) (ic := ic) hown' hcls hnames h (fun x hx => nomatch hx) hfX hkX hcellA (by rw [hhp, hT]; exact Nat.le_refl _) (msg := .ref sa) rfl
    (g := { method := m, pc := pc + 7, locals := ls, stack := .ref sa :: .ref T.heap.size :: .ref T.heap.size :: rest, locked := none }) rfl hsize rfl rfl (rest := rest) rfl
    (by rw [hb]; exact d7) (by rw [hb]; exact d10) hout hRframes (by simp only [List.map_cons, List.sum_cons, hcat]; omega) hlocks
  obtain ⟨f1, f2⟩ := vx_frame hsame
  rw [hhp] at f1 f2
  have hWs : s.WarmedH U.vm := State.WarmedH.trans hW0 hW
  have hcl : s.vm.findClass cls = some ce.cls := by
    have h9 := hO.cls
    rw [hvm] at h9
    exact h9
  have hall : s.sameButNew ({ U with vm := s.vm } : State) locs mc ms := by
    subst hA
    obtain ⟨e1, e2⟩ := hsame
    rw [State.setFrames_setFrames] at e1
    have h2 : (T.setVm s.vm).sameButNew ({ U with vm := s.vm } : State) [] (0 + 1) (0 + 6) := ⟨e1, e2⟩
    have h3 := X.same.trans h2
    rw [List.append_nil] at h3
    exact h3.mono hc hs
  refine ⟨U, ?_, .threw T.heap.size, hrun, hend, Or.inr ⟨T.heap.size, rfl, cls, ce, locs, hx U hWs.alike f1 (fun q hq => f2 q hq (fun z hz => nomatch hz)), hce, hO.vm, hcl, hWs, hall, hf⟩⟩
  refine st1 _ ?_
  show Steps p.tables e below (T1.setTop { method := m, pc := pc + 3, locals := ls, stack := .ref T.heap.size :: rest, locked := none }) _
  jvm_step X₁.here [X₁.here.top, hexec, d3', Value.category]
  exact X₁.ldcStringW hexec (own := own) (text := text) (index := is) (a := sa) hown' hstr'.1 hstr'.2
    (g := { method := m, pc := pc + 4, locals := ls, stack := .ref T.heap.size :: .ref T.heap.size :: rest, locked := none }) rfl d4' _ hsteps
end Ends
section Bodies
variable {l : Launch}
theorem vx_ofW {y : MethodName} {ws ws' : List Cond} {rm : Room} {Pc : Array Value → State → Prop} {Qc : Array Value → State → Outcome → State → Prop} {XC : String → State → State → Prop} {mc ms : Nat} {free : Addr → Prop} {cc : ByteArray} {maxL : Nat} {ret : Option FieldType}
    (hy : plainName y.cls = true) (hw : ws = Cond.code y cc maxL ret :: ws')
    (body : ∀ p e s m args below meth c s₁, BodyLoose p l y (headSpec ws rm) cc maxL ret e s m args below meth c s₁ → c.maxLocals = maxL → (∀ x ∈ c.exceptionTable.toList, False) → Pc args s →
      W p l e (headSpec ws rm).room s m args below meth c s.heap [] 0 0 (vx_MQ below Qc XC args s mc ms free) (entryFrame m args maxL)) : vx_Met l y ws rm Pc Qc XC mc ms free := by
  refine MetFree.of_bodyS (code := cc) (maxLocals := maxL) (ret := ret) hy ?_ ?_
  · intro args s m h hn
    obtain ⟨meth, c, h1, h2, h3, h4, h5, h6, -, -⟩ := Cond.code_spec hn (atoms_spec (ws := ws) h _ (by rw [hw]; exact List.mem_cons_self))
    exact ⟨meth, c, h1, h2, h3, h4, h5, h6⟩
  · intro p e s m args below meth c s₁ B hml hP _
    have hh0 : s₁.heap = s.heap := by rw [B.state]; rfl
    have ht : ∀ x ∈ c.exceptionTable.toList, False := by
      obtain ⟨meth9, c9, h1, h2, -, -, -, -, h7, -⟩ := Cond.code_spec B.named (atoms_spec (ws := ws) B.pre _ (by rw [hw]; exact List.mem_cons_self))
      cases Option.some.inj (h1.symm.trans B.method)
      cases Option.some.inj (h2.symm.trans (Stand.of_body B).code)
      intro x hx
      rw [Array.isEmpty_iff.mp h7] at hx
      cases hx
    obtain ⟨t, a1, o, b1, b2, b3⟩ := body p e s m args below meth c s₁ B hml ht hP s₁ hh0 (Stand.of_body B)
    exact ⟨t, o, a1, b1, b2, b3⟩
/-- the table of a body with handlers -/
theorem vx_table {p : Program} {x y : MethodName} {S : Spec} {cc bytes : ByteArray} {maxL maxL' : Nat} {ret ret' : Option FieldType} {e : Env} {s s₁ : State} {m : MethodId} {args : Array Value} {below : List Frame} {meth : Method} {c : Code} {hh : List (Nat × Nat × Nat × Nat)}
    (B : BodyLoose p l y S cc maxL ret e s m args below meth c s₁) (h : (Cond.codeWith y bytes maxL' ret' hh).before args s = true) : c.exceptionTable.toList = tableOf hh := by
  obtain ⟨m9, meth9, c9, hn9, h1, h2, -, -, h6, -⟩ := Cond.codeWith_spec h
  cases Option.some.inj (hn9.symm.trans B.named)
  cases Option.some.inj (h1.symm.trans B.method)
  cases Option.some.inj (h2.symm.trans (Stand.of_body B).code)
  rw [← h6, table_eq]
end Bodies
end VXA
/-! ===== END ===== -/
/-! ===== BEGIN a static call of a method with an exception table ===== -/
section VXS
variable {p : Program} {l : Launch} {e : Env} {R : Room} {s : State} {m : MethodId} {args : Array Value} {below : List Frame} {meth : Method} {c : Code} {T : State} {H : Heap} {locs : List Loc} {cells slots : Nat}
abbrev vx_CSW (R : Room) (s : State) (args : Array Value) (own : String) (index : Nat) (y : MethodName) (bytes : ByteArray) (maxL : Nat) (ret : Option FieldType) (hh : List (Nat × Nat × Nat × Nat)) (ws : List Cond) (rm : Room) (mc ms n : Nat) : Prop :=
  (rm.cells = mc ∧ rm.slots = ms ∧ rm.frames + 1 ≤ R.frames ∧ 8 + (maxL + 11) + rm.locals ≤ R.locals ∧ (∀ w ∈ ws, ∀ (a' : Array Value) (U : State), s.WarmedH U.vm → w.before a' U = true) ∧ Cond.codeWith y bytes maxL ret hh ∈ ws) ∧
  (Cond.codeWith y bytes maxL ret hh).before args s = true ∧ (Cond.initialized y.cls).before args s = true ∧ (y.cls ≠ "java/lang/invoke/MethodHandle" ∧ y.cls ≠ "java/lang/invoke/VarHandle") ∧
  (∀ sig, parseMethodDescriptor y.desc = some sig → n = sig.parameters.length) ∧ (Cond.methodLink own index y).before args s = true ∧ (Cond.static y).before args s = true
theorem vx_cwSW {own : String} {index maxL mc ms : Nat} {y : MethodName} {bytes : ByteArray} {ret : Option FieldType} {hh : List (Nat × Nat × Nat × Nat)} {Ts ws ws' : List Cond} {rm : Room} (n : Nat) (ht : ∀ w ∈ Ts, w.before args s = true) (hT : GoodIn Ts (va_wsS own index y ws)) (hw : ws = Cond.codeWith y bytes maxL ret hh :: ws') (hrc : rm.cells = mc) (hrs : rm.slots = ms)
    (hd : y.cls ≠ "java/lang/invoke/MethodHandle" ∧ y.cls ≠ "java/lang/invoke/VarHandle" ∧ (parseMethodDescriptor y.desc).map (fun d => d.parameters.length) = some n) (hR : rm.frames + 1 ≤ R.frames ∧ 8 + (maxL + 11) + rm.locals ≤ R.locals) :
    vx_CSW R s args own index y bytes maxL ret hh ws rm mc ms n := by
  have ok : ∀ w ∈ va_wsS own index y ws, w.before args s = true := fun w h => ht w (hT w h).1
  have hG : GoodIn Ts ws := fun w h => hT w (by unfold va_wsS; exact List.mem_append_right _ h)
  have hc : Cond.codeWith y bytes maxL ret hh ∈ ws := by rw [hw]; exact List.mem_cons_self
  refine ⟨⟨hrc, hrs, hR.1, hR.2, pay_in ht hG, hc⟩, ht _ (hG _ hc).1, ok _ (by simp [va_wsS]), ⟨hd.1, hd.2.1⟩, fun sig h => ?_, ok _ (by simp [va_wsS]), ok _ (by simp [va_wsS])⟩
  have h2 := hd.2.2
  rw [h] at h2
  exact (Option.some.inj h2).symm
theorem vx_callSW (X : Stand p l e R s m args below meth c T locs cells slots) (hexec : p.tables.exec = Jvm.exec) {own : String} {index : Nat} {y : MethodName} {bytes : ByteArray} {maxL : Nat} {ret : Option FieldType} {hh : List (Nat × Nat × Nat × Nat)}
    (hown : s.vm.findClass own = some m.cls) (hlink : (Cond.methodLink own index y).before args s = true) (hstat : (Cond.static y).before args s = true) (hinit : (Cond.initialized y.cls).before args s = true)
    (hcode : (Cond.codeWith y bytes maxL ret hh).before args s = true) (hy : y.cls ≠ "java/lang/invoke/MethodHandle" ∧ y.cls ≠ "java/lang/invoke/VarHandle")
    {W9 : Nat} {Pre : Pt → Array Value → Prop} {Post : Pt → Array Value → Option Value → Pt → Prop} (hK : Back l R p e below s args y 3 W9 Pre Post)
    {g : JFrame} (hg : g.method = m) (hsize : g.locals.size = c.maxLocals) {argsL rest : List Value} (hlen : ∀ sig, parseMethodDescriptor y.desc = some sig → argsL.length = sig.parameters.length)
    (hstack : g.stack = argsL.reverse ++ rest) (hW : 2 * g.monitorRoom + (rest.map fun v => v.category).sum ≤ W9) (hdg : decode c.code g.pc = .ok (.invokestatic index, 3))
    (hpre : ∀ vm₁, s.WarmedH vm₁ → Pre ⟨T.setVm vm₁, locs, cells, slots⟩ argsL.toArray) :
    ∃ (v : Option Value) (vm₁ : Vm) (B : Pt), s.WarmedH vm₁ ∧ Stand p l e R s m args below meth c B.U B.locs B.cells B.slots ∧ Post ⟨T.setVm vm₁, locs, cells, slots⟩ argsL.toArray v B ∧
      ∀ target, Steps p.tables e below (B.U.setTop { g with pc := g.pc + 3, stack := v.toList ++ rest }) target → Steps p.tables e below (T.setTop g) target := by
  obtain ⟨mk, methM, cM, hnamed, hmethM, -, -, -, -, -, -, hsigM⟩ := Cond.codeWith_spec hcode
  have hstatic : methM.isStatic = true := Cond.static_spec hnamed hmethM hstat
  obtain ⟨kP, hkP, -⟩ := className_of_methodNamed hnamed
  have hinitP : kP.init = .initialized := Cond.initialized_spec (findClass_of_methodNamed hnamed) hkP hinit
  obtain ⟨vm₁, X₁, hstep₁⟩ := X.invokestatic hexec hown hlink hnamed hmethM hstatic hkP hinitP hy (g := g) hg (argsL := argsL) (rest := rest) (hlen _ hsigM) hstack hdg
  obtain ⟨v, B, X', hpost, hsteps⟩ := hK m meth c ⟨T.setVm vm₁, locs, cells, slots⟩ { g with stack := rest } (.invokestatic index) mk argsL.toArray X₁ hg hsize hdg hW (X₁.named hnamed) (hpre vm₁ X₁.warmed)
  exact ⟨v, vm₁, B, X₁.warmed, X', hpost, fun target h => hstep₁ _ fun acts => by rw [doInvoke_state]; exact hsteps.trans h⟩
theorem vx_runSW {y : MethodName} {bytes cc : ByteArray} {maxL nL mc ms n index : Nat} {ret : Option FieldType} {hh : List (Nat × Nat × Nat × Nat)} {ws : List Cond} {rm : Room} {Pc : Array Value → State → Prop} {Qc : Array Value → State → Outcome → State → Prop} {free : Addr → Prop} {Ts : List Cond} {own : String} {As rest : List Value} {g : JFrame}
    (S : CallFix p m c cc nL s args Ts own) (hM : Met l y ws rm Pc Qc mc ms free) (cw : vx_CSW R s args own index y bytes maxL ret hh ws rm mc ms n) (hp : PreS s H Pc As)
    (hg : g.method = m) (hn : As.length = n) (hsize : g.locals.size = nL) (hstack : g.stack = As.reverse ++ rest) (hW : 2 * g.monitorRoom + (rest.map fun v => v.category).sum ≤ 8) (hdg : decode cc g.pc = .ok (.invokestatic index, 3)) (hf : cells + mc ≤ R.cells ∧ slots + ms ≤ R.slots) :
    va_Run p l e R s m args below meth c H locs cells slots mc ms g rest (Qc As.toArray) (free) := by
  obtain ⟨⟨hrc, hrs, hfr, hlo, hws, hcw⟩, hcode, hini, hy, hlen, hl, hstt⟩ := cw
  have hK : Back l R p e below s args y 3 8 (PreOf R mc ms Pc) (PostOf Qc mc ms free) := va_backW (hh := hh) (bytes := bytes) (maxL := maxL) (ret := ret) hM hp.1 hrc hrs hfr hlo hws hcw (fun a' U hW => word_at hW (Or.inl (by first | rfl | simp [Cond.onTables, Cond.keeps, Cond.steady])) hini)
  obtain ⟨hx, hb, hml, ho, -⟩ := S
  intro T hT X
  obtain ⟨v, vm₁, ⟨U', l2, c2, s2⟩, hW₁, X', ⟨g', mk, t, L, e1, e2, hq, h1, hL, h2, h3⟩, st⟩ := vx_callSW X hx (hh := hh) (bytes := bytes) (maxL := maxL) (ret := ret) ho hl hstt hini hcode hy hK hg (hsize.trans hml.symm) (argsL := As) (rest := rest) (fun sig h => hn.trans (hlen sig h)) hstack hW (by rw [hb]; exact hdg)
    (fun vm₁ hW₁ => ⟨hf.1, hf.2, hp.2 (T.setVm vm₁) hT hW₁⟩)
  dsimp only [Pt.U, Pt.locs, Pt.cells, Pt.slots] at X' e1 e2 h1 h2 h3 st
  subst h1; subst h2; subst h3
  exact ⟨v, (T.setVm vm₁).calling g' mk As.toArray, t, U', L, hT, X', hL, e1, e2, hq, st⟩
/-- not caught here, past rows that name other classes: it goes on to the caller -/
theorem vx_outP {p : Program} {l : Launch} {e : Env} {R : Room} {s : State} {m : MethodId} {args : Array Value} {below : List Frame} {meth : Method} {c : Code} {H : Heap} {locs : List Loc} {cells slots : Nat} {free : Addr → Prop} {ls : Array Slot} {rest : List Value} {Qc : Array Value → State → Outcome → State → Prop} {XC : String → State → State → Prop}
    {pc : Nat} {own E : String} {ce : Cell} {q : Addr} {mc ms : Nat} (hown : s.vm.findClass own = some m.cls) (hlocks : meth.locks = false)
    (hpass : ∀ z ∈ c.exceptionTable.toList, covers z pc = false ∨ (z.catchType ≠ 0 ∧ ∃ nm : String, (Cond.classLink own z.catchType nm).before args s = true ∧ va_Nc E nm s)) (hcell : H[q]? = some ce) (hv : ce.vm = .none) (hcl : s.vm.findClass E = some ce.cls)
    (hx : ∀ t : State, t.heap = H → s.vm.Alike t.vm → XC E s t) (hf : ∀ z ∈ locs, free z.base) (hc : cells ≤ mc) (hs : slots ≤ ms) :
    vx_W p l e R s m args below meth c H locs cells slots (vx_MQ below Qc XC args s mc ms free) (F0 m pc ls rest) q := by
  intro T hT X
  have hpl : e.platform.magicAccessors = ({} : Platform).magicAccessors := by rw [X.admits.platform]
  obtain ⟨vm', hW', X', st⟩ := X.outThrough hlocks q (g := F0 m pc ls rest) rfl rfl rfl (cell := ce) (by rw [hT]; exact hcell) (by rw [hv]; rfl)
    (by obtain ⟨k9, h9, -⟩ := Vm.findClass_spec hcl; exact ⟨k9, h9⟩) (fun z hz => by
      rcases hpass z hz with h | ⟨hz0, nm, hl1, hn1⟩
      · exact Or.inl h
      · obtain ⟨c6, hc6, hcl6⟩ := Cond.classLink_spec hown hl1 e.platform hpl
        obtain ⟨a8, b8, h1, h2, h3⟩ := hn1
        cases Option.some.inj (h1.symm.trans hcl)
        cases Option.some.inj (h2.symm.trans hc6)
        exact Or.inr ⟨hz0, _, hcl6, h3⟩)
  obtain ⟨g₀, hfr⟩ := X'.frames_eq
  have hcell9 : ((T.setVm vm').setFrames (.throwing q :: below)).heap[q]? = some ce := by
    show T.heap[q]? = some ce
    rw [hT]; exact hcell
  have hend : Ended ((T.setVm vm').setFrames (.throwing q :: below)) below (.threw q) := State.frames_setFrames _ (State.cur_lt_of_frames hfr)
  refine ⟨(T.setVm vm').setFrames (.throwing q :: below), ?_, .threw q, X'.here.running, hend, Or.inr ⟨q, rfl, E, ce, locs, hx _ hT (X'.ends _).1.alike, hcell9, hv, hcl, (X'.ends _).1, (X'.ends _).2.mono hc hs, hf⟩⟩
  rw [X.pushThrowing_eq]
  exact st
/-- a thing of a world lies in the heap -/
theorem vx_lt {D : va_G} {cl : List vw_C} {ws : va_W} {H1 : Heap} (h : va_P D cl ws H1) {k : Nat} {q : Nat × va_E} (hk : ws[k]? = some q) : q.1 < H1.size := (h k q hk).lt
end VXS
/-! ===== END ===== -/
/-! ===== BEGIN methods with a table of their own: called by a name, returning or throwing ===== -/
section VXH
/-! vx_backW, vx_callVX, vx_callSX, vx_callVW, vx_runVW, vx_runVX, vx_runSX, vx_ofWH follow the same proofs as their sisters above (Free/Laws.lean, Shelf42/LK1.lean); vx_outP calls Shelf42/NT130.lean (outThrough). -/
section
variable {l : Launch} {R : Room} {p : Program} {e : Env} {below : List Frame} {s : State} {sargs : Array Value} {y : MethodName} {len W9 : Nat}
theorem vx_backW {ws : List Cond} {rm : Room} {Pc : Array Value → State → Prop} {Qc : Array Value → State → Outcome → State → Prop} {XC : String → State → State → Prop} {mc ms : Nat} {free : Addr → Prop} {bytes : ByteArray} {maxL : Nat} {ret : Option FieldType} {hh : List (Nat × Nat × Nat × Nat)}
    (hM : vx_Met l y ws rm Pc Qc XC mc ms free) (hblind : FrameBlind Pc) (hrc : rm.cells = mc) (hrs : rm.slots = ms)
    (hframes : rm.frames + 1 ≤ R.frames) (hlocals : W9 + (maxL + 11) + rm.locals ≤ R.locals)
    (hws : ∀ w ∈ ws, ∀ a' U, s.WarmedH U.vm → w.before a' U = true) (hcode : Cond.codeWith y bytes maxL ret hh ∈ ws) (hinit : ∀ a' U, s.WarmedH U.vm → (Cond.initialized y.cls).before a' U = true) :
    vx_Back l R p e below s sargs y len W9 (PreOf R mc ms Pc) (PostOf Qc mc ms free) (vx_Post XC mc ms free) := by
  intro m meth c A g ig mk a X hg hsize hdg hW hn hp
  have h1 : (headSpec ws rm).pre.before a A.U = true := atoms_intro fun w hw => hws w hw _ _ X.warmed
  have h2 : (Cond.codeWith y bytes maxL ret hh).before a A.U = true := hws _ hcode _ _ X.warmed
  have h3 : (Cond.initialized y.cls).before a A.U = true := hinit _ _ X.warmed
  have h4 : A.cells + (headSpec ws rm).room.cells ≤ R.cells := by rw [show (headSpec ws rm).room.cells = mc from hrc]; exact hp.1
  have h5 : A.slots + (headSpec ws rm).room.slots ≤ R.slots := by rw [show (headSpec ws rm).room.slots = ms from hrs]; exact hp.2.1
  have hPc : Pc a (A.U.calling g mk a) := hblind _ _ _ _ hp.2.2
  obtain ⟨U, Ls, c0, s0⟩ := A
  dsimp only [Pt.U, Pt.locs, Pt.cells, Pt.slots] at h1 h2 h3 h4 h5 X hn hPc ⊢
  obtain ⟨m9, methY, cY, hn9, hmY, hcY, -, hlY, -⟩ := Cond.codeWith_spec h2
  cases Option.some.inj (hn9.symm.trans hn)
  obtain ⟨kY, hkY, -⟩ := className_of_methodNamed hn
  have hinitY : kY.init = .initialized := Cond.initialized_spec (findClass_of_methodNamed hn) hkY h3
  have h : At U g.method c below := by rw [hg]; exact X.here
  have hlocals9 : W9 + (maxL + 11) + (headSpec ws rm).room.locals ≤ R.locals := hlocals
  have happ : (headSpec ws rm).appliesLoose y e.platform (U.calling g mk a) = true :=
    Spec.appliesLoose_calling (g := g) h hdg hn hkY hinitY
      (X.room_calling (g := g) (R' := (headSpec ws rm).room) hsize hmY hcY hframes (by rw [hlY]; omega) h4 h5) h1
  obtain ⟨mid, hmid⟩ := h.above
  have hfr : (U.setTop g).frames = (.java g :: mid) ++ below := by rw [State.frames_setTop' g h.top, hmid]; rfl
  obtain ⟨o, s₂, hsteps, -, hend, hq⟩ := Steps.callFree hM p X.admits X.cas X.clock (acts := []) hfr happ hPc trivial
  have hq' : vx_Q Qc XC mc ms free a (U.calling g mk a) o s₂ := hq
  rw [State.frames_setTop' g h.top] at hend
  obtain ⟨g₀, hg0⟩ := Option.isSome_iff_exists.mp h.top
  obtain ⟨r, hr⟩ := State.topJava?_eq_some.mp hg0
  have hr' : (({ U with heap := s₂.heap, slotsUsed := s₂.slotsUsed } : State).setVm s₂.vm).frames = .java g₀ :: r := hr
  rcases hq' with ⟨hqc, L, hfe, hL⟩ | ⟨q, rfl, E, ce, L, hx, hce, hcv, hcl, hW₂, hsm, hL⟩
  · obtain ⟨⟨v, rfl⟩, hW₂, e2, q2, q3, q4, q5, q6⟩ := id hfe
    have e3 : s₂ = ({ (U.calling g mk a).setFrames s₂.frames with heap := s₂.heap, slotsUsed := s₂.slotsUsed } : State).setVm s₂.vm := by
      have : s₂ = ({ s₂ with vm := (U.calling g mk a).vm } : State).setVm s₂.vm := rfl
      rw [e2] at this
      exact this
    obtain ⟨c₂, i₂, len₂, hc₂, hd₂, hf₂⟩ := hend
    have hW' : U.WarmedH s₂.vm := hW₂
    have hcc : c₂ = c := by
      have h1 : s₂.code? g.method = U.code? g.method := by
        rw [State.code?_eq, State.code?_eq, hW'.alike.method?]
      exact Option.some.inj (hc₂.symm.trans (h1.trans h.code))
    subst hcc
    have hlen : len₂ = len := by rw [hdg] at hd₂; cases hd₂; rfl
    subst hlen
    have hs₂ : s₂ = (({ U with heap := s₂.heap, slotsUsed := s₂.slotsUsed } : State).setVm s₂.vm).setTop { g with pc := g.pc + len₂, stack := v.toList ++ g.stack } := by
      refine e3.trans ?_
      rw [hf₂, State.calling_eq h.top, State.setFrames_setFrames, State.setTop_of_frames _ hr', hr]
      rfl
    have hsame : U.sameButNew ({ U with heap := s₂.heap, slotsUsed := s₂.slotsUsed } : State) L mc ms := by
      refine ⟨?_, q2, q3, q4, q5, q6⟩
      obtain ⟨t, ht, -⟩ := State.frames_cons hr
      show ({ U with heap := s₂.heap, slotsUsed := s₂.slotsUsed } : State) = { U.setFrames U.frames with heap := s₂.heap, slotsUsed := s₂.slotsUsed }
      rw [State.setFrames_self ht]
    subst hg
    refine Or.inl ⟨v, ⟨(({ U with heap := s₂.heap, slotsUsed := s₂.slotsUsed } : State).setVm s₂.vm), Ls ++ L, c0 + mc, s0 + ms⟩,
      ⟨X.admits, X.cas, X.clock, X.frames, X.room, X.hears, X.method, X.code, (X.here.setHeapUsed s₂.heap s₂.slotsUsed).setVm hW'.alike, X.tail, State.WarmedH.trans X.warmed hW', X.limits, X.bytes, X.same.trans (hsame.setVm s.vm)⟩,
      ⟨g, mk, s₂, L, rfl, rfl, hqc, rfl, hL, rfl, rfl⟩, ?_⟩
    show Steps p.tables e below _ ((({ U with heap := s₂.heap, slotsUsed := s₂.slotsUsed } : State).setVm s₂.vm).setTop { g with pc := g.pc + len₂, stack := v.toList ++ g.stack })
    rw [← hs₂]
    exact hsteps
  · obtain ⟨e2, q2, q3, q4, q5, q6⟩ := id hsm
    have e3 : s₂ = ({ (U.calling g mk a).setFrames s₂.frames with heap := s₂.heap, slotsUsed := s₂.slotsUsed } : State).setVm s₂.vm := by
      have : s₂ = ({ s₂ with vm := (U.calling g mk a).vm } : State).setVm s₂.vm := rfl
      rw [e2] at this
      exact this
    have hf₂ : s₂.frames = .throwing q :: .java g :: U.frames.tail := hend
    have hW' : U.WarmedH s₂.vm := hW₂
    have hs₂ : s₂ = ((({ U with heap := s₂.heap, slotsUsed := s₂.slotsUsed } : State).setVm s₂.vm).setTop g).pushFrame (.throwing q) := by
      refine e3.trans ?_
      rw [hf₂, State.calling_eq h.top, State.setFrames_setFrames, State.pushFrame, State.frames_setTop _ hr', State.setTop_of_frames _ hr', State.setFrames_setFrames, hr]
      rfl
    have hsame : U.sameButNew ({ U with heap := s₂.heap, slotsUsed := s₂.slotsUsed } : State) L mc ms := by
      refine ⟨?_, q2, q3, q4, q5, q6⟩
      obtain ⟨t, ht, -⟩ := State.frames_cons hr
      show ({ U with heap := s₂.heap, slotsUsed := s₂.slotsUsed } : State) = { U.setFrames U.frames with heap := s₂.heap, slotsUsed := s₂.slotsUsed }
      rw [State.setFrames_self ht]
    subst hg
    refine Or.inr ⟨q, ⟨(({ U with heap := s₂.heap, slotsUsed := s₂.slotsUsed } : State).setVm s₂.vm), Ls ++ L, c0 + mc, s0 + ms⟩,
      ⟨X.admits, X.cas, X.clock, X.frames, X.room, X.hears, X.method, X.code, (X.here.setHeapUsed s₂.heap s₂.slotsUsed).setVm hW'.alike, X.tail, State.WarmedH.trans X.warmed hW', X.limits, X.bytes, X.same.trans (hsame.setVm s.vm)⟩,
      ⟨g, mk, s₂, L, E, ce, rfl, rfl, hx, hce, hcv, hcl, rfl, hL, rfl, rfl⟩, ?_⟩
    show Steps p.tables e below _ (((({ U with heap := s₂.heap, slotsUsed := s₂.slotsUsed } : State).setVm s₂.vm).setTop g).pushFrame (.throwing q))
    rw [← hs₂]
    exact hsteps
end
variable {p : Program} {l : Launch} {e : Env} {R : Room} {s : State} {m : MethodId} {args : Array Value} {below : List Frame} {meth : Method} {c : Code} {T : State} {H : Heap} {locs : List Loc} {cells slots : Nat}
theorem vx_callVX (X : Stand p l e R s m args below meth c T locs cells slots) (hexec : p.tables.exec = Jvm.exec) {own C : String} {index : Nat} {y : MethodName} {bytes : ByteArray} {maxL : Nat} {ret : Option FieldType} {hh : List (Nat × Nat × Nat × Nat)}
    (hown : s.vm.findClass own = some m.cls) (hlink : (Cond.methodLink own index y).before args s = true) (hinst : (Cond.instanceMethod y).before args s = true) (hsel : (Cond.selects C y y).before args s = true)
    (hcode : (Cond.codeWith y bytes maxL ret hh).before args s = true) (hy : y.cls ≠ "java/lang/invoke/MethodHandle" ∧ y.cls ≠ "java/lang/invoke/VarHandle")
    {W9 : Nat} {Pre : Pt → Array Value → Prop} {Post : Pt → Array Value → Option Value → Pt → Prop} {PostX : Pt → Array Value → Addr → Pt → Prop} (hK : vx_Back l R p e below s args y 3 W9 Pre Post PostX)
    {b : Addr} {cellB : Cell} (hcell : T.heap[b]? = some cellB) (hobj : cellB.vm.isStatics = false) (hcls : s.vm.findClass C = some cellB.cls)
    {g : JFrame} (hg : g.method = m) (hsize : g.locals.size = c.maxLocals) {argsL rest : List Value} (hlen : ∀ sig, parseMethodDescriptor y.desc = some sig → argsL.length = sig.parameters.length)
    (hstack : g.stack = argsL.reverse ++ .ref b :: rest) (hW : 2 * g.monitorRoom + (rest.map fun v => v.category).sum ≤ W9) (hdg : decode c.code g.pc = .ok (.invokevirtual index, 3))
    (hpre : ∀ vm₁, s.WarmedH vm₁ → Pre ⟨T.setVm vm₁, locs, cells, slots⟩ (Value.ref b :: argsL).toArray) :
    (∃ (v : Option Value) (vm₁ : Vm) (B : Pt), s.WarmedH vm₁ ∧ Stand p l e R s m args below meth c B.U B.locs B.cells B.slots ∧ Post ⟨T.setVm vm₁, locs, cells, slots⟩ (Value.ref b :: argsL).toArray v B ∧
      ∀ target, Steps p.tables e below (B.U.setTop { g with pc := g.pc + 3, stack := v.toList ++ rest }) target → Steps p.tables e below (T.setTop g) target) ∨
    (∃ (q : Addr) (vm₁ : Vm) (B : Pt), s.WarmedH vm₁ ∧ Stand p l e R s m args below meth c B.U B.locs B.cells B.slots ∧ PostX ⟨T.setVm vm₁, locs, cells, slots⟩ (Value.ref b :: argsL).toArray q B ∧
      Steps p.tables e below (T.setTop g) ((B.U.setTop { g with stack := rest }).pushFrame (.throwing q))) := by
  obtain ⟨mk, methM, hnamed, hmethM, hstM, habM⟩ := Cond.instanceMethod_spec hinst
  obtain ⟨m8, methM', cM, hn8, hmethM', -, -, -, -, -, -, hsigM⟩ := Cond.codeWith_spec hcode
  cases Option.some.inj (hn8.symm.trans hnamed)
  cases hmethM.symm.trans hmethM'
  obtain ⟨c2, r2, m2, q1, q2, q3, q4, kP, hkP, hkPi⟩ := Cond.selects_spec hsel
  cases hcls.symm.trans q1
  cases (State.methodFound?_of_named hnamed hy).symm.trans q2
  cases hnamed.symm.trans q3
  have hselP : selectMethod e.platform s.vm cellB.cls mk = .method mk := by rw [Launch.admits_selectMethod X.admits]; exact q4
  obtain ⟨vm₁, X₁, hstep₁⟩ := X.invokevirtual hexec hown hlink hnamed hmethM hstM hkP hkPi hy (a := b) (cell := cellB) hcell
    (fun z h => by rw [h] at hobj; cases hobj) hselP hmethM habM hkP hkPi (g := g) hg (argsL := argsL) (rest := rest) (hlen _ hsigM) hstack hdg
  rcases hK m meth c ⟨T.setVm vm₁, locs, cells, slots⟩ { g with stack := rest } (.invokevirtual index) mk (Value.ref b :: argsL).toArray X₁ hg hsize hdg hW (X₁.named hnamed) (hpre vm₁ X₁.warmed) with ⟨v, B, X', hpost, hsteps⟩ | ⟨q, B, X', hpost, hsteps⟩
  · exact Or.inl ⟨v, vm₁, B, X₁.warmed, X', hpost, fun target h => hstep₁ _ fun acts => by rw [doInvoke_state]; exact hsteps.trans h⟩
  · exact Or.inr ⟨q, vm₁, B, X₁.warmed, X', hpost, hstep₁ _ fun acts => by rw [doInvoke_state]; exact hsteps⟩
theorem vx_callSX (X : Stand p l e R s m args below meth c T locs cells slots) (hexec : p.tables.exec = Jvm.exec) {own : String} {index : Nat} {y : MethodName} {bytes : ByteArray} {maxL : Nat} {ret : Option FieldType} {hh : List (Nat × Nat × Nat × Nat)}
    (hown : s.vm.findClass own = some m.cls) (hlink : (Cond.methodLink own index y).before args s = true) (hstat : (Cond.static y).before args s = true) (hinit : (Cond.initialized y.cls).before args s = true)
    (hcode : (Cond.codeWith y bytes maxL ret hh).before args s = true) (hy : y.cls ≠ "java/lang/invoke/MethodHandle" ∧ y.cls ≠ "java/lang/invoke/VarHandle")
    {W9 : Nat} {Pre : Pt → Array Value → Prop} {Post : Pt → Array Value → Option Value → Pt → Prop} {PostX : Pt → Array Value → Addr → Pt → Prop} (hK : vx_Back l R p e below s args y 3 W9 Pre Post PostX)
    {g : JFrame} (hg : g.method = m) (hsize : g.locals.size = c.maxLocals) {argsL rest : List Value} (hlen : ∀ sig, parseMethodDescriptor y.desc = some sig → argsL.length = sig.parameters.length)
    (hstack : g.stack = argsL.reverse ++ rest) (hW : 2 * g.monitorRoom + (rest.map fun v => v.category).sum ≤ W9) (hdg : decode c.code g.pc = .ok (.invokestatic index, 3))
    (hpre : ∀ vm₁, s.WarmedH vm₁ → Pre ⟨T.setVm vm₁, locs, cells, slots⟩ argsL.toArray) :
    (∃ (v : Option Value) (vm₁ : Vm) (B : Pt), s.WarmedH vm₁ ∧ Stand p l e R s m args below meth c B.U B.locs B.cells B.slots ∧ Post ⟨T.setVm vm₁, locs, cells, slots⟩ argsL.toArray v B ∧
      ∀ target, Steps p.tables e below (B.U.setTop { g with pc := g.pc + 3, stack := v.toList ++ rest }) target → Steps p.tables e below (T.setTop g) target) ∨
    (∃ (q : Addr) (vm₁ : Vm) (B : Pt), s.WarmedH vm₁ ∧ Stand p l e R s m args below meth c B.U B.locs B.cells B.slots ∧ PostX ⟨T.setVm vm₁, locs, cells, slots⟩ argsL.toArray q B ∧
      Steps p.tables e below (T.setTop g) ((B.U.setTop { g with stack := rest }).pushFrame (.throwing q))) := by
  obtain ⟨mk, methM, cM, hnamed, hmethM, -, -, -, -, -, -, hsigM⟩ := Cond.codeWith_spec hcode
  have hstatic : methM.isStatic = true := Cond.static_spec hnamed hmethM hstat
  obtain ⟨kP, hkP, -⟩ := className_of_methodNamed hnamed
  have hinitP : kP.init = .initialized := Cond.initialized_spec (findClass_of_methodNamed hnamed) hkP hinit
  obtain ⟨vm₁, X₁, hstep₁⟩ := X.invokestatic hexec hown hlink hnamed hmethM hstatic hkP hinitP hy (g := g) hg (argsL := argsL) (rest := rest) (hlen _ hsigM) hstack hdg
  rcases hK m meth c ⟨T.setVm vm₁, locs, cells, slots⟩ { g with stack := rest } (.invokestatic index) mk argsL.toArray X₁ hg hsize hdg hW (X₁.named hnamed) (hpre vm₁ X₁.warmed) with ⟨v, B, X', hpost, hsteps⟩ | ⟨q, B, X', hpost, hsteps⟩
  · exact Or.inl ⟨v, vm₁, B, X₁.warmed, X', hpost, fun target h => hstep₁ _ fun acts => by rw [doInvoke_state]; exact hsteps.trans h⟩
  · exact Or.inr ⟨q, vm₁, B, X₁.warmed, X', hpost, hstep₁ _ fun acts => by rw [doInvoke_state]; exact hsteps⟩
theorem vx_callVW (X : Stand p l e R s m args below meth c T locs cells slots) (hexec : p.tables.exec = Jvm.exec) {own C : String} {index : Nat} {y : MethodName} {bytes : ByteArray} {maxL : Nat} {ret : Option FieldType} {hh : List (Nat × Nat × Nat × Nat)}
    (hown : s.vm.findClass own = some m.cls) (hlink : (Cond.methodLink own index y).before args s = true) (hinst : (Cond.instanceMethod y).before args s = true) (hsel : (Cond.selects C y y).before args s = true)
    (hcode : (Cond.codeWith y bytes maxL ret hh).before args s = true) (hy : y.cls ≠ "java/lang/invoke/MethodHandle" ∧ y.cls ≠ "java/lang/invoke/VarHandle")
    {W9 : Nat} {Pre : Pt → Array Value → Prop} {Post : Pt → Array Value → Option Value → Pt → Prop} (hK : Back l R p e below s args y 3 W9 Pre Post)
    {b : Addr} {cellB : Cell} (hcell : T.heap[b]? = some cellB) (hobj : cellB.vm.isStatics = false) (hcls : s.vm.findClass C = some cellB.cls)
    {g : JFrame} (hg : g.method = m) (hsize : g.locals.size = c.maxLocals) {argsL rest : List Value} (hlen : ∀ sig, parseMethodDescriptor y.desc = some sig → argsL.length = sig.parameters.length)
    (hstack : g.stack = argsL.reverse ++ .ref b :: rest) (hW : 2 * g.monitorRoom + (rest.map fun v => v.category).sum ≤ W9) (hdg : decode c.code g.pc = .ok (.invokevirtual index, 3))
    (hpre : ∀ vm₁, s.WarmedH vm₁ → Pre ⟨T.setVm vm₁, locs, cells, slots⟩ (Value.ref b :: argsL).toArray) :
    ∃ (v : Option Value) (vm₁ : Vm) (B : Pt), s.WarmedH vm₁ ∧ Stand p l e R s m args below meth c B.U B.locs B.cells B.slots ∧ Post ⟨T.setVm vm₁, locs, cells, slots⟩ (Value.ref b :: argsL).toArray v B ∧
      ∀ target, Steps p.tables e below (B.U.setTop { g with pc := g.pc + 3, stack := v.toList ++ rest }) target → Steps p.tables e below (T.setTop g) target := by
  obtain ⟨mk, methM, hnamed, hmethM, hstM, habM⟩ := Cond.instanceMethod_spec hinst
  obtain ⟨m8, methM', cM, hn8, hmethM', -, -, -, -, -, -, hsigM⟩ := Cond.codeWith_spec hcode
  cases Option.some.inj (hn8.symm.trans hnamed)
  cases hmethM.symm.trans hmethM'
  obtain ⟨c2, r2, m2, q1, q2, q3, q4, kP, hkP, hkPi⟩ := Cond.selects_spec hsel
  cases hcls.symm.trans q1
  cases (State.methodFound?_of_named hnamed hy).symm.trans q2
  cases hnamed.symm.trans q3
  have hselP : selectMethod e.platform s.vm cellB.cls mk = .method mk := by rw [Launch.admits_selectMethod X.admits]; exact q4
  obtain ⟨vm₁, X₁, hstep₁⟩ := X.invokevirtual hexec hown hlink hnamed hmethM hstM hkP hkPi hy (a := b) (cell := cellB) hcell
    (fun z h => by rw [h] at hobj; cases hobj) hselP hmethM habM hkP hkPi (g := g) hg (argsL := argsL) (rest := rest) (hlen _ hsigM) hstack hdg
  obtain ⟨v, B, X', hpost, hsteps⟩ := hK m meth c ⟨T.setVm vm₁, locs, cells, slots⟩ { g with stack := rest } (.invokevirtual index) mk (Value.ref b :: argsL).toArray X₁ hg hsize hdg hW (X₁.named hnamed) (hpre vm₁ X₁.warmed)
  exact ⟨v, vm₁, B, X₁.warmed, X', hpost, fun target h => hstep₁ _ fun acts => by rw [doInvoke_state]; exact hsteps.trans h⟩
abbrev vx_CVW (R : Room) (s : State) (args : Array Value) (own C : String) (index : Nat) (y : MethodName) (bytes : ByteArray) (maxL : Nat) (ret : Option FieldType) (hh : List (Nat × Nat × Nat × Nat)) (ws : List Cond) (rm : Room) (mc ms n : Nat) : Prop :=
  (rm.cells = mc ∧ rm.slots = ms ∧ rm.frames + 1 ≤ R.frames ∧ 8 + (maxL + 11) + rm.locals ≤ R.locals ∧ (∀ w ∈ ws, ∀ (a' : Array Value) (U : State), s.WarmedH U.vm → w.before a' U = true) ∧ Cond.codeWith y bytes maxL ret hh ∈ ws) ∧
  (Cond.codeWith y bytes maxL ret hh).before args s = true ∧ (Cond.initialized y.cls).before args s = true ∧ (y.cls ≠ "java/lang/invoke/MethodHandle" ∧ y.cls ≠ "java/lang/invoke/VarHandle") ∧
  (∀ sig, parseMethodDescriptor y.desc = some sig → n = sig.parameters.length) ∧ (Cond.methodLink own index y).before args s = true ∧ (Cond.instanceMethod y).before args s = true ∧ (Cond.selects C y y).before args s = true
theorem vx_cwVW {own C : String} {index maxL mc ms : Nat} {y : MethodName} {bytes : ByteArray} {ret : Option FieldType} {hh : List (Nat × Nat × Nat × Nat)} {Ts ws ws' : List Cond} {rm : Room} (n : Nat) (ht : ∀ w ∈ Ts, w.before args s = true) (hT : GoodIn Ts (wsV own index C y ws)) (hw : ws = Cond.codeWith y bytes maxL ret hh :: ws') (hrc : rm.cells = mc) (hrs : rm.slots = ms)
    (hd : y.cls = C ∧ y.cls ≠ "java/lang/invoke/MethodHandle" ∧ y.cls ≠ "java/lang/invoke/VarHandle" ∧ (parseMethodDescriptor y.desc).map (fun d => d.parameters.length) = some n) (hR : rm.frames + 1 ≤ R.frames ∧ 8 + (maxL + 11) + rm.locals ≤ R.locals) :
    vx_CVW R s args own C index y bytes maxL ret hh ws rm mc ms n := by
  obtain ⟨hC, hd⟩ := hd
  subst hC
  have ok : ∀ w ∈ wsV own index y.cls y ws, w.before args s = true := fun w h => ht w (hT w h).1
  have hG : GoodIn Ts ws := fun w h => hT w (by unfold wsV; exact List.mem_append_right _ h)
  have hc : Cond.codeWith y bytes maxL ret hh ∈ ws := by rw [hw]; exact List.mem_cons_self
  refine ⟨⟨hrc, hrs, hR.1, hR.2, pay_in ht hG, hc⟩, ht _ (hG _ hc).1, ok _ (by simp [wsV]), ⟨hd.1, hd.2.1⟩, fun sig h => ?_, ok _ (by simp [wsV]), ok _ (by simp [wsV]), ok _ (by simp [wsV])⟩
  have h2 := hd.2.2
  rw [h] at h2
  exact (Option.some.inj h2).symm
theorem vx_runVW {y : MethodName} {bytes cc : ByteArray} {maxL nL mc ms n index : Nat} {ret : Option FieldType} {hh : List (Nat × Nat × Nat × Nat)} {ws : List Cond} {rm : Room} {Pc : Array Value → State → Prop} {Qc : Array Value → State → Outcome → State → Prop} {free : Addr → Prop} {Ts : List Cond} {own C : String} {b : Addr} {As rest : List Value} {g : JFrame}
    (S : CallFix p m c cc nL s args Ts own) (hM : Met l y ws rm Pc Qc mc ms free) (cw : vx_CVW R s args own C index y bytes maxL ret hh ws rm mc ms n) (hp : PreV s H C b Pc As)
    (hg : g.method = m) (hn : As.length = n) (hsize : g.locals.size = nL) (hstack : g.stack = As.reverse ++ .ref b :: rest) (hW : 2 * g.monitorRoom + (rest.map fun v => v.category).sum ≤ 8) (hdg : decode cc g.pc = .ok (.invokevirtual index, 3)) (hf : cells + mc ≤ R.cells ∧ slots + ms ≤ R.slots) :
    va_Run p l e R s m args below meth c H locs cells slots mc ms g rest (Qc (Value.ref b :: As).toArray) free := by
  obtain ⟨⟨hrc, hrs, hfr, hlo, hws, hcw⟩, hcode, hini, hy, hlen, hl, hin, hse⟩ := cw
  have hK : Back l R p e below s args y 3 8 (PreOf R mc ms Pc) (PostOf Qc mc ms free) := va_backW (hh := hh) (bytes := bytes) (maxL := maxL) (ret := ret) hM hp.1 hrc hrs hfr hlo hws hcw (fun a' U hW => word_at hW (Or.inl (by first | rfl | simp [Cond.onTables, Cond.keeps, Cond.steady])) hini)
  obtain ⟨hx, hb, hml, ho, -⟩ := S
  obtain ⟨-, ⟨cellB, hcB, hoB, hclB⟩, hPc⟩ := hp
  intro T hT X
  obtain ⟨v, vm₁, ⟨U', l2, c2, s2⟩, hW₁, X', ⟨g', mk, t, L, e1, e2, hq, h1, hL, h2, h3⟩, st⟩ := vx_callVW X hx (C := C) (hh := hh) (bytes := bytes) (maxL := maxL) (ret := ret) ho hl hin hse hcode hy hK (by rw [hT]; exact hcB) hoB hclB hg (hsize.trans hml.symm) (argsL := As) (rest := rest) (fun sig h => hn.trans (hlen sig h)) hstack hW (by rw [hb]; exact hdg)
    (fun vm₁ hW₁ => ⟨hf.1, hf.2, hPc (T.setVm vm₁) hT hW₁⟩)
  dsimp only [Pt.U, Pt.locs, Pt.cells, Pt.slots] at X' e1 e2 h1 h2 h3 st
  subst h1; subst h2; subst h3
  exact ⟨v, (T.setVm vm₁).calling g' mk (Value.ref b :: As).toArray, t, U', L, hT, X', hL, e1, e2, hq, st⟩
section
variable {y : MethodName} {bytes cc : ByteArray} {maxL nL mc ms n index : Nat} {ret : Option FieldType} {ws : List Cond} {rm : Room} {Pc : Array Value → State → Prop} {Qc : Array Value → State → Outcome → State → Prop} {XC : String → State → State → Prop} {free : Addr → Prop} {Ts : List Cond} {own C : String} {b : Addr} {As rest : List Value} {g : JFrame}
theorem vx_runVX {hh : List (Nat × Nat × Nat × Nat)} (S : CallFix p m c cc nL s args Ts own) (hM : vx_Met l y ws rm Pc Qc XC mc ms free) (cw : vx_CVW R s args own C index y bytes maxL ret hh ws rm mc ms n) (hp : PreV s H C b Pc As)
    (hg : g.method = m) (hn : As.length = n) (hsize : g.locals.size = nL) (hstack : g.stack = As.reverse ++ .ref b :: rest) (hW : 2 * g.monitorRoom + (rest.map fun v => v.category).sum ≤ 8) (hdg : decode cc g.pc = .ok (.invokevirtual index, 3)) (hf : cells + mc ≤ R.cells ∧ slots + ms ≤ R.slots) :
    vx_Run p l e R s m args below meth c H locs cells slots mc ms g rest (Qc (Value.ref b :: As).toArray) XC free := by
  obtain ⟨⟨hrc, hrs, hfr, hlo, hws, hcw⟩, hcode, hini, hy, hlen, hl, hin, hse⟩ := cw
  have hK : vx_Back l R p e below s args y 3 8 (PreOf R mc ms Pc) (PostOf Qc mc ms free) (vx_Post XC mc ms free) := vx_backW (hh := hh) (bytes := bytes) (maxL := maxL) (ret := ret) hM hp.1 hrc hrs hfr hlo hws hcw (fun a' U hW => word_at hW (Or.inl (by first | rfl | simp [Cond.onTables, Cond.keeps, Cond.steady])) hini)
  obtain ⟨hx, hb, hml, ho, -⟩ := S
  obtain ⟨-, ⟨cellB, hcB, hoB, hclB⟩, hPc⟩ := hp
  intro T hT X
  rcases vx_callVX X hx (C := C) (hh := hh) (bytes := bytes) (maxL := maxL) (ret := ret) ho hl hin hse hcode hy hK (by rw [hT]; exact hcB) hoB hclB hg (hsize.trans hml.symm) (argsL := As) (rest := rest) (fun sig h => hn.trans (hlen sig h)) hstack hW (by rw [hb]; exact hdg)
    (fun vm₁ hW₁ => ⟨hf.1, hf.2, hPc (T.setVm vm₁) hT hW₁⟩) with ⟨v, vm₁, ⟨U', l2, c2, s2⟩, hW₁, X', ⟨g', mk, t, L, e1, e2, hq, h1, hL, h2, h3⟩, st⟩ | ⟨q, vm₁, ⟨U', l2, c2, s2⟩, hW₁, X', ⟨g', mk, t, L, E, ce, e1, e2, hq, hce, hcv, hcl, h1, hL, h2, h3⟩, st⟩
  · dsimp only [Pt.U, Pt.locs, Pt.cells, Pt.slots] at X' e1 e2 h1 h2 h3 st
    subst h1; subst h2; subst h3
    exact Or.inl ⟨v, (T.setVm vm₁).calling g' mk (Value.ref b :: As).toArray, t, U', L, hT, X', hL, e1, e2, hq, st⟩
  · dsimp only [Pt.U, Pt.locs, Pt.cells, Pt.slots] at X' e1 e2 h1 h2 h3 st hcl
    subst h1; subst h2; subst h3
    exact Or.inr ⟨q, (T.setVm vm₁).calling g' mk (Value.ref b :: As).toArray, t, U', L, E, ce, hT, X', hL, e1, e2, hq, hce, hcv, vx_cls hW₁ hcl, st⟩
theorem vx_runSX {hh : List (Nat × Nat × Nat × Nat)} (S : CallFix p m c cc nL s args Ts own) (hM : vx_Met l y ws rm Pc Qc XC mc ms free) (cw : vx_CSW R s args own index y bytes maxL ret hh ws rm mc ms n) (hp : PreS s H Pc As)
    (hg : g.method = m) (hn : As.length = n) (hsize : g.locals.size = nL) (hstack : g.stack = As.reverse ++ rest) (hW : 2 * g.monitorRoom + (rest.map fun v => v.category).sum ≤ 8) (hdg : decode cc g.pc = .ok (.invokestatic index, 3)) (hf : cells + mc ≤ R.cells ∧ slots + ms ≤ R.slots) :
    vx_Run p l e R s m args below meth c H locs cells slots mc ms g rest (Qc As.toArray) XC free := by
  obtain ⟨⟨hrc, hrs, hfr, hlo, hws, hcw⟩, hcode, hini, hy, hlen, hl, hstt⟩ := cw
  have hK : vx_Back l R p e below s args y 3 8 (PreOf R mc ms Pc) (PostOf Qc mc ms free) (vx_Post XC mc ms free) := vx_backW (hh := hh) (bytes := bytes) (maxL := maxL) (ret := ret) hM hp.1 hrc hrs hfr hlo hws hcw (fun a' U hW => word_at hW (Or.inl (by first | rfl | simp [Cond.onTables, Cond.keeps, Cond.steady])) hini)
  obtain ⟨hx, hb, hml, ho, -⟩ := S
  intro T hT X
  rcases vx_callSX X hx (hh := hh) (bytes := bytes) (maxL := maxL) (ret := ret) ho hl hstt hini hcode hy hK hg (hsize.trans hml.symm) (argsL := As) (rest := rest) (fun sig h => hn.trans (hlen sig h)) hstack hW (by rw [hb]; exact hdg)
    (fun vm₁ hW₁ => ⟨hf.1, hf.2, hp.2 (T.setVm vm₁) hT hW₁⟩) with ⟨v, vm₁, ⟨U', l2, c2, s2⟩, hW₁, X', ⟨g', mk, t, L, e1, e2, hq, h1, hL, h2, h3⟩, st⟩ | ⟨q, vm₁, ⟨U', l2, c2, s2⟩, hW₁, X', ⟨g', mk, t, L, E, ce, e1, e2, hq, hce, hcv, hcl, h1, hL, h2, h3⟩, st⟩
  · dsimp only [Pt.U, Pt.locs, Pt.cells, Pt.slots] at X' e1 e2 h1 h2 h3 st
    subst h1; subst h2; subst h3
    exact Or.inl ⟨v, (T.setVm vm₁).calling g' mk As.toArray, t, U', L, hT, X', hL, e1, e2, hq, st⟩
  · dsimp only [Pt.U, Pt.locs, Pt.cells, Pt.slots] at X' e1 e2 h1 h2 h3 st hcl
    subst h1; subst h2; subst h3
    exact Or.inr ⟨q, (T.setVm vm₁).calling g' mk As.toArray, t, U', L, E, ce, hT, X', hL, e1, e2, hq, hce, hcv, vx_cls hW₁ hcl, st⟩
end
end VXH
theorem vx_ofWH {l : Launch} {y : MethodName} {ws ws' : List Cond} {rm : Room} {Pc : Array Value → State → Prop} {Qc : Array Value → State → Outcome → State → Prop} {XC : String → State → State → Prop} {mc ms : Nat} {free : Addr → Prop} {cc : ByteArray} {maxL : Nat} {ret : Option FieldType} {hh : List (Nat × Nat × Nat × Nat)}
    (hy : plainName y.cls = true) (hw : ws = Cond.codeWith y cc maxL ret hh :: ws')
    (body : ∀ p e s m args below meth c s₁, BodyLoose p l y (headSpec ws rm) cc maxL ret e s m args below meth c s₁ → c.maxLocals = maxL → Pc args s →
      W p l e (headSpec ws rm).room s m args below meth c s.heap [] 0 0 (vx_MQ below Qc XC args s mc ms free) (entryFrame m args maxL)) : vx_Met l y ws rm Pc Qc XC mc ms free := by
  refine MetFree.of_bodyS (code := cc) (maxLocals := maxL) (ret := ret) hy ?_ ?_
  · intro args s m h hn
    obtain ⟨m9, meth, c, hn9, h1, h2, h3, h4, -, h5, h6, -⟩ := Cond.codeWith_spec (atoms_spec (ws := ws) h _ (by rw [hw]; exact List.mem_cons_self))
    cases hn.symm.trans hn9
    exact ⟨meth, c, h1, h2, h3, h4, h5, h6⟩
  · intro p e s m args below meth c s₁ B hml hP _
    have hh0 : s₁.heap = s.heap := by rw [B.state]; rfl
    obtain ⟨t, a1, o, b1, b2, b3⟩ := body p e s m args below meth c s₁ B hml hP s₁ hh0 (Stand.of_body B)
    exact ⟨t, o, a1, b1, b2, b3⟩
/-! ===== END ===== -/

/-! ===== BEGIN what the machine throws by itself, no traces kept ===== -/
section VXM
set_option maxHeartbeats 1000000 in
/-- the machine throws cls with the message text, no traces kept: from its note over the frame g to 'throwing' over the same frame (follows the proofs of Stand.vmThrowsMessage, Shelf/KitTracedVmS.lean, and Stand.throwsMessageColdBareV, StandMessageColdV.lean, without the step out of the frame) -/
theorem vx_vmAt {p : Program} {l : Launch} {e : Env} {R : Room} {s : State} {m₀ : MethodId} {args : Array Value} {below : List Frame} {meth : Method} {c : Code} {W : State} {locs : List Loc} {cells slots : Nat}
    (X : Stand p l e R s m₀ args below meth c W locs cells slots) (hexec : p.tables.exec = Jvm.exec) (htr : e.platform.stackTraces = false) {cls : String} {names : List String} {text : String}
    (hcls : Bundle.fit cls = true) (hnames : ∀ n ∈ names, Bundle.fit n = true) (hsoe : (cls == "java/lang/StackOverflowError") = false) (hoom : (cls == "java/lang/OutOfMemoryError") = false)
    (h : ∀ a ∈ Bundle.messageArmAtoms cls names, a.before args s = true)
    (hlocs : ∀ x ∈ locs, ∀ cell, s.heap[x.base]? = some cell → cell.vm.isStatics = false)
    (htext : (text == notModelled) = false) (hlimit : ¬ (stringBytes (stringToUtf16 text)).size > e.platform.arrayLengthLimit) (hheap : ¬ (stringBytes (stringToUtf16 text)).size * componentBytes .byte > e.platform.maxHeapBytes)
    {g : JFrame} (hg : g.method = m₀) (hsize : g.locals.size = c.maxLocals)
    (hRframes : names.length + 4 < R.frames) (hRlocals : 2 * g.monitorRoom + (g.stack.map fun v => v.category).sum + 10240 ≤ R.locals) (hshort : 13 * names.length + 55 ≤ 10240)
    (hRcells : cells + 3 ≤ R.cells) (hRslots : slots + ((stringBytes (stringToUtf16 text)).size + 4 + 6) ≤ R.slots) (hlocks : meth.locks = false) :
    ∃ (S : State) (q : Addr) (ce : Cell), (∀ target, Steps p.tables e below ((S.setTop g).pushFrame (.throwing q)) target → Steps p.tables e below ((W.setTop g).pushFrame (.throwNew cls (some text) none)) target) ∧
      Stand p l e R s m₀ args below meth c S locs (cells + 3) (slots + ((stringBytes (stringToUtf16 text)).size + 4 + 6)) ∧ S.heap[q]? = some ce ∧ s.vm.findClass cls = some ce.cls ∧ ce.vm = .none := by
  have howns : e.platform.frameOwnsMonitors = true := by rw [X.admits.platform]
  have hfin : e.platform.finalization = false := by rw [X.admits.platform]
  have hpl : e.platform.magicAccessors = ({} : Platform).magicAccessors := by rw [X.admits.platform]
  have a : ∀ x, x ∈ Bundle.messageArmAtoms cls names → x.holds args s none s [] = true := fun x hx => h x hx
  obtain ⟨T, Z0, L, -, Y⟩ := ThrowableC.of_atoms (args := args) howns hfin hpl (fun x hx => h x (by simp [Bundle.messageArmAtoms, hx]))
  obtain ⟨Z, M, LZ, LM, hnZ⟩ := Init0T.ofS_atoms (args := args) hpl L Y (fun x hx => h x (by simp [Bundle.messageArmAtoms, hx]))
  obtain ⟨P1, Ps, hlen, L1, hL, hP1m, hlink1, hlink⟩ := Bundle.chainS (args := args) hpl hnZ names cls hcls hnames (fun x hx => h x (by simp [Bundle.messageArmAtoms, hx]))
  obtain ⟨Zs, LZs, hn4, hfitv, hfitc⟩ := StringT.of_atoms (args := args) (fun x hx => h x (by simp [Bundle.messageArmAtoms, hx]))
  have hfound : s.vm.findClass cls = some P1.m.cls := findClass_of_methodNamed hP1m
  obtain ⟨c1, kX, hc1, hk, hord, -, -, hn6⟩ := Cond.instantiable_spec (a (.instantiable cls 6) (by simp [Bundle.messageArmAtoms]))
  cases Option.some.inj (hc1.symm.trans hfound)
  have hinit := Cond.initialized_spec hfound hk (a (.initialized cls) (by simp [Bundle.messageArmAtoms]))
  have hctor : kX.findMethod "<init>" "(Ljava/lang/String;)V" = some P1.m.idx := findMethod_of_methodNamed hP1m hk
  have hsel0 : selectMethod e.platform s.vm P1.m.cls T.fill0 = .method T.fill0 := by
    obtain ⟨c2, r2, m2, q1, q2, q3, q4, -⟩ := Cond.selects_spec (a (.selects cls Bundle.tFill0 Bundle.tFill0) (by simp [Bundle.messageArmAtoms]))
    cases Option.some.inj (q1.symm.trans hfound)
    cases Option.some.inj (q2.symm.trans (State.methodFound?_of_named Y.fill0 (by decide)))
    cases Option.some.inj (q3.symm.trans Y.fill0)
    rw [Launch.admits_selectMethod X.admits]; exact q4
  have hselF : selectMethod e.platform s.vm P1.m.cls T.fill = .method T.fill := by
    obtain ⟨c2, r2, m2, q1, q2, q3, q4, -⟩ := Cond.selects_spec (a (.selects cls Bundle.tFill Bundle.tFill) (by simp [Bundle.messageArmAtoms]))
    cases Option.some.inj (q1.symm.trans hfound)
    cases Option.some.inj (q2.symm.trans (State.methodFound?_of_named Y.fill (by decide)))
    cases Option.some.inj (q3.symm.trans Y.fill)
    rw [Launch.admits_selectMethod X.admits]; exact q4
  obtain ⟨cellS0, hcS0, hiss⟩ := Y.statics
  obtain ⟨u0, hu0⟩ := Cond.staticRefV Y.unassigned L.unassignedStatic L.statics hcS0 hiss (a (.isRef (.static Bundle.tN "UNASSIGNED_STACK" Bundle.steD)) (by simp [Bundle.messageArmAtoms]))
  obtain ⟨sen, hsen⟩ := Cond.staticRefV Y.sentinel L.sentinelStatic L.statics hcS0 hiss (a (.isRef (.static Bundle.tN "SUPPRESSED_SENTINEL" Bundle.listD)) (by simp [Bundle.messageArmAtoms]))
  obtain ⟨ci198, i198, fB, hk198, hg198, ha198, hsB, -, hnB, htB, hffB⟩ := Cond.ownField (t := .object "java/lang/Object") Y.found L.cls (by decide +kernel) (a (.fieldLink Bundle.tN 198 Bundle.tN "backtrace" "Ljava/lang/Object;") (by simp [Bundle.messageArmAtoms])) (a (.lays Bundle.tN Bundle.tN "backtrace" "Ljava/lang/Object;") (by simp [Bundle.messageArmAtoms])) e.platform hpl
  obtain ⟨cellS, hcS', heS, -, hkeep⟩ := X.same.2.2.2.2.2 T.aS cellS0 hcS0
  have hcellS : W.heap[T.aS]? = some cellS := hcS'
  have hout' : ∀ i, (⟨T.aS, i⟩ : Loc) ∉ locs := fun i hmem => by
    have := hlocs _ hmem cellS0 hcS0
    rw [hiss] at this; cases this
  have hknownS : cellS.vm ≠ .unknown := by
    rw [heS]; intro hu
    rw [show cellS0.vm = .unknown from hu] at hiss
    cases hiss
  have hvU : cellS.slots[T.fUnassigned.slot]? = some u0.v := by rw [hkeep _ (hout' _)]; exact hu0
  have hvSen : cellS.slots[T.fSentinel.slot]? = some sen.v := by rw [hkeep _ (hout' _)]; exact hsen
  obtain ⟨iM, hffM⟩ := Y.msg
  obtain ⟨tyC, dC, hdC, hdnC⟩ := Cond.laysAt hfound hk Y.cause (a (.lays cls Bundle.tN "cause" "Ljava/lang/Throwable;") (by simp [Bundle.messageArmAtoms]))
  obtain ⟨tyS, dS, hdS, hdnS⟩ := Cond.laysAt hfound hk Y.stack (a (.lays cls Bundle.tN "stackTrace" Bundle.steD) (by simp [Bundle.messageArmAtoms]))
  obtain ⟨tyP, dP, hdP, hdnP⟩ := Cond.laysAt hfound hk Y.supp (a (.lays cls Bundle.tN "suppressedExceptions" Bundle.listD) (by simp [Bundle.messageArmAtoms]))
  obtain ⟨tyM, dM, hdM, hdnM⟩ := Cond.laysAt hfound hk hffM (a (.lays cls Bundle.tN "detailMessage" "Ljava/lang/String;") (by simp [Bundle.messageArmAtoms]))
  obtain ⟨tyB, dB, hdB, hdnB⟩ := Cond.laysAt hfound hk hffB (a (.lays cls Bundle.tN "backtrace" "Ljava/lang/Object;") (by simp [Bundle.messageArmAtoms]))
  have bC := Cond.laysApart hdB hdC hdnB hdnC (by rw [hnB, Y.causeName]; decide)
  have bS := Cond.laysApart hdB hdS hdnB hdnS (by rw [hnB, Y.stackName]; decide)
  have bP := Cond.laysApart hdB hdP hdnB hdnP (by rw [hnB, Y.suppName]; decide)
  have hbk : ((preparedCellV T.toThrowableT (freshCell P1.m.cls kX) (W.heap.size + 2) u0 sen).withEntry W.cur).slots[fB.slot]? = some .null := by
    have := fresh_default (c := P1.m.cls) tyB
    rw [htB] at this
    simpa [preparedCellV, Cell.setSlot, Cell.withEntry, Array.getElem?_setIfInBounds, bC, bS, bP, bC.symm, bS.symm, bP.symm, defaultValue] using this
  have tkC := Takes.of_laid (v := .ref (W.heap.size + 2)) hk hord tyC (by rw [Y.causeType]; rfl)
  have tkS := Takes.of_laid (v := u0.v) hk hord tyS (by rw [Y.stackType]; exact fits_refV_array _ u0)
  have tkP := Takes.of_laid (v := sen.v) hk hord tyP (by rw [Y.suppType]; exact fits_refV_object _ sen)
  have tkM := Takes.of_laid (v := .ref (W.heap.size + 1)) hk hord tyM (by rw [Y.msgType]; rfl)
  have hskip : SkipFacts T e.platform s (fun u => u) u0 ((preparedCellV T.toThrowableT (freshCell P1.m.cls kX) (W.heap.size + 2) u0 sen).withEntry W.cur) := ⟨{ ci198 := ci198, i198 := i198, fBack := fB }, ⟨hk198, hg198, ha198, hsB⟩, hbk, fun _ _ => rfl⟩
  have h0 : At W g.method c below := by rw [hg]; exact X.here
  obtain ⟨hbeyond, hfreeW⟩ := X.vmMayThrow hsize (.throwNew cls (some text) none) (fun f hf => by cases hf) rfl hRlocals
  have hfr' : W.frames.length + Ps.length + 4 < (e.platform.stackLimits W.me).1 := by have := X.framesAbove hRframes; omega
  have hwd' : (stackUse (.java g :: W.frames.tail)).2 + 13 * Ps.length + 55 ≤ (e.platform.stackLimits W.me).2 := by have := X.stackAbove hsize (K := 13 * Ps.length + 55) (by omega); omega
  have hslots : W.slotsUsed + (stringBytes (stringToUtf16 text)).size + Zs.kS.instanceTypes.size + kX.instanceTypes.size ≤ e.platform.maxSlots := by
    have := X.slotsAbove hRslots
    rw [hn4, hn6]
    omega
  obtain ⟨vm', hW', st⟩ := Steps.vmThrowsMessageColdByV p (s₀ := s) (S := W) (g := g) h0 hexec T L Z LZ M LM X.warmed (t := W.cur) rfl Zs LZs P1 L1 Ps hL hlink1 hlink hsoe hoom hfound hk hinit hord hctor
    (Launch.admits_hotImplicitExceptions X.admits) hbeyond hfreeW htext hlimit hheap (X.cellsAbove hRcells) hslots (hfitv _) (hfitc _)
    (Nn := fun u => u) heapOnly_id (fun _ _ => rfl) (fun _ => rfl) (fun u x y => setCell_twice _ _ _ _) (fun _ => Nat.le_refl _) (cN := ((preparedCellV T.toThrowableT (freshCell P1.m.cls kX) (W.heap.size + 2) u0 sen).withEntry W.cur))
    hsel0 hcellS hknownS hvU tkS (fun _ hu => hu) (fun _ hu => hu) rfl rfl rfl (by simp [preparedCellV, Cell.setSlot, Cell.withEntry]) hskip (fun _ _ hA hW _ hroom _ hrest => L.nativeOff p htr hA hW hroom hrest) hselF hvSen tkC tkP tkM Y.objLocals rfl hfr' hwd'
  rw [plainBareV_eq T.toThrowableT (W.heap.size + 2) u0 sen (.ref (W.heap.size + 1)) W.cur rfl rfl] at st
  obtain ⟨-, -, w3, w4, -, -, -⟩ := withThrown_facts e.platform W Zs text P1.m.cls kX
  have X3 := ((X.pushed (bytesOf Zs.cB (stringToUtf16 text))).pushed (stringAt Zs.cS Zs.kS Zs.fv Zs.fc (stringToUtf16 text) W.heap.size)).pushed (freshCell P1.m.cls kX)
  rw [← withString_eq] at X3
  have X4 := X3.noted hW'
  have ha : (W.heap.size + 2) < ((withThrown W Zs text P1.m.cls kX).setVm vm').heap.size := by show _ < (withThrown W Zs text P1.m.cls kX).heap.size; rw [w3]; omega
  have hcell : ((withThrown W Zs text P1.m.cls kX).setVm vm').heap[(W.heap.size + 2)]? = some (freshCell P1.m.cls kX) := w4
  have X5 := ((((X4.stored hcell T.fCause.slot (.ref (W.heap.size + 2))).storedAgain ha T.fStack.slot u0.v).storedAgain ha T.fSupp.slot sen.v).storedAgain ha T.fStack.slot u0.v).storedAgain ha T.fMsg.slot (.ref (W.heap.size + 1))
  obtain ⟨g₁, hfrM⟩ := X5.frames_eq
  have hU : ((((withThrown W Zs text P1.m.cls kX).setVm vm').setCell (W.heap.size + 2) (plainBareV T.toThrowableT (freshCell P1.m.cls kX) (W.heap.size + 2) u0 sen (.ref (W.heap.size + 1)))).setTop g).pushFrame (.throwing (W.heap.size + 2)) = (((withThrown W Zs text P1.m.cls kX).setVm vm').setCell (W.heap.size + 2) (plainBareV T.toThrowableT (freshCell P1.m.cls kX) (W.heap.size + 2) u0 sen (.ref (W.heap.size + 1)))).setFrames (.throwing (W.heap.size + 2) :: .java g :: below) := by
    rw [State.pushFrame, State.frames_setTop _ hfrM, State.setTop_of_frames _ hfrM, State.setFrames_setFrames]
  have b1 : (bytesOf Zs.cB (stringToUtf16 text)).slots.size = (stringBytes (stringToUtf16 text)).size := by
    rw [(Cell.writeAll_facts _ _).2.2]; simp [bytes0]
  have b2 : (stringAt Zs.cS Zs.kS Zs.fv Zs.fc (stringToUtf16 text) W.heap.size).slots.size = 4 := by simp [string0, Cell.setSlot, hn4]
  have b3 : (freshCell P1.m.cls kX).slots.size = 6 := by simp [hn6]
  rw [b1, b2, b3] at X5
  have e9 : slots + (stringBytes (stringToUtf16 text)).size + 4 + 6 = slots + ((stringBytes (stringToUtf16 text)).size + 4 + 6) := by omega
  rw [e9] at X5
  simp only [List.append_assoc, List.cons_append, List.nil_append] at X5
  refine ⟨((withThrown W Zs text P1.m.cls kX).setVm vm').setCell (W.heap.size + 2) (plainBareV T.toThrowableT (freshCell P1.m.cls kX) (W.heap.size + 2) u0 sen (.ref (W.heap.size + 1))), W.heap.size + 2, _, fun target ht => st _ (by rw [X.tail, ← hU]; exact ht),
    X5.forget (fun y hy => ?_), heapAt_setCell_self _ ha, hfound, rfl⟩
  simp only [List.mem_cons, List.not_mem_nil, or_false] at hy
  have hge : s.heap.size ≤ W.heap.size := X.same.2.1
  rcases hy with rfl | rfl | rfl | rfl | rfl <;> exact Nat.le_trans hge (Nat.le_add_right _ 2)
set_option maxHeartbeats 1000000 in
/-- the machine throws NullPointerException, no traces kept: from its note over the frame g to 'throwing' over the same frame (follows the proof of Stand.vmThrowsNpe, Shelf42/KT2.lean; throwsNpeColdBareVAt, Shelf42/NT91.lean, called) -/
theorem vx_npeAt {p : Program} {l : Launch} {e : Env} {R : Room} {s : State} {m₀ : MethodId} {args : Array Value} {below : List Frame} {meth : Method} {c : Code} {W : State} {locs : List Loc} {cells slots : Nat}
    (X : Stand p l e R s m₀ args below meth c W locs cells slots) (hexec : p.tables.exec = Jvm.exec) (htr : e.platform.stackTraces = false) {n : Nat}
    (h : ∀ a ∈ Bundle.npeArmAtoms n, a.before args s = true)
    (hlocs : ∀ x ∈ locs, ∀ cell, s.heap[x.base]? = some cell → cell.vm.isStatics = false)
    {g : JFrame} (hg : g.method = m₀) (hsize : g.locals.size = c.maxLocals)
    (hRframes : 7 < R.frames) (hRlocals : 2 * g.monitorRoom + (g.stack.map fun v => v.category).sum + 10240 ≤ R.locals)
    (hRcells : cells + 1 ≤ R.cells) (hRslots : slots + n ≤ R.slots) (hlocks : meth.locks = false) :
    ∃ (S : State) (q : Addr) (ce : Cell), (∀ target, Steps p.tables e below ((S.setTop g).pushFrame (.throwing q)) target → Steps p.tables e below ((W.setTop g).pushFrame (.throwNew "java/lang/NullPointerException" none none)) target) ∧
      Stand p l e R s m₀ args below meth c S locs (cells + 1) (slots + n) ∧ S.heap[q]? = some ce ∧ s.vm.findClass "java/lang/NullPointerException" = some ce.cls ∧ ce.vm = .none := by
  have howns : e.platform.frameOwnsMonitors = true := by rw [X.admits.platform]
  have hfin : e.platform.finalization = false := by rw [X.admits.platform]
  have hpl : e.platform.magicAccessors = ({} : Platform).magicAccessors := by rw [X.admits.platform]
  have hpl2 : e.platform.arrayCloneIsPublic = true := by rw [X.admits.platform]
  have a' : ∀ x, x ∈ Bundle.npeArmAtoms n → x.holds args s none s [] = true := fun x hx => h x hx
  obtain ⟨T, Z, L, LZ, Y⟩ := ThrowableC.of_atoms (args := args) howns hfin hpl (fun x hx => h x (by simp [Bundle.npeArmAtoms, hx]))
  obtain ⟨N, LN, hcN, hnNF, hordN, hffS⟩ := NpeC.of_atoms (args := args) hpl hpl2 L Y (fun x hx => h x (by simp [Bundle.npeArmAtoms, hx]))
  obtain ⟨P1, L1, hP1m, hP1s⟩ := PassC.of_atoms (args := args) (s := s) hpl (X := Bundle.nN) (Y := Bundle.rN) (by decide) (by decide) LibCode.NullPointerException.Init0.at_0 LibCode.NullPointerException.Init0.at_1 LibCode.NullPointerException.Init0.at_4 (fun x hx => h x (by simp [Bundle.npeArmAtoms, hx]))
  obtain ⟨PR, LR, hPRm, hPRs⟩ := PassC.of_atoms (args := args) (s := s) hpl (X := Bundle.rN) (Y := Bundle.eN) (by decide) (by decide) LibCode.RuntimeException.Init0.at_0 LibCode.RuntimeException.Init0.at_1 LibCode.RuntimeException.Init0.at_4 (fun x hx => h x (by simp [Bundle.npeArmAtoms, hx]))
  obtain ⟨PE, LEx, hPEm, hPEs⟩ := PassC.of_atoms (args := args) (s := s) hpl (X := Bundle.eN) (Y := Bundle.tN) (by decide) (by decide) LibCode.Exception.Init0.at_0 LibCode.Exception.Init0.at_1 LibCode.Exception.Init0.at_4 (fun x hx => h x (by simp [Bundle.npeArmAtoms, hx]))
  have hfound : s.vm.findClass Bundle.nN = some P1.m.cls := findClass_of_methodNamed hP1m
  have ecls : N.cN = P1.m.cls := Option.some.inj (hcN.symm.trans hfound)
  have hk : s.vm.classes[P1.m.cls]? = some N.kN := by rw [← ecls]; exact LN.cls
  have hinit := Cond.initialized_spec hfound hk (a' (.initialized Bundle.nN) (by simp [Bundle.npeArmAtoms]))
  have hctor : N.kN.findMethod "<init>" "()V" = some P1.m.idx := findMethod_of_methodNamed hP1m hk
  obtain ⟨c1, k1, hc1, hk1, -, -, -, hn⟩ := Cond.instantiable_spec (a' (.instantiable Bundle.nN n) (by simp [Bundle.npeArmAtoms]))
  cases Option.some.inj (hc1.symm.trans hfound)
  cases Option.some.inj (hk1.symm.trans hk)
  have hfsz : (freshCell P1.m.cls N.kN).slots.size = n := by simp [hn]
  have hlink1 : P1.sup = PR.m := Option.some.inj (hP1s.symm.trans hPRm)
  have hlinkR : PR.sup = PE.m := Option.some.inj (hPRs.symm.trans hPEm)
  have hlinkE : PE.sup = Z.m T.toThrowableT := Option.some.inj (hPEs.symm.trans Y.init0)
  have hLs : ∀ P, P ∈ [PR, PE] → P.Links0 e.platform s := fun P hP => by
    simp only [List.mem_cons, List.not_mem_nil, or_false] at hP
    rcases hP with rfl | rfl
    · exact LR
    · exact LEx
  have hsel0 : selectMethod e.platform s.vm P1.m.cls T.fill0 = .method T.fill0 := by
    obtain ⟨c2, r2, m2, q1, q2, q3, q4, -⟩ := Cond.selects_spec (a' (.selects Bundle.nN Bundle.tFill0 Bundle.tFill0) (by simp [Bundle.npeArmAtoms]))
    cases Option.some.inj (q1.symm.trans hfound)
    cases Option.some.inj (q2.symm.trans (State.methodFound?_of_named Y.fill0 (by decide)))
    cases Option.some.inj (q3.symm.trans Y.fill0)
    rw [Launch.admits_selectMethod X.admits]; exact q4
  have hselF : selectMethod e.platform s.vm P1.m.cls T.fill = .method N.fill := by
    obtain ⟨c2, r2, m2, q1, q2, q3, q4, -⟩ := Cond.selects_spec (a' (.selects Bundle.nN Bundle.tFill Bundle.nFill) (by simp [Bundle.npeArmAtoms]))
    cases Option.some.inj (q1.symm.trans hfound)
    cases Option.some.inj (q2.symm.trans (State.methodFound?_of_named Y.fill (by decide)))
    cases Option.some.inj (q3.symm.trans hnNF)
    rw [Launch.admits_selectMethod X.admits]; exact q4
  obtain ⟨cellS0, hcS0, hiss⟩ := Y.statics
  obtain ⟨u0, hu0⟩ := Cond.staticRefV Y.unassigned L.unassignedStatic L.statics hcS0 hiss (a' (.isRef (.static Bundle.tN "UNASSIGNED_STACK" Bundle.steD)) (by simp [Bundle.npeArmAtoms]))
  obtain ⟨sen, hsen⟩ := Cond.staticRefV Y.sentinel L.sentinelStatic L.statics hcS0 hiss (a' (.isRef (.static Bundle.tN "SUPPRESSED_SENTINEL" Bundle.listD)) (by simp [Bundle.npeArmAtoms]))
  obtain ⟨ci198, i198, fB, hk198, hg198, ha198, hsB, -, hnB, htB, hffB⟩ := Cond.ownField (t := .object "java/lang/Object") Y.found L.cls (by decide +kernel) (a' (.fieldLink Bundle.tN 198 Bundle.tN "backtrace" Bundle.objD) (by simp [Bundle.npeArmAtoms])) (a' (.lays Bundle.tN Bundle.tN "backtrace" Bundle.objD) (by simp [Bundle.npeArmAtoms])) e.platform hpl
  obtain ⟨cellS, hcS', heS, -, hkeep⟩ := X.same.2.2.2.2.2 T.aS cellS0 hcS0
  have hcellS : W.heap[T.aS]? = some cellS := hcS'
  have hout' : ∀ i, (⟨T.aS, i⟩ : Loc) ∉ locs := fun i hmem => by
    have := hlocs _ hmem cellS0 hcS0
    rw [hiss] at this; cases this
  have hknownS : cellS.vm ≠ .unknown := by
    rw [heS]; intro hu
    rw [show cellS0.vm = .unknown from hu] at hiss
    cases hiss
  have hvU : cellS.slots[T.fUnassigned.slot]? = some u0.v := by rw [hkeep _ (hout' _)]; exact hu0
  have hvSen : cellS.slots[T.fSentinel.slot]? = some sen.v := by rw [hkeep _ (hout' _)]; exact hsen
  obtain ⟨tyC, dC, hdC, hdnC⟩ := Cond.laysAt hfound hk Y.cause (a' (.lays Bundle.nN Bundle.tN "cause" "Ljava/lang/Throwable;") (by simp [Bundle.npeArmAtoms]))
  obtain ⟨tyS, dS, hdS, hdnS⟩ := Cond.laysAt hfound hk Y.stack (a' (.lays Bundle.nN Bundle.tN "stackTrace" Bundle.steD) (by simp [Bundle.npeArmAtoms]))
  obtain ⟨tyP, dP, hdP, hdnP⟩ := Cond.laysAt hfound hk Y.supp (a' (.lays Bundle.nN Bundle.tN "suppressedExceptions" Bundle.listD) (by simp [Bundle.npeArmAtoms]))
  obtain ⟨tyX, dX, hdX, hdnX⟩ := Cond.laysAt hfound hk hffS (a' (.lays Bundle.nN Bundle.nN "extendedMessageState" "I") (by simp [Bundle.npeArmAtoms, Bundle.npeAtoms]))
  obtain ⟨hnX, htX⟩ := State.fieldFound?_type hffS (t := .int) (by decide +kernel)
  have xC := Cond.laysApart hdC hdX hdnC hdnX (by rw [hnX, Y.causeName]; decide)
  have xS := Cond.laysApart hdS hdX hdnS hdnX (by rw [hnX, Y.stackName]; decide)
  have xP := Cond.laysApart hdP hdX hdnP hdnX (by rw [hnX, Y.suppName]; decide)
  have hv0 : (freshCell P1.m.cls N.kN).slots[N.fState.slot]? = some (.int 0) := by
    have := fresh_default (c := P1.m.cls) tyX
    rw [htX] at this; exact this
  obtain ⟨tyB, dB, hdB, hdnB⟩ := Cond.laysAt hfound hk hffB (a' (.lays Bundle.nN Bundle.tN "backtrace" Bundle.objD) (by simp [Bundle.npeArmAtoms]))
  have bC := Cond.laysApart hdB hdC hdnB hdnC (by rw [hnB, Y.causeName]; decide)
  have bS := Cond.laysApart hdB hdS hdnB hdnS (by rw [hnB, Y.stackName]; decide)
  have bP := Cond.laysApart hdB hdP hdnB hdnP (by rw [hnB, Y.suppName]; decide)
  have bX := Cond.laysApart hdB hdX hdnB hdnX (by rw [hnB, hnX]; decide)
  have hbk : ((npeCell N.toNpeT (preparedCellV T.toThrowableT (freshCell P1.m.cls N.kN) W.heap.size u0 sen) W.cur).withEntry W.cur).slots[fB.slot]? = some .null := by
    have := fresh_default (c := P1.m.cls) tyB
    rw [htB] at this
    simpa [npeCell, preparedCellV, Cell.setSlot, Cell.withEntry, Array.getElem?_setIfInBounds, bC, bS, bP, bX, bC.symm, bS.symm, bP.symm, bX.symm, defaultValue] using this
  have tkC := Takes.of_laid (v := .ref W.heap.size) hk hordN tyC (by rw [Y.causeType]; rfl)
  have tkS := Takes.of_laid (v := u0.v) hk hordN tyS (by rw [Y.stackType]; exact fits_refV_array _ u0)
  have tkP := Takes.of_laid (v := sen.v) hk hordN tyP (by rw [Y.suppType]; exact fits_refV_object _ sen)
  have tkX := Takes.of_laid (v := .int 1) hk hordN tyX (by rw [htX]; rfl)
  have hskip : SkipFacts T e.platform s (fun u => u) u0 ((npeCell N.toNpeT (preparedCellV T.toThrowableT (freshCell P1.m.cls N.kN) W.heap.size u0 sen) W.cur).withEntry W.cur) := ⟨{ ci198 := ci198, i198 := i198, fBack := fB }, ⟨hk198, hg198, ha198, hsB⟩, hbk, fun _ _ => rfl⟩
  obtain ⟨vm', X3, st, -⟩ := X.throwsNpeColdBareVAt hexec hg hsize T L Z LZ N LN P1 L1 [PR, PE] hLs hlink1 ⟨hlinkR, hlinkE, trivial⟩ hfound hk hinit hordN hctor hsel0 hselF hcellS hknownS hvU hvSen
    hv0 xC xS xP tkC tkS tkP tkX Y.objLocals hskip (fun _ _ hA hW _ hroom _ hrest => L.nativeOff p htr hA hW hroom hrest) (by simpa using hRframes) hRlocals (by simp) hRcells (by rw [hn]; exact hRslots)
  have hlt : W.heap.size < ((W.pushCell (freshCell P1.m.cls N.kN)).setVm vm').heap.size := by
    show W.heap.size < (W.pushCell (freshCell P1.m.cls N.kN)).heap.size
    rw [State.heap_size_pushCell]; omega
  rw [hfsz] at X3
  obtain ⟨g₁, hfrM⟩ := X3.frames_eq
  have hU : ((((W.pushCell (freshCell P1.m.cls N.kN)).setVm vm').setCell W.heap.size (npeBareV T.toThrowableT N.toNpeT (freshCell P1.m.cls N.kN) W.heap.size u0 sen)).setTop g).pushFrame (.throwing W.heap.size) = (((W.pushCell (freshCell P1.m.cls N.kN)).setVm vm').setCell W.heap.size (npeBareV T.toThrowableT N.toNpeT (freshCell P1.m.cls N.kN) W.heap.size u0 sen)).setFrames (.throwing W.heap.size :: .java g :: below) := by
    rw [State.pushFrame, State.frames_setTop _ hfrM, State.setTop_of_frames _ hfrM, State.setFrames_setFrames]
  refine ⟨_, W.heap.size, _, fun target ht => st.trans (by rw [← hU]; exact ht), X3.forget (fun y hy => ?_), heapAt_setCell_self _ hlt, hfound, rfl⟩
  simp only [List.mem_cons, List.not_mem_nil, or_false] at hy
  have hge : s.heap.size ≤ W.heap.size := X.same.2.1
  rcases hy with rfl | rfl | rfl | rfl | rfl <;> exact hge
/-- the words of a machine's NullPointerException, but the four that speak of the heap -/
def vx_atN (n : Nat) : List Cond := (Bundle.npeArmAtoms n).filter vx_no
/-- the words of a machine's throw with a message, but the four that speak of the heap -/
def vx_atM (X : String) (names : List String) : List Cond := (Bundle.messageArmAtoms X names).filter vx_no
section
variable {p : Program} {l : Launch} {e : Env} {R : Room} {s : State} {m : MethodId} {args : Array Value} {below : List Frame} {meth : Method} {c : Code} {H : Heap} {locs : List Loc} {cells slots : Nat}
/-- a frame seen from a rebased start, seen from the first start again -/
theorem vx_back9 {T S : State} {R' : Room} {k n : Nat} (X : Stand p l e R s m args below meth c T locs cells slots) (Y : Stand p l e R' ((T.setVm s.vm).setFrames (.invoking m args :: below)) m args below meth c T [] 0 0) (Z : Stand p l e R' ((T.setVm s.vm).setFrames (.invoking m args :: below)) m args below meth c S [] k n) :
    Stand p l e R s m args below meth c S locs (cells + k) (slots + n) := by
  have hW0 : s.WarmedH ((T.setVm s.vm).setFrames (.invoking m args :: below)).vm := State.WarmedH.refl s
  refine { admits := X.admits, cas := X.cas, clock := X.clock, frames := X.frames, room := X.room, hears := X.hears, method := X.method, code := X.code, here := Z.here, tail := Z.tail, warmed := State.WarmedH.trans hW0 Z.warmed, limits := Z.limits.trans (Y.limits.symm.trans X.limits), bytes := Z.bytes.trans (Y.bytes.symm.trans X.bytes), same := ?_ }
  obtain ⟨e1, e2⟩ := Z.same
  rw [State.setFrames_setFrames] at e1
  have h2 : (T.setVm s.vm).sameButNew (S.setVm s.vm) [] k n := ⟨e1, e2⟩
  have h3 := X.same.trans h2
  rw [List.append_nil] at h3
  exact h3
/-- from the machine's note that E is thrown here with this text -/
def vx_Note (p : Program) (l : Launch) (e : Env) (R : Room) (s : State) (m : MethodId) (args : Array Value) (below : List Frame) (meth : Method) (c : Code) (H : Heap) (locs : List Loc) (cells slots : Nat) (Q : State → Prop) (g : JFrame) (E text : String) : Prop :=
  ∀ T : State, T.heap = H → Stand p l e R s m args below meth c T locs cells slots → ∃ t, Steps p.tables e below ((T.setTop g).pushFrame (.throwNew E (some text) none)) t ∧ Q t
theorem vx_vm {pc : Nat} {ls : Array Slot} {rest : List Value} {Q : State → Prop} (hexec : p.tables.exec = Jvm.exec) (hl : l.stackTraces = false) {cls text : String} {names : List String} {nb : Nat} {A : Nat → Prop}
    (hcls : Bundle.fit cls = true) (hnames : ∀ n ∈ names, Bundle.fit n = true) (hsoe : (cls == "java/lang/StackOverflowError") = false) (hoom : (cls == "java/lang/OutOfMemoryError") = false)
    (hat : ∀ w ∈ vx_atM cls names, w.before args s = true) (hgood : ∀ w ∈ vx_atM cls names, vx_ot w = true)
    (hU : vx_Zq Bundle.tN "UNASSIGNED_STACK" Bundle.steD A s s.heap) (hN : vx_Zq Bundle.tN "SUPPRESSED_SENTINEL" Bundle.listD A s s.heap) (hS : va_S A s.heap H locs) (hsize : ls.size = c.maxLocals)
    (htext : (text == notModelled) = false) (hnb : (stringBytes (stringToUtf16 text)).size ≤ nb) (hnb1 : nb ≤ 1000)
    (hRframes : names.length + 4 < R.frames) (hRlocals : (rest.map fun v => v.category).sum + 10240 ≤ R.locals) (hshort : 13 * names.length + 55 ≤ 10240) (hRcells : cells + 3 ≤ R.cells) (hRslots : slots + (nb + 10) ≤ R.slots) (hlocks : meth.locks = false)
    (k : ∀ (H1 : Heap) (q9 : Addr) (ce : Cell), H.size ≤ H1.size → (∀ q : Nat, q < H.size → H1[q]? = H[q]?) → va_S A s.heap H1 locs → H1[q9]? = some ce → ce.vm = .none → s.vm.findClass cls = some ce.cls → vx_W p l e R s m args below meth c H1 locs (cells + 3) (slots + (nb + 10)) Q (F0 m pc ls rest) q9) :
    vx_Note p l e R s m args below meth c H locs cells slots Q (F0 m pc ls rest) cls text := by
  intro T hT X
  have htr : e.platform.stackTraces = false := (show e.platform.stackTraces = l.stackTraces by rw [X.admits.platform]).trans hl
  have Y := vx_rebase X (R' := { frames := R.frames, locals := R.locals, cells := 3, slots := nb + 10 }) (Nat.le_refl _) (Nat.le_refl _) hRcells hRslots
  have hhp : ((T.setVm s.vm).setFrames (.invoking m args :: below)).heap = H := hT
  have hW0 : s.WarmedH ((T.setVm s.vm).setFrames (.invoking m args :: below)).vm := State.WarmedH.refl s
  have hat' : ∀ w ∈ vx_atM cls names, w.before args ((T.setVm s.vm).setFrames (.invoking m args :: below)) = true := fun w hw => vx_ot_at hW0 rfl (hgood w hw) (hat w hw)
  have hU' : vx_Zq Bundle.tN "UNASSIGNED_STACK" Bundle.steD A ((T.setVm s.vm).setFrames (.invoking m args :: below)) ((T.setVm s.vm).setFrames (.invoking m args :: below)).heap := by rw [hhp]; exact vx_Zq.moved hW0.alike (hU.kept hS.2.1)
  have hN' : vx_Zq Bundle.tN "SUPPRESSED_SENTINEL" Bundle.listD A ((T.setVm s.vm).setFrames (.invoking m args :: below)) ((T.setVm s.vm).setFrames (.invoking m args :: below)).heap := by rw [hhp]; exact vx_Zq.moved hW0.alike (hN.kept hS.2.1)
  obtain ⟨S, q, ce, st, Z, hce, hcl', hv⟩ := vx_vmAt Y hexec htr (cls := cls) (names := names) (text := text) hcls hnames hsoe hoom (vx_own hat' (vx_isRefq hU'.1) (vx_isRefq hN'.1) hU'.2.word hN'.2.word) (fun x hx => nomatch hx) htext
    (by rw [Launch.admits_arrayLengthLimit X.admits]; omega) (by rw [Launch.admits_maxHeapBytes X.admits]; simp only [componentBytes]; omega)
    (g := F0 m pc ls rest) rfl hsize hRframes (by show 2 * 0 + (rest.map fun v => v.category).sum + 10240 ≤ R.locals; omega) hshort (by show 0 + 3 ≤ 3; omega) (by show 0 + (_ + 4 + 6) ≤ nb + 10; omega) hlocks
  obtain ⟨f1, f2⟩ := vx_frame Z.same
  have f1' : H.size ≤ S.heap.size := by rw [← hT]; exact f1
  have f2' : ∀ q : Nat, q < H.size → S.heap[q]? = H[q]? := fun q hq => by
    rw [← hT]
    exact f2 q (by rw [← hT] at hq; exact hq) (fun z hz => nomatch hz)
  have X5 := vx_back9 X Y Z
  have X6 : Stand p l e R s m args below meth c S locs (cells + 3) (slots + (nb + 10)) := { X5 with same := X5.same.mono (by omega) (by omega) }
  obtain ⟨t, a1, b1⟩ := k S.heap q ce f1' f2' ⟨Nat.le_trans hS.1 f1', fun q h1 h2 => (f2' q (Nat.lt_of_lt_of_le h1 hS.1)).trans (hS.2.1 q h1 h2), hS.2.2⟩ hce hv hcl' S rfl X6
  exact ⟨t, st t a1, b1⟩
/-- from the machine's note that NullPointerException is thrown here -/
def vx_NoteN (p : Program) (l : Launch) (e : Env) (R : Room) (s : State) (m : MethodId) (args : Array Value) (below : List Frame) (meth : Method) (c : Code) (H : Heap) (locs : List Loc) (cells slots : Nat) (Q : State → Prop) (g : JFrame) : Prop :=
  ∀ T : State, T.heap = H → Stand p l e R s m args below meth c T locs cells slots → ∃ t, Steps p.tables e below ((T.setTop g).pushFrame (.throwNew "java/lang/NullPointerException" none none)) t ∧ Q t
theorem vx_npe {pc : Nat} {ls : Array Slot} {rest : List Value} {Q : State → Prop} (hexec : p.tables.exec = Jvm.exec) (hl : l.stackTraces = false) {nb : Nat} {A : Nat → Prop}
    (hat : ∀ w ∈ vx_atN nb, w.before args s = true) (hgood : ∀ w ∈ vx_atN nb, vx_ot w = true)
    (hU : vx_Zq Bundle.tN "UNASSIGNED_STACK" Bundle.steD A s s.heap) (hN : vx_Zq Bundle.tN "SUPPRESSED_SENTINEL" Bundle.listD A s s.heap) (hS : va_S A s.heap H locs) (hsize : ls.size = c.maxLocals)
    (hRframes : 7 < R.frames) (hRlocals : (rest.map fun v => v.category).sum + 10240 ≤ R.locals) (hRcells : cells + 1 ≤ R.cells) (hRslots : slots + nb ≤ R.slots) (hlocks : meth.locks = false)
    (k : ∀ (H1 : Heap) (q9 : Addr) (ce : Cell), H.size ≤ H1.size → (∀ q : Nat, q < H.size → H1[q]? = H[q]?) → va_S A s.heap H1 locs → H1[q9]? = some ce → ce.vm = .none → s.vm.findClass "java/lang/NullPointerException" = some ce.cls → vx_W p l e R s m args below meth c H1 locs (cells + 1) (slots + nb) Q (F0 m pc ls rest) q9) :
    vx_NoteN p l e R s m args below meth c H locs cells slots Q (F0 m pc ls rest) := by
  intro T hT X
  have htr : e.platform.stackTraces = false := (show e.platform.stackTraces = l.stackTraces by rw [X.admits.platform]).trans hl
  have Y := vx_rebase X (R' := { frames := R.frames, locals := R.locals, cells := 1, slots := nb }) (Nat.le_refl _) (Nat.le_refl _) hRcells hRslots
  have hhp : ((T.setVm s.vm).setFrames (.invoking m args :: below)).heap = H := hT
  have hW0 : s.WarmedH ((T.setVm s.vm).setFrames (.invoking m args :: below)).vm := State.WarmedH.refl s
  have hat' : ∀ w ∈ vx_atN nb, w.before args ((T.setVm s.vm).setFrames (.invoking m args :: below)) = true := fun w hw => vx_ot_at hW0 rfl (hgood w hw) (hat w hw)
  have hU' : vx_Zq Bundle.tN "UNASSIGNED_STACK" Bundle.steD A ((T.setVm s.vm).setFrames (.invoking m args :: below)) ((T.setVm s.vm).setFrames (.invoking m args :: below)).heap := by rw [hhp]; exact vx_Zq.moved hW0.alike (hU.kept hS.2.1)
  have hN' : vx_Zq Bundle.tN "SUPPRESSED_SENTINEL" Bundle.listD A ((T.setVm s.vm).setFrames (.invoking m args :: below)) ((T.setVm s.vm).setFrames (.invoking m args :: below)).heap := by rw [hhp]; exact vx_Zq.moved hW0.alike (hN.kept hS.2.1)
  obtain ⟨S, q, ce, st, Z, hce, hcl', hv⟩ := vx_npeAt Y hexec htr (n := nb) (vx_own hat' (vx_isRefq hU'.1) (vx_isRefq hN'.1) hU'.2.word hN'.2.word) (fun x hx => nomatch hx)
    (g := F0 m pc ls rest) rfl hsize hRframes (by show 2 * 0 + (rest.map fun v => v.category).sum + 10240 ≤ R.locals; omega) (by show 0 + 1 ≤ 1; omega) (by show 0 + nb ≤ nb; omega) hlocks
  obtain ⟨f1, f2⟩ := vx_frame Z.same
  have f1' : H.size ≤ S.heap.size := by rw [← hT]; exact f1
  have f2' : ∀ q : Nat, q < H.size → S.heap[q]? = H[q]? := fun q hq => by
    rw [← hT]
    exact f2 q (by rw [← hT] at hq; exact hq) (fun z hz => nomatch hz)
  have X5 := vx_back9 X Y Z
  have X6 : Stand p l e R s m args below meth c S locs (cells + 1) (slots + nb) := { X5 with same := X5.same.mono (by omega) (by omega) }
  obtain ⟨t, a1, b1⟩ := k S.heap q ce f1' f2' ⟨Nat.le_trans hS.1 f1', fun q h1 h2 => (f2' q (Nat.lt_of_lt_of_le h1 hS.1)).trans (hS.2.1 q h1 h2), hS.2.2⟩ hce hv hcl' S rfl X6
  exact ⟨t, st t a1, b1⟩
variable {Q : State → Prop} {cc : ByteArray} {pc : Nat} {ls : Array Slot} {rest : List Value}
theorem vx_idivZ (hexec : p.tables.exec = Jvm.exec) (hb : c.code = cc) {a b : Int32} (h0 : b = 0) (d : decode cc pc = .ok (.idiv, 1)) (k : vx_Note p l e R s m args below meth c H locs cells slots Q (F0 m pc ls rest) "java/lang/ArithmeticException" "/ by zero") :
    W p l e R s m args below meth c H locs cells slots Q (F0 m pc ls (.int b :: .int a :: rest)) := by
  intro T hT X
  obtain ⟨t, st, q⟩ := k T hT X
  exact ⟨t, X.idivZero hexec (g := F0 m pc ls (.int b :: .int a :: rest)) rfl (a := a) (rest := rest) (by rw [h0]) (by rw [hb]; exact d) t st, q⟩
theorem vx_iremZ (hexec : p.tables.exec = Jvm.exec) (hb : c.code = cc) {a b : Int32} (h0 : b = 0) (d : decode cc pc = .ok (.irem, 1)) (k : vx_Note p l e R s m args below meth c H locs cells slots Q (F0 m pc ls rest) "java/lang/ArithmeticException" "/ by zero") :
    W p l e R s m args below meth c H locs cells slots Q (F0 m pc ls (.int b :: .int a :: rest)) := by
  intro T hT X
  obtain ⟨t, st, q⟩ := k T hT X
  exact ⟨t, X.iremZero hexec (g := F0 m pc ls (.int b :: .int a :: rest)) rfl (a := a) (rest := rest) (by rw [h0]) (by rw [hb]; exact d) t st, q⟩
theorem vx_ldivZ (hexec : p.tables.exec = Jvm.exec) (hb : c.code = cc) {a b : Int64} (h0 : b = 0) (d : decode cc pc = .ok (.ldiv, 1)) (k : vx_Note p l e R s m args below meth c H locs cells slots Q (F0 m pc ls rest) "java/lang/ArithmeticException" "/ by zero") :
    W p l e R s m args below meth c H locs cells slots Q (F0 m pc ls (.long b :: .long a :: rest)) := by
  intro T hT X
  obtain ⟨t, st, q⟩ := k T hT X
  exact ⟨t, X.ldivZero hexec (g := F0 m pc ls (.long b :: .long a :: rest)) rfl (a := a) (rest := rest) (by rw [h0]) (by rw [hb]; exact d) t st, q⟩
theorem vx_lremZ (hexec : p.tables.exec = Jvm.exec) (hb : c.code = cc) {a b : Int64} (h0 : b = 0) (d : decode cc pc = .ok (.lrem, 1)) (k : vx_Note p l e R s m args below meth c H locs cells slots Q (F0 m pc ls rest) "java/lang/ArithmeticException" "/ by zero") :
    W p l e R s m args below meth c H locs cells slots Q (F0 m pc ls (.long b :: .long a :: rest)) := by
  intro T hT X
  obtain ⟨t, st, q⟩ := k T hT X
  exact ⟨t, X.lremZero hexec (g := F0 m pc ls (.long b :: .long a :: rest)) rfl (a := a) (rest := rest) (by rw [h0]) (by rw [hb]; exact d) t st, q⟩
theorem vx_ialdZ {D : va_G} {cl : List vw_C} {ws : va_W} {tys : List (ClassId × FieldType)} {a : Nat} (hexec : p.tables.exec = Jvm.exec) (hb : c.code = cc) (hK : va_K D cl tys s) (hP : va_P D cl ws H) (q0 t0 : Nat) {cA : ClassId} {n : Nat} {f : Nat → Int32} (ha : ws[q0]? = some (a, .inl (cA, n, .inl f))) (ht : tys[t0]? = some (cA, .int)) {i : Int32} (hout : ¬ vp_in i n) (hdg : decode cc pc = .ok (.iaload, 1))
    (k : ∀ tx : String, tx = (toString "Index " ++ toString i ++ toString " out of bounds for length " ++ toString n : String) → vx_Note p l e R s m args below meth c H locs cells slots Q (F0 m pc ls rest) "java/lang/ArrayIndexOutOfBoundsException" tx) : W p l e R s m args below meth c H locs cells slots Q (F0 m pc ls (.int i :: .ref a :: rest)) := by
  intro T hT X
  obtain ⟨t, st, q⟩ := k _ rfl T hT X
  refine ⟨t, ?_, q⟩
  have h1 := X.ialoadOut hexec (by rw [hT]; exact hP q0 _ ha) ((hK.2 t0 _ ht).1 n (fun j => .int (f j))) (j := i) (by show (i < 0 ∨ (arrV _ _ _).slots.size ≤ _); rw [arrV_size]; exact Classical.byContradiction hout) (g := F0 m pc ls (.int i :: .ref a :: rest)) rfl (rest := rest) rfl (by rw [hb]; exact hdg) t
  simp only [arrV_size] at h1
  exact h1 st
theorem vx_iastZ {D : va_G} {cl : List vw_C} {ws : va_W} {tys : List (ClassId × FieldType)} {a : Nat} (hexec : p.tables.exec = Jvm.exec) (hb : c.code = cc) (hK : va_K D cl tys s) (hP : va_P D cl ws H) (q0 t0 : Nat) {cA : ClassId} {n : Nat} {f : Nat → Int32} (ha : ws[q0]? = some (a, .inl (cA, n, .inl f))) (ht : tys[t0]? = some (cA, .int)) {i : Int32} {x : Int32} (hout : ¬ vp_in i n) (hdg : decode cc pc = .ok (.iastore, 1))
    (k : ∀ tx : String, tx = (toString "Index " ++ toString i ++ toString " out of bounds for length " ++ toString n : String) → vx_Note p l e R s m args below meth c H locs cells slots Q (F0 m pc ls rest) "java/lang/ArrayIndexOutOfBoundsException" tx) : W p l e R s m args below meth c H locs cells slots Q (F0 m pc ls (.int x :: .int i :: .ref a :: rest)) := by
  intro T hT X
  obtain ⟨t, st, q⟩ := k _ rfl T hT X
  refine ⟨t, ?_, q⟩
  have h1 := X.iastoreOut hexec (by rw [hT]; exact hP q0 _ ha) ((hK.2 t0 _ ht).1 n (fun j => .int (f j))) (j := i) (by show (i < 0 ∨ (arrV _ _ _).slots.size ≤ _); rw [arrV_size]; exact Classical.byContradiction hout) (g := F0 m pc ls (.int x :: .int i :: .ref a :: rest)) rfl (rest := rest) rfl (by rw [hb]; exact hdg) t
  simp only [arrV_size] at h1
  exact h1 st
theorem vx_baldZ {D : va_G} {cl : List vw_C} {ws : va_W} {tys : List (ClassId × FieldType)} {a : Nat} (hexec : p.tables.exec = Jvm.exec) (hb : c.code = cc) (hK : va_K D cl tys s) (hP : va_P D cl ws H) (q0 t0 : Nat) {cA : ClassId} {n : Nat} {f : Nat → Int32} (ha : ws[q0]? = some (a, .inl (cA, n, .inl f))) (ht : tys[t0]? = some (cA, .byte)) {i : Int32} (hout : ¬ vp_in i n) (hdg : decode cc pc = .ok (.baload, 1))
    (k : ∀ tx : String, tx = (toString "Index " ++ toString i ++ toString " out of bounds for length " ++ toString n : String) → vx_Note p l e R s m args below meth c H locs cells slots Q (F0 m pc ls rest) "java/lang/ArrayIndexOutOfBoundsException" tx) : W p l e R s m args below meth c H locs cells slots Q (F0 m pc ls (.int i :: .ref a :: rest)) := by
  intro T hT X
  obtain ⟨t, st, q⟩ := k _ rfl T hT X
  refine ⟨t, ?_, q⟩
  have h1 := X.baloadOut hexec (by rw [hT]; exact hP q0 _ ha) ((hK.2 t0 _ ht).1 n (fun j => .int (f j))) (j := i) (by show (i < 0 ∨ (arrV _ _ _).slots.size ≤ _); rw [arrV_size]; exact Classical.byContradiction hout) (g := F0 m pc ls (.int i :: .ref a :: rest)) rfl (rest := rest) rfl (by rw [hb]; exact hdg) t
  simp only [arrV_size] at h1
  exact h1 st
theorem vx_bastZ {D : va_G} {cl : List vw_C} {ws : va_W} {tys : List (ClassId × FieldType)} {a : Nat} (hexec : p.tables.exec = Jvm.exec) (hb : c.code = cc) (hK : va_K D cl tys s) (hP : va_P D cl ws H) (q0 t0 : Nat) {cA : ClassId} {n : Nat} {f : Nat → Int32} (ha : ws[q0]? = some (a, .inl (cA, n, .inl f))) (ht : tys[t0]? = some (cA, .byte)) {i : Int32} {x : Int32} (hout : ¬ vp_in i n) (hdg : decode cc pc = .ok (.bastore, 1))
    (k : ∀ tx : String, tx = (toString "Index " ++ toString i ++ toString " out of bounds for length " ++ toString n : String) → vx_Note p l e R s m args below meth c H locs cells slots Q (F0 m pc ls rest) "java/lang/ArrayIndexOutOfBoundsException" tx) : W p l e R s m args below meth c H locs cells slots Q (F0 m pc ls (.int x :: .int i :: .ref a :: rest)) := by
  intro T hT X
  obtain ⟨t, st, q⟩ := k _ rfl T hT X
  refine ⟨t, ?_, q⟩
  have h1 := X.bastoreOut hexec (by rw [hT]; exact hP q0 _ ha) ((hK.2 t0 _ ht).1 n (fun j => .int (f j))) (j := i) (by show (i < 0 ∨ (arrV _ _ _).slots.size ≤ _); rw [arrV_size]; exact Classical.byContradiction hout) (g := F0 m pc ls (.int x :: .int i :: .ref a :: rest)) rfl (rest := rest) rfl (by rw [hb]; exact hdg) t
  simp only [arrV_size] at h1
  exact h1 st
theorem vx_zaldZ {D : va_G} {cl : List vw_C} {ws : va_W} {tys : List (ClassId × FieldType)} {a : Nat} (hexec : p.tables.exec = Jvm.exec) (hb : c.code = cc) (hK : va_K D cl tys s) (hP : va_P D cl ws H) (q0 t0 : Nat) {cA : ClassId} {n : Nat} {f : Nat → Int32} (ha : ws[q0]? = some (a, .inl (cA, n, .inl f))) (ht : tys[t0]? = some (cA, .boolean)) {i : Int32} (hout : ¬ vp_in i n) (hdg : decode cc pc = .ok (.baload, 1))
    (k : ∀ tx : String, tx = (toString "Index " ++ toString i ++ toString " out of bounds for length " ++ toString n : String) → vx_Note p l e R s m args below meth c H locs cells slots Q (F0 m pc ls rest) "java/lang/ArrayIndexOutOfBoundsException" tx) : W p l e R s m args below meth c H locs cells slots Q (F0 m pc ls (.int i :: .ref a :: rest)) := by
  intro T hT X
  obtain ⟨t, st, q⟩ := k _ rfl T hT X
  refine ⟨t, ?_, q⟩
  have h1 := X.baloadOut hexec (by rw [hT]; exact hP q0 _ ha) ((hK.2 t0 _ ht).1 n (fun j => .int (f j))) (j := i) (by show (i < 0 ∨ (arrV _ _ _).slots.size ≤ _); rw [arrV_size]; exact Classical.byContradiction hout) (g := F0 m pc ls (.int i :: .ref a :: rest)) rfl (rest := rest) rfl (by rw [hb]; exact hdg) t
  simp only [arrV_size] at h1
  exact h1 st
theorem vx_zastZ {D : va_G} {cl : List vw_C} {ws : va_W} {tys : List (ClassId × FieldType)} {a : Nat} (hexec : p.tables.exec = Jvm.exec) (hb : c.code = cc) (hK : va_K D cl tys s) (hP : va_P D cl ws H) (q0 t0 : Nat) {cA : ClassId} {n : Nat} {f : Nat → Int32} (ha : ws[q0]? = some (a, .inl (cA, n, .inl f))) (ht : tys[t0]? = some (cA, .boolean)) {i : Int32} {x : Int32} (hout : ¬ vp_in i n) (hdg : decode cc pc = .ok (.bastore, 1))
    (k : ∀ tx : String, tx = (toString "Index " ++ toString i ++ toString " out of bounds for length " ++ toString n : String) → vx_Note p l e R s m args below meth c H locs cells slots Q (F0 m pc ls rest) "java/lang/ArrayIndexOutOfBoundsException" tx) : W p l e R s m args below meth c H locs cells slots Q (F0 m pc ls (.int x :: .int i :: .ref a :: rest)) := by
  intro T hT X
  obtain ⟨t, st, q⟩ := k _ rfl T hT X
  refine ⟨t, ?_, q⟩
  have h1 := X.bastoreOut hexec (by rw [hT]; exact hP q0 _ ha) ((hK.2 t0 _ ht).1 n (fun j => .int (f j))) (j := i) (by show (i < 0 ∨ (arrV _ _ _).slots.size ≤ _); rw [arrV_size]; exact Classical.byContradiction hout) (g := F0 m pc ls (.int x :: .int i :: .ref a :: rest)) rfl (rest := rest) rfl (by rw [hb]; exact hdg) t
  simp only [arrV_size] at h1
  exact h1 st
theorem vx_caldZ {D : va_G} {cl : List vw_C} {ws : va_W} {tys : List (ClassId × FieldType)} {a : Nat} (hexec : p.tables.exec = Jvm.exec) (hb : c.code = cc) (hK : va_K D cl tys s) (hP : va_P D cl ws H) (q0 t0 : Nat) {cA : ClassId} {n : Nat} {f : Nat → Int32} (ha : ws[q0]? = some (a, .inl (cA, n, .inl f))) (ht : tys[t0]? = some (cA, .char)) {i : Int32} (hout : ¬ vp_in i n) (hdg : decode cc pc = .ok (.caload, 1))
    (k : ∀ tx : String, tx = (toString "Index " ++ toString i ++ toString " out of bounds for length " ++ toString n : String) → vx_Note p l e R s m args below meth c H locs cells slots Q (F0 m pc ls rest) "java/lang/ArrayIndexOutOfBoundsException" tx) : W p l e R s m args below meth c H locs cells slots Q (F0 m pc ls (.int i :: .ref a :: rest)) := by
  intro T hT X
  obtain ⟨t, st, q⟩ := k _ rfl T hT X
  refine ⟨t, ?_, q⟩
  have h1 := X.caloadOut hexec (by rw [hT]; exact hP q0 _ ha) ((hK.2 t0 _ ht).1 n (fun j => .int (f j))) (j := i) (by show (i < 0 ∨ (arrV _ _ _).slots.size ≤ _); rw [arrV_size]; exact Classical.byContradiction hout) (g := F0 m pc ls (.int i :: .ref a :: rest)) rfl (rest := rest) rfl (by rw [hb]; exact hdg) t
  simp only [arrV_size] at h1
  exact h1 st
theorem vx_castZ {D : va_G} {cl : List vw_C} {ws : va_W} {tys : List (ClassId × FieldType)} {a : Nat} (hexec : p.tables.exec = Jvm.exec) (hb : c.code = cc) (hK : va_K D cl tys s) (hP : va_P D cl ws H) (q0 t0 : Nat) {cA : ClassId} {n : Nat} {f : Nat → Int32} (ha : ws[q0]? = some (a, .inl (cA, n, .inl f))) (ht : tys[t0]? = some (cA, .char)) {i : Int32} {x : Int32} (hout : ¬ vp_in i n) (hdg : decode cc pc = .ok (.castore, 1))
    (k : ∀ tx : String, tx = (toString "Index " ++ toString i ++ toString " out of bounds for length " ++ toString n : String) → vx_Note p l e R s m args below meth c H locs cells slots Q (F0 m pc ls rest) "java/lang/ArrayIndexOutOfBoundsException" tx) : W p l e R s m args below meth c H locs cells slots Q (F0 m pc ls (.int x :: .int i :: .ref a :: rest)) := by
  intro T hT X
  obtain ⟨t, st, q⟩ := k _ rfl T hT X
  refine ⟨t, ?_, q⟩
  have h1 := X.castoreOut hexec (by rw [hT]; exact hP q0 _ ha) ((hK.2 t0 _ ht).1 n (fun j => .int (f j))) (j := i) (by show (i < 0 ∨ (arrV _ _ _).slots.size ≤ _); rw [arrV_size]; exact Classical.byContradiction hout) (g := F0 m pc ls (.int x :: .int i :: .ref a :: rest)) rfl (rest := rest) rfl (by rw [hb]; exact hdg) t
  simp only [arrV_size] at h1
  exact h1 st
theorem vx_saldZ {D : va_G} {cl : List vw_C} {ws : va_W} {tys : List (ClassId × FieldType)} {a : Nat} (hexec : p.tables.exec = Jvm.exec) (hb : c.code = cc) (hK : va_K D cl tys s) (hP : va_P D cl ws H) (q0 t0 : Nat) {cA : ClassId} {n : Nat} {f : Nat → Int32} (ha : ws[q0]? = some (a, .inl (cA, n, .inl f))) (ht : tys[t0]? = some (cA, .short)) {i : Int32} (hout : ¬ vp_in i n) (hdg : decode cc pc = .ok (.saload, 1))
    (k : ∀ tx : String, tx = (toString "Index " ++ toString i ++ toString " out of bounds for length " ++ toString n : String) → vx_Note p l e R s m args below meth c H locs cells slots Q (F0 m pc ls rest) "java/lang/ArrayIndexOutOfBoundsException" tx) : W p l e R s m args below meth c H locs cells slots Q (F0 m pc ls (.int i :: .ref a :: rest)) := by
  intro T hT X
  obtain ⟨t, st, q⟩ := k _ rfl T hT X
  refine ⟨t, ?_, q⟩
  have h1 := X.saloadOut hexec (by rw [hT]; exact hP q0 _ ha) ((hK.2 t0 _ ht).1 n (fun j => .int (f j))) (j := i) (by show (i < 0 ∨ (arrV _ _ _).slots.size ≤ _); rw [arrV_size]; exact Classical.byContradiction hout) (g := F0 m pc ls (.int i :: .ref a :: rest)) rfl (rest := rest) rfl (by rw [hb]; exact hdg) t
  simp only [arrV_size] at h1
  exact h1 st
theorem vx_sastZ {D : va_G} {cl : List vw_C} {ws : va_W} {tys : List (ClassId × FieldType)} {a : Nat} (hexec : p.tables.exec = Jvm.exec) (hb : c.code = cc) (hK : va_K D cl tys s) (hP : va_P D cl ws H) (q0 t0 : Nat) {cA : ClassId} {n : Nat} {f : Nat → Int32} (ha : ws[q0]? = some (a, .inl (cA, n, .inl f))) (ht : tys[t0]? = some (cA, .short)) {i : Int32} {x : Int32} (hout : ¬ vp_in i n) (hdg : decode cc pc = .ok (.sastore, 1))
    (k : ∀ tx : String, tx = (toString "Index " ++ toString i ++ toString " out of bounds for length " ++ toString n : String) → vx_Note p l e R s m args below meth c H locs cells slots Q (F0 m pc ls rest) "java/lang/ArrayIndexOutOfBoundsException" tx) : W p l e R s m args below meth c H locs cells slots Q (F0 m pc ls (.int x :: .int i :: .ref a :: rest)) := by
  intro T hT X
  obtain ⟨t, st, q⟩ := k _ rfl T hT X
  refine ⟨t, ?_, q⟩
  have h1 := X.sastoreOut hexec (by rw [hT]; exact hP q0 _ ha) ((hK.2 t0 _ ht).1 n (fun j => .int (f j))) (j := i) (by show (i < 0 ∨ (arrV _ _ _).slots.size ≤ _); rw [arrV_size]; exact Classical.byContradiction hout) (g := F0 m pc ls (.int x :: .int i :: .ref a :: rest)) rfl (rest := rest) rfl (by rw [hb]; exact hdg) t
  simp only [arrV_size] at h1
  exact h1 st
theorem vx_laldZ {D : va_G} {cl : List vw_C} {ws : va_W} {tys : List (ClassId × FieldType)} {a : Nat} (hexec : p.tables.exec = Jvm.exec) (hb : c.code = cc) (hK : va_K D cl tys s) (hP : va_P D cl ws H) (q0 t0 : Nat) {cA : ClassId} {n : Nat} {f : Nat → Int64} (ha : ws[q0]? = some (a, .inl (cA, n, .inr (.inl f)))) (ht : tys[t0]? = some (cA, .long)) {i : Int32} (hout : ¬ vp_in i n) (hdg : decode cc pc = .ok (.laload, 1))
    (k : ∀ tx : String, tx = (toString "Index " ++ toString i ++ toString " out of bounds for length " ++ toString n : String) → vx_Note p l e R s m args below meth c H locs cells slots Q (F0 m pc ls rest) "java/lang/ArrayIndexOutOfBoundsException" tx) : W p l e R s m args below meth c H locs cells slots Q (F0 m pc ls (.int i :: .ref a :: rest)) := by
  intro T hT X
  obtain ⟨t, st, q⟩ := k _ rfl T hT X
  refine ⟨t, ?_, q⟩
  have h1 := X.laloadOut hexec (by rw [hT]; exact hP q0 _ ha) ((hK.2 t0 _ ht).1 n (fun j => .long (f j))) (j := i) (by show (i < 0 ∨ (arrV _ _ _).slots.size ≤ _); rw [arrV_size]; exact Classical.byContradiction hout) (g := F0 m pc ls (.int i :: .ref a :: rest)) rfl (rest := rest) rfl (by rw [hb]; exact hdg) t
  simp only [arrV_size] at h1
  exact h1 st
theorem vx_lastZ {D : va_G} {cl : List vw_C} {ws : va_W} {tys : List (ClassId × FieldType)} {a : Nat} (hexec : p.tables.exec = Jvm.exec) (hb : c.code = cc) (hK : va_K D cl tys s) (hP : va_P D cl ws H) (q0 t0 : Nat) {cA : ClassId} {n : Nat} {f : Nat → Int64} (ha : ws[q0]? = some (a, .inl (cA, n, .inr (.inl f)))) (ht : tys[t0]? = some (cA, .long)) {i : Int32} {x : Int64} (hout : ¬ vp_in i n) (hdg : decode cc pc = .ok (.lastore, 1))
    (k : ∀ tx : String, tx = (toString "Index " ++ toString i ++ toString " out of bounds for length " ++ toString n : String) → vx_Note p l e R s m args below meth c H locs cells slots Q (F0 m pc ls rest) "java/lang/ArrayIndexOutOfBoundsException" tx) : W p l e R s m args below meth c H locs cells slots Q (F0 m pc ls (.long x :: .int i :: .ref a :: rest)) := by
  intro T hT X
  obtain ⟨t, st, q⟩ := k _ rfl T hT X
  refine ⟨t, ?_, q⟩
  have h1 := X.lastoreOut hexec (by rw [hT]; exact hP q0 _ ha) ((hK.2 t0 _ ht).1 n (fun j => .long (f j))) (j := i) (by show (i < 0 ∨ (arrV _ _ _).slots.size ≤ _); rw [arrV_size]; exact Classical.byContradiction hout) (g := F0 m pc ls (.long x :: .int i :: .ref a :: rest)) rfl (rest := rest) rfl (by rw [hb]; exact hdg) t
  simp only [arrV_size] at h1
  exact h1 st
theorem vx_faldZ {D : va_G} {cl : List vw_C} {ws : va_W} {tys : List (ClassId × FieldType)} {a : Nat} (hexec : p.tables.exec = Jvm.exec) (hb : c.code = cc) (hK : va_K D cl tys s) (hP : va_P D cl ws H) (q0 t0 : Nat) {cA : ClassId} {n : Nat} {f : Nat → UInt32} (ha : ws[q0]? = some (a, .inl (cA, n, .inr (.inr (.inl f))))) (ht : tys[t0]? = some (cA, .float)) {i : Int32} (hout : ¬ vp_in i n) (hdg : decode cc pc = .ok (.faload, 1))
    (k : ∀ tx : String, tx = (toString "Index " ++ toString i ++ toString " out of bounds for length " ++ toString n : String) → vx_Note p l e R s m args below meth c H locs cells slots Q (F0 m pc ls rest) "java/lang/ArrayIndexOutOfBoundsException" tx) : W p l e R s m args below meth c H locs cells slots Q (F0 m pc ls (.int i :: .ref a :: rest)) := by
  intro T hT X
  obtain ⟨t, st, q⟩ := k _ rfl T hT X
  refine ⟨t, ?_, q⟩
  have h1 := X.faloadOut hexec (by rw [hT]; exact hP q0 _ ha) ((hK.2 t0 _ ht).1 n (fun j => .float (f j))) (j := i) (by show (i < 0 ∨ (arrV _ _ _).slots.size ≤ _); rw [arrV_size]; exact Classical.byContradiction hout) (g := F0 m pc ls (.int i :: .ref a :: rest)) rfl (rest := rest) rfl (by rw [hb]; exact hdg) t
  simp only [arrV_size] at h1
  exact h1 st
theorem vx_fastZ {D : va_G} {cl : List vw_C} {ws : va_W} {tys : List (ClassId × FieldType)} {a : Nat} (hexec : p.tables.exec = Jvm.exec) (hb : c.code = cc) (hK : va_K D cl tys s) (hP : va_P D cl ws H) (q0 t0 : Nat) {cA : ClassId} {n : Nat} {f : Nat → UInt32} (ha : ws[q0]? = some (a, .inl (cA, n, .inr (.inr (.inl f))))) (ht : tys[t0]? = some (cA, .float)) {i : Int32} {x : UInt32} (hout : ¬ vp_in i n) (hdg : decode cc pc = .ok (.fastore, 1))
    (k : ∀ tx : String, tx = (toString "Index " ++ toString i ++ toString " out of bounds for length " ++ toString n : String) → vx_Note p l e R s m args below meth c H locs cells slots Q (F0 m pc ls rest) "java/lang/ArrayIndexOutOfBoundsException" tx) : W p l e R s m args below meth c H locs cells slots Q (F0 m pc ls (.float x :: .int i :: .ref a :: rest)) := by
  intro T hT X
  obtain ⟨t, st, q⟩ := k _ rfl T hT X
  refine ⟨t, ?_, q⟩
  have h1 := X.fastoreOut hexec (by rw [hT]; exact hP q0 _ ha) ((hK.2 t0 _ ht).1 n (fun j => .float (f j))) (j := i) (by show (i < 0 ∨ (arrV _ _ _).slots.size ≤ _); rw [arrV_size]; exact Classical.byContradiction hout) (g := F0 m pc ls (.float x :: .int i :: .ref a :: rest)) rfl (rest := rest) rfl (by rw [hb]; exact hdg) t
  simp only [arrV_size] at h1
  exact h1 st
theorem vx_daldZ {D : va_G} {cl : List vw_C} {ws : va_W} {tys : List (ClassId × FieldType)} {a : Nat} (hexec : p.tables.exec = Jvm.exec) (hb : c.code = cc) (hK : va_K D cl tys s) (hP : va_P D cl ws H) (q0 t0 : Nat) {cA : ClassId} {n : Nat} {f : Nat → UInt64} (ha : ws[q0]? = some (a, .inl (cA, n, .inr (.inr (.inr (.inl f)))))) (ht : tys[t0]? = some (cA, .double)) {i : Int32} (hout : ¬ vp_in i n) (hdg : decode cc pc = .ok (.daload, 1))
    (k : ∀ tx : String, tx = (toString "Index " ++ toString i ++ toString " out of bounds for length " ++ toString n : String) → vx_Note p l e R s m args below meth c H locs cells slots Q (F0 m pc ls rest) "java/lang/ArrayIndexOutOfBoundsException" tx) : W p l e R s m args below meth c H locs cells slots Q (F0 m pc ls (.int i :: .ref a :: rest)) := by
  intro T hT X
  obtain ⟨t, st, q⟩ := k _ rfl T hT X
  refine ⟨t, ?_, q⟩
  have h1 := X.daloadOut hexec (by rw [hT]; exact hP q0 _ ha) ((hK.2 t0 _ ht).1 n (fun j => .double (f j))) (j := i) (by show (i < 0 ∨ (arrV _ _ _).slots.size ≤ _); rw [arrV_size]; exact Classical.byContradiction hout) (g := F0 m pc ls (.int i :: .ref a :: rest)) rfl (rest := rest) rfl (by rw [hb]; exact hdg) t
  simp only [arrV_size] at h1
  exact h1 st
theorem vx_dastZ {D : va_G} {cl : List vw_C} {ws : va_W} {tys : List (ClassId × FieldType)} {a : Nat} (hexec : p.tables.exec = Jvm.exec) (hb : c.code = cc) (hK : va_K D cl tys s) (hP : va_P D cl ws H) (q0 t0 : Nat) {cA : ClassId} {n : Nat} {f : Nat → UInt64} (ha : ws[q0]? = some (a, .inl (cA, n, .inr (.inr (.inr (.inl f)))))) (ht : tys[t0]? = some (cA, .double)) {i : Int32} {x : UInt64} (hout : ¬ vp_in i n) (hdg : decode cc pc = .ok (.dastore, 1))
    (k : ∀ tx : String, tx = (toString "Index " ++ toString i ++ toString " out of bounds for length " ++ toString n : String) → vx_Note p l e R s m args below meth c H locs cells slots Q (F0 m pc ls rest) "java/lang/ArrayIndexOutOfBoundsException" tx) : W p l e R s m args below meth c H locs cells slots Q (F0 m pc ls (.double x :: .int i :: .ref a :: rest)) := by
  intro T hT X
  obtain ⟨t, st, q⟩ := k _ rfl T hT X
  refine ⟨t, ?_, q⟩
  have h1 := X.dastoreOut hexec (by rw [hT]; exact hP q0 _ ha) ((hK.2 t0 _ ht).1 n (fun j => .double (f j))) (j := i) (by show (i < 0 ∨ (arrV _ _ _).slots.size ≤ _); rw [arrV_size]; exact Classical.byContradiction hout) (g := F0 m pc ls (.double x :: .int i :: .ref a :: rest)) rfl (rest := rest) rfl (by rw [hb]; exact hdg) t
  simp only [arrV_size] at h1
  exact h1 st
theorem vx_arraylengthN (hexec : p.tables.exec = Jvm.exec) (hb : c.code = cc) (hdg : decode cc pc = .ok (.arraylength, 1)) (k : vx_NoteN p l e R s m args below meth c H locs cells slots Q (F0 m pc ls rest)) : W p l e R s m args below meth c H locs cells slots Q (F0 m pc ls (.null :: rest)) := by
  intro T hT X
  obtain ⟨t, st, q⟩ := k T hT X
  exact ⟨t, X.arraylengthNull hexec (g := F0 m pc ls (.null :: rest)) rfl (rest := rest) rfl (by rw [hb]; exact hdg) t st, q⟩
theorem vx_ialoadN (hexec : p.tables.exec = Jvm.exec) (hb : c.code = cc) {i : Int32} (hdg : decode cc pc = .ok (.iaload, 1)) (k : vx_NoteN p l e R s m args below meth c H locs cells slots Q (F0 m pc ls rest)) : W p l e R s m args below meth c H locs cells slots Q (F0 m pc ls (.int i :: .null :: rest)) := by
  intro T hT X
  obtain ⟨t, st, q⟩ := k T hT X
  exact ⟨t, X.ialoadNull hexec (g := F0 m pc ls (.int i :: .null :: rest)) rfl (rest := rest) rfl (by rw [hb]; exact hdg) t st, q⟩
theorem vx_laloadN (hexec : p.tables.exec = Jvm.exec) (hb : c.code = cc) {i : Int32} (hdg : decode cc pc = .ok (.laload, 1)) (k : vx_NoteN p l e R s m args below meth c H locs cells slots Q (F0 m pc ls rest)) : W p l e R s m args below meth c H locs cells slots Q (F0 m pc ls (.int i :: .null :: rest)) := by
  intro T hT X
  obtain ⟨t, st, q⟩ := k T hT X
  exact ⟨t, X.laloadNull hexec (g := F0 m pc ls (.int i :: .null :: rest)) rfl (rest := rest) rfl (by rw [hb]; exact hdg) t st, q⟩
theorem vx_faloadN (hexec : p.tables.exec = Jvm.exec) (hb : c.code = cc) {i : Int32} (hdg : decode cc pc = .ok (.faload, 1)) (k : vx_NoteN p l e R s m args below meth c H locs cells slots Q (F0 m pc ls rest)) : W p l e R s m args below meth c H locs cells slots Q (F0 m pc ls (.int i :: .null :: rest)) := by
  intro T hT X
  obtain ⟨t, st, q⟩ := k T hT X
  exact ⟨t, X.faloadNull hexec (g := F0 m pc ls (.int i :: .null :: rest)) rfl (rest := rest) rfl (by rw [hb]; exact hdg) t st, q⟩
theorem vx_daloadN (hexec : p.tables.exec = Jvm.exec) (hb : c.code = cc) {i : Int32} (hdg : decode cc pc = .ok (.daload, 1)) (k : vx_NoteN p l e R s m args below meth c H locs cells slots Q (F0 m pc ls rest)) : W p l e R s m args below meth c H locs cells slots Q (F0 m pc ls (.int i :: .null :: rest)) := by
  intro T hT X
  obtain ⟨t, st, q⟩ := k T hT X
  exact ⟨t, X.daloadNull hexec (g := F0 m pc ls (.int i :: .null :: rest)) rfl (rest := rest) rfl (by rw [hb]; exact hdg) t st, q⟩
theorem vx_aaloadN (hexec : p.tables.exec = Jvm.exec) (hb : c.code = cc) {i : Int32} (hdg : decode cc pc = .ok (.aaload, 1)) (k : vx_NoteN p l e R s m args below meth c H locs cells slots Q (F0 m pc ls rest)) : W p l e R s m args below meth c H locs cells slots Q (F0 m pc ls (.int i :: .null :: rest)) := by
  intro T hT X
  obtain ⟨t, st, q⟩ := k T hT X
  exact ⟨t, X.aaloadNull hexec (g := F0 m pc ls (.int i :: .null :: rest)) rfl (rest := rest) rfl (by rw [hb]; exact hdg) t st, q⟩
theorem vx_baloadN (hexec : p.tables.exec = Jvm.exec) (hb : c.code = cc) {i : Int32} (hdg : decode cc pc = .ok (.baload, 1)) (k : vx_NoteN p l e R s m args below meth c H locs cells slots Q (F0 m pc ls rest)) : W p l e R s m args below meth c H locs cells slots Q (F0 m pc ls (.int i :: .null :: rest)) := by
  intro T hT X
  obtain ⟨t, st, q⟩ := k T hT X
  exact ⟨t, X.baloadNull hexec (g := F0 m pc ls (.int i :: .null :: rest)) rfl (rest := rest) rfl (by rw [hb]; exact hdg) t st, q⟩
theorem vx_caloadN (hexec : p.tables.exec = Jvm.exec) (hb : c.code = cc) {i : Int32} (hdg : decode cc pc = .ok (.caload, 1)) (k : vx_NoteN p l e R s m args below meth c H locs cells slots Q (F0 m pc ls rest)) : W p l e R s m args below meth c H locs cells slots Q (F0 m pc ls (.int i :: .null :: rest)) := by
  intro T hT X
  obtain ⟨t, st, q⟩ := k T hT X
  exact ⟨t, X.caloadNull hexec (g := F0 m pc ls (.int i :: .null :: rest)) rfl (rest := rest) rfl (by rw [hb]; exact hdg) t st, q⟩
theorem vx_saloadN (hexec : p.tables.exec = Jvm.exec) (hb : c.code = cc) {i : Int32} (hdg : decode cc pc = .ok (.saload, 1)) (k : vx_NoteN p l e R s m args below meth c H locs cells slots Q (F0 m pc ls rest)) : W p l e R s m args below meth c H locs cells slots Q (F0 m pc ls (.int i :: .null :: rest)) := by
  intro T hT X
  obtain ⟨t, st, q⟩ := k T hT X
  exact ⟨t, X.saloadNull hexec (g := F0 m pc ls (.int i :: .null :: rest)) rfl (rest := rest) rfl (by rw [hb]; exact hdg) t st, q⟩
theorem vx_iastoreN (hexec : p.tables.exec = Jvm.exec) (hb : c.code = cc) {x : Int32} {i : Int32} (hdg : decode cc pc = .ok (.iastore, 1)) (k : vx_NoteN p l e R s m args below meth c H locs cells slots Q (F0 m pc ls rest)) : W p l e R s m args below meth c H locs cells slots Q (F0 m pc ls (.int x :: .int i :: .null :: rest)) := by
  intro T hT X
  obtain ⟨t, st, q⟩ := k T hT X
  exact ⟨t, X.iastoreNull hexec (g := F0 m pc ls (.int x :: .int i :: .null :: rest)) rfl (rest := rest) rfl (by rw [hb]; exact hdg) t st, q⟩
theorem vx_lastoreN (hexec : p.tables.exec = Jvm.exec) (hb : c.code = cc) {x : Int64} {i : Int32} (hdg : decode cc pc = .ok (.lastore, 1)) (k : vx_NoteN p l e R s m args below meth c H locs cells slots Q (F0 m pc ls rest)) : W p l e R s m args below meth c H locs cells slots Q (F0 m pc ls (.long x :: .int i :: .null :: rest)) := by
  intro T hT X
  obtain ⟨t, st, q⟩ := k T hT X
  exact ⟨t, X.lastoreNull hexec (g := F0 m pc ls (.long x :: .int i :: .null :: rest)) rfl (rest := rest) rfl (by rw [hb]; exact hdg) t st, q⟩
theorem vx_fastoreN (hexec : p.tables.exec = Jvm.exec) (hb : c.code = cc) {x : UInt32} {i : Int32} (hdg : decode cc pc = .ok (.fastore, 1)) (k : vx_NoteN p l e R s m args below meth c H locs cells slots Q (F0 m pc ls rest)) : W p l e R s m args below meth c H locs cells slots Q (F0 m pc ls (.float x :: .int i :: .null :: rest)) := by
  intro T hT X
  obtain ⟨t, st, q⟩ := k T hT X
  exact ⟨t, X.fastoreNull hexec (g := F0 m pc ls (.float x :: .int i :: .null :: rest)) rfl (rest := rest) rfl (by rw [hb]; exact hdg) t st, q⟩
theorem vx_dastoreN (hexec : p.tables.exec = Jvm.exec) (hb : c.code = cc) {x : UInt64} {i : Int32} (hdg : decode cc pc = .ok (.dastore, 1)) (k : vx_NoteN p l e R s m args below meth c H locs cells slots Q (F0 m pc ls rest)) : W p l e R s m args below meth c H locs cells slots Q (F0 m pc ls (.double x :: .int i :: .null :: rest)) := by
  intro T hT X
  obtain ⟨t, st, q⟩ := k T hT X
  exact ⟨t, X.dastoreNull hexec (g := F0 m pc ls (.double x :: .int i :: .null :: rest)) rfl (rest := rest) rfl (by rw [hb]; exact hdg) t st, q⟩
theorem vx_bastoreN (hexec : p.tables.exec = Jvm.exec) (hb : c.code = cc) {x : Int32} {i : Int32} (hdg : decode cc pc = .ok (.bastore, 1)) (k : vx_NoteN p l e R s m args below meth c H locs cells slots Q (F0 m pc ls rest)) : W p l e R s m args below meth c H locs cells slots Q (F0 m pc ls (.int x :: .int i :: .null :: rest)) := by
  intro T hT X
  obtain ⟨t, st, q⟩ := k T hT X
  exact ⟨t, X.bastoreNull hexec (g := F0 m pc ls (.int x :: .int i :: .null :: rest)) rfl (rest := rest) rfl (by rw [hb]; exact hdg) t st, q⟩
theorem vx_castoreN (hexec : p.tables.exec = Jvm.exec) (hb : c.code = cc) {x : Int32} {i : Int32} (hdg : decode cc pc = .ok (.castore, 1)) (k : vx_NoteN p l e R s m args below meth c H locs cells slots Q (F0 m pc ls rest)) : W p l e R s m args below meth c H locs cells slots Q (F0 m pc ls (.int x :: .int i :: .null :: rest)) := by
  intro T hT X
  obtain ⟨t, st, q⟩ := k T hT X
  exact ⟨t, X.castoreNull hexec (g := F0 m pc ls (.int x :: .int i :: .null :: rest)) rfl (rest := rest) rfl (by rw [hb]; exact hdg) t st, q⟩
theorem vx_sastoreN (hexec : p.tables.exec = Jvm.exec) (hb : c.code = cc) {x : Int32} {i : Int32} (hdg : decode cc pc = .ok (.sastore, 1)) (k : vx_NoteN p l e R s m args below meth c H locs cells slots Q (F0 m pc ls rest)) : W p l e R s m args below meth c H locs cells slots Q (F0 m pc ls (.int x :: .int i :: .null :: rest)) := by
  intro T hT X
  obtain ⟨t, st, q⟩ := k T hT X
  exact ⟨t, X.sastoreNull hexec (g := F0 m pc ls (.int x :: .int i :: .null :: rest)) rfl (rest := rest) rfl (by rw [hb]; exact hdg) t st, q⟩
theorem vx_invokeN {own C : String} {index maxL : Nat} {y : MethodName} {bytes : ByteArray} {ret : Option FieldType} (hexec : p.tables.exec = Jvm.exec) (hb : c.code = cc) (hown : s.vm.findClass own = some m.cls) (hlink : (Cond.methodLink own index y).before args s = true) (hinst : (Cond.instanceMethod y).before args s = true) (hcode : (Cond.code y bytes maxL ret).before args s = true) (hsel : (Cond.selects C y y).before args s = true)
    (hx : y.cls ≠ "java/lang/invoke/MethodHandle" ∧ y.cls ≠ "java/lang/invoke/VarHandle") {As : List Value} (hlen : (parseMethodDescriptor y.desc).map (fun d => d.parameters.length) = some As.length) (hdg : decode cc pc = .ok (.invokevirtual index, 3))
    (k : vx_NoteN p l e R s m args below meth c H locs cells slots Q (F0 m pc ls rest)) {st0 : List Value} (hst : st0 = As.reverse ++ .null :: rest) : W p l e R s m args below meth c H locs cells slots Q (F0 m pc ls st0) := by
  intro T hT X
  obtain ⟨r0, r, hn, hrm, hstR, hsigR⟩ := va_Decl.of hinst hcode
  obtain ⟨c2, r2, m2, q1, q2, q3, q4, kP, hkP, hkPi⟩ := Cond.selects_spec hsel
  cases hn.symm.trans q3
  have hl9 : As.length = r.sig.parameters.length := by
    rw [hsigR] at hlen
    exact (Option.some.inj hlen).symm
  obtain ⟨vm', X1, st1⟩ := X.invokevirtualNull hexec hown hlink hn hrm hstR hkP hkPi hx (g := F0 m pc ls st0) rfl (argsL := As) (rest := rest) hl9 hst (by rw [hb]; exact hdg)
  obtain ⟨t, st, q⟩ := k (T.setVm vm') hT X1
  exact ⟨t, st1 t st, q⟩
theorem vx_newarrayZ {atype : ArrayType} (hexec : p.tables.exec = Jvm.exec) (hb : c.code = cc) {n : Int32} (h0 : n < 0) (hdg : decode cc pc = .ok (.newarray atype, 2)) (k : ∀ tx : String, tx = toString n → vx_Note p l e R s m args below meth c H locs cells slots Q (F0 m pc ls rest) "java/lang/NegativeArraySizeException" tx) : W p l e R s m args below meth c H locs cells slots Q (F0 m pc ls (.int n :: rest)) := by
  intro T hT X
  obtain ⟨t, st, q⟩ := k _ rfl T hT X
  exact ⟨t, X.newarrayNegative hexec (g := F0 m pc ls (.int n :: rest)) rfl h0 (rest := rest) rfl (by rw [hb]; exact hdg) t st, q⟩
end
end VXM
/-! ===== END ===== -/
end
section
/-! ===== BEGIN printed: names, fields, word lists, decode rows ===== -/
def RX0 : String := "CausalBroadcast$Group"
def TX0 : u_T := fun k => match k with
  | 0 => ("CausalBroadcast$Group", "memberSets", "[I", true)
  | 1 => ("CausalBroadcast$Group", "forced", "[I", true)
  | 2 => ("CausalBroadcast$Group", "messages", "LCausalBroadcast$Messages;", true)
  | 3 => ("CausalBroadcast$Group", "replicas", "[LCausalBroadcast$Replica;", true)
  | 4 => ("CausalBroadcast$Group", "view", "I", false)
  | 5 => ("CausalBroadcast$Group", "proposed", "I", false)
  | 6 => ("CausalBroadcast$Group", "viewStart", "I", false)
  | _ => ("CausalBroadcast$Group", "repeats", "I", false)
def tyX0 : Nat → FieldType := fun k => match k with
  | 0 => .array .int
  | 1 => .array .int
  | 2 => .object "CausalBroadcast$Messages"
  | 3 => .array (.object "CausalBroadcast$Replica")
  | 4 => .int
  | 5 => .int
  | 6 => .int
  | _ => .int
abbrev wsX00 : List Cond := u_ws RX0 TX0 8
theorem nmX0 : ∀ a, a < 8 → ∀ b, b < 8 → a ≠ b → (TX0 a).2.1 ≠ (TX0 b).2.1 := by decide +kernel
theorem tyX0_ok : ∀ k, k < 8 → parseFieldDescriptor (TX0 k).2.2.1 = some (tyX0 k) := by decide +kernel
abbrev cX0_init : ByteArray := prog_2_method_1_code
def yX0_init : MethodName := ⟨RX0, "<init>", "()V"⟩
abbrev cX0_startAnew : ByteArray := prog_2_method_2_code
def yX0_startAnew : MethodName := ⟨RX0, "startAnew", "(I)V"⟩
abbrev cX0_copyFrom : ByteArray := prog_2_method_3_code
def yX0_copyFrom : MethodName := ⟨RX0, "copyFrom", "(LCausalBroadcast$Group;)V"⟩
abbrev cX0_perform : ByteArray := prog_2_method_4_code
def yX0_perform : MethodName := ⟨RX0, "perform", "(CII)Z"⟩
abbrev cX0_canPerform : ByteArray := prog_2_method_5_code
def yX0_canPerform : MethodName := ⟨RX0, "canPerform", "(CII)Z"⟩
abbrev cX0_members : ByteArray := prog_2_method_6_code
def yX0_members : MethodName := ⟨RX0, "members", "()I"⟩
abbrev cX0_isMember : ByteArray := prog_2_method_7_code
def yX0_isMember : MethodName := ⟨RX0, "isMember", "(I)Z"⟩
abbrev cX0_canEnter : ByteArray := prog_2_method_8_code
def yX0_canEnter : MethodName := ⟨RX0, "canEnter", "(I)Z"⟩
abbrev cX0_enter : ByteArray := prog_2_method_9_code
def yX0_enter : MethodName := ⟨RX0, "enter", "(I)I"⟩
abbrev cX0_canQuit : ByteArray := prog_2_method_10_code
def yX0_canQuit : MethodName := ⟨RX0, "canQuit", "(I)Z"⟩
abbrev cX0_quit : ByteArray := prog_2_method_11_code
def yX0_quit : MethodName := ⟨RX0, "quit", "(I)I"⟩
abbrev cX0_canChangeView : ByteArray := prog_2_method_12_code
def yX0_canChangeView : MethodName := ⟨RX0, "canChangeView", "()Z"⟩
abbrev cX0_changeView : ByteArray := prog_2_method_13_code
def yX0_changeView : MethodName := ⟨RX0, "changeView", "()I"⟩
abbrev cX0_force : ByteArray := prog_2_method_14_code
def yX0_force : MethodName := ⟨RX0, "force", "(II)I"⟩
abbrev cX0_isLoggedAmong : ByteArray := prog_2_method_15_code
def yX0_isLoggedAmong : MethodName := ⟨RX0, "isLoggedAmong", "(II)Z"⟩
abbrev cX0_beginView : ByteArray := prog_2_method_16_code
def yX0_beginView : MethodName := ⟨RX0, "beginView", "()V"⟩
abbrev cX0_welcome : ByteArray := prog_2_method_17_code
def yX0_welcome : MethodName := ⟨RX0, "welcome", "(ILCausalBroadcast$Replica;)V"⟩
abbrev cX0_canSend : ByteArray := prog_2_method_18_code
def yX0_canSend : MethodName := ⟨RX0, "canSend", "(I)Z"⟩
abbrev cX0_send : ByteArray := prog_2_method_19_code
def yX0_send : MethodName := ⟨RX0, "send", "(II)I"⟩
abbrev cX0_canReceive : ByteArray := prog_2_method_20_code
def yX0_canReceive : MethodName := ⟨RX0, "canReceive", "(II)Z"⟩
abbrev cX0_receive : ByteArray := prog_2_method_21_code
def yX0_receive : MethodName := ⟨RX0, "receive", "(II)I"⟩
abbrev cX0_receiveRest : ByteArray := prog_2_method_22_code
def yX0_receiveRest : MethodName := ⟨RX0, "receiveRest", "(I)I"⟩
abbrev cX0_deliverWaiting : ByteArray := prog_2_method_23_code
def yX0_deliverWaiting : MethodName := ⟨RX0, "deliverWaiting", "(II)I"⟩
abbrev cX0_deliver : ByteArray := prog_2_method_24_code
def yX0_deliver : MethodName := ⟨RX0, "deliver", "(II)V"⟩
abbrev cX0_canTell : ByteArray := prog_2_method_25_code
def yX0_canTell : MethodName := ⟨RX0, "canTell", "(II)Z"⟩
abbrev cX0_tell : ByteArray := prog_2_method_26_code
def yX0_tell : MethodName := ⟨RX0, "tell", "(II)I"⟩
abbrev cX0_countPlaced : ByteArray := prog_2_method_27_code
def yX0_countPlaced : MethodName := ⟨RX0, "countPlaced", "(II)I"⟩
abbrev cX0_waitingAt : ByteArray := prog_2_method_28_code
def yX0_waitingAt : MethodName := ⟨RX0, "waitingAt", "(II)I"⟩
abbrev cX0_countMissing : ByteArray := prog_2_method_29_code
def yX0_countMissing : MethodName := ⟨RX0, "countMissing", "(II)I"⟩
abbrev cX0_isSettled : ByteArray := prog_2_method_30_code
def yX0_isSettled : MethodName := ⟨RX0, "isSettled", "(II)Z"⟩
abbrev cX0_countUnsettled : ByteArray := prog_2_method_31_code
def yX0_countUnsettled : MethodName := ⟨RX0, "countUnsettled", "(I)I"⟩
abbrev cX0_isWithAll : ByteArray := prog_2_method_32_code
def yX0_isWithAll : MethodName := ⟨RX0, "isWithAll", "(I)Z"⟩
abbrev cX0_findUnaware : ByteArray := prog_2_method_33_code
def yX0_findUnaware : MethodName := ⟨RX0, "findUnaware", "(I)I"⟩
def RX1 : String := "CausalBroadcast$Messages"
def TX1 : u_T := fun k => match k with
  | 0 => ("CausalBroadcast$Messages", "senders", "[I", true)
  | 1 => ("CausalBroadcast$Messages", "payloads", "[I", true)
  | 2 => ("CausalBroadcast$Messages", "views", "[I", true)
  | 3 => ("CausalBroadcast$Messages", "sequences", "[I", true)
  | 4 => ("CausalBroadcast$Messages", "depths", "[I", true)
  | 5 => ("CausalBroadcast$Messages", "clocks", "[I", true)
  | _ => ("CausalBroadcast$Messages", "count", "I", false)
def tyX1 : Nat → FieldType := fun k => match k with
  | 0 => .array .int
  | 1 => .array .int
  | 2 => .array .int
  | 3 => .array .int
  | 4 => .array .int
  | 5 => .array .int
  | _ => .int
abbrev wsX10 : List Cond := u_ws RX1 TX1 7
theorem nmX1 : ∀ a, a < 7 → ∀ b, b < 7 → a ≠ b → (TX1 a).2.1 ≠ (TX1 b).2.1 := by decide +kernel
theorem tyX1_ok : ∀ k, k < 7 → parseFieldDescriptor (TX1 k).2.2.1 = some (tyX1 k) := by decide +kernel
abbrev cX1_init : ByteArray := prog_3_method_1_code
def yX1_init : MethodName := ⟨RX1, "<init>", "()V"⟩
abbrev cX1_has : ByteArray := prog_3_method_2_code
def yX1_has : MethodName := ⟨RX1, "has", "(I)Z"⟩
abbrev cX1_isFull : ByteArray := prog_3_method_3_code
def yX1_isFull : MethodName := ⟨RX1, "isFull", "()Z"⟩
abbrev cX1_entry : ByteArray := prog_3_method_4_code
def yX1_entry : MethodName := ⟨RX1, "entry", "(II)I"⟩
abbrev cX1_add : ByteArray := prog_3_method_5_code
def yX1_add : MethodName := ⟨RX1, "add", "(LCausalBroadcast$Replica;II)V"⟩
abbrev cX1_precedes : ByteArray := prog_3_method_6_code
def yX1_precedes : MethodName := ⟨RX1, "precedes", "(II)Z"⟩
abbrev cX1_greatestDepthBefore : ByteArray := prog_3_method_7_code
def yX1_greatestDepthBefore : MethodName := ⟨RX1, "greatestDepthBefore", "(I)I"⟩
abbrev cX1_greatestDepth : ByteArray := prog_3_method_8_code
def yX1_greatestDepth : MethodName := ⟨RX1, "greatestDepth", "(I)I"⟩
abbrev cX1_countCauses : ByteArray := prog_3_method_9_code
def yX1_countCauses : MethodName := ⟨RX1, "countCauses", "(I)I"⟩
abbrev cX1_countConcurrent : ByteArray := prog_3_method_10_code
def yX1_countConcurrent : MethodName := ⟨RX1, "countConcurrent", "(I)I"⟩
abbrev cX1_copyFrom : ByteArray := prog_3_method_11_code
def yX1_copyFrom : MethodName := ⟨RX1, "copyFrom", "(LCausalBroadcast$Messages;)V"⟩
def RX2 : String := "CausalBroadcast$Replica"
def TX2 : u_T := fun k => match k with
  | 0 => ("CausalBroadcast$Replica", "self", "I", true)
  | 1 => ("CausalBroadcast$Replica", "log", "[I", true)
  | 2 => ("CausalBroadcast$Replica", "places", "[I", true)
  | 3 => ("CausalBroadcast$Replica", "table", "[I", true)
  | 4 => ("CausalBroadcast$Replica", "length", "I", false)
  | _ => ("CausalBroadcast$Replica", "value", "I", false)
def tyX2 : Nat → FieldType := fun k => match k with
  | 0 => .int
  | 1 => .array .int
  | 2 => .array .int
  | 3 => .array .int
  | 4 => .int
  | _ => .int
abbrev wsX20 : List Cond := u_ws RX2 TX2 6
theorem nmX2 : ∀ a, a < 6 → ∀ b, b < 6 → a ≠ b → (TX2 a).2.1 ≠ (TX2 b).2.1 := by decide +kernel
theorem tyX2_ok : ∀ k, k < 6 → parseFieldDescriptor (TX2 k).2.2.1 = some (tyX2 k) := by decide +kernel
abbrev cX2_init : ByteArray := prog_4_method_1_code
def yX2_init : MethodName := ⟨RX2, "<init>", "(I)V"⟩
abbrev cX2_startAnew : ByteArray := prog_4_method_2_code
def yX2_startAnew : MethodName := ⟨RX2, "startAnew", "()V"⟩
abbrev cX2_forgetTable : ByteArray := prog_4_method_3_code
def yX2_forgetTable : MethodName := ⟨RX2, "forgetTable", "()V"⟩
abbrev cX2_hasLogged : ByteArray := prog_4_method_4_code
def yX2_hasLogged : MethodName := ⟨RX2, "hasLogged", "(I)Z"⟩
abbrev cX2_heard : ByteArray := prog_4_method_5_code
def yX2_heard : MethodName := ⟨RX2, "heard", "(II)I"⟩
abbrev cX2_entry : ByteArray := prog_4_method_6_code
def yX2_entry : MethodName := ⟨RX2, "entry", "(I)I"⟩
abbrev cX2_deliver : ByteArray := prog_4_method_7_code
def yX2_deliver : MethodName := ⟨RX2, "deliver", "(III)V"⟩
abbrev cX2_isReadyFor : ByteArray := prog_4_method_8_code
def yX2_isReadyFor : MethodName := ⟨RX2, "isReadyFor", "(LCausalBroadcast$Messages;I)Z"⟩
abbrev cX2_learnFromClock : ByteArray := prog_4_method_9_code
def yX2_learnFromClock : MethodName := ⟨RX2, "learnFromClock", "(LCausalBroadcast$Messages;I)V"⟩
abbrev cX2_learnFromTable : ByteArray := prog_4_method_10_code
def yX2_learnFromTable : MethodName := ⟨RX2, "learnFromTable", "(LCausalBroadcast$Replica;)I"⟩
abbrev cX2_countShared : ByteArray := prog_4_method_11_code
def yX2_countShared : MethodName := ⟨RX2, "countShared", "(LCausalBroadcast$Replica;)I"⟩
abbrev cX2_countSwapped : ByteArray := prog_4_method_12_code
def yX2_countSwapped : MethodName := ⟨RX2, "countSwapped", "(LCausalBroadcast$Replica;)I"⟩
abbrev cX2_countSwappedBehind : ByteArray := prog_4_method_13_code
def yX2_countSwappedBehind : MethodName := ⟨RX2, "countSwappedBehind", "(ILCausalBroadcast$Replica;)I"⟩
abbrev cX2_copyLogAndState : ByteArray := prog_4_method_14_code
def yX2_copyLogAndState : MethodName := ⟨RX2, "copyLogAndState", "(LCausalBroadcast$Replica;)V"⟩
abbrev cX2_copyFrom : ByteArray := prog_4_method_15_code
def yX2_copyFrom : MethodName := ⟨RX2, "copyFrom", "(LCausalBroadcast$Replica;)V"⟩
def RX3 : String := "CausalBroadcast$Script"
def TX3 : u_T := fun k => match k with
  | 0 => ("CausalBroadcast$Script", "text", "[C", true)
  | 1 => ("CausalBroadcast$Script", "length", "I", false)
  | 2 => ("CausalBroadcast$Script", "kinds", "[C", true)
  | 3 => ("CausalBroadcast$Script", "firsts", "[I", true)
  | 4 => ("CausalBroadcast$Script", "seconds", "[I", true)
  | 5 => ("CausalBroadcast$Script", "events", "I", false)
  | 6 => ("CausalBroadcast$Script", "at", "I", false)
  | _ => ("CausalBroadcast$Script", "number", "I", false)
def tyX3 : Nat → FieldType := fun k => match k with
  | 0 => .array .char
  | 1 => .int
  | 2 => .array .char
  | 3 => .array .int
  | 4 => .array .int
  | 5 => .int
  | 6 => .int
  | _ => .int
abbrev wsX30 : List Cond := u_ws RX3 TX3 8
theorem nmX3 : ∀ a, a < 8 → ∀ b, b < 8 → a ≠ b → (TX3 a).2.1 ≠ (TX3 b).2.1 := by decide +kernel
theorem tyX3_ok : ∀ k, k < 8 → parseFieldDescriptor (TX3 k).2.2.1 = some (tyX3 k) := by decide +kernel
abbrev cX3_init : ByteArray := prog_5_method_1_code
def yX3_init : MethodName := ⟨RX3, "<init>", "()V"⟩
abbrev cX3_isFull : ByteArray := prog_5_method_2_code
def yX3_isFull : MethodName := ⟨RX3, "isFull", "()Z"⟩
abbrev cX3_add : ByteArray := prog_5_method_3_code
def yX3_add : MethodName := ⟨RX3, "add", "(C)I"⟩
abbrev cX3_clear : ByteArray := prog_5_method_4_code
def yX3_clear : MethodName := ⟨RX3, "clear", "()V"⟩
abbrev cX3_parse : ByteArray := prog_5_method_5_code
def yX3_parse : MethodName := ⟨RX3, "parse", "()Z"⟩
abbrev cX3_readEvent : ByteArray := prog_5_method_6_code
def yX3_readEvent : MethodName := ⟨RX3, "readEvent", "()Z"⟩
abbrev cX3_readRest : ByteArray := prog_5_method_7_code
def yX3_readRest : MethodName := ⟨RX3, "readRest", "(C)Z"⟩
abbrev cX3_keep : ByteArray := prog_5_method_8_code
def yX3_keep : MethodName := ⟨RX3, "keep", "(CII)Z"⟩
abbrev cX3_readSign : ByteArray := prog_5_method_9_code
def yX3_readSign : MethodName := ⟨RX3, "readSign", "(C)Z"⟩
abbrev cX3_readProcess : ByteArray := prog_5_method_10_code
def yX3_readProcess : MethodName := ⟨RX3, "readProcess", "()Z"⟩
abbrev cX3_readPayload : ByteArray := prog_5_method_11_code
def yX3_readPayload : MethodName := ⟨RX3, "readPayload", "()Z"⟩
abbrev cX3_readDigits : ByteArray := prog_5_method_12_code
def yX3_readDigits : MethodName := ⟨RX3, "readDigits", "()Z"⟩
abbrev cX3_isDigitNext : ByteArray := prog_5_method_13_code
def yX3_isDigitNext : MethodName := ⟨RX3, "isDigitNext", "()Z"⟩
def RX4 : String := "CausalBroadcast"
def TX4 : u_T := fun k => match k with
  | 0 => ("CausalBroadcast", "script", "LCausalBroadcast$Script;", true)
  | 1 => ("CausalBroadcast", "group", "LCausalBroadcast$Group;", false)
  | 2 => ("CausalBroadcast", "trial", "LCausalBroadcast$Group;", false)
  | 3 => ("CausalBroadcast", "snapshot", "LCausalBroadcast$Group;", false)
  | _ => ("CausalBroadcast", "errorAt", "I", false)
def tyX4 : Nat → FieldType := fun k => match k with
  | 0 => .object "CausalBroadcast$Script"
  | 1 => .object "CausalBroadcast$Group"
  | 2 => .object "CausalBroadcast$Group"
  | 3 => .object "CausalBroadcast$Group"
  | _ => .int
abbrev wsX40 : List Cond := u_ws RX4 TX4 5
theorem nmX4 : ∀ a, a < 5 → ∀ b, b < 5 → a ≠ b → (TX4 a).2.1 ≠ (TX4 b).2.1 := by decide +kernel
theorem tyX4_ok : ∀ k, k < 5 → parseFieldDescriptor (TX4 k).2.2.1 = some (tyX4 k) := by decide +kernel
abbrev cX4_init : ByteArray := prog_1_method_1_code
def yX4_init : MethodName := ⟨RX4, "<init>", "()V"⟩
abbrev cX4_reset : ByteArray := prog_1_method_2_code
def yX4_reset : MethodName := ⟨RX4, "reset", "(I)I"⟩
abbrev cX4_view : ByteArray := prog_1_method_3_code
def yX4_view : MethodName := ⟨RX4, "view", "()I"⟩
abbrev cX4_membersOf : ByteArray := prog_1_method_4_code
def yX4_membersOf : MethodName := ⟨RX4, "membersOf", "(I)I"⟩
abbrev cX4_forcedIn : ByteArray := prog_1_method_5_code
def yX4_forcedIn : MethodName := ⟨RX4, "forcedIn", "(I)I"⟩
abbrev cX4_proposed : ByteArray := prog_1_method_6_code
def yX4_proposed : MethodName := ⟨RX4, "proposed", "()I"⟩
abbrev cX4_requestJoin : ByteArray := prog_1_method_7_code
def yX4_requestJoin : MethodName := ⟨RX4, "requestJoin", "(I)I"⟩
abbrev cX4_requestLeave : ByteArray := prog_1_method_8_code
def yX4_requestLeave : MethodName := ⟨RX4, "requestLeave", "(I)I"⟩
abbrev cX4_install : ByteArray := prog_1_method_9_code
def yX4_install : MethodName := ⟨RX4, "install", "()I"⟩
abbrev cX4_broadcast : ByteArray := prog_1_method_10_code
def yX4_broadcast : MethodName := ⟨RX4, "broadcast", "(II)I"⟩
abbrev cX4_arrive : ByteArray := prog_1_method_11_code
def yX4_arrive : MethodName := ⟨RX4, "arrive", "(II)I"⟩
abbrev cX4_arriveAll : ByteArray := prog_1_method_12_code
def yX4_arriveAll : MethodName := ⟨RX4, "arriveAll", "(I)I"⟩
abbrev cX4_gossip : ByteArray := prog_1_method_13_code
def yX4_gossip : MethodName := ⟨RX4, "gossip", "(II)I"⟩
abbrev cX4_messageCount : ByteArray := prog_1_method_14_code
def yX4_messageCount : MethodName := ⟨RX4, "messageCount", "()I"⟩
abbrev cX4_message : ByteArray := prog_1_method_15_code
def yX4_message : MethodName := ⟨RX4, "message", "(II)I"⟩
abbrev cX4_messageClock : ByteArray := prog_1_method_16_code
def yX4_messageClock : MethodName := ⟨RX4, "messageClock", "(II)I"⟩
abbrev cX4_isCause : ByteArray := prog_1_method_17_code
def yX4_isCause : MethodName := ⟨RX4, "isCause", "(II)Z"⟩
abbrev cX4_causes : ByteArray := prog_1_method_18_code
def yX4_causes : MethodName := ⟨RX4, "causes", "(I)I"⟩
abbrev cX4_concurrent : ByteArray := prog_1_method_19_code
def yX4_concurrent : MethodName := ⟨RX4, "concurrent", "(I)I"⟩
abbrev cX4_longestChain : ByteArray := prog_1_method_20_code
def yX4_longestChain : MethodName := ⟨RX4, "longestChain", "(I)I"⟩
abbrev cX4_duplicates : ByteArray := prog_1_method_21_code
def yX4_duplicates : MethodName := ⟨RX4, "duplicates", "()I"⟩
abbrev cX4_logLength : ByteArray := prog_1_method_22_code
def yX4_logLength : MethodName := ⟨RX4, "logLength", "(I)I"⟩
abbrev cX4_logged : ByteArray := prog_1_method_23_code
def yX4_logged : MethodName := ⟨RX4, "logged", "(II)I"⟩
abbrev cX4_position : ByteArray := prog_1_method_24_code
def yX4_position : MethodName := ⟨RX4, "position", "(II)I"⟩
abbrev cX4_state : ByteArray := prog_1_method_25_code
def yX4_state : MethodName := ⟨RX4, "state", "(I)I"⟩
abbrev cX4_clock : ByteArray := prog_1_method_26_code
def yX4_clock : MethodName := ⟨RX4, "clock", "(II)I"⟩
abbrev cX4_buffered : ByteArray := prog_1_method_27_code
def yX4_buffered : MethodName := ⟨RX4, "buffered", "(I)I"⟩
abbrev cX4_bufferedMessage : ByteArray := prog_1_method_28_code
def yX4_bufferedMessage : MethodName := ⟨RX4, "bufferedMessage", "(II)I"⟩
abbrev cX4_missing : ByteArray := prog_1_method_29_code
def yX4_missing : MethodName := ⟨RX4, "missing", "(II)I"⟩
abbrev cX4_inTransit : ByteArray := prog_1_method_30_code
def yX4_inTransit : MethodName := ⟨RX4, "inTransit", "(I)I"⟩
abbrev cX4_disagreements : ByteArray := prog_1_method_31_code
def yX4_disagreements : MethodName := ⟨RX4, "disagreements", "(II)I"⟩
abbrev cX4_overlap : ByteArray := prog_1_method_32_code
def yX4_overlap : MethodName := ⟨RX4, "overlap", "(II)D"⟩
abbrev cX4_known : ByteArray := prog_1_method_33_code
def yX4_known : MethodName := ⟨RX4, "known", "(III)I"⟩
abbrev cX4_isStable : ByteArray := prog_1_method_34_code
def yX4_isStable : MethodName := ⟨RX4, "isStable", "(II)Z"⟩
abbrev cX4_unstable : ByteArray := prog_1_method_35_code
def yX4_unstable : MethodName := ⟨RX4, "unstable", "(I)I"⟩
abbrev cX4_isEverywhere : ByteArray := prog_1_method_36_code
def yX4_isEverywhere : MethodName := ⟨RX4, "isEverywhere", "(I)Z"⟩
abbrev cX4_firstUnaware : ByteArray := prog_1_method_37_code
def yX4_firstUnaware : MethodName := ⟨RX4, "firstUnaware", "(I)I"⟩
abbrev cX4_append : ByteArray := prog_1_method_38_code
def yX4_append : MethodName := ⟨RX4, "append", "(C)I"⟩
abbrev cX4_run : ByteArray := prog_1_method_39_code
def yX4_run : MethodName := ⟨RX4, "run", "()I"⟩
abbrev cX4_errorPosition : ByteArray := prog_1_method_40_code
def yX4_errorPosition : MethodName := ⟨RX4, "errorPosition", "()I"⟩
abbrev cX4_saveSnapshot : ByteArray := prog_1_method_41_code
def yX4_saveSnapshot : MethodName := ⟨RX4, "saveSnapshot", "()I"⟩
abbrev cX4_restoreSnapshot : ByteArray := prog_1_method_42_code
def yX4_restoreSnapshot : MethodName := ⟨RX4, "restoreSnapshot", "()I"⟩
abbrev cX4_requireProcess : ByteArray := prog_1_method_43_code
def yX4_requireProcess : MethodName := ⟨RX4, "requireProcess", "(I)V"⟩
abbrev cX4_requireMessage : ByteArray := prog_1_method_44_code
def yX4_requireMessage : MethodName := ⟨RX4, "requireMessage", "(I)V"⟩
abbrev cX4_requireView : ByteArray := prog_1_method_45_code
def yX4_requireView : MethodName := ⟨RX4, "requireView", "(I)V"⟩
abbrev cX4_requireMember : ByteArray := prog_1_method_46_code
def yX4_requireMember : MethodName := ⟨RX4, "requireMember", "(I)V"⟩
abbrev cX4_requireReach : ByteArray := prog_1_method_47_code
def yX4_requireReach : MethodName := ⟨RX4, "requireReach", "(II)V"⟩
abbrev cX4_requireLogged : ByteArray := prog_1_method_48_code
def yX4_requireLogged : MethodName := ⟨RX4, "requireLogged", "(II)V"⟩
abbrev cX4_prepareTrial : ByteArray := prog_1_method_49_code
def yX4_prepareTrial : MethodName := ⟨RX4, "prepareTrial", "()V"⟩
abbrev cX4_swapWithTrial : ByteArray := prog_1_method_50_code
def yX4_swapWithTrial : MethodName := ⟨RX4, "swapWithTrial", "()V"⟩
abbrev cX4_isProcess : ByteArray := prog_1_method_51_code
def yX4_isProcess : MethodName := ⟨RX4, "isProcess", "(I)Z"⟩
abbrev cX4_contains : ByteArray := prog_1_method_52_code
def yX4_contains : MethodName := ⟨RX4, "contains", "(II)Z"⟩
abbrev cX4_lowestOf : ByteArray := prog_1_method_53_code
def yX4_lowestOf : MethodName := ⟨RX4, "lowestOf", "(I)I"⟩
abbrev cX4_copyRow : ByteArray := prog_1_method_54_code
def yX4_copyRow : MethodName := ⟨RX4, "copyRow", "([I[I)V"⟩
def RX5 : String := "CausalBroadcastModel"
def TX5 : u_T := fun k => match k with
  | 0 => ("CausalBroadcastModel", "thrown", "I", false)
  | 1 => ("CausalBroadcastModel", "v", "[I", true)
  | 2 => ("CausalBroadcastModel", "kept", "[I", true)
  | 3 => ("CausalBroadcastModel", "tried", "[I", true)
  | 4 => ("CausalBroadcastModel", "isKept", "Z", false)
  | 5 => ("CausalBroadcastModel", "input", "[I", true)
  | 6 => ("CausalBroadcastModel", "inputN", "I", false)
  | 7 => ("CausalBroadcastModel", "fault", "I", false)
  | 8 => ("CausalBroadcastModel", "chain", "[I", true)
  | 9 => ("CausalBroadcastModel", "at", "I", false)
  | 10 => ("CausalBroadcastModel", "isFaulty", "Z", false)
  | 11 => ("CausalBroadcastModel", "kind", "[I", true)
  | 12 => ("CausalBroadcastModel", "first", "[I", true)
  | _ => ("CausalBroadcastModel", "second", "[I", true)
def tyX5 : Nat → FieldType := fun k => match k with
  | 0 => .int
  | 1 => .array .int
  | 2 => .array .int
  | 3 => .array .int
  | 4 => .boolean
  | 5 => .array .int
  | 6 => .int
  | 7 => .int
  | 8 => .array .int
  | 9 => .int
  | 10 => .boolean
  | 11 => .array .int
  | 12 => .array .int
  | _ => .array .int
abbrev wsX50 : List Cond := u_ws RX5 TX5 14
theorem nmX5 : ∀ a, a < 14 → ∀ b, b < 14 → a ≠ b → (TX5 a).2.1 ≠ (TX5 b).2.1 := by decide +kernel
theorem tyX5_ok : ∀ k, k < 14 → parseFieldDescriptor (TX5 k).2.2.1 = some (tyX5 k) := by decide +kernel
abbrev cX5_init : ByteArray := prog_7_method_1_code
def yX5_init : MethodName := ⟨RX5, "<init>", "()V"⟩
abbrev cX5_thrown : ByteArray := prog_7_method_2_code
def yX5_thrown : MethodName := ⟨RX5, "thrown", "()I"⟩
abbrev cX5_no : ByteArray := prog_7_method_3_code
def yX5_no : MethodName := ⟨RX5, "no", "(I)I"⟩
abbrev cX5_isIn : ByteArray := prog_7_method_4_code
def yX5_isIn : MethodName := ⟨RX5, "isIn", "(III)Z"⟩
abbrev cX5_copies : ByteArray := prog_7_method_5_code
def yX5_copies : MethodName := ⟨RX5, "copies", "([I[I)V"⟩
abbrev cX5_isProcess : ByteArray := prog_7_method_6_code
def yX5_isProcess : MethodName := ⟨RX5, "isProcess", "(I)Z"⟩
abbrev cX5_isMessage : ByteArray := prog_7_method_7_code
def yX5_isMessage : MethodName := ⟨RX5, "isMessage", "(I)Z"⟩
abbrev cX5_members : ByteArray := prog_7_method_8_code
def yX5_members : MethodName := ⟨RX5, "members", "()I"⟩
abbrev cX5_isMember : ByteArray := prog_7_method_9_code
def yX5_isMember : MethodName := ⟨RX5, "isMember", "(I)Z"⟩
abbrev cX5_isOne : ByteArray := prog_7_method_10_code
def yX5_isOne : MethodName := ⟨RX5, "isOne", "(I)Z"⟩
abbrev cX5_isInView : ByteArray := prog_7_method_11_code
def yX5_isInView : MethodName := ⟨RX5, "isInView", "(I)Z"⟩
abbrev cX5_isSent : ByteArray := prog_7_method_12_code
def yX5_isSent : MethodName := ⟨RX5, "isSent", "(I)Z"⟩
abbrev cX5_count : ByteArray := prog_7_method_13_code
def yX5_count : MethodName := ⟨RX5, "count", "(I)I"⟩
abbrev cX5_reset : ByteArray := prog_7_method_14_code
def yX5_reset : MethodName := ⟨RX5, "reset", "(I)I"⟩
abbrev cX5_view : ByteArray := prog_7_method_15_code
def yX5_view : MethodName := ⟨RX5, "view", "()I"⟩
abbrev cX5_membersOf : ByteArray := prog_7_method_16_code
def yX5_membersOf : MethodName := ⟨RX5, "membersOf", "(I)I"⟩
abbrev cX5_forcedIn : ByteArray := prog_7_method_17_code
def yX5_forcedIn : MethodName := ⟨RX5, "forcedIn", "(I)I"⟩
abbrev cX5_proposed : ByteArray := prog_7_method_18_code
def yX5_proposed : MethodName := ⟨RX5, "proposed", "()I"⟩
abbrev cX5_requestJoin : ByteArray := prog_7_method_19_code
def yX5_requestJoin : MethodName := ⟨RX5, "requestJoin", "(I)I"⟩
abbrev cX5_requestLeave : ByteArray := prog_7_method_20_code
def yX5_requestLeave : MethodName := ⟨RX5, "requestLeave", "(I)I"⟩
abbrev cX5_clockOf : ByteArray := prog_7_method_21_code
def yX5_clockOf : MethodName := ⟨RX5, "clockOf", "(II)I"⟩
abbrev cX5_isLogged : ByteArray := prog_7_method_22_code
def yX5_isLogged : MethodName := ⟨RX5, "isLogged", "(II)Z"⟩
abbrev cX5_isNow : ByteArray := prog_7_method_23_code
def yX5_isNow : MethodName := ⟨RX5, "isNow", "(I)Z"⟩
abbrev cX5_isDeliverable : ByteArray := prog_7_method_24_code
def yX5_isDeliverable : MethodName := ⟨RX5, "isDeliverable", "(II)Z"⟩
abbrev cX5_logs : ByteArray := prog_7_method_25_code
def yX5_logs : MethodName := ⟨RX5, "logs", "(II)V"⟩
abbrev cX5_delivers : ByteArray := prog_7_method_26_code
def yX5_delivers : MethodName := ⟨RX5, "delivers", "(II)V"⟩
abbrev cX5_isHeld : ByteArray := prog_7_method_27_code
def yX5_isHeld : MethodName := ⟨RX5, "isHeld", "(II)Z"⟩
abbrev cX5_forces : ByteArray := prog_7_method_28_code
def yX5_forces : MethodName := ⟨RX5, "forces", "(II)I"⟩
abbrev cX5_install : ByteArray := prog_7_method_29_code
def yX5_install : MethodName := ⟨RX5, "install", "()I"⟩
abbrev cX5_broadcast : ByteArray := prog_7_method_30_code
def yX5_broadcast : MethodName := ⟨RX5, "broadcast", "(II)I"⟩
abbrev cX5_isBuffered : ByteArray := prog_7_method_31_code
def yX5_isBuffered : MethodName := ⟨RX5, "isBuffered", "(II)Z"⟩
abbrev cX5_comes : ByteArray := prog_7_method_32_code
def yX5_comes : MethodName := ⟨RX5, "comes", "(II)I"⟩
abbrev cX5_isOnTheWay : ByteArray := prog_7_method_33_code
def yX5_isOnTheWay : MethodName := ⟨RX5, "isOnTheWay", "(II)Z"⟩
abbrev cX5_arrive : ByteArray := prog_7_method_34_code
def yX5_arrive : MethodName := ⟨RX5, "arrive", "(II)I"⟩
abbrev cX5_arriveAll : ByteArray := prog_7_method_35_code
def yX5_arriveAll : MethodName := ⟨RX5, "arriveAll", "(I)I"⟩
abbrev cX5_gossip : ByteArray := prog_7_method_36_code
def yX5_gossip : MethodName := ⟨RX5, "gossip", "(II)I"⟩
abbrev cX5_messageCount : ByteArray := prog_7_method_37_code
def yX5_messageCount : MethodName := ⟨RX5, "messageCount", "()I"⟩
abbrev cX5_message : ByteArray := prog_7_method_38_code
def yX5_message : MethodName := ⟨RX5, "message", "(II)I"⟩
abbrev cX5_messageClock : ByteArray := prog_7_method_39_code
def yX5_messageClock : MethodName := ⟨RX5, "messageClock", "(II)I"⟩
abbrev cX5_isCauseOf : ByteArray := prog_7_method_40_code
def yX5_isCauseOf : MethodName := ⟨RX5, "isCauseOf", "(II)Z"⟩
abbrev cX5_isCause : ByteArray := prog_7_method_41_code
def yX5_isCause : MethodName := ⟨RX5, "isCause", "(II)Z"⟩
abbrev cX5_causes : ByteArray := prog_7_method_42_code
def yX5_causes : MethodName := ⟨RX5, "causes", "(I)I"⟩
abbrev cX5_concurrent : ByteArray := prog_7_method_43_code
def yX5_concurrent : MethodName := ⟨RX5, "concurrent", "(I)I"⟩
abbrev cX5_longestChain : ByteArray := prog_7_method_44_code
def yX5_longestChain : MethodName := ⟨RX5, "longestChain", "(I)I"⟩
abbrev cX5_duplicates : ByteArray := prog_7_method_45_code
def yX5_duplicates : MethodName := ⟨RX5, "duplicates", "()I"⟩
abbrev cX5_logLength : ByteArray := prog_7_method_46_code
def yX5_logLength : MethodName := ⟨RX5, "logLength", "(I)I"⟩
abbrev cX5_logged : ByteArray := prog_7_method_47_code
def yX5_logged : MethodName := ⟨RX5, "logged", "(II)I"⟩
abbrev cX5_placeOf : ByteArray := prog_7_method_48_code
def yX5_placeOf : MethodName := ⟨RX5, "placeOf", "(II)I"⟩
abbrev cX5_position : ByteArray := prog_7_method_49_code
def yX5_position : MethodName := ⟨RX5, "position", "(II)I"⟩
abbrev cX5_state : ByteArray := prog_7_method_50_code
def yX5_state : MethodName := ⟨RX5, "state", "(I)I"⟩
abbrev cX5_clock : ByteArray := prog_7_method_51_code
def yX5_clock : MethodName := ⟨RX5, "clock", "(II)I"⟩
abbrev cX5_buffered : ByteArray := prog_7_method_52_code
def yX5_buffered : MethodName := ⟨RX5, "buffered", "(I)I"⟩
abbrev cX5_bufferedMessage : ByteArray := prog_7_method_53_code
def yX5_bufferedMessage : MethodName := ⟨RX5, "bufferedMessage", "(II)I"⟩
abbrev cX5_missing : ByteArray := prog_7_method_54_code
def yX5_missing : MethodName := ⟨RX5, "missing", "(II)I"⟩
abbrev cX5_inTransit : ByteArray := prog_7_method_55_code
def yX5_inTransit : MethodName := ⟨RX5, "inTransit", "(I)I"⟩
abbrev cX5_disagreements : ByteArray := prog_7_method_56_code
def yX5_disagreements : MethodName := ⟨RX5, "disagreements", "(II)I"⟩
abbrev cX5_overlap : ByteArray := prog_7_method_57_code
def yX5_overlap : MethodName := ⟨RX5, "overlap", "(II)D"⟩
abbrev cX5_known : ByteArray := prog_7_method_58_code
def yX5_known : MethodName := ⟨RX5, "known", "(III)I"⟩
abbrev cX5_isSafe : ByteArray := prog_7_method_59_code
def yX5_isSafe : MethodName := ⟨RX5, "isSafe", "(II)Z"⟩
abbrev cX5_isStable : ByteArray := prog_7_method_60_code
def yX5_isStable : MethodName := ⟨RX5, "isStable", "(II)Z"⟩
abbrev cX5_unstable : ByteArray := prog_7_method_61_code
def yX5_unstable : MethodName := ⟨RX5, "unstable", "(I)I"⟩
abbrev cX5_isWithAll : ByteArray := prog_7_method_62_code
def yX5_isWithAll : MethodName := ⟨RX5, "isWithAll", "(I)Z"⟩
abbrev cX5_isEverywhere : ByteArray := prog_7_method_63_code
def yX5_isEverywhere : MethodName := ⟨RX5, "isEverywhere", "(I)Z"⟩
abbrev cX5_firstUnaware : ByteArray := prog_7_method_64_code
def yX5_firstUnaware : MethodName := ⟨RX5, "firstUnaware", "(I)I"⟩
abbrev cX5_append : ByteArray := prog_7_method_65_code
def yX5_append : MethodName := ⟨RX5, "append", "(C)I"⟩
abbrev cX5_here : ByteArray := prog_7_method_66_code
def yX5_here : MethodName := ⟨RX5, "here", "()I"⟩
abbrev cX5_digit : ByteArray := prog_7_method_67_code
def yX5_digit : MethodName := ⟨RX5, "digit", "(I)I"⟩
abbrev cX5_sign : ByteArray := prog_7_method_68_code
def yX5_sign : MethodName := ⟨RX5, "sign", "(I)V"⟩
abbrev cX5_number : ByteArray := prog_7_method_69_code
def yX5_number : MethodName := ⟨RX5, "number", "()I"⟩
abbrev cX5_event : ByteArray := prog_7_method_70_code
def yX5_event : MethodName := ⟨RX5, "event", "(I)V"⟩
abbrev cX5_does : ByteArray := prog_7_method_71_code
def yX5_does : MethodName := ⟨RX5, "does", "(I)V"⟩
abbrev cX5_run : ByteArray := prog_7_method_72_code
def yX5_run : MethodName := ⟨RX5, "run", "()I"⟩
abbrev cX5_errorPosition : ByteArray := prog_7_method_73_code
def yX5_errorPosition : MethodName := ⟨RX5, "errorPosition", "()I"⟩
abbrev cX5_saveSnapshot : ByteArray := prog_7_method_74_code
def yX5_saveSnapshot : MethodName := ⟨RX5, "saveSnapshot", "()I"⟩
abbrev cX5_restoreSnapshot : ByteArray := prog_7_method_75_code
def yX5_restoreSnapshot : MethodName := ⟨RX5, "restoreSnapshot", "()I"⟩
def RJx145de : String := "java/io/Serializable"
def TJx145de : u_T := fun k => match k with
  | _ => ("", "", "", false)
def tyJx145de : Nat → FieldType := fun k => match k with
  | _ => .int
abbrev wsJx145de0 : List Cond := u_ws RJx145de TJx145de 0
theorem nmJx145de : ∀ a, a < 0 → ∀ b, b < 0 → a ≠ b → (TJx145de a).2.1 ≠ (TJx145de b).2.1 := by decide +kernel
theorem tyJx145de_ok : ∀ k, k < 0 → parseFieldDescriptor (TJx145de k).2.2.1 = some (tyJx145de k) := by decide +kernel
def RJx00060 : String := "java/lang/ArrayIndexOutOfBoundsException"
def TJx00060 : u_T := fun k => match k with
  | 0 => ("java/lang/Throwable", "backtrace", "Ljava/lang/Object;", false)
  | 1 => ("java/lang/Throwable", "detailMessage", "Ljava/lang/String;", false)
  | 2 => ("java/lang/Throwable", "cause", "Ljava/lang/Throwable;", false)
  | 3 => ("java/lang/Throwable", "stackTrace", "[Ljava/lang/StackTraceElement;", false)
  | 4 => ("java/lang/Throwable", "depth", "I", false)
  | _ => ("java/lang/Throwable", "suppressedExceptions", "Ljava/util/List;", false)
def tyJx00060 : Nat → FieldType := fun k => match k with
  | 0 => .object "java/lang/Object"
  | 1 => .object "java/lang/String"
  | 2 => .object "java/lang/Throwable"
  | 3 => .array (.object "java/lang/StackTraceElement")
  | 4 => .int
  | _ => .object "java/util/List"
abbrev wsJx000600 : List Cond := u_ws RJx00060 TJx00060 6
theorem nmJx00060 : ∀ a, a < 6 → ∀ b, b < 6 → a ≠ b → (TJx00060 a).2.1 ≠ (TJx00060 b).2.1 := by decide +kernel
theorem tyJx00060_ok : ∀ k, k < 6 → parseFieldDescriptor (TJx00060 k).2.2.1 = some (tyJx00060 k) := by decide +kernel
abbrev cJx00060_init_a7421 : ByteArray := prog_10_method_2_code
def yJx00060_init_a7421 : MethodName := ⟨RJx00060, "<init>", "(Ljava/lang/String;)V"⟩
def RJx9f9b0 : String := "java/lang/CharSequence"
def TJx9f9b0 : u_T := fun k => match k with
  | _ => ("", "", "", false)
def tyJx9f9b0 : Nat → FieldType := fun k => match k with
  | _ => .int
abbrev wsJx9f9b00 : List Cond := u_ws RJx9f9b0 TJx9f9b0 0
theorem nmJx9f9b0 : ∀ a, a < 0 → ∀ b, b < 0 → a ≠ b → (TJx9f9b0 a).2.1 ≠ (TJx9f9b0 b).2.1 := by decide +kernel
theorem tyJx9f9b0_ok : ∀ k, k < 0 → parseFieldDescriptor (TJx9f9b0 k).2.2.1 = some (tyJx9f9b0 k) := by decide +kernel
def RJ11 : String := "java/lang/Character"
def TJ11 : u_T := fun k => match k with
  | _ => ("", "", "", false)
def tyJ11 : Nat → FieldType := fun k => match k with
  | _ => .int
abbrev wsJ110 : List Cond := u_ws RJ11 TJ11 0
theorem nmJ11 : ∀ a, a < 0 → ∀ b, b < 0 → a ≠ b → (TJ11 a).2.1 ≠ (TJ11 b).2.1 := by decide +kernel
theorem tyJ11_ok : ∀ k, k < 0 → parseFieldDescriptor (TJ11 k).2.2.1 = some (tyJ11 k) := by decide +kernel
abbrev cJ11_isValidCodePoint_9a6ad : ByteArray := prog_12_method_11_code
def yJ11_isValidCodePoint_9a6ad : MethodName := ⟨RJ11, "isValidCodePoint", "(I)Z"⟩
abbrev cJ11_highSurrogate_5068e : ByteArray := prog_12_method_28_code
def yJ11_highSurrogate_5068e : MethodName := ⟨RJ11, "highSurrogate", "(I)C"⟩
abbrev cJ11_lowSurrogate_5068e : ByteArray := prog_12_method_29_code
def yJ11_lowSurrogate_5068e : MethodName := ⟨RJ11, "lowSurrogate", "(I)C"⟩
def RJxb160c : String := "java/lang/Comparable"
def TJxb160c : u_T := fun k => match k with
  | _ => ("", "", "", false)
def tyJxb160c : Nat → FieldType := fun k => match k with
  | _ => .int
abbrev wsJxb160c0 : List Cond := u_ws RJxb160c TJxb160c 0
theorem nmJxb160c : ∀ a, a < 0 → ∀ b, b < 0 → a ≠ b → (TJxb160c a).2.1 ≠ (TJxb160c b).2.1 := by decide +kernel
theorem tyJxb160c_ok : ∀ k, k < 0 → parseFieldDescriptor (TJxb160c k).2.2.1 = some (tyJxb160c k) := by decide +kernel
def RJ6 : String := "java/lang/Integer"
def TJ6 : u_T := fun k => match k with
  | _ => ("", "", "", false)
def tyJ6 : Nat → FieldType := fun k => match k with
  | _ => .int
abbrev wsJ60 : List Cond := u_ws RJ6 TJ6 0
theorem nmJ6 : ∀ a, a < 0 → ∀ b, b < 0 → a ≠ b → (TJ6 a).2.1 ≠ (TJ6 b).2.1 := by decide +kernel
theorem tyJ6_ok : ∀ k, k < 0 → parseFieldDescriptor (TJ6 k).2.2.1 = some (tyJ6 k) := by decide +kernel
abbrev cJ6_bitCount_0f7a4 : ByteArray := prog_18_method_49_code
def yJ6_bitCount_0f7a4 : MethodName := ⟨RJ6, "bitCount", "(I)I"⟩
def RJ9 : String := "java/lang/Math"
def TJ9 : u_T := fun k => match k with
  | _ => ("", "", "", false)
def tyJ9 : Nat → FieldType := fun k => match k with
  | _ => .int
abbrev wsJ90 : List Cond := u_ws RJ9 TJ9 0
theorem nmJ9 : ∀ a, a < 0 → ∀ b, b < 0 → a ≠ b → (TJ9 a).2.1 ≠ (TJ9 b).2.1 := by decide +kernel
theorem tyJ9_ok : ∀ k, k < 0 → parseFieldDescriptor (TJ9 k).2.2.1 = some (tyJ9 k) := by decide +kernel
abbrev cJ9_max_7cf53 : ByteArray := prog_19_method_65_code
def yJ9_max_7cf53 : MethodName := ⟨RJ9, "max", "(II)I"⟩
abbrev cJ9_min_7cf53 : ByteArray := prog_19_method_69_code
def yJ9_min_7cf53 : MethodName := ⟨RJ9, "min", "(II)I"⟩
def RJ0 : String := "java/lang/String"
def TJ0 : u_T := fun k => match k with
  | 0 => ("java/lang/String", "value", "[B", true)
  | _ => ("java/lang/String", "coder", "B", true)
def tyJ0 : Nat → FieldType := fun k => match k with
  | 0 => .array .byte
  | _ => .byte
abbrev wsJ00 : List Cond := u_ws RJ0 TJ0 2
theorem nmJ0 : ∀ a, a < 2 → ∀ b, b < 2 → a ≠ b → (TJ0 a).2.1 ≠ (TJ0 b).2.1 := by decide +kernel
theorem tyJ0_ok : ∀ k, k < 2 → parseFieldDescriptor (TJ0 k).2.2.1 = some (tyJ0 k) := by decide +kernel
abbrev cJ0_length_8abf5 : ByteArray := prog_21_method_54_code
def yJ0_length_8abf5 : MethodName := ⟨RJ0, "length", "()I"⟩
abbrev cJ0_indexOf_0f7a4 : ByteArray := prog_21_method_79_code
def yJ0_indexOf_0f7a4 : MethodName := ⟨RJ0, "indexOf", "(I)I"⟩
abbrev cJ0_indexOf_7cf53 : ByteArray := prog_21_method_80_code
def yJ0_indexOf_7cf53 : MethodName := ⟨RJ0, "indexOf", "(II)I"⟩
abbrev cJ0_coder_7d493 : ByteArray := prog_21_method_152_code
def yJ0_coder_7d493 : MethodName := ⟨RJ0, "coder", "()B"⟩
abbrev cJ0_isLatin1_aae02 : ByteArray := prog_21_method_154_code
def yJ0_isLatin1_aae02 : MethodName := ⟨RJ0, "isLatin1", "()Z"⟩
abbrev cJ0_checkBoundsBeginEnd_23922 : ByteArray := prog_21_method_158_code
def yJ0_checkBoundsBeginEnd_23922 : MethodName := ⟨RJ0, "checkBoundsBeginEnd", "(III)V"⟩
def RJ1 : String := "java/lang/StringLatin1"
def TJ1 : u_T := fun k => match k with
  | _ => ("", "", "", false)
def tyJ1 : Nat → FieldType := fun k => match k with
  | _ => .int
abbrev wsJ10 : List Cond := u_ws RJ1 TJ1 0
theorem nmJ1 : ∀ a, a < 0 → ∀ b, b < 0 → a ≠ b → (TJ1 a).2.1 ≠ (TJ1 b).2.1 := by decide +kernel
theorem tyJ1_ok : ∀ k, k < 0 → parseFieldDescriptor (TJ1 k).2.2.1 = some (tyJ1 k) := by decide +kernel
abbrev cJ1_canEncode_9a6ad : ByteArray := prog_22_method_4_code
def yJ1_canEncode_9a6ad : MethodName := ⟨RJ1, "canEncode", "(I)Z"⟩
abbrev cJ1_indexOf_4cfef : ByteArray := prog_22_method_22_code
def yJ1_indexOf_4cfef : MethodName := ⟨RJ1, "indexOf", "([BIII)I"⟩
abbrev cJ1_indexOfChar_4cfef : ByteArray := prog_22_method_23_code
def yJ1_indexOfChar_4cfef : MethodName := ⟨RJ1, "indexOfChar", "([BIII)I"⟩
def RJ2 : String := "java/lang/StringUTF16"
def TJ2 : u_T := fun k => match k with
  | _ => ("", "", "", false)
def tyJ2 : Nat → FieldType := fun k => match k with
  | _ => .int
abbrev wsJ20 : List Cond := u_ws RJ2 TJ2 0
theorem nmJ2 : ∀ a, a < 0 → ∀ b, b < 0 → a ≠ b → (TJ2 a).2.1 ≠ (TJ2 b).2.1 := by decide +kernel
theorem tyJ2_ok : ∀ k, k < 0 → parseFieldDescriptor (TJ2 k).2.2.1 = some (tyJ2 k) := by decide +kernel
abbrev cJ2_getChar_3b067 : ByteArray := prog_23_method_5_code
def yJ2_getChar_3b067 : MethodName := ⟨RJ2, "getChar", "([BI)C"⟩
abbrev cJ2_length_9d52b : ByteArray := prog_23_method_6_code
def yJ2_length_9d52b : MethodName := ⟨RJ2, "length", "([B)I"⟩
abbrev cJ2_indexOf_4cfef : ByteArray := prog_23_method_40_code
def yJ2_indexOf_4cfef : MethodName := ⟨RJ2, "indexOf", "([BIII)I"⟩
abbrev cJ2_indexOfChar_4cfef : ByteArray := prog_23_method_47_code
def yJ2_indexOfChar_4cfef : MethodName := ⟨RJ2, "indexOfChar", "([BIII)I"⟩
abbrev cJ2_indexOfCharUnsafe_4cfef : ByteArray := prog_23_method_48_code
def yJ2_indexOfCharUnsafe_4cfef : MethodName := ⟨RJ2, "indexOfCharUnsafe", "([BIII)I"⟩
abbrev cJ2_indexOfSupplementary_4cfef : ByteArray := prog_23_method_49_code
def yJ2_indexOfSupplementary_4cfef : MethodName := ⟨RJ2, "indexOfSupplementary", "([BIII)I"⟩
abbrev cJ2_checkBoundsBeginEnd_d044e : ByteArray := prog_23_method_93_code
def yJ2_checkBoundsBeginEnd_d044e : MethodName := ⟨RJ2, "checkBoundsBeginEnd", "(II[B)V"⟩
def RJ10 : String := "java/lang/System"
def TJ10 : u_T := fun k => match k with
  | _ => ("", "", "", false)
def tyJ10 : Nat → FieldType := fun k => match k with
  | _ => .int
abbrev wsJ100 : List Cond := u_ws RJ10 TJ10 0
theorem nmJ10 : ∀ a, a < 0 → ∀ b, b < 0 → a ≠ b → (TJ10 a).2.1 ≠ (TJ10 b).2.1 := by decide +kernel
theorem tyJ10_ok : ∀ k, k < 0 → parseFieldDescriptor (TJ10 k).2.2.1 = some (tyJ10 k) := by decide +kernel
def RJxfd54e : String := "java/lang/constant/Constable"
def TJxfd54e : u_T := fun k => match k with
  | _ => ("", "", "", false)
def tyJxfd54e : Nat → FieldType := fun k => match k with
  | _ => .int
abbrev wsJxfd54e0 : List Cond := u_ws RJxfd54e TJxfd54e 0
theorem nmJxfd54e : ∀ a, a < 0 → ∀ b, b < 0 → a ≠ b → (TJxfd54e a).2.1 ≠ (TJxfd54e b).2.1 := by decide +kernel
theorem tyJxfd54e_ok : ∀ k, k < 0 → parseFieldDescriptor (TJxfd54e k).2.2.1 = some (tyJxfd54e k) := by decide +kernel
def RJx3cf43 : String := "java/lang/constant/ConstantDesc"
def TJx3cf43 : u_T := fun k => match k with
  | _ => ("", "", "", false)
def tyJx3cf43 : Nat → FieldType := fun k => match k with
  | _ => .int
abbrev wsJx3cf430 : List Cond := u_ws RJx3cf43 TJx3cf43 0
theorem nmJx3cf43 : ∀ a, a < 0 → ∀ b, b < 0 → a ≠ b → (TJx3cf43 a).2.1 ≠ (TJx3cf43 b).2.1 := by decide +kernel
theorem tyJx3cf43_ok : ∀ k, k < 0 → parseFieldDescriptor (TJx3cf43 k).2.2.1 = some (tyJx3cf43 k) := by decide +kernel
def RJ7 : String := "java/util/Arrays"
def TJ7 : u_T := fun k => match k with
  | _ => ("", "", "", false)
def tyJ7 : Nat → FieldType := fun k => match k with
  | _ => .int
abbrev wsJ70 : List Cond := u_ws RJ7 TJ7 0
theorem nmJ7 : ∀ a, a < 0 → ∀ b, b < 0 → a ≠ b → (TJ7 a).2.1 ≠ (TJ7 b).2.1 := by decide +kernel
theorem tyJ7_ok : ∀ k, k < 0 → parseFieldDescriptor (TJ7 k).2.2.1 = some (tyJ7 k) := by decide +kernel
abbrev cJ7_fill_53178 : ByteArray := prog_28_method_103_code
def yJ7_fill_53178 : MethodName := ⟨RJ7, "fill", "([II)V"⟩
def RJ3 : String := "jdk/internal/util/Preconditions"
def TJ3 : u_T := fun k => match k with
  | _ => ("", "", "", false)
def tyJ3 : Nat → FieldType := fun k => match k with
  | _ => .int
abbrev wsJ30 : List Cond := u_ws RJ3 TJ3 0
theorem nmJ3 : ∀ a, a < 0 → ∀ b, b < 0 → a ≠ b → (TJ3 a).2.1 ≠ (TJ3 b).2.1 := by decide +kernel
theorem tyJ3_ok : ∀ k, k < 0 → parseFieldDescriptor (TJ3 k).2.2.1 = some (tyJ3 k) := by decide +kernel
abbrev cJ3_checkFromToIndex_8c36e : ByteArray := prog_30_method_12_code
def yJ3_checkFromToIndex_8c36e : MethodName := ⟨RJ3, "checkFromToIndex", "(IIILjava/util/function/BiFunction;)I"⟩
def RL : String := "CausalBroadcastLaw"
abbrev cL_reset : ByteArray := method_3_code
def yL_reset : MethodName := ⟨RL, "reset", "(LCausalBroadcast;I[J)I"⟩
abbrev cL_membersOf : ByteArray := method_4_code
def yL_membersOf : MethodName := ⟨RL, "membersOf", "(LCausalBroadcast;I[J)I"⟩
abbrev cL_forcedIn : ByteArray := method_5_code
def yL_forcedIn : MethodName := ⟨RL, "forcedIn", "(LCausalBroadcast;I[J)I"⟩
abbrev cL_requestJoin : ByteArray := method_6_code
def yL_requestJoin : MethodName := ⟨RL, "requestJoin", "(LCausalBroadcast;I[J)I"⟩
abbrev cL_requestLeave : ByteArray := method_7_code
def yL_requestLeave : MethodName := ⟨RL, "requestLeave", "(LCausalBroadcast;I[J)I"⟩
abbrev cL_install : ByteArray := method_8_code
def yL_install : MethodName := ⟨RL, "install", "(LCausalBroadcast;[J)I"⟩
abbrev cL_broadcast : ByteArray := method_9_code
def yL_broadcast : MethodName := ⟨RL, "broadcast", "(LCausalBroadcast;II[J)I"⟩
abbrev cL_arrive : ByteArray := method_10_code
def yL_arrive : MethodName := ⟨RL, "arrive", "(LCausalBroadcast;II[J)I"⟩
abbrev cL_arriveAll : ByteArray := method_11_code
def yL_arriveAll : MethodName := ⟨RL, "arriveAll", "(LCausalBroadcast;I[J)I"⟩
abbrev cL_gossip : ByteArray := method_12_code
def yL_gossip : MethodName := ⟨RL, "gossip", "(LCausalBroadcast;II[J)I"⟩
abbrev cL_message : ByteArray := method_13_code
def yL_message : MethodName := ⟨RL, "message", "(LCausalBroadcast;II[J)I"⟩
abbrev cL_messageClock : ByteArray := method_14_code
def yL_messageClock : MethodName := ⟨RL, "messageClock", "(LCausalBroadcast;II[J)I"⟩
abbrev cL_isCause : ByteArray := method_15_code
def yL_isCause : MethodName := ⟨RL, "isCause", "(LCausalBroadcast;II[J)I"⟩
abbrev cL_causes : ByteArray := method_16_code
def yL_causes : MethodName := ⟨RL, "causes", "(LCausalBroadcast;I[J)I"⟩
abbrev cL_concurrent : ByteArray := method_17_code
def yL_concurrent : MethodName := ⟨RL, "concurrent", "(LCausalBroadcast;I[J)I"⟩
abbrev cL_longestChain : ByteArray := method_18_code
def yL_longestChain : MethodName := ⟨RL, "longestChain", "(LCausalBroadcast;I[J)I"⟩
abbrev cL_logLength : ByteArray := method_19_code
def yL_logLength : MethodName := ⟨RL, "logLength", "(LCausalBroadcast;I[J)I"⟩
abbrev cL_logged : ByteArray := method_20_code
def yL_logged : MethodName := ⟨RL, "logged", "(LCausalBroadcast;II[J)I"⟩
abbrev cL_position : ByteArray := method_21_code
def yL_position : MethodName := ⟨RL, "position", "(LCausalBroadcast;II[J)I"⟩
abbrev cL_state : ByteArray := method_22_code
def yL_state : MethodName := ⟨RL, "state", "(LCausalBroadcast;I[J)I"⟩
abbrev cL_clock : ByteArray := method_23_code
def yL_clock : MethodName := ⟨RL, "clock", "(LCausalBroadcast;II[J)I"⟩
abbrev cL_buffered : ByteArray := method_24_code
def yL_buffered : MethodName := ⟨RL, "buffered", "(LCausalBroadcast;I[J)I"⟩
abbrev cL_bufferedMessage : ByteArray := method_25_code
def yL_bufferedMessage : MethodName := ⟨RL, "bufferedMessage", "(LCausalBroadcast;II[J)I"⟩
abbrev cL_missing : ByteArray := method_26_code
def yL_missing : MethodName := ⟨RL, "missing", "(LCausalBroadcast;II[J)I"⟩
abbrev cL_inTransit : ByteArray := method_27_code
def yL_inTransit : MethodName := ⟨RL, "inTransit", "(LCausalBroadcast;I[J)I"⟩
abbrev cL_disagreements : ByteArray := method_28_code
def yL_disagreements : MethodName := ⟨RL, "disagreements", "(LCausalBroadcast;II[J)I"⟩
abbrev cL_overlap : ByteArray := method_29_code
def yL_overlap : MethodName := ⟨RL, "overlap", "(LCausalBroadcast;II[D)I"⟩
abbrev cL_known : ByteArray := method_30_code
def yL_known : MethodName := ⟨RL, "known", "(LCausalBroadcast;III[J)I"⟩
abbrev cL_isStable : ByteArray := method_31_code
def yL_isStable : MethodName := ⟨RL, "isStable", "(LCausalBroadcast;II[J)I"⟩
abbrev cL_unstable : ByteArray := method_32_code
def yL_unstable : MethodName := ⟨RL, "unstable", "(LCausalBroadcast;I[J)I"⟩
abbrev cL_isEverywhere : ByteArray := method_33_code
def yL_isEverywhere : MethodName := ⟨RL, "isEverywhere", "(LCausalBroadcast;I[J)I"⟩
abbrev cL_firstUnaware : ByteArray := method_34_code
def yL_firstUnaware : MethodName := ⟨RL, "firstUnaware", "(LCausalBroadcast;I[J)I"⟩
abbrev cL_append : ByteArray := method_35_code
def yL_append : MethodName := ⟨RL, "append", "(LCausalBroadcast;C[J)I"⟩
abbrev cL_run : ByteArray := method_36_code
def yL_run : MethodName := ⟨RL, "run", "(LCausalBroadcast;[J)I"⟩
abbrev cL_errorPosition : ByteArray := method_37_code
def yL_errorPosition : MethodName := ⟨RL, "errorPosition", "(LCausalBroadcast;[J)I"⟩
abbrev cL_restoreSnapshot : ByteArray := method_38_code
def yL_restoreSnapshot : MethodName := ⟨RL, "restoreSnapshot", "(LCausalBroadcast;[J)I"⟩
abbrev cL_law : ByteArray := code
def yL_law : MethodName := ⟨RL, "law", "([I)Z"⟩
end
section
theorem dX5_init_0 : decode cX5_init 0 = .ok (.aload_n 0, 1) := by decide +kernel
theorem dX5_init_1 : decode cX5_init 1 = .ok (.invokespecial 1, 3) := by decide +kernel
theorem dX5_init_4 : decode cX5_init 4 = .ok (.aload_n 0, 1) := by decide +kernel
theorem dX5_init_5 : decode cX5_init 5 = .ok (.sipush 4486, 3) := by decide +kernel
theorem dX5_init_8 : decode cX5_init 8 = .ok (.newarray .int, 2) := by decide +kernel
theorem dX5_init_10 : decode cX5_init 10 = .ok (.putfield 9, 3) := by decide +kernel
theorem dX5_init_13 : decode cX5_init 13 = .ok (.aload_n 0, 1) := by decide +kernel
theorem dX5_init_14 : decode cX5_init 14 = .ok (.sipush 4486, 3) := by decide +kernel
theorem dX5_init_17 : decode cX5_init 17 = .ok (.newarray .int, 2) := by decide +kernel
theorem dX5_init_19 : decode cX5_init 19 = .ok (.putfield 13, 3) := by decide +kernel
theorem dX5_init_22 : decode cX5_init 22 = .ok (.aload_n 0, 1) := by decide +kernel
theorem dX5_init_23 : decode cX5_init 23 = .ok (.sipush 4486, 3) := by decide +kernel
theorem dX5_init_26 : decode cX5_init 26 = .ok (.newarray .int, 2) := by decide +kernel
theorem dX5_init_28 : decode cX5_init 28 = .ok (.putfield 16, 3) := by decide +kernel
theorem dX5_init_31 : decode cX5_init 31 = .ok (.aload_n 0, 1) := by decide +kernel
theorem dX5_init_32 : decode cX5_init 32 = .ok (.bipush 60, 2) := by decide +kernel
theorem dX5_init_34 : decode cX5_init 34 = .ok (.newarray .int, 2) := by decide +kernel
theorem dX5_init_36 : decode cX5_init 36 = .ok (.putfield 19, 3) := by decide +kernel
theorem dX5_init_39 : decode cX5_init 39 = .ok (.aload_n 0, 1) := by decide +kernel
theorem dX5_init_40 : decode cX5_init 40 = .ok (.iconst (-1), 1) := by decide +kernel
theorem dX5_init_41 : decode cX5_init 41 = .ok (.putfield 22, 3) := by decide +kernel
theorem dX5_init_44 : decode cX5_init 44 = .ok (.aload_n 0, 1) := by decide +kernel
theorem dX5_init_45 : decode cX5_init 45 = .ok (.sipush 150, 3) := by decide +kernel
theorem dX5_init_48 : decode cX5_init 48 = .ok (.newarray .int, 2) := by decide +kernel
theorem dX5_init_50 : decode cX5_init 50 = .ok (.putfield 26, 3) := by decide +kernel
theorem dX5_init_53 : decode cX5_init 53 = .ok (.aload_n 0, 1) := by decide +kernel
theorem dX5_init_54 : decode cX5_init 54 = .ok (.bipush 60, 2) := by decide +kernel
theorem dX5_init_56 : decode cX5_init 56 = .ok (.newarray .int, 2) := by decide +kernel
theorem dX5_init_58 : decode cX5_init 58 = .ok (.putfield 29, 3) := by decide +kernel
theorem dX5_init_61 : decode cX5_init 61 = .ok (.aload_n 0, 1) := by decide +kernel
theorem dX5_init_62 : decode cX5_init 62 = .ok (.bipush 60, 2) := by decide +kernel
theorem dX5_init_64 : decode cX5_init 64 = .ok (.newarray .int, 2) := by decide +kernel
theorem dX5_init_66 : decode cX5_init 66 = .ok (.putfield 32, 3) := by decide +kernel
theorem dX5_init_69 : decode cX5_init 69 = .ok (.aload_n 0, 1) := by decide +kernel
theorem dX5_init_70 : decode cX5_init 70 = .ok (.bipush 60, 2) := by decide +kernel
theorem dX5_init_72 : decode cX5_init 72 = .ok (.newarray .int, 2) := by decide +kernel
theorem dX5_init_74 : decode cX5_init 74 = .ok (.putfield 35, 3) := by decide +kernel
theorem dX5_init_77 : decode cX5_init 77 = .ok (.aload_n 0, 1) := by decide +kernel
theorem dX5_init_78 : decode cX5_init 78 = .ok (.getfield 9, 3) := by decide +kernel
theorem dX5_init_81 : decode cX5_init 81 = .ok (.iconst 0, 1) := by decide +kernel
theorem dX5_init_82 : decode cX5_init 82 = .ok (.iconst 3, 1) := by decide +kernel
theorem dX5_init_83 : decode cX5_init 83 = .ok (.iastore, 1) := by decide +kernel
theorem dX5_init_84 : decode cX5_init 84 = .ok (.aload_n 0, 1) := by decide +kernel
theorem dX5_init_85 : decode cX5_init 85 = .ok (.getfield 9, 3) := by decide +kernel
theorem dX5_init_88 : decode cX5_init 88 = .ok (.bipush 43, 2) := by decide +kernel
theorem dX5_init_90 : decode cX5_init 90 = .ok (.iconst 3, 1) := by decide +kernel
theorem dX5_init_91 : decode cX5_init 91 = .ok (.iastore, 1) := by decide +kernel
theorem dX5_init_92 : decode cX5_init 92 = .ok (.return_, 1) := by decide +kernel
theorem dX5_thrown_0 : decode cX5_thrown 0 = .ok (.aload_n 0, 1) := by decide +kernel
theorem dX5_thrown_1 : decode cX5_thrown 1 = .ok (.getfield 38, 3) := by decide +kernel
theorem dX5_thrown_4 : decode cX5_thrown 4 = .ok (.ireturn, 1) := by decide +kernel
theorem dX5_no_0 : decode cX5_no 0 = .ok (.aload_n 0, 1) := by decide +kernel
theorem dX5_no_1 : decode cX5_no 1 = .ok (.iload_n 1, 1) := by decide +kernel
theorem dX5_no_2 : decode cX5_no 2 = .ok (.putfield 38, 3) := by decide +kernel
theorem dX5_no_5 : decode cX5_no 5 = .ok (.iconst 0, 1) := by decide +kernel
theorem dX5_no_6 : decode cX5_no 6 = .ok (.ireturn, 1) := by decide +kernel
theorem dX5_isIn_0 : decode cX5_isIn 0 = .ok (.iload_n 0, 1) := by decide +kernel
theorem dX5_isIn_1 : decode cX5_isIn 1 = .ok (.iload_n 1, 1) := by decide +kernel
theorem dX5_isIn_2 : decode cX5_isIn 2 = .ok (.if_icmp .lt 12, 3) := by decide +kernel
theorem dX5_isIn_5 : decode cX5_isIn 5 = .ok (.iload_n 0, 1) := by decide +kernel
theorem dX5_isIn_6 : decode cX5_isIn 6 = .ok (.iload_n 2, 1) := by decide +kernel
theorem dX5_isIn_7 : decode cX5_isIn 7 = .ok (.if_icmp .gt 7, 3) := by decide +kernel
theorem dX5_isIn_10 : decode cX5_isIn 10 = .ok (.iconst 1, 1) := by decide +kernel
theorem dX5_isIn_11 : decode cX5_isIn 11 = .ok (.goto 4, 3) := by decide +kernel
theorem dX5_isIn_14 : decode cX5_isIn 14 = .ok (.iconst 0, 1) := by decide +kernel
theorem dX5_isIn_15 : decode cX5_isIn 15 = .ok (.ireturn, 1) := by decide +kernel
theorem dX5_copies_0 : decode cX5_copies 0 = .ok (.iconst 0, 1) := by decide +kernel
theorem dX5_copies_1 : decode cX5_copies 1 = .ok (.istore_n 2, 1) := by decide +kernel
theorem dX5_copies_2 : decode cX5_copies 2 = .ok (.iload_n 2, 1) := by decide +kernel
theorem dX5_copies_3 : decode cX5_copies 3 = .ok (.sipush 4486, 3) := by decide +kernel
theorem dX5_copies_6 : decode cX5_copies 6 = .ok (.if_icmp .ge 15, 3) := by decide +kernel
theorem dX5_copies_9 : decode cX5_copies 9 = .ok (.aload_n 1, 1) := by decide +kernel
theorem dX5_copies_10 : decode cX5_copies 10 = .ok (.iload_n 2, 1) := by decide +kernel
theorem dX5_copies_11 : decode cX5_copies 11 = .ok (.aload_n 0, 1) := by decide +kernel
theorem dX5_copies_12 : decode cX5_copies 12 = .ok (.iload_n 2, 1) := by decide +kernel
theorem dX5_copies_13 : decode cX5_copies 13 = .ok (.iaload, 1) := by decide +kernel
theorem dX5_copies_14 : decode cX5_copies 14 = .ok (.iastore, 1) := by decide +kernel
theorem dX5_copies_15 : decode cX5_copies 15 = .ok (.iinc 2 1, 3) := by decide +kernel
theorem dX5_copies_18 : decode cX5_copies 18 = .ok (.goto (-16), 3) := by decide +kernel
theorem dX5_copies_21 : decode cX5_copies 21 = .ok (.return_, 1) := by decide +kernel
theorem dX5_isProcess_0 : decode cX5_isProcess 0 = .ok (.iload_n 0, 1) := by decide +kernel
theorem dX5_isProcess_1 : decode cX5_isProcess 1 = .ok (.iconst 0, 1) := by decide +kernel
theorem dX5_isProcess_2 : decode cX5_isProcess 2 = .ok (.iconst 5, 1) := by decide +kernel
theorem dX5_isProcess_3 : decode cX5_isProcess 3 = .ok (.invokestatic 41, 3) := by decide +kernel
theorem dX5_isProcess_6 : decode cX5_isProcess 6 = .ok (.ireturn, 1) := by decide +kernel
theorem dX5_isMessage_0 : decode cX5_isMessage 0 = .ok (.iload_n 1, 1) := by decide +kernel
theorem dX5_isMessage_1 : decode cX5_isMessage 1 = .ok (.iconst 0, 1) := by decide +kernel
theorem dX5_isMessage_2 : decode cX5_isMessage 2 = .ok (.aload_n 0, 1) := by decide +kernel
theorem dX5_isMessage_3 : decode cX5_isMessage 3 = .ok (.getfield 9, 3) := by decide +kernel
theorem dX5_isMessage_6 : decode cX5_isMessage 6 = .ok (.bipush 44, 2) := by decide +kernel
theorem dX5_isMessage_8 : decode cX5_isMessage 8 = .ok (.iaload, 1) := by decide +kernel
theorem dX5_isMessage_9 : decode cX5_isMessage 9 = .ok (.iconst 1, 1) := by decide +kernel
theorem dX5_isMessage_10 : decode cX5_isMessage 10 = .ok (.isub, 1) := by decide +kernel
theorem dX5_isMessage_11 : decode cX5_isMessage 11 = .ok (.invokestatic 41, 3) := by decide +kernel
theorem dX5_isMessage_14 : decode cX5_isMessage 14 = .ok (.ireturn, 1) := by decide +kernel
theorem dX5_members_0 : decode cX5_members 0 = .ok (.aload_n 0, 1) := by decide +kernel
theorem dX5_members_1 : decode cX5_members 1 = .ok (.getfield 9, 3) := by decide +kernel
theorem dX5_members_4 : decode cX5_members 4 = .ok (.iconst 0, 1) := by decide +kernel
theorem dX5_members_5 : decode cX5_members 5 = .ok (.aload_n 0, 1) := by decide +kernel
theorem dX5_members_6 : decode cX5_members 6 = .ok (.getfield 9, 3) := by decide +kernel
theorem dX5_members_9 : decode cX5_members 9 = .ok (.bipush 42, 2) := by decide +kernel
theorem dX5_members_11 : decode cX5_members 11 = .ok (.iaload, 1) := by decide +kernel
theorem dX5_members_12 : decode cX5_members 12 = .ok (.iadd, 1) := by decide +kernel
theorem dX5_members_13 : decode cX5_members 13 = .ok (.iaload, 1) := by decide +kernel
theorem dX5_members_14 : decode cX5_members 14 = .ok (.ireturn, 1) := by decide +kernel
theorem dX5_isMember_0 : decode cX5_isMember 0 = .ok (.aload_n 0, 1) := by decide +kernel
theorem dX5_isMember_1 : decode cX5_isMember 1 = .ok (.invokevirtual 45, 3) := by decide +kernel
theorem dX5_isMember_4 : decode cX5_isMember 4 = .ok (.iload_n 1, 1) := by decide +kernel
theorem dX5_isMember_5 : decode cX5_isMember 5 = .ok (.ishr, 1) := by decide +kernel
theorem dX5_isMember_6 : decode cX5_isMember 6 = .ok (.iconst 1, 1) := by decide +kernel
theorem dX5_isMember_7 : decode cX5_isMember 7 = .ok (.iand, 1) := by decide +kernel
theorem dX5_isMember_8 : decode cX5_isMember 8 = .ok (.iconst 1, 1) := by decide +kernel
theorem dX5_isMember_9 : decode cX5_isMember 9 = .ok (.if_icmp .ne 7, 3) := by decide +kernel
theorem dX5_isMember_12 : decode cX5_isMember 12 = .ok (.iconst 1, 1) := by decide +kernel
theorem dX5_isMember_13 : decode cX5_isMember 13 = .ok (.goto 4, 3) := by decide +kernel
theorem dX5_isMember_16 : decode cX5_isMember 16 = .ok (.iconst 0, 1) := by decide +kernel
theorem dX5_isMember_17 : decode cX5_isMember 17 = .ok (.ireturn, 1) := by decide +kernel
theorem dX5_isOne_0 : decode cX5_isOne 0 = .ok (.aload_n 0, 1) := by decide +kernel
theorem dX5_isOne_1 : decode cX5_isOne 1 = .ok (.iload_n 1, 1) := by decide +kernel
theorem dX5_isOne_2 : decode cX5_isOne 2 = .ok (.invokestatic 49, 3) := by decide +kernel
theorem dX5_isOne_5 : decode cX5_isOne 5 = .ok (.ifCond .eq 7, 3) := by decide +kernel
theorem dX5_isOne_8 : decode cX5_isOne 8 = .ok (.iconst 0, 1) := by decide +kernel
theorem dX5_isOne_9 : decode cX5_isOne 9 = .ok (.goto 4, 3) := by decide +kernel
theorem dX5_isOne_12 : decode cX5_isOne 12 = .ok (.iconst 1, 1) := by decide +kernel
theorem dX5_isOne_13 : decode cX5_isOne 13 = .ok (.putfield 38, 3) := by decide +kernel
theorem dX5_isOne_16 : decode cX5_isOne 16 = .ok (.aload_n 0, 1) := by decide +kernel
theorem dX5_isOne_17 : decode cX5_isOne 17 = .ok (.getfield 38, 3) := by decide +kernel
theorem dX5_isOne_20 : decode cX5_isOne 20 = .ok (.ifCond .ne 7, 3) := by decide +kernel
theorem dX5_isOne_23 : decode cX5_isOne 23 = .ok (.iconst 1, 1) := by decide +kernel
theorem dX5_isOne_24 : decode cX5_isOne 24 = .ok (.goto 4, 3) := by decide +kernel
theorem dX5_isOne_27 : decode cX5_isOne 27 = .ok (.iconst 0, 1) := by decide +kernel
theorem dX5_isOne_28 : decode cX5_isOne 28 = .ok (.ireturn, 1) := by decide +kernel
theorem dX5_isInView_0 : decode cX5_isInView 0 = .ok (.aload_n 0, 1) := by decide +kernel
theorem dX5_isInView_1 : decode cX5_isInView 1 = .ok (.iload_n 1, 1) := by decide +kernel
theorem dX5_isInView_2 : decode cX5_isInView 2 = .ok (.invokestatic 49, 3) := by decide +kernel
theorem dX5_isInView_5 : decode cX5_isInView 5 = .ok (.ifCond .ne 7, 3) := by decide +kernel
theorem dX5_isInView_8 : decode cX5_isInView 8 = .ok (.iconst 1, 1) := by decide +kernel
theorem dX5_isInView_9 : decode cX5_isInView 9 = .ok (.goto 16, 3) := by decide +kernel
theorem dX5_isInView_12 : decode cX5_isInView 12 = .ok (.aload_n 0, 1) := by decide +kernel
theorem dX5_isInView_13 : decode cX5_isInView 13 = .ok (.iload_n 1, 1) := by decide +kernel
theorem dX5_isInView_14 : decode cX5_isInView 14 = .ok (.invokevirtual 53, 3) := by decide +kernel
theorem dX5_isInView_17 : decode cX5_isInView 17 = .ok (.ifCond .eq 7, 3) := by decide +kernel
theorem dX5_isInView_20 : decode cX5_isInView 20 = .ok (.iconst 0, 1) := by decide +kernel
theorem dX5_isInView_21 : decode cX5_isInView 21 = .ok (.goto 4, 3) := by decide +kernel
theorem dX5_isInView_24 : decode cX5_isInView 24 = .ok (.iconst 2, 1) := by decide +kernel
theorem dX5_isInView_25 : decode cX5_isInView 25 = .ok (.putfield 38, 3) := by decide +kernel
theorem dX5_isInView_28 : decode cX5_isInView 28 = .ok (.aload_n 0, 1) := by decide +kernel
theorem dX5_isInView_29 : decode cX5_isInView 29 = .ok (.getfield 38, 3) := by decide +kernel
theorem dX5_isInView_32 : decode cX5_isInView 32 = .ok (.ifCond .ne 7, 3) := by decide +kernel
theorem dX5_isInView_35 : decode cX5_isInView 35 = .ok (.iconst 1, 1) := by decide +kernel
theorem dX5_isInView_36 : decode cX5_isInView 36 = .ok (.goto 4, 3) := by decide +kernel
theorem dX5_isInView_39 : decode cX5_isInView 39 = .ok (.iconst 0, 1) := by decide +kernel
theorem dX5_isInView_40 : decode cX5_isInView 40 = .ok (.ireturn, 1) := by decide +kernel
theorem dX5_isSent_0 : decode cX5_isSent 0 = .ok (.aload_n 0, 1) := by decide +kernel
theorem dX5_isSent_1 : decode cX5_isSent 1 = .ok (.aload_n 0, 1) := by decide +kernel
theorem dX5_isSent_2 : decode cX5_isSent 2 = .ok (.iload_n 1, 1) := by decide +kernel
theorem dX5_isSent_3 : decode cX5_isSent 3 = .ok (.invokevirtual 56, 3) := by decide +kernel
theorem dX5_isSent_6 : decode cX5_isSent 6 = .ok (.ifCond .eq 7, 3) := by decide +kernel
theorem dX5_isSent_9 : decode cX5_isSent 9 = .ok (.iconst 0, 1) := by decide +kernel
theorem dX5_isSent_10 : decode cX5_isSent 10 = .ok (.goto 4, 3) := by decide +kernel
theorem dX5_isSent_13 : decode cX5_isSent 13 = .ok (.iconst 1, 1) := by decide +kernel
theorem dX5_isSent_14 : decode cX5_isSent 14 = .ok (.putfield 38, 3) := by decide +kernel
theorem dX5_isSent_17 : decode cX5_isSent 17 = .ok (.aload_n 0, 1) := by decide +kernel
theorem dX5_isSent_18 : decode cX5_isSent 18 = .ok (.getfield 38, 3) := by decide +kernel
theorem dX5_isSent_21 : decode cX5_isSent 21 = .ok (.ifCond .ne 7, 3) := by decide +kernel
theorem dX5_isSent_24 : decode cX5_isSent 24 = .ok (.iconst 1, 1) := by decide +kernel
theorem dX5_isSent_25 : decode cX5_isSent 25 = .ok (.goto 4, 3) := by decide +kernel
theorem dX5_isSent_28 : decode cX5_isSent 28 = .ok (.iconst 0, 1) := by decide +kernel
theorem dX5_isSent_29 : decode cX5_isSent 29 = .ok (.ireturn, 1) := by decide +kernel
theorem dX5_count_0 : decode cX5_count 0 = .ok (.iconst 0, 1) := by decide +kernel
theorem dX5_count_1 : decode cX5_count 1 = .ok (.istore_n 1, 1) := by decide +kernel
theorem dX5_count_2 : decode cX5_count 2 = .ok (.iconst 0, 1) := by decide +kernel
theorem dX5_count_3 : decode cX5_count 3 = .ok (.istore_n 2, 1) := by decide +kernel
theorem dX5_count_4 : decode cX5_count 4 = .ok (.iload_n 2, 1) := by decide +kernel
theorem dX5_count_5 : decode cX5_count 5 = .ok (.bipush 6, 2) := by decide +kernel
theorem dX5_count_7 : decode cX5_count 7 = .ok (.if_icmp .ge 17, 3) := by decide +kernel
theorem dX5_count_10 : decode cX5_count 10 = .ok (.iload_n 1, 1) := by decide +kernel
theorem dX5_count_11 : decode cX5_count 11 = .ok (.iload_n 0, 1) := by decide +kernel
theorem dX5_count_12 : decode cX5_count 12 = .ok (.iload_n 2, 1) := by decide +kernel
theorem dX5_count_13 : decode cX5_count 13 = .ok (.ishr, 1) := by decide +kernel
theorem dX5_count_14 : decode cX5_count 14 = .ok (.iconst 1, 1) := by decide +kernel
theorem dX5_count_15 : decode cX5_count 15 = .ok (.iand, 1) := by decide +kernel
theorem dX5_count_16 : decode cX5_count 16 = .ok (.iadd, 1) := by decide +kernel
theorem dX5_count_17 : decode cX5_count 17 = .ok (.istore_n 1, 1) := by decide +kernel
theorem dX5_count_18 : decode cX5_count 18 = .ok (.iinc 2 1, 3) := by decide +kernel
theorem dX5_count_21 : decode cX5_count 21 = .ok (.goto (-17), 3) := by decide +kernel
theorem dX5_count_24 : decode cX5_count 24 = .ok (.iload_n 1, 1) := by decide +kernel
theorem dX5_count_25 : decode cX5_count 25 = .ok (.ireturn, 1) := by decide +kernel
theorem dX5_reset_0 : decode cX5_reset 0 = .ok (.aload_n 0, 1) := by decide +kernel
theorem dX5_reset_1 : decode cX5_reset 1 = .ok (.iconst 0, 1) := by decide +kernel
theorem dX5_reset_2 : decode cX5_reset 2 = .ok (.putfield 38, 3) := by decide +kernel
theorem dX5_reset_5 : decode cX5_reset 5 = .ok (.iload_n 1, 1) := by decide +kernel
theorem dX5_reset_6 : decode cX5_reset 6 = .ok (.iconst 1, 1) := by decide +kernel
theorem dX5_reset_7 : decode cX5_reset 7 = .ok (.bipush 63, 2) := by decide +kernel
theorem dX5_reset_9 : decode cX5_reset 9 = .ok (.invokestatic 41, 3) := by decide +kernel
theorem dX5_reset_12 : decode cX5_reset 12 = .ok (.ifCond .ne 9, 3) := by decide +kernel
theorem dX5_reset_15 : decode cX5_reset 15 = .ok (.aload_n 0, 1) := by decide +kernel
theorem dX5_reset_16 : decode cX5_reset 16 = .ok (.iconst 1, 1) := by decide +kernel
theorem dX5_reset_17 : decode cX5_reset 17 = .ok (.invokevirtual 59, 3) := by decide +kernel
theorem dX5_reset_20 : decode cX5_reset 20 = .ok (.ireturn, 1) := by decide +kernel
theorem dX5_reset_21 : decode cX5_reset 21 = .ok (.aload_n 0, 1) := by decide +kernel
theorem dX5_reset_22 : decode cX5_reset 22 = .ok (.getfield 9, 3) := by decide +kernel
theorem dX5_reset_25 : decode cX5_reset 25 = .ok (.bipush 44, 2) := by decide +kernel
theorem dX5_reset_27 : decode cX5_reset 27 = .ok (.iaload, 1) := by decide +kernel
theorem dX5_reset_28 : decode cX5_reset 28 = .ok (.istore_n 2, 1) := by decide +kernel
theorem dX5_reset_29 : decode cX5_reset 29 = .ok (.iconst 0, 1) := by decide +kernel
theorem dX5_reset_30 : decode cX5_reset 30 = .ok (.istore_n 3, 1) := by decide +kernel
theorem dX5_reset_31 : decode cX5_reset 31 = .ok (.iload_n 3, 1) := by decide +kernel
theorem dX5_reset_32 : decode cX5_reset 32 = .ok (.sipush 4486, 3) := by decide +kernel
theorem dX5_reset_35 : decode cX5_reset 35 = .ok (.if_icmp .ge 16, 3) := by decide +kernel
theorem dX5_reset_38 : decode cX5_reset 38 = .ok (.aload_n 0, 1) := by decide +kernel
theorem dX5_reset_39 : decode cX5_reset 39 = .ok (.getfield 9, 3) := by decide +kernel
theorem dX5_reset_42 : decode cX5_reset 42 = .ok (.iload_n 3, 1) := by decide +kernel
theorem dX5_reset_43 : decode cX5_reset 43 = .ok (.iconst 0, 1) := by decide +kernel
theorem dX5_reset_44 : decode cX5_reset 44 = .ok (.iastore, 1) := by decide +kernel
theorem dX5_reset_45 : decode cX5_reset 45 = .ok (.iinc 3 1, 3) := by decide +kernel
theorem dX5_reset_48 : decode cX5_reset 48 = .ok (.goto (-17), 3) := by decide +kernel
theorem dX5_reset_51 : decode cX5_reset 51 = .ok (.aload_n 0, 1) := by decide +kernel
theorem dX5_reset_52 : decode cX5_reset 52 = .ok (.getfield 9, 3) := by decide +kernel
theorem dX5_reset_55 : decode cX5_reset 55 = .ok (.iconst 0, 1) := by decide +kernel
theorem dX5_reset_56 : decode cX5_reset 56 = .ok (.iload_n 1, 1) := by decide +kernel
theorem dX5_reset_57 : decode cX5_reset 57 = .ok (.iastore, 1) := by decide +kernel
theorem dX5_reset_58 : decode cX5_reset 58 = .ok (.aload_n 0, 1) := by decide +kernel
theorem dX5_reset_59 : decode cX5_reset 59 = .ok (.getfield 9, 3) := by decide +kernel
theorem dX5_reset_62 : decode cX5_reset 62 = .ok (.bipush 43, 2) := by decide +kernel
theorem dX5_reset_64 : decode cX5_reset 64 = .ok (.iload_n 1, 1) := by decide +kernel
theorem dX5_reset_65 : decode cX5_reset 65 = .ok (.iastore, 1) := by decide +kernel
theorem dX5_reset_66 : decode cX5_reset 66 = .ok (.iload_n 2, 1) := by decide +kernel
theorem dX5_reset_67 : decode cX5_reset 67 = .ok (.ireturn, 1) := by decide +kernel
theorem dX5_view_0 : decode cX5_view 0 = .ok (.aload_n 0, 1) := by decide +kernel
theorem dX5_view_1 : decode cX5_view 1 = .ok (.iconst 0, 1) := by decide +kernel
theorem dX5_view_2 : decode cX5_view 2 = .ok (.putfield 38, 3) := by decide +kernel
theorem dX5_view_5 : decode cX5_view 5 = .ok (.aload_n 0, 1) := by decide +kernel
theorem dX5_view_6 : decode cX5_view 6 = .ok (.getfield 9, 3) := by decide +kernel
theorem dX5_view_9 : decode cX5_view 9 = .ok (.bipush 42, 2) := by decide +kernel
theorem dX5_view_11 : decode cX5_view 11 = .ok (.iaload, 1) := by decide +kernel
theorem dX5_view_12 : decode cX5_view 12 = .ok (.ireturn, 1) := by decide +kernel
theorem dX5_membersOf_0 : decode cX5_membersOf 0 = .ok (.aload_n 0, 1) := by decide +kernel
theorem dX5_membersOf_1 : decode cX5_membersOf 1 = .ok (.iconst 0, 1) := by decide +kernel
theorem dX5_membersOf_2 : decode cX5_membersOf 2 = .ok (.putfield 38, 3) := by decide +kernel
theorem dX5_membersOf_5 : decode cX5_membersOf 5 = .ok (.iload_n 1, 1) := by decide +kernel
theorem dX5_membersOf_6 : decode cX5_membersOf 6 = .ok (.iconst 0, 1) := by decide +kernel
theorem dX5_membersOf_7 : decode cX5_membersOf 7 = .ok (.aload_n 0, 1) := by decide +kernel
theorem dX5_membersOf_8 : decode cX5_membersOf 8 = .ok (.getfield 9, 3) := by decide +kernel
theorem dX5_membersOf_11 : decode cX5_membersOf 11 = .ok (.bipush 42, 2) := by decide +kernel
theorem dX5_membersOf_13 : decode cX5_membersOf 13 = .ok (.iaload, 1) := by decide +kernel
theorem dX5_membersOf_14 : decode cX5_membersOf 14 = .ok (.invokestatic 41, 3) := by decide +kernel
theorem dX5_membersOf_17 : decode cX5_membersOf 17 = .ok (.ifCond .eq 14, 3) := by decide +kernel
theorem dX5_membersOf_20 : decode cX5_membersOf 20 = .ok (.aload_n 0, 1) := by decide +kernel
theorem dX5_membersOf_21 : decode cX5_membersOf 21 = .ok (.getfield 9, 3) := by decide +kernel
theorem dX5_membersOf_24 : decode cX5_membersOf 24 = .ok (.iconst 0, 1) := by decide +kernel
theorem dX5_membersOf_25 : decode cX5_membersOf 25 = .ok (.iload_n 1, 1) := by decide +kernel
theorem dX5_membersOf_26 : decode cX5_membersOf 26 = .ok (.iadd, 1) := by decide +kernel
theorem dX5_membersOf_27 : decode cX5_membersOf 27 = .ok (.iaload, 1) := by decide +kernel
theorem dX5_membersOf_28 : decode cX5_membersOf 28 = .ok (.goto 8, 3) := by decide +kernel
theorem dX5_membersOf_31 : decode cX5_membersOf 31 = .ok (.aload_n 0, 1) := by decide +kernel
theorem dX5_membersOf_32 : decode cX5_membersOf 32 = .ok (.iconst 1, 1) := by decide +kernel
theorem dX5_membersOf_33 : decode cX5_membersOf 33 = .ok (.invokevirtual 59, 3) := by decide +kernel
theorem dX5_membersOf_36 : decode cX5_membersOf 36 = .ok (.ireturn, 1) := by decide +kernel
theorem dX5_forcedIn_0 : decode cX5_forcedIn 0 = .ok (.aload_n 0, 1) := by decide +kernel
theorem dX5_forcedIn_1 : decode cX5_forcedIn 1 = .ok (.iconst 0, 1) := by decide +kernel
theorem dX5_forcedIn_2 : decode cX5_forcedIn 2 = .ok (.putfield 38, 3) := by decide +kernel
theorem dX5_forcedIn_5 : decode cX5_forcedIn 5 = .ok (.iload_n 1, 1) := by decide +kernel
theorem dX5_forcedIn_6 : decode cX5_forcedIn 6 = .ok (.iconst 0, 1) := by decide +kernel
theorem dX5_forcedIn_7 : decode cX5_forcedIn 7 = .ok (.aload_n 0, 1) := by decide +kernel
theorem dX5_forcedIn_8 : decode cX5_forcedIn 8 = .ok (.getfield 9, 3) := by decide +kernel
theorem dX5_forcedIn_11 : decode cX5_forcedIn 11 = .ok (.bipush 42, 2) := by decide +kernel
theorem dX5_forcedIn_13 : decode cX5_forcedIn 13 = .ok (.iaload, 1) := by decide +kernel
theorem dX5_forcedIn_14 : decode cX5_forcedIn 14 = .ok (.invokestatic 41, 3) := by decide +kernel
theorem dX5_forcedIn_17 : decode cX5_forcedIn 17 = .ok (.ifCond .eq 15, 3) := by decide +kernel
theorem dX5_forcedIn_20 : decode cX5_forcedIn 20 = .ok (.aload_n 0, 1) := by decide +kernel
theorem dX5_forcedIn_21 : decode cX5_forcedIn 21 = .ok (.getfield 9, 3) := by decide +kernel
theorem dX5_forcedIn_24 : decode cX5_forcedIn 24 = .ok (.bipush 21, 2) := by decide +kernel
theorem dX5_forcedIn_26 : decode cX5_forcedIn 26 = .ok (.iload_n 1, 1) := by decide +kernel
theorem dX5_forcedIn_27 : decode cX5_forcedIn 27 = .ok (.iadd, 1) := by decide +kernel
theorem dX5_forcedIn_28 : decode cX5_forcedIn 28 = .ok (.iaload, 1) := by decide +kernel
theorem dX5_forcedIn_29 : decode cX5_forcedIn 29 = .ok (.goto 8, 3) := by decide +kernel
theorem dX5_forcedIn_32 : decode cX5_forcedIn 32 = .ok (.aload_n 0, 1) := by decide +kernel
theorem dX5_forcedIn_33 : decode cX5_forcedIn 33 = .ok (.iconst 1, 1) := by decide +kernel
theorem dX5_forcedIn_34 : decode cX5_forcedIn 34 = .ok (.invokevirtual 59, 3) := by decide +kernel
theorem dX5_forcedIn_37 : decode cX5_forcedIn 37 = .ok (.ireturn, 1) := by decide +kernel
theorem dX5_proposed_0 : decode cX5_proposed 0 = .ok (.aload_n 0, 1) := by decide +kernel
theorem dX5_proposed_1 : decode cX5_proposed 1 = .ok (.iconst 0, 1) := by decide +kernel
theorem dX5_proposed_2 : decode cX5_proposed 2 = .ok (.putfield 38, 3) := by decide +kernel
theorem dX5_proposed_5 : decode cX5_proposed 5 = .ok (.aload_n 0, 1) := by decide +kernel
theorem dX5_proposed_6 : decode cX5_proposed 6 = .ok (.getfield 9, 3) := by decide +kernel
theorem dX5_proposed_9 : decode cX5_proposed 9 = .ok (.bipush 43, 2) := by decide +kernel
theorem dX5_proposed_11 : decode cX5_proposed 11 = .ok (.iaload, 1) := by decide +kernel
theorem dX5_proposed_12 : decode cX5_proposed 12 = .ok (.ireturn, 1) := by decide +kernel
theorem dX5_requestJoin_0 : decode cX5_requestJoin 0 = .ok (.aload_n 0, 1) := by decide +kernel
theorem dX5_requestJoin_1 : decode cX5_requestJoin 1 = .ok (.iload_n 1, 1) := by decide +kernel
theorem dX5_requestJoin_2 : decode cX5_requestJoin 2 = .ok (.invokevirtual 63, 3) := by decide +kernel
theorem dX5_requestJoin_5 : decode cX5_requestJoin 5 = .ok (.ifCond .ne 5, 3) := by decide +kernel
theorem dX5_requestJoin_8 : decode cX5_requestJoin 8 = .ok (.iconst 0, 1) := by decide +kernel
theorem dX5_requestJoin_9 : decode cX5_requestJoin 9 = .ok (.ireturn, 1) := by decide +kernel
theorem dX5_requestJoin_10 : decode cX5_requestJoin 10 = .ok (.aload_n 0, 1) := by decide +kernel
theorem dX5_requestJoin_11 : decode cX5_requestJoin 11 = .ok (.getfield 9, 3) := by decide +kernel
theorem dX5_requestJoin_14 : decode cX5_requestJoin 14 = .ok (.bipush 43, 2) := by decide +kernel
theorem dX5_requestJoin_16 : decode cX5_requestJoin 16 = .ok (.iaload, 1) := by decide +kernel
theorem dX5_requestJoin_17 : decode cX5_requestJoin 17 = .ok (.iload_n 1, 1) := by decide +kernel
theorem dX5_requestJoin_18 : decode cX5_requestJoin 18 = .ok (.ishr, 1) := by decide +kernel
theorem dX5_requestJoin_19 : decode cX5_requestJoin 19 = .ok (.iconst 1, 1) := by decide +kernel
theorem dX5_requestJoin_20 : decode cX5_requestJoin 20 = .ok (.iand, 1) := by decide +kernel
theorem dX5_requestJoin_21 : decode cX5_requestJoin 21 = .ok (.iconst 1, 1) := by decide +kernel
theorem dX5_requestJoin_22 : decode cX5_requestJoin 22 = .ok (.if_icmp .ne 9, 3) := by decide +kernel
theorem dX5_requestJoin_25 : decode cX5_requestJoin 25 = .ok (.aload_n 0, 1) := by decide +kernel
theorem dX5_requestJoin_26 : decode cX5_requestJoin 26 = .ok (.iconst 2, 1) := by decide +kernel
theorem dX5_requestJoin_27 : decode cX5_requestJoin 27 = .ok (.invokevirtual 59, 3) := by decide +kernel
theorem dX5_requestJoin_30 : decode cX5_requestJoin 30 = .ok (.ireturn, 1) := by decide +kernel
theorem dX5_requestJoin_31 : decode cX5_requestJoin 31 = .ok (.aload_n 0, 1) := by decide +kernel
theorem dX5_requestJoin_32 : decode cX5_requestJoin 32 = .ok (.getfield 9, 3) := by decide +kernel
theorem dX5_requestJoin_35 : decode cX5_requestJoin 35 = .ok (.bipush 43, 2) := by decide +kernel
theorem dX5_requestJoin_37 : decode cX5_requestJoin 37 = .ok (.dup2, 1) := by decide +kernel
theorem dX5_requestJoin_38 : decode cX5_requestJoin 38 = .ok (.iaload, 1) := by decide +kernel
theorem dX5_requestJoin_39 : decode cX5_requestJoin 39 = .ok (.iconst 1, 1) := by decide +kernel
theorem dX5_requestJoin_40 : decode cX5_requestJoin 40 = .ok (.iload_n 1, 1) := by decide +kernel
theorem dX5_requestJoin_41 : decode cX5_requestJoin 41 = .ok (.ishl, 1) := by decide +kernel
theorem dX5_requestJoin_42 : decode cX5_requestJoin 42 = .ok (.ior, 1) := by decide +kernel
theorem dX5_requestJoin_43 : decode cX5_requestJoin 43 = .ok (.iastore, 1) := by decide +kernel
theorem dX5_requestJoin_44 : decode cX5_requestJoin 44 = .ok (.aload_n 0, 1) := by decide +kernel
theorem dX5_requestJoin_45 : decode cX5_requestJoin 45 = .ok (.getfield 9, 3) := by decide +kernel
theorem dX5_requestJoin_48 : decode cX5_requestJoin 48 = .ok (.bipush 43, 2) := by decide +kernel
theorem dX5_requestJoin_50 : decode cX5_requestJoin 50 = .ok (.iaload, 1) := by decide +kernel
theorem dX5_requestJoin_51 : decode cX5_requestJoin 51 = .ok (.invokestatic 66, 3) := by decide +kernel
theorem dX5_requestJoin_54 : decode cX5_requestJoin 54 = .ok (.ireturn, 1) := by decide +kernel
theorem dX5_requestLeave_0 : decode cX5_requestLeave 0 = .ok (.aload_n 0, 1) := by decide +kernel
theorem dX5_requestLeave_1 : decode cX5_requestLeave 1 = .ok (.iload_n 1, 1) := by decide +kernel
theorem dX5_requestLeave_2 : decode cX5_requestLeave 2 = .ok (.invokevirtual 63, 3) := by decide +kernel
theorem dX5_requestLeave_5 : decode cX5_requestLeave 5 = .ok (.ifCond .ne 5, 3) := by decide +kernel
theorem dX5_requestLeave_8 : decode cX5_requestLeave 8 = .ok (.iconst 0, 1) := by decide +kernel
theorem dX5_requestLeave_9 : decode cX5_requestLeave 9 = .ok (.ireturn, 1) := by decide +kernel
theorem dX5_requestLeave_10 : decode cX5_requestLeave 10 = .ok (.aload_n 0, 1) := by decide +kernel
theorem dX5_requestLeave_11 : decode cX5_requestLeave 11 = .ok (.getfield 9, 3) := by decide +kernel
theorem dX5_requestLeave_14 : decode cX5_requestLeave 14 = .ok (.bipush 43, 2) := by decide +kernel
theorem dX5_requestLeave_16 : decode cX5_requestLeave 16 = .ok (.iaload, 1) := by decide +kernel
theorem dX5_requestLeave_17 : decode cX5_requestLeave 17 = .ok (.iconst 1, 1) := by decide +kernel
theorem dX5_requestLeave_18 : decode cX5_requestLeave 18 = .ok (.iload_n 1, 1) := by decide +kernel
theorem dX5_requestLeave_19 : decode cX5_requestLeave 19 = .ok (.ishl, 1) := by decide +kernel
theorem dX5_requestLeave_20 : decode cX5_requestLeave 20 = .ok (.iconst (-1), 1) := by decide +kernel
theorem dX5_requestLeave_21 : decode cX5_requestLeave 21 = .ok (.ixor, 1) := by decide +kernel
theorem dX5_requestLeave_22 : decode cX5_requestLeave 22 = .ok (.iand, 1) := by decide +kernel
theorem dX5_requestLeave_23 : decode cX5_requestLeave 23 = .ok (.istore_n 2, 1) := by decide +kernel
theorem dX5_requestLeave_24 : decode cX5_requestLeave 24 = .ok (.iload_n 2, 1) := by decide +kernel
theorem dX5_requestLeave_25 : decode cX5_requestLeave 25 = .ok (.aload_n 0, 1) := by decide +kernel
theorem dX5_requestLeave_26 : decode cX5_requestLeave 26 = .ok (.getfield 9, 3) := by decide +kernel
theorem dX5_requestLeave_29 : decode cX5_requestLeave 29 = .ok (.bipush 43, 2) := by decide +kernel
theorem dX5_requestLeave_31 : decode cX5_requestLeave 31 = .ok (.iaload, 1) := by decide +kernel
theorem dX5_requestLeave_32 : decode cX5_requestLeave 32 = .ok (.if_icmp .eq 12, 3) := by decide +kernel
theorem dX5_requestLeave_35 : decode cX5_requestLeave 35 = .ok (.iload_n 2, 1) := by decide +kernel
theorem dX5_requestLeave_36 : decode cX5_requestLeave 36 = .ok (.aload_n 0, 1) := by decide +kernel
theorem dX5_requestLeave_37 : decode cX5_requestLeave 37 = .ok (.invokevirtual 45, 3) := by decide +kernel
theorem dX5_requestLeave_40 : decode cX5_requestLeave 40 = .ok (.iand, 1) := by decide +kernel
theorem dX5_requestLeave_41 : decode cX5_requestLeave 41 = .ok (.ifCond .ne 9, 3) := by decide +kernel
theorem dX5_requestLeave_44 : decode cX5_requestLeave 44 = .ok (.aload_n 0, 1) := by decide +kernel
theorem dX5_requestLeave_45 : decode cX5_requestLeave 45 = .ok (.iconst 2, 1) := by decide +kernel
theorem dX5_requestLeave_46 : decode cX5_requestLeave 46 = .ok (.invokevirtual 59, 3) := by decide +kernel
theorem dX5_requestLeave_49 : decode cX5_requestLeave 49 = .ok (.ireturn, 1) := by decide +kernel
theorem dX5_requestLeave_50 : decode cX5_requestLeave 50 = .ok (.aload_n 0, 1) := by decide +kernel
theorem dX5_requestLeave_51 : decode cX5_requestLeave 51 = .ok (.getfield 9, 3) := by decide +kernel
theorem dX5_requestLeave_54 : decode cX5_requestLeave 54 = .ok (.bipush 43, 2) := by decide +kernel
theorem dX5_requestLeave_56 : decode cX5_requestLeave 56 = .ok (.iload_n 2, 1) := by decide +kernel
theorem dX5_requestLeave_57 : decode cX5_requestLeave 57 = .ok (.iastore, 1) := by decide +kernel
theorem dX5_requestLeave_58 : decode cX5_requestLeave 58 = .ok (.iload_n 2, 1) := by decide +kernel
theorem dX5_requestLeave_59 : decode cX5_requestLeave 59 = .ok (.invokestatic 66, 3) := by decide +kernel
theorem dX5_requestLeave_62 : decode cX5_requestLeave 62 = .ok (.ireturn, 1) := by decide +kernel
theorem dX5_clockOf_0 : decode cX5_clockOf 0 = .ok (.aload_n 0, 1) := by decide +kernel
theorem dX5_clockOf_1 : decode cX5_clockOf 1 = .ok (.getfield 9, 3) := by decide +kernel
theorem dX5_clockOf_4 : decode cX5_clockOf 4 = .ok (.sipush 4270, 3) := by decide +kernel
theorem dX5_clockOf_7 : decode cX5_clockOf 7 = .ok (.bipush 36, 2) := by decide +kernel
theorem dX5_clockOf_9 : decode cX5_clockOf 9 = .ok (.iload_n 1, 1) := by decide +kernel
theorem dX5_clockOf_10 : decode cX5_clockOf 10 = .ok (.imul, 1) := by decide +kernel
theorem dX5_clockOf_11 : decode cX5_clockOf 11 = .ok (.iadd, 1) := by decide +kernel
theorem dX5_clockOf_12 : decode cX5_clockOf 12 = .ok (.bipush 6, 2) := by decide +kernel
theorem dX5_clockOf_14 : decode cX5_clockOf 14 = .ok (.iload_n 1, 1) := by decide +kernel
theorem dX5_clockOf_15 : decode cX5_clockOf 15 = .ok (.imul, 1) := by decide +kernel
theorem dX5_clockOf_16 : decode cX5_clockOf 16 = .ok (.iadd, 1) := by decide +kernel
theorem dX5_clockOf_17 : decode cX5_clockOf 17 = .ok (.iload_n 2, 1) := by decide +kernel
theorem dX5_clockOf_18 : decode cX5_clockOf 18 = .ok (.iadd, 1) := by decide +kernel
theorem dX5_clockOf_19 : decode cX5_clockOf 19 = .ok (.iaload, 1) := by decide +kernel
theorem dX5_clockOf_20 : decode cX5_clockOf 20 = .ok (.ireturn, 1) := by decide +kernel
theorem dX5_isLogged_0 : decode cX5_isLogged 0 = .ok (.aload_n 0, 1) := by decide +kernel
theorem dX5_isLogged_1 : decode cX5_isLogged 1 = .ok (.getfield 9, 3) := by decide +kernel
theorem dX5_isLogged_4 : decode cX5_isLogged 4 = .ok (.sipush 2460, 3) := by decide +kernel
theorem dX5_isLogged_7 : decode cX5_isLogged 7 = .ok (.sipush 150, 3) := by decide +kernel
theorem dX5_isLogged_10 : decode cX5_isLogged 10 = .ok (.iload_n 1, 1) := by decide +kernel
theorem dX5_isLogged_11 : decode cX5_isLogged 11 = .ok (.imul, 1) := by decide +kernel
theorem dX5_isLogged_12 : decode cX5_isLogged 12 = .ok (.iadd, 1) := by decide +kernel
theorem dX5_isLogged_13 : decode cX5_isLogged 13 = .ok (.iload_n 2, 1) := by decide +kernel
theorem dX5_isLogged_14 : decode cX5_isLogged 14 = .ok (.iadd, 1) := by decide +kernel
theorem dX5_isLogged_15 : decode cX5_isLogged 15 = .ok (.iaload, 1) := by decide +kernel
theorem dX5_isLogged_16 : decode cX5_isLogged 16 = .ok (.iconst 1, 1) := by decide +kernel
theorem dX5_isLogged_17 : decode cX5_isLogged 17 = .ok (.if_icmp .ne 7, 3) := by decide +kernel
theorem dX5_isLogged_20 : decode cX5_isLogged 20 = .ok (.iconst 1, 1) := by decide +kernel
theorem dX5_isLogged_21 : decode cX5_isLogged 21 = .ok (.goto 4, 3) := by decide +kernel
theorem dX5_isLogged_24 : decode cX5_isLogged 24 = .ok (.iconst 0, 1) := by decide +kernel
theorem dX5_isLogged_25 : decode cX5_isLogged 25 = .ok (.ireturn, 1) := by decide +kernel
theorem dX5_isNow_0 : decode cX5_isNow 0 = .ok (.aload_n 0, 1) := by decide +kernel
theorem dX5_isNow_1 : decode cX5_isNow 1 = .ok (.getfield 9, 3) := by decide +kernel
theorem dX5_isNow_4 : decode cX5_isNow 4 = .ok (.sipush 350, 3) := by decide +kernel
theorem dX5_isNow_7 : decode cX5_isNow 7 = .ok (.iload_n 1, 1) := by decide +kernel
theorem dX5_isNow_8 : decode cX5_isNow 8 = .ok (.iadd, 1) := by decide +kernel
theorem dX5_isNow_9 : decode cX5_isNow 9 = .ok (.iaload, 1) := by decide +kernel
theorem dX5_isNow_10 : decode cX5_isNow 10 = .ok (.aload_n 0, 1) := by decide +kernel
theorem dX5_isNow_11 : decode cX5_isNow 11 = .ok (.getfield 9, 3) := by decide +kernel
theorem dX5_isNow_14 : decode cX5_isNow 14 = .ok (.bipush 42, 2) := by decide +kernel
theorem dX5_isNow_16 : decode cX5_isNow 16 = .ok (.iaload, 1) := by decide +kernel
theorem dX5_isNow_17 : decode cX5_isNow 17 = .ok (.if_icmp .ne 7, 3) := by decide +kernel
theorem dX5_isNow_20 : decode cX5_isNow 20 = .ok (.iconst 1, 1) := by decide +kernel
theorem dX5_isNow_21 : decode cX5_isNow 21 = .ok (.goto 4, 3) := by decide +kernel
theorem dX5_isNow_24 : decode cX5_isNow 24 = .ok (.iconst 0, 1) := by decide +kernel
theorem dX5_isNow_25 : decode cX5_isNow 25 = .ok (.ireturn, 1) := by decide +kernel
theorem dX5_isDeliverable_0 : decode cX5_isDeliverable 0 = .ok (.aload_n 0, 1) := by decide +kernel
theorem dX5_isDeliverable_1 : decode cX5_isDeliverable 1 = .ok (.iload_n 2, 1) := by decide +kernel
theorem dX5_isDeliverable_2 : decode cX5_isDeliverable 2 = .ok (.invokevirtual 69, 3) := by decide +kernel
theorem dX5_isDeliverable_5 : decode cX5_isDeliverable 5 = .ok (.ifCond .eq 12, 3) := by decide +kernel
theorem dX5_isDeliverable_8 : decode cX5_isDeliverable 8 = .ok (.aload_n 0, 1) := by decide +kernel
theorem dX5_isDeliverable_9 : decode cX5_isDeliverable 9 = .ok (.iload_n 1, 1) := by decide +kernel
theorem dX5_isDeliverable_10 : decode cX5_isDeliverable 10 = .ok (.iload_n 2, 1) := by decide +kernel
theorem dX5_isDeliverable_11 : decode cX5_isDeliverable 11 = .ok (.invokevirtual 72, 3) := by decide +kernel
theorem dX5_isDeliverable_14 : decode cX5_isDeliverable 14 = .ok (.ifCond .eq 5, 3) := by decide +kernel
theorem dX5_isDeliverable_17 : decode cX5_isDeliverable 17 = .ok (.iconst 0, 1) := by decide +kernel
theorem dX5_isDeliverable_18 : decode cX5_isDeliverable 18 = .ok (.ireturn, 1) := by decide +kernel
theorem dX5_isDeliverable_19 : decode cX5_isDeliverable 19 = .ok (.aload_n 0, 1) := by decide +kernel
theorem dX5_isDeliverable_20 : decode cX5_isDeliverable 20 = .ok (.getfield 9, 3) := by decide +kernel
theorem dX5_isDeliverable_23 : decode cX5_isDeliverable 23 = .ok (.bipush 50, 2) := by decide +kernel
theorem dX5_isDeliverable_25 : decode cX5_isDeliverable 25 = .ok (.iload_n 2, 1) := by decide +kernel
theorem dX5_isDeliverable_26 : decode cX5_isDeliverable 26 = .ok (.iadd, 1) := by decide +kernel
theorem dX5_isDeliverable_27 : decode cX5_isDeliverable 27 = .ok (.iaload, 1) := by decide +kernel
theorem dX5_isDeliverable_28 : decode cX5_isDeliverable 28 = .ok (.istore_n 3, 1) := by decide +kernel
theorem dX5_isDeliverable_29 : decode cX5_isDeliverable 29 = .ok (.iconst 0, 1) := by decide +kernel
theorem dX5_isDeliverable_30 : decode cX5_isDeliverable 30 = .ok (.istore 4, 2) := by decide +kernel
theorem dX5_isDeliverable_32 : decode cX5_isDeliverable 32 = .ok (.iload 4, 2) := by decide +kernel
theorem dX5_isDeliverable_34 : decode cX5_isDeliverable 34 = .ok (.bipush 6, 2) := by decide +kernel
theorem dX5_isDeliverable_36 : decode cX5_isDeliverable 36 = .ok (.if_icmp .ge 43, 3) := by decide +kernel
theorem dX5_isDeliverable_39 : decode cX5_isDeliverable 39 = .ok (.iload 4, 2) := by decide +kernel
theorem dX5_isDeliverable_41 : decode cX5_isDeliverable 41 = .ok (.iload_n 3, 1) := by decide +kernel
theorem dX5_isDeliverable_42 : decode cX5_isDeliverable 42 = .ok (.if_icmp .eq 31, 3) := by decide +kernel
theorem dX5_isDeliverable_45 : decode cX5_isDeliverable 45 = .ok (.aload_n 0, 1) := by decide +kernel
theorem dX5_isDeliverable_46 : decode cX5_isDeliverable 46 = .ok (.getfield 9, 3) := by decide +kernel
theorem dX5_isDeliverable_49 : decode cX5_isDeliverable 49 = .ok (.sipush 650, 3) := by decide +kernel
theorem dX5_isDeliverable_52 : decode cX5_isDeliverable 52 = .ok (.bipush 6, 2) := by decide +kernel
theorem dX5_isDeliverable_54 : decode cX5_isDeliverable 54 = .ok (.iload_n 2, 1) := by decide +kernel
theorem dX5_isDeliverable_55 : decode cX5_isDeliverable 55 = .ok (.imul, 1) := by decide +kernel
theorem dX5_isDeliverable_56 : decode cX5_isDeliverable 56 = .ok (.iadd, 1) := by decide +kernel
theorem dX5_isDeliverable_57 : decode cX5_isDeliverable 57 = .ok (.iload 4, 2) := by decide +kernel
theorem dX5_isDeliverable_59 : decode cX5_isDeliverable 59 = .ok (.iadd, 1) := by decide +kernel
theorem dX5_isDeliverable_60 : decode cX5_isDeliverable 60 = .ok (.iaload, 1) := by decide +kernel
theorem dX5_isDeliverable_61 : decode cX5_isDeliverable 61 = .ok (.aload_n 0, 1) := by decide +kernel
theorem dX5_isDeliverable_62 : decode cX5_isDeliverable 62 = .ok (.iload_n 1, 1) := by decide +kernel
theorem dX5_isDeliverable_63 : decode cX5_isDeliverable 63 = .ok (.iload 4, 2) := by decide +kernel
theorem dX5_isDeliverable_65 : decode cX5_isDeliverable 65 = .ok (.invokevirtual 76, 3) := by decide +kernel
theorem dX5_isDeliverable_68 : decode cX5_isDeliverable 68 = .ok (.if_icmp .le 5, 3) := by decide +kernel
theorem dX5_isDeliverable_71 : decode cX5_isDeliverable 71 = .ok (.iconst 0, 1) := by decide +kernel
theorem dX5_isDeliverable_72 : decode cX5_isDeliverable 72 = .ok (.ireturn, 1) := by decide +kernel
theorem dX5_isDeliverable_73 : decode cX5_isDeliverable 73 = .ok (.iinc 4 1, 3) := by decide +kernel
theorem dX5_isDeliverable_76 : decode cX5_isDeliverable 76 = .ok (.goto (-44), 3) := by decide +kernel
theorem dX5_isDeliverable_79 : decode cX5_isDeliverable 79 = .ok (.aload_n 0, 1) := by decide +kernel
theorem dX5_isDeliverable_80 : decode cX5_isDeliverable 80 = .ok (.getfield 9, 3) := by decide +kernel
theorem dX5_isDeliverable_83 : decode cX5_isDeliverable 83 = .ok (.sipush 500, 3) := by decide +kernel
theorem dX5_isDeliverable_86 : decode cX5_isDeliverable 86 = .ok (.iload_n 2, 1) := by decide +kernel
theorem dX5_isDeliverable_87 : decode cX5_isDeliverable 87 = .ok (.iadd, 1) := by decide +kernel
theorem dX5_isDeliverable_88 : decode cX5_isDeliverable 88 = .ok (.iaload, 1) := by decide +kernel
theorem dX5_isDeliverable_89 : decode cX5_isDeliverable 89 = .ok (.aload_n 0, 1) := by decide +kernel
theorem dX5_isDeliverable_90 : decode cX5_isDeliverable 90 = .ok (.iload_n 1, 1) := by decide +kernel
theorem dX5_isDeliverable_91 : decode cX5_isDeliverable 91 = .ok (.iload_n 3, 1) := by decide +kernel
theorem dX5_isDeliverable_92 : decode cX5_isDeliverable 92 = .ok (.invokevirtual 76, 3) := by decide +kernel
theorem dX5_isDeliverable_95 : decode cX5_isDeliverable 95 = .ok (.iconst 1, 1) := by decide +kernel
theorem dX5_isDeliverable_96 : decode cX5_isDeliverable 96 = .ok (.iadd, 1) := by decide +kernel
theorem dX5_isDeliverable_97 : decode cX5_isDeliverable 97 = .ok (.if_icmp .ne 7, 3) := by decide +kernel
theorem dX5_isDeliverable_100 : decode cX5_isDeliverable 100 = .ok (.iconst 1, 1) := by decide +kernel
theorem dX5_isDeliverable_101 : decode cX5_isDeliverable 101 = .ok (.goto 4, 3) := by decide +kernel
theorem dX5_isDeliverable_104 : decode cX5_isDeliverable 104 = .ok (.iconst 0, 1) := by decide +kernel
theorem dX5_isDeliverable_105 : decode cX5_isDeliverable 105 = .ok (.ireturn, 1) := by decide +kernel
theorem dX5_logs_0 : decode cX5_logs 0 = .ok (.aload_n 0, 1) := by decide +kernel
theorem dX5_logs_1 : decode cX5_logs 1 = .ok (.getfield 9, 3) := by decide +kernel
theorem dX5_logs_4 : decode cX5_logs 4 = .ok (.sipush 1560, 3) := by decide +kernel
theorem dX5_logs_7 : decode cX5_logs 7 = .ok (.sipush 150, 3) := by decide +kernel
theorem dX5_logs_10 : decode cX5_logs 10 = .ok (.iload_n 1, 1) := by decide +kernel
theorem dX5_logs_11 : decode cX5_logs 11 = .ok (.imul, 1) := by decide +kernel
theorem dX5_logs_12 : decode cX5_logs 12 = .ok (.iadd, 1) := by decide +kernel
theorem dX5_logs_13 : decode cX5_logs 13 = .ok (.aload_n 0, 1) := by decide +kernel
theorem dX5_logs_14 : decode cX5_logs 14 = .ok (.getfield 9, 3) := by decide +kernel
theorem dX5_logs_17 : decode cX5_logs 17 = .ok (.sipush 1550, 3) := by decide +kernel
theorem dX5_logs_20 : decode cX5_logs 20 = .ok (.iload_n 1, 1) := by decide +kernel
theorem dX5_logs_21 : decode cX5_logs 21 = .ok (.iadd, 1) := by decide +kernel
theorem dX5_logs_22 : decode cX5_logs 22 = .ok (.iaload, 1) := by decide +kernel
theorem dX5_logs_23 : decode cX5_logs 23 = .ok (.iadd, 1) := by decide +kernel
theorem dX5_logs_24 : decode cX5_logs 24 = .ok (.iload_n 2, 1) := by decide +kernel
theorem dX5_logs_25 : decode cX5_logs 25 = .ok (.iastore, 1) := by decide +kernel
theorem dX5_logs_26 : decode cX5_logs 26 = .ok (.aload_n 0, 1) := by decide +kernel
theorem dX5_logs_27 : decode cX5_logs 27 = .ok (.getfield 9, 3) := by decide +kernel
theorem dX5_logs_30 : decode cX5_logs 30 = .ok (.sipush 1550, 3) := by decide +kernel
theorem dX5_logs_33 : decode cX5_logs 33 = .ok (.iload_n 1, 1) := by decide +kernel
theorem dX5_logs_34 : decode cX5_logs 34 = .ok (.iadd, 1) := by decide +kernel
theorem dX5_logs_35 : decode cX5_logs 35 = .ok (.dup2, 1) := by decide +kernel
theorem dX5_logs_36 : decode cX5_logs 36 = .ok (.iaload, 1) := by decide +kernel
theorem dX5_logs_37 : decode cX5_logs 37 = .ok (.iconst 1, 1) := by decide +kernel
theorem dX5_logs_38 : decode cX5_logs 38 = .ok (.iadd, 1) := by decide +kernel
theorem dX5_logs_39 : decode cX5_logs 39 = .ok (.iastore, 1) := by decide +kernel
theorem dX5_logs_40 : decode cX5_logs 40 = .ok (.aload_n 0, 1) := by decide +kernel
theorem dX5_logs_41 : decode cX5_logs 41 = .ok (.getfield 9, 3) := by decide +kernel
theorem dX5_logs_44 : decode cX5_logs 44 = .ok (.sipush 2460, 3) := by decide +kernel
theorem dX5_logs_47 : decode cX5_logs 47 = .ok (.sipush 150, 3) := by decide +kernel
theorem dX5_logs_50 : decode cX5_logs 50 = .ok (.iload_n 1, 1) := by decide +kernel
theorem dX5_logs_51 : decode cX5_logs 51 = .ok (.imul, 1) := by decide +kernel
theorem dX5_logs_52 : decode cX5_logs 52 = .ok (.iadd, 1) := by decide +kernel
theorem dX5_logs_53 : decode cX5_logs 53 = .ok (.iload_n 2, 1) := by decide +kernel
theorem dX5_logs_54 : decode cX5_logs 54 = .ok (.iadd, 1) := by decide +kernel
theorem dX5_logs_55 : decode cX5_logs 55 = .ok (.iconst 1, 1) := by decide +kernel
theorem dX5_logs_56 : decode cX5_logs 56 = .ok (.iastore, 1) := by decide +kernel
theorem dX5_logs_57 : decode cX5_logs 57 = .ok (.return_, 1) := by decide +kernel
theorem dX5_delivers_0 : decode cX5_delivers 0 = .ok (.aload_n 0, 1) := by decide +kernel
theorem dX5_delivers_1 : decode cX5_delivers 1 = .ok (.getfield 9, 3) := by decide +kernel
theorem dX5_delivers_4 : decode cX5_delivers 4 = .ok (.bipush 50, 2) := by decide +kernel
theorem dX5_delivers_6 : decode cX5_delivers 6 = .ok (.iload_n 2, 1) := by decide +kernel
theorem dX5_delivers_7 : decode cX5_delivers 7 = .ok (.iadd, 1) := by decide +kernel
theorem dX5_delivers_8 : decode cX5_delivers 8 = .ok (.iaload, 1) := by decide +kernel
theorem dX5_delivers_9 : decode cX5_delivers 9 = .ok (.istore_n 3, 1) := by decide +kernel
theorem dX5_delivers_10 : decode cX5_delivers 10 = .ok (.aload_n 0, 1) := by decide +kernel
theorem dX5_delivers_11 : decode cX5_delivers 11 = .ok (.iload_n 1, 1) := by decide +kernel
theorem dX5_delivers_12 : decode cX5_delivers 12 = .ok (.iload_n 2, 1) := by decide +kernel
theorem dX5_delivers_13 : decode cX5_delivers 13 = .ok (.invokevirtual 80, 3) := by decide +kernel
theorem dX5_delivers_16 : decode cX5_delivers 16 = .ok (.aload_n 0, 1) := by decide +kernel
theorem dX5_delivers_17 : decode cX5_delivers 17 = .ok (.getfield 9, 3) := by decide +kernel
theorem dX5_delivers_20 : decode cX5_delivers 20 = .ok (.sipush 4260, 3) := by decide +kernel
theorem dX5_delivers_23 : decode cX5_delivers 23 = .ok (.iload_n 1, 1) := by decide +kernel
theorem dX5_delivers_24 : decode cX5_delivers 24 = .ok (.iadd, 1) := by decide +kernel
theorem dX5_delivers_25 : decode cX5_delivers 25 = .ok (.bipush 31, 2) := by decide +kernel
theorem dX5_delivers_27 : decode cX5_delivers 27 = .ok (.aload_n 0, 1) := by decide +kernel
theorem dX5_delivers_28 : decode cX5_delivers 28 = .ok (.getfield 9, 3) := by decide +kernel
theorem dX5_delivers_31 : decode cX5_delivers 31 = .ok (.sipush 4260, 3) := by decide +kernel
theorem dX5_delivers_34 : decode cX5_delivers 34 = .ok (.iload_n 1, 1) := by decide +kernel
theorem dX5_delivers_35 : decode cX5_delivers 35 = .ok (.iadd, 1) := by decide +kernel
theorem dX5_delivers_36 : decode cX5_delivers 36 = .ok (.iaload, 1) := by decide +kernel
theorem dX5_delivers_37 : decode cX5_delivers 37 = .ok (.imul, 1) := by decide +kernel
theorem dX5_delivers_38 : decode cX5_delivers 38 = .ok (.aload_n 0, 1) := by decide +kernel
theorem dX5_delivers_39 : decode cX5_delivers 39 = .ok (.getfield 9, 3) := by decide +kernel
theorem dX5_delivers_42 : decode cX5_delivers 42 = .ok (.sipush 200, 3) := by decide +kernel
theorem dX5_delivers_45 : decode cX5_delivers 45 = .ok (.iload_n 2, 1) := by decide +kernel
theorem dX5_delivers_46 : decode cX5_delivers 46 = .ok (.iadd, 1) := by decide +kernel
theorem dX5_delivers_47 : decode cX5_delivers 47 = .ok (.iaload, 1) := by decide +kernel
theorem dX5_delivers_48 : decode cX5_delivers 48 = .ok (.iadd, 1) := by decide +kernel
theorem dX5_delivers_49 : decode cX5_delivers 49 = .ok (.iastore, 1) := by decide +kernel
theorem dX5_delivers_50 : decode cX5_delivers 50 = .ok (.aload_n 0, 1) := by decide +kernel
theorem dX5_delivers_51 : decode cX5_delivers 51 = .ok (.getfield 9, 3) := by decide +kernel
theorem dX5_delivers_54 : decode cX5_delivers 54 = .ok (.sipush 4270, 3) := by decide +kernel
theorem dX5_delivers_57 : decode cX5_delivers 57 = .ok (.bipush 42, 2) := by decide +kernel
theorem dX5_delivers_59 : decode cX5_delivers 59 = .ok (.iload_n 1, 1) := by decide +kernel
theorem dX5_delivers_60 : decode cX5_delivers 60 = .ok (.imul, 1) := by decide +kernel
theorem dX5_delivers_61 : decode cX5_delivers 61 = .ok (.iadd, 1) := by decide +kernel
theorem dX5_delivers_62 : decode cX5_delivers 62 = .ok (.iload_n 3, 1) := by decide +kernel
theorem dX5_delivers_63 : decode cX5_delivers 63 = .ok (.iadd, 1) := by decide +kernel
theorem dX5_delivers_64 : decode cX5_delivers 64 = .ok (.dup2, 1) := by decide +kernel
theorem dX5_delivers_65 : decode cX5_delivers 65 = .ok (.iaload, 1) := by decide +kernel
theorem dX5_delivers_66 : decode cX5_delivers 66 = .ok (.iconst 1, 1) := by decide +kernel
theorem dX5_delivers_67 : decode cX5_delivers 67 = .ok (.iadd, 1) := by decide +kernel
theorem dX5_delivers_68 : decode cX5_delivers 68 = .ok (.iastore, 1) := by decide +kernel
theorem dX5_delivers_69 : decode cX5_delivers 69 = .ok (.iconst 0, 1) := by decide +kernel
theorem dX5_delivers_70 : decode cX5_delivers 70 = .ok (.istore 4, 2) := by decide +kernel
theorem dX5_delivers_72 : decode cX5_delivers 72 = .ok (.iload 4, 2) := by decide +kernel
theorem dX5_delivers_74 : decode cX5_delivers 74 = .ok (.bipush 6, 2) := by decide +kernel
theorem dX5_delivers_76 : decode cX5_delivers 76 = .ok (.if_icmp .ge 91, 3) := by decide +kernel
theorem dX5_delivers_79 : decode cX5_delivers 79 = .ok (.iload_n 3, 1) := by decide +kernel
theorem dX5_delivers_80 : decode cX5_delivers 80 = .ok (.iload_n 1, 1) := by decide +kernel
theorem dX5_delivers_81 : decode cX5_delivers 81 = .ok (.if_icmp .eq 86, 3) := by decide +kernel
theorem dX5_delivers_84 : decode cX5_delivers 84 = .ok (.sipush 4270, 3) := by decide +kernel
theorem dX5_delivers_87 : decode cX5_delivers 87 = .ok (.bipush 36, 2) := by decide +kernel
theorem dX5_delivers_89 : decode cX5_delivers 89 = .ok (.iload_n 1, 1) := by decide +kernel
theorem dX5_delivers_90 : decode cX5_delivers 90 = .ok (.imul, 1) := by decide +kernel
theorem dX5_delivers_91 : decode cX5_delivers 91 = .ok (.iadd, 1) := by decide +kernel
theorem dX5_delivers_92 : decode cX5_delivers 92 = .ok (.bipush 6, 2) := by decide +kernel
theorem dX5_delivers_94 : decode cX5_delivers 94 = .ok (.iload_n 3, 1) := by decide +kernel
theorem dX5_delivers_95 : decode cX5_delivers 95 = .ok (.imul, 1) := by decide +kernel
theorem dX5_delivers_96 : decode cX5_delivers 96 = .ok (.iadd, 1) := by decide +kernel
theorem dX5_delivers_97 : decode cX5_delivers 97 = .ok (.iload 4, 2) := by decide +kernel
theorem dX5_delivers_99 : decode cX5_delivers 99 = .ok (.iadd, 1) := by decide +kernel
theorem dX5_delivers_100 : decode cX5_delivers 100 = .ok (.istore 5, 2) := by decide +kernel
theorem dX5_delivers_102 : decode cX5_delivers 102 = .ok (.aload_n 0, 1) := by decide +kernel
theorem dX5_delivers_103 : decode cX5_delivers 103 = .ok (.getfield 9, 3) := by decide +kernel
theorem dX5_delivers_106 : decode cX5_delivers 106 = .ok (.iload 5, 2) := by decide +kernel
theorem dX5_delivers_108 : decode cX5_delivers 108 = .ok (.aload_n 0, 1) := by decide +kernel
theorem dX5_delivers_109 : decode cX5_delivers 109 = .ok (.getfield 9, 3) := by decide +kernel
theorem dX5_delivers_112 : decode cX5_delivers 112 = .ok (.sipush 650, 3) := by decide +kernel
theorem dX5_delivers_115 : decode cX5_delivers 115 = .ok (.bipush 6, 2) := by decide +kernel
theorem dX5_delivers_117 : decode cX5_delivers 117 = .ok (.iload_n 2, 1) := by decide +kernel
theorem dX5_delivers_118 : decode cX5_delivers 118 = .ok (.imul, 1) := by decide +kernel
theorem dX5_delivers_119 : decode cX5_delivers 119 = .ok (.iadd, 1) := by decide +kernel
theorem dX5_delivers_120 : decode cX5_delivers 120 = .ok (.iload 4, 2) := by decide +kernel
theorem dX5_delivers_122 : decode cX5_delivers 122 = .ok (.iadd, 1) := by decide +kernel
theorem dX5_delivers_123 : decode cX5_delivers 123 = .ok (.iaload, 1) := by decide +kernel
theorem dX5_delivers_124 : decode cX5_delivers 124 = .ok (.aload_n 0, 1) := by decide +kernel
theorem dX5_delivers_125 : decode cX5_delivers 125 = .ok (.getfield 9, 3) := by decide +kernel
theorem dX5_delivers_128 : decode cX5_delivers 128 = .ok (.iload 5, 2) := by decide +kernel
theorem dX5_delivers_130 : decode cX5_delivers 130 = .ok (.iaload, 1) := by decide +kernel
theorem dX5_delivers_131 : decode cX5_delivers 131 = .ok (.if_icmp .le 22, 3) := by decide +kernel
theorem dX5_delivers_134 : decode cX5_delivers 134 = .ok (.aload_n 0, 1) := by decide +kernel
theorem dX5_delivers_135 : decode cX5_delivers 135 = .ok (.getfield 9, 3) := by decide +kernel
theorem dX5_delivers_138 : decode cX5_delivers 138 = .ok (.sipush 650, 3) := by decide +kernel
theorem dX5_delivers_141 : decode cX5_delivers 141 = .ok (.bipush 6, 2) := by decide +kernel
theorem dX5_delivers_143 : decode cX5_delivers 143 = .ok (.iload_n 2, 1) := by decide +kernel
theorem dX5_delivers_144 : decode cX5_delivers 144 = .ok (.imul, 1) := by decide +kernel
theorem dX5_delivers_145 : decode cX5_delivers 145 = .ok (.iadd, 1) := by decide +kernel
theorem dX5_delivers_146 : decode cX5_delivers 146 = .ok (.iload 4, 2) := by decide +kernel
theorem dX5_delivers_148 : decode cX5_delivers 148 = .ok (.iadd, 1) := by decide +kernel
theorem dX5_delivers_149 : decode cX5_delivers 149 = .ok (.iaload, 1) := by decide +kernel
theorem dX5_delivers_150 : decode cX5_delivers 150 = .ok (.goto 10, 3) := by decide +kernel
theorem dX5_delivers_153 : decode cX5_delivers 153 = .ok (.aload_n 0, 1) := by decide +kernel
theorem dX5_delivers_154 : decode cX5_delivers 154 = .ok (.getfield 9, 3) := by decide +kernel
theorem dX5_delivers_157 : decode cX5_delivers 157 = .ok (.iload 5, 2) := by decide +kernel
theorem dX5_delivers_159 : decode cX5_delivers 159 = .ok (.iaload, 1) := by decide +kernel
theorem dX5_delivers_160 : decode cX5_delivers 160 = .ok (.iastore, 1) := by decide +kernel
theorem dX5_delivers_161 : decode cX5_delivers 161 = .ok (.iinc 4 1, 3) := by decide +kernel
theorem dX5_delivers_164 : decode cX5_delivers 164 = .ok (.goto (-92), 3) := by decide +kernel
theorem dX5_delivers_167 : decode cX5_delivers 167 = .ok (.return_, 1) := by decide +kernel
theorem dX5_isHeld_0 : decode cX5_isHeld 0 = .ok (.iconst 0, 1) := by decide +kernel
theorem dX5_isHeld_1 : decode cX5_isHeld 1 = .ok (.istore_n 3, 1) := by decide +kernel
theorem dX5_isHeld_2 : decode cX5_isHeld 2 = .ok (.iload_n 3, 1) := by decide +kernel
theorem dX5_isHeld_3 : decode cX5_isHeld 3 = .ok (.bipush 6, 2) := by decide +kernel
theorem dX5_isHeld_5 : decode cX5_isHeld 5 = .ok (.if_icmp .ge 29, 3) := by decide +kernel
theorem dX5_isHeld_8 : decode cX5_isHeld 8 = .ok (.iload_n 2, 1) := by decide +kernel
theorem dX5_isHeld_9 : decode cX5_isHeld 9 = .ok (.iload_n 3, 1) := by decide +kernel
theorem dX5_isHeld_10 : decode cX5_isHeld 10 = .ok (.ishr, 1) := by decide +kernel
theorem dX5_isHeld_11 : decode cX5_isHeld 11 = .ok (.iconst 1, 1) := by decide +kernel
theorem dX5_isHeld_12 : decode cX5_isHeld 12 = .ok (.iand, 1) := by decide +kernel
theorem dX5_isHeld_13 : decode cX5_isHeld 13 = .ok (.iconst 1, 1) := by decide +kernel
theorem dX5_isHeld_14 : decode cX5_isHeld 14 = .ok (.if_icmp .ne 14, 3) := by decide +kernel
theorem dX5_isHeld_17 : decode cX5_isHeld 17 = .ok (.aload_n 0, 1) := by decide +kernel
theorem dX5_isHeld_18 : decode cX5_isHeld 18 = .ok (.iload_n 3, 1) := by decide +kernel
theorem dX5_isHeld_19 : decode cX5_isHeld 19 = .ok (.iload_n 1, 1) := by decide +kernel
theorem dX5_isHeld_20 : decode cX5_isHeld 20 = .ok (.invokevirtual 72, 3) := by decide +kernel
theorem dX5_isHeld_23 : decode cX5_isHeld 23 = .ok (.ifCond .eq 5, 3) := by decide +kernel
theorem dX5_isHeld_26 : decode cX5_isHeld 26 = .ok (.iconst 1, 1) := by decide +kernel
theorem dX5_isHeld_27 : decode cX5_isHeld 27 = .ok (.ireturn, 1) := by decide +kernel
theorem dX5_isHeld_28 : decode cX5_isHeld 28 = .ok (.iinc 3 1, 3) := by decide +kernel
theorem dX5_isHeld_31 : decode cX5_isHeld 31 = .ok (.goto (-29), 3) := by decide +kernel
theorem dX5_isHeld_34 : decode cX5_isHeld 34 = .ok (.iconst 0, 1) := by decide +kernel
theorem dX5_isHeld_35 : decode cX5_isHeld 35 = .ok (.ireturn, 1) := by decide +kernel
theorem dX5_forces_0 : decode cX5_forces 0 = .ok (.iconst 0, 1) := by decide +kernel
theorem dX5_forces_1 : decode cX5_forces 1 = .ok (.istore_n 3, 1) := by decide +kernel
theorem dX5_forces_2 : decode cX5_forces 2 = .ok (.iconst 1, 1) := by decide +kernel
theorem dX5_forces_3 : decode cX5_forces 3 = .ok (.istore 4, 2) := by decide +kernel
theorem dX5_forces_5 : decode cX5_forces 5 = .ok (.iload 4, 2) := by decide +kernel
theorem dX5_forces_7 : decode cX5_forces 7 = .ok (.ifCond .eq 71, 3) := by decide +kernel
theorem dX5_forces_10 : decode cX5_forces 10 = .ok (.iconst 0, 1) := by decide +kernel
theorem dX5_forces_11 : decode cX5_forces 11 = .ok (.istore 4, 2) := by decide +kernel
theorem dX5_forces_13 : decode cX5_forces 13 = .ok (.iconst 0, 1) := by decide +kernel
theorem dX5_forces_14 : decode cX5_forces 14 = .ok (.istore 5, 2) := by decide +kernel
theorem dX5_forces_16 : decode cX5_forces 16 = .ok (.iload 5, 2) := by decide +kernel
theorem dX5_forces_18 : decode cX5_forces 18 = .ok (.aload_n 0, 1) := by decide +kernel
theorem dX5_forces_19 : decode cX5_forces 19 = .ok (.getfield 9, 3) := by decide +kernel
theorem dX5_forces_22 : decode cX5_forces 22 = .ok (.bipush 44, 2) := by decide +kernel
theorem dX5_forces_24 : decode cX5_forces 24 = .ok (.iaload, 1) := by decide +kernel
theorem dX5_forces_25 : decode cX5_forces 25 = .ok (.if_icmp .ge 50, 3) := by decide +kernel
theorem dX5_forces_28 : decode cX5_forces 28 = .ok (.iload 4, 2) := by decide +kernel
theorem dX5_forces_30 : decode cX5_forces 30 = .ok (.ifCond .ne 45, 3) := by decide +kernel
theorem dX5_forces_33 : decode cX5_forces 33 = .ok (.aload_n 0, 1) := by decide +kernel
theorem dX5_forces_34 : decode cX5_forces 34 = .ok (.iload_n 1, 1) := by decide +kernel
theorem dX5_forces_35 : decode cX5_forces 35 = .ok (.iload 5, 2) := by decide +kernel
theorem dX5_forces_37 : decode cX5_forces 37 = .ok (.invokevirtual 84, 3) := by decide +kernel
theorem dX5_forces_40 : decode cX5_forces 40 = .ok (.ifCond .eq 29, 3) := by decide +kernel
theorem dX5_forces_43 : decode cX5_forces 43 = .ok (.aload_n 0, 1) := by decide +kernel
theorem dX5_forces_44 : decode cX5_forces 44 = .ok (.iload 5, 2) := by decide +kernel
theorem dX5_forces_46 : decode cX5_forces 46 = .ok (.iload_n 2, 1) := by decide +kernel
theorem dX5_forces_47 : decode cX5_forces 47 = .ok (.invokevirtual 87, 3) := by decide +kernel
theorem dX5_forces_50 : decode cX5_forces 50 = .ok (.ifCond .ne 6, 3) := by decide +kernel
theorem dX5_forces_53 : decode cX5_forces 53 = .ok (.goto 16, 3) := by decide +kernel
theorem dX5_forces_56 : decode cX5_forces 56 = .ok (.aload_n 0, 1) := by decide +kernel
theorem dX5_forces_57 : decode cX5_forces 57 = .ok (.iload_n 1, 1) := by decide +kernel
theorem dX5_forces_58 : decode cX5_forces 58 = .ok (.iload 5, 2) := by decide +kernel
theorem dX5_forces_60 : decode cX5_forces 60 = .ok (.invokevirtual 90, 3) := by decide +kernel
theorem dX5_forces_63 : decode cX5_forces 63 = .ok (.iinc 3 1, 3) := by decide +kernel
theorem dX5_forces_66 : decode cX5_forces 66 = .ok (.iconst 1, 1) := by decide +kernel
theorem dX5_forces_67 : decode cX5_forces 67 = .ok (.istore 4, 2) := by decide +kernel
theorem dX5_forces_69 : decode cX5_forces 69 = .ok (.iinc 5 1, 3) := by decide +kernel
theorem dX5_forces_72 : decode cX5_forces 72 = .ok (.goto (-56), 3) := by decide +kernel
theorem dX5_forces_75 : decode cX5_forces 75 = .ok (.goto (-70), 3) := by decide +kernel
theorem dX5_forces_78 : decode cX5_forces 78 = .ok (.iload_n 3, 1) := by decide +kernel
theorem dX5_forces_79 : decode cX5_forces 79 = .ok (.ireturn, 1) := by decide +kernel
theorem dX5_install_0 : decode cX5_install 0 = .ok (.aload_n 0, 1) := by decide +kernel
theorem dX5_install_1 : decode cX5_install 1 = .ok (.iconst 0, 1) := by decide +kernel
theorem dX5_install_2 : decode cX5_install 2 = .ok (.putfield 38, 3) := by decide +kernel
theorem dX5_install_5 : decode cX5_install 5 = .ok (.aload_n 0, 1) := by decide +kernel
theorem dX5_install_6 : decode cX5_install 6 = .ok (.getfield 9, 3) := by decide +kernel
theorem dX5_install_9 : decode cX5_install 9 = .ok (.bipush 42, 2) := by decide +kernel
theorem dX5_install_11 : decode cX5_install 11 = .ok (.iaload, 1) := by decide +kernel
theorem dX5_install_12 : decode cX5_install 12 = .ok (.bipush 20, 2) := by decide +kernel
theorem dX5_install_14 : decode cX5_install 14 = .ok (.if_icmp .ne 9, 3) := by decide +kernel
theorem dX5_install_17 : decode cX5_install 17 = .ok (.aload_n 0, 1) := by decide +kernel
theorem dX5_install_18 : decode cX5_install 18 = .ok (.iconst 1, 1) := by decide +kernel
theorem dX5_install_19 : decode cX5_install 19 = .ok (.invokevirtual 59, 3) := by decide +kernel
theorem dX5_install_22 : decode cX5_install 22 = .ok (.ireturn, 1) := by decide +kernel
theorem dX5_install_23 : decode cX5_install 23 = .ok (.aload_n 0, 1) := by decide +kernel
theorem dX5_install_24 : decode cX5_install 24 = .ok (.invokevirtual 45, 3) := by decide +kernel
theorem dX5_install_27 : decode cX5_install 27 = .ok (.aload_n 0, 1) := by decide +kernel
theorem dX5_install_28 : decode cX5_install 28 = .ok (.getfield 9, 3) := by decide +kernel
theorem dX5_install_31 : decode cX5_install 31 = .ok (.bipush 43, 2) := by decide +kernel
theorem dX5_install_33 : decode cX5_install 33 = .ok (.iaload, 1) := by decide +kernel
theorem dX5_install_34 : decode cX5_install 34 = .ok (.iand, 1) := by decide +kernel
theorem dX5_install_35 : decode cX5_install 35 = .ok (.istore_n 1, 1) := by decide +kernel
theorem dX5_install_36 : decode cX5_install 36 = .ok (.iconst 0, 1) := by decide +kernel
theorem dX5_install_37 : decode cX5_install 37 = .ok (.istore_n 2, 1) := by decide +kernel
theorem dX5_install_38 : decode cX5_install 38 = .ok (.iconst (-1), 1) := by decide +kernel
theorem dX5_install_39 : decode cX5_install 39 = .ok (.istore_n 3, 1) := by decide +kernel
theorem dX5_install_40 : decode cX5_install 40 = .ok (.iconst 5, 1) := by decide +kernel
theorem dX5_install_41 : decode cX5_install 41 = .ok (.istore 4, 2) := by decide +kernel
theorem dX5_install_43 : decode cX5_install 43 = .ok (.iload 4, 2) := by decide +kernel
theorem dX5_install_45 : decode cX5_install 45 = .ok (.ifCond .lt 22, 3) := by decide +kernel
theorem dX5_install_48 : decode cX5_install 48 = .ok (.iload_n 1, 1) := by decide +kernel
theorem dX5_install_49 : decode cX5_install 49 = .ok (.iload 4, 2) := by decide +kernel
theorem dX5_install_51 : decode cX5_install 51 = .ok (.ishr, 1) := by decide +kernel
theorem dX5_install_52 : decode cX5_install 52 = .ok (.iconst 1, 1) := by decide +kernel
theorem dX5_install_53 : decode cX5_install 53 = .ok (.iand, 1) := by decide +kernel
theorem dX5_install_54 : decode cX5_install 54 = .ok (.iconst 1, 1) := by decide +kernel
theorem dX5_install_55 : decode cX5_install 55 = .ok (.if_icmp .ne 6, 3) := by decide +kernel
theorem dX5_install_58 : decode cX5_install 58 = .ok (.iload 4, 2) := by decide +kernel
theorem dX5_install_60 : decode cX5_install 60 = .ok (.istore_n 3, 1) := by decide +kernel
theorem dX5_install_61 : decode cX5_install 61 = .ok (.iinc 4 (-1), 3) := by decide +kernel
theorem dX5_install_64 : decode cX5_install 64 = .ok (.goto (-21), 3) := by decide +kernel
theorem dX5_install_67 : decode cX5_install 67 = .ok (.iconst 0, 1) := by decide +kernel
theorem dX5_install_68 : decode cX5_install 68 = .ok (.istore 4, 2) := by decide +kernel
theorem dX5_install_70 : decode cX5_install 70 = .ok (.iload 4, 2) := by decide +kernel
theorem dX5_install_72 : decode cX5_install 72 = .ok (.bipush 6, 2) := by decide +kernel
theorem dX5_install_74 : decode cX5_install 74 = .ok (.if_icmp .ge 29, 3) := by decide +kernel
theorem dX5_install_77 : decode cX5_install 77 = .ok (.iload_n 1, 1) := by decide +kernel
theorem dX5_install_78 : decode cX5_install 78 = .ok (.iload 4, 2) := by decide +kernel
theorem dX5_install_80 : decode cX5_install 80 = .ok (.ishr, 1) := by decide +kernel
theorem dX5_install_81 : decode cX5_install 81 = .ok (.iconst 1, 1) := by decide +kernel
theorem dX5_install_82 : decode cX5_install 82 = .ok (.iand, 1) := by decide +kernel
theorem dX5_install_83 : decode cX5_install 83 = .ok (.iconst 1, 1) := by decide +kernel
theorem dX5_install_84 : decode cX5_install 84 = .ok (.if_icmp .ne 13, 3) := by decide +kernel
theorem dX5_install_87 : decode cX5_install 87 = .ok (.iload_n 2, 1) := by decide +kernel
theorem dX5_install_88 : decode cX5_install 88 = .ok (.aload_n 0, 1) := by decide +kernel
theorem dX5_install_89 : decode cX5_install 89 = .ok (.iload 4, 2) := by decide +kernel
theorem dX5_install_91 : decode cX5_install 91 = .ok (.iload_n 1, 1) := by decide +kernel
theorem dX5_install_92 : decode cX5_install 92 = .ok (.invokevirtual 93, 3) := by decide +kernel
theorem dX5_install_95 : decode cX5_install 95 = .ok (.iadd, 1) := by decide +kernel
theorem dX5_install_96 : decode cX5_install 96 = .ok (.istore_n 2, 1) := by decide +kernel
theorem dX5_install_97 : decode cX5_install 97 = .ok (.iinc 4 1, 3) := by decide +kernel
theorem dX5_install_100 : decode cX5_install 100 = .ok (.goto (-30), 3) := by decide +kernel
theorem dX5_install_103 : decode cX5_install 103 = .ok (.iconst 0, 1) := by decide +kernel
theorem dX5_install_104 : decode cX5_install 104 = .ok (.istore 4, 2) := by decide +kernel
theorem dX5_install_106 : decode cX5_install 106 = .ok (.iload 4, 2) := by decide +kernel
theorem dX5_install_108 : decode cX5_install 108 = .ok (.bipush 6, 2) := by decide +kernel
theorem dX5_install_110 : decode cX5_install 110 = .ok (.if_icmp .ge 165, 3) := by decide +kernel
theorem dX5_install_113 : decode cX5_install 113 = .ok (.aload_n 0, 1) := by decide +kernel
theorem dX5_install_114 : decode cX5_install 114 = .ok (.getfield 9, 3) := by decide +kernel
theorem dX5_install_117 : decode cX5_install 117 = .ok (.bipush 43, 2) := by decide +kernel
theorem dX5_install_119 : decode cX5_install 119 = .ok (.iaload, 1) := by decide +kernel
theorem dX5_install_120 : decode cX5_install 120 = .ok (.iload 4, 2) := by decide +kernel
theorem dX5_install_122 : decode cX5_install 122 = .ok (.ishr, 1) := by decide +kernel
theorem dX5_install_123 : decode cX5_install 123 = .ok (.iconst 1, 1) := by decide +kernel
theorem dX5_install_124 : decode cX5_install 124 = .ok (.iand, 1) := by decide +kernel
theorem dX5_install_125 : decode cX5_install 125 = .ok (.ifCond .eq 144, 3) := by decide +kernel
theorem dX5_install_128 : decode cX5_install 128 = .ok (.aload_n 0, 1) := by decide +kernel
theorem dX5_install_129 : decode cX5_install 129 = .ok (.iload 4, 2) := by decide +kernel
theorem dX5_install_131 : decode cX5_install 131 = .ok (.invokevirtual 53, 3) := by decide +kernel
theorem dX5_install_134 : decode cX5_install 134 = .ok (.ifCond .eq 6, 3) := by decide +kernel
theorem dX5_install_137 : decode cX5_install 137 = .ok (.goto 132, 3) := by decide +kernel
theorem dX5_install_140 : decode cX5_install 140 = .ok (.aload_n 0, 1) := by decide +kernel
theorem dX5_install_141 : decode cX5_install 141 = .ok (.getfield 9, 3) := by decide +kernel
theorem dX5_install_144 : decode cX5_install 144 = .ok (.sipush 1550, 3) := by decide +kernel
theorem dX5_install_147 : decode cX5_install 147 = .ok (.iload 4, 2) := by decide +kernel
theorem dX5_install_149 : decode cX5_install 149 = .ok (.iadd, 1) := by decide +kernel
theorem dX5_install_150 : decode cX5_install 150 = .ok (.aload_n 0, 1) := by decide +kernel
theorem dX5_install_151 : decode cX5_install 151 = .ok (.getfield 9, 3) := by decide +kernel
theorem dX5_install_154 : decode cX5_install 154 = .ok (.sipush 1550, 3) := by decide +kernel
theorem dX5_install_157 : decode cX5_install 157 = .ok (.iload_n 3, 1) := by decide +kernel
theorem dX5_install_158 : decode cX5_install 158 = .ok (.iadd, 1) := by decide +kernel
theorem dX5_install_159 : decode cX5_install 159 = .ok (.iaload, 1) := by decide +kernel
theorem dX5_install_160 : decode cX5_install 160 = .ok (.iastore, 1) := by decide +kernel
theorem dX5_install_161 : decode cX5_install 161 = .ok (.aload_n 0, 1) := by decide +kernel
theorem dX5_install_162 : decode cX5_install 162 = .ok (.getfield 9, 3) := by decide +kernel
theorem dX5_install_165 : decode cX5_install 165 = .ok (.sipush 4260, 3) := by decide +kernel
theorem dX5_install_168 : decode cX5_install 168 = .ok (.iload 4, 2) := by decide +kernel
theorem dX5_install_170 : decode cX5_install 170 = .ok (.iadd, 1) := by decide +kernel
theorem dX5_install_171 : decode cX5_install 171 = .ok (.aload_n 0, 1) := by decide +kernel
theorem dX5_install_172 : decode cX5_install 172 = .ok (.getfield 9, 3) := by decide +kernel
theorem dX5_install_175 : decode cX5_install 175 = .ok (.sipush 4260, 3) := by decide +kernel
theorem dX5_install_178 : decode cX5_install 178 = .ok (.iload_n 3, 1) := by decide +kernel
theorem dX5_install_179 : decode cX5_install 179 = .ok (.iadd, 1) := by decide +kernel
theorem dX5_install_180 : decode cX5_install 180 = .ok (.iaload, 1) := by decide +kernel
theorem dX5_install_181 : decode cX5_install 181 = .ok (.iastore, 1) := by decide +kernel
theorem dX5_install_182 : decode cX5_install 182 = .ok (.iconst 0, 1) := by decide +kernel
theorem dX5_install_183 : decode cX5_install 183 = .ok (.istore 5, 2) := by decide +kernel
theorem dX5_install_185 : decode cX5_install 185 = .ok (.iload 5, 2) := by decide +kernel
theorem dX5_install_187 : decode cX5_install 187 = .ok (.sipush 150, 3) := by decide +kernel
theorem dX5_install_190 : decode cX5_install 190 = .ok (.if_icmp .ge 79, 3) := by decide +kernel
theorem dX5_install_193 : decode cX5_install 193 = .ok (.aload_n 0, 1) := by decide +kernel
theorem dX5_install_194 : decode cX5_install 194 = .ok (.getfield 9, 3) := by decide +kernel
theorem dX5_install_197 : decode cX5_install 197 = .ok (.sipush 1560, 3) := by decide +kernel
theorem dX5_install_200 : decode cX5_install 200 = .ok (.sipush 150, 3) := by decide +kernel
theorem dX5_install_203 : decode cX5_install 203 = .ok (.iload 4, 2) := by decide +kernel
theorem dX5_install_205 : decode cX5_install 205 = .ok (.imul, 1) := by decide +kernel
theorem dX5_install_206 : decode cX5_install 206 = .ok (.iadd, 1) := by decide +kernel
theorem dX5_install_207 : decode cX5_install 207 = .ok (.iload 5, 2) := by decide +kernel
theorem dX5_install_209 : decode cX5_install 209 = .ok (.iadd, 1) := by decide +kernel
theorem dX5_install_210 : decode cX5_install 210 = .ok (.aload_n 0, 1) := by decide +kernel
theorem dX5_install_211 : decode cX5_install 211 = .ok (.getfield 9, 3) := by decide +kernel
theorem dX5_install_214 : decode cX5_install 214 = .ok (.sipush 1560, 3) := by decide +kernel
theorem dX5_install_217 : decode cX5_install 217 = .ok (.sipush 150, 3) := by decide +kernel
theorem dX5_install_220 : decode cX5_install 220 = .ok (.iload_n 3, 1) := by decide +kernel
theorem dX5_install_221 : decode cX5_install 221 = .ok (.imul, 1) := by decide +kernel
theorem dX5_install_222 : decode cX5_install 222 = .ok (.iadd, 1) := by decide +kernel
theorem dX5_install_223 : decode cX5_install 223 = .ok (.iload 5, 2) := by decide +kernel
theorem dX5_install_225 : decode cX5_install 225 = .ok (.iadd, 1) := by decide +kernel
theorem dX5_install_226 : decode cX5_install 226 = .ok (.iaload, 1) := by decide +kernel
theorem dX5_install_227 : decode cX5_install 227 = .ok (.iastore, 1) := by decide +kernel
theorem dX5_install_228 : decode cX5_install 228 = .ok (.aload_n 0, 1) := by decide +kernel
theorem dX5_install_229 : decode cX5_install 229 = .ok (.getfield 9, 3) := by decide +kernel
theorem dX5_install_232 : decode cX5_install 232 = .ok (.sipush 2460, 3) := by decide +kernel
theorem dX5_install_235 : decode cX5_install 235 = .ok (.sipush 150, 3) := by decide +kernel
theorem dX5_install_238 : decode cX5_install 238 = .ok (.iload 4, 2) := by decide +kernel
theorem dX5_install_240 : decode cX5_install 240 = .ok (.imul, 1) := by decide +kernel
theorem dX5_install_241 : decode cX5_install 241 = .ok (.iadd, 1) := by decide +kernel
theorem dX5_install_242 : decode cX5_install 242 = .ok (.iload 5, 2) := by decide +kernel
theorem dX5_install_244 : decode cX5_install 244 = .ok (.iadd, 1) := by decide +kernel
theorem dX5_install_245 : decode cX5_install 245 = .ok (.aload_n 0, 1) := by decide +kernel
theorem dX5_install_246 : decode cX5_install 246 = .ok (.getfield 9, 3) := by decide +kernel
theorem dX5_install_249 : decode cX5_install 249 = .ok (.sipush 2460, 3) := by decide +kernel
theorem dX5_install_252 : decode cX5_install 252 = .ok (.sipush 150, 3) := by decide +kernel
theorem dX5_install_255 : decode cX5_install 255 = .ok (.iload_n 3, 1) := by decide +kernel
theorem dX5_install_256 : decode cX5_install 256 = .ok (.imul, 1) := by decide +kernel
theorem dX5_install_257 : decode cX5_install 257 = .ok (.iadd, 1) := by decide +kernel
theorem dX5_install_258 : decode cX5_install 258 = .ok (.iload 5, 2) := by decide +kernel
theorem dX5_install_260 : decode cX5_install 260 = .ok (.iadd, 1) := by decide +kernel
theorem dX5_install_261 : decode cX5_install 261 = .ok (.iaload, 1) := by decide +kernel
theorem dX5_install_262 : decode cX5_install 262 = .ok (.iastore, 1) := by decide +kernel
theorem dX5_install_263 : decode cX5_install 263 = .ok (.iinc 5 1, 3) := by decide +kernel
theorem dX5_install_266 : decode cX5_install 266 = .ok (.goto (-81), 3) := by decide +kernel
theorem dX5_install_269 : decode cX5_install 269 = .ok (.iinc 4 1, 3) := by decide +kernel
theorem dX5_install_272 : decode cX5_install 272 = .ok (.goto (-166), 3) := by decide +kernel
theorem dX5_install_275 : decode cX5_install 275 = .ok (.aload_n 0, 1) := by decide +kernel
theorem dX5_install_276 : decode cX5_install 276 = .ok (.getfield 9, 3) := by decide +kernel
theorem dX5_install_279 : decode cX5_install 279 = .ok (.bipush 42, 2) := by decide +kernel
theorem dX5_install_281 : decode cX5_install 281 = .ok (.dup2, 1) := by decide +kernel
theorem dX5_install_282 : decode cX5_install 282 = .ok (.iaload, 1) := by decide +kernel
theorem dX5_install_283 : decode cX5_install 283 = .ok (.iconst 1, 1) := by decide +kernel
theorem dX5_install_284 : decode cX5_install 284 = .ok (.iadd, 1) := by decide +kernel
theorem dX5_install_285 : decode cX5_install 285 = .ok (.iastore, 1) := by decide +kernel
theorem dX5_install_286 : decode cX5_install 286 = .ok (.aload_n 0, 1) := by decide +kernel
theorem dX5_install_287 : decode cX5_install 287 = .ok (.getfield 9, 3) := by decide +kernel
theorem dX5_install_290 : decode cX5_install 290 = .ok (.iconst 0, 1) := by decide +kernel
theorem dX5_install_291 : decode cX5_install 291 = .ok (.aload_n 0, 1) := by decide +kernel
theorem dX5_install_292 : decode cX5_install 292 = .ok (.getfield 9, 3) := by decide +kernel
theorem dX5_install_295 : decode cX5_install 295 = .ok (.bipush 42, 2) := by decide +kernel
theorem dX5_install_297 : decode cX5_install 297 = .ok (.iaload, 1) := by decide +kernel
theorem dX5_install_298 : decode cX5_install 298 = .ok (.iadd, 1) := by decide +kernel
theorem dX5_install_299 : decode cX5_install 299 = .ok (.aload_n 0, 1) := by decide +kernel
theorem dX5_install_300 : decode cX5_install 300 = .ok (.getfield 9, 3) := by decide +kernel
theorem dX5_install_303 : decode cX5_install 303 = .ok (.bipush 43, 2) := by decide +kernel
theorem dX5_install_305 : decode cX5_install 305 = .ok (.iaload, 1) := by decide +kernel
theorem dX5_install_306 : decode cX5_install 306 = .ok (.iastore, 1) := by decide +kernel
theorem dX5_install_307 : decode cX5_install 307 = .ok (.aload_n 0, 1) := by decide +kernel
theorem dX5_install_308 : decode cX5_install 308 = .ok (.getfield 9, 3) := by decide +kernel
theorem dX5_install_311 : decode cX5_install 311 = .ok (.bipush 21, 2) := by decide +kernel
theorem dX5_install_313 : decode cX5_install 313 = .ok (.aload_n 0, 1) := by decide +kernel
theorem dX5_install_314 : decode cX5_install 314 = .ok (.getfield 9, 3) := by decide +kernel
theorem dX5_install_317 : decode cX5_install 317 = .ok (.bipush 42, 2) := by decide +kernel
theorem dX5_install_319 : decode cX5_install 319 = .ok (.iaload, 1) := by decide +kernel
theorem dX5_install_320 : decode cX5_install 320 = .ok (.iadd, 1) := by decide +kernel
theorem dX5_install_321 : decode cX5_install 321 = .ok (.iload_n 2, 1) := by decide +kernel
theorem dX5_install_322 : decode cX5_install 322 = .ok (.iastore, 1) := by decide +kernel
theorem dX5_install_323 : decode cX5_install 323 = .ok (.iconst 0, 1) := by decide +kernel
theorem dX5_install_324 : decode cX5_install 324 = .ok (.istore 4, 2) := by decide +kernel
theorem dX5_install_326 : decode cX5_install 326 = .ok (.iload 4, 2) := by decide +kernel
theorem dX5_install_328 : decode cX5_install 328 = .ok (.sipush 216, 3) := by decide +kernel
theorem dX5_install_331 : decode cX5_install 331 = .ok (.if_icmp .ge 21, 3) := by decide +kernel
theorem dX5_install_334 : decode cX5_install 334 = .ok (.aload_n 0, 1) := by decide +kernel
theorem dX5_install_335 : decode cX5_install 335 = .ok (.getfield 9, 3) := by decide +kernel
theorem dX5_install_338 : decode cX5_install 338 = .ok (.sipush 4270, 3) := by decide +kernel
theorem dX5_install_341 : decode cX5_install 341 = .ok (.iload 4, 2) := by decide +kernel
theorem dX5_install_343 : decode cX5_install 343 = .ok (.iadd, 1) := by decide +kernel
theorem dX5_install_344 : decode cX5_install 344 = .ok (.iconst 0, 1) := by decide +kernel
theorem dX5_install_345 : decode cX5_install 345 = .ok (.iastore, 1) := by decide +kernel
theorem dX5_install_346 : decode cX5_install 346 = .ok (.iinc 4 1, 3) := by decide +kernel
theorem dX5_install_349 : decode cX5_install 349 = .ok (.goto (-23), 3) := by decide +kernel
theorem dX5_install_352 : decode cX5_install 352 = .ok (.iload_n 2, 1) := by decide +kernel
theorem dX5_install_353 : decode cX5_install 353 = .ok (.ireturn, 1) := by decide +kernel
theorem dX5_broadcast_0 : decode cX5_broadcast 0 = .ok (.aload_n 0, 1) := by decide +kernel
theorem dX5_broadcast_1 : decode cX5_broadcast 1 = .ok (.iload_n 1, 1) := by decide +kernel
theorem dX5_broadcast_2 : decode cX5_broadcast 2 = .ok (.invokevirtual 96, 3) := by decide +kernel
theorem dX5_broadcast_5 : decode cX5_broadcast 5 = .ok (.ifCond .ne 5, 3) := by decide +kernel
theorem dX5_broadcast_8 : decode cX5_broadcast 8 = .ok (.iconst 0, 1) := by decide +kernel
theorem dX5_broadcast_9 : decode cX5_broadcast 9 = .ok (.ireturn, 1) := by decide +kernel
theorem dX5_broadcast_10 : decode cX5_broadcast 10 = .ok (.aload_n 0, 1) := by decide +kernel
theorem dX5_broadcast_11 : decode cX5_broadcast 11 = .ok (.getfield 9, 3) := by decide +kernel
theorem dX5_broadcast_14 : decode cX5_broadcast 14 = .ok (.bipush 44, 2) := by decide +kernel
theorem dX5_broadcast_16 : decode cX5_broadcast 16 = .ok (.iaload, 1) := by decide +kernel
theorem dX5_broadcast_17 : decode cX5_broadcast 17 = .ok (.sipush 150, 3) := by decide +kernel
theorem dX5_broadcast_20 : decode cX5_broadcast 20 = .ok (.if_icmp .ne 9, 3) := by decide +kernel
theorem dX5_broadcast_23 : decode cX5_broadcast 23 = .ok (.aload_n 0, 1) := by decide +kernel
theorem dX5_broadcast_24 : decode cX5_broadcast 24 = .ok (.iconst 2, 1) := by decide +kernel
theorem dX5_broadcast_25 : decode cX5_broadcast 25 = .ok (.invokevirtual 59, 3) := by decide +kernel
theorem dX5_broadcast_28 : decode cX5_broadcast 28 = .ok (.ireturn, 1) := by decide +kernel
theorem dX5_broadcast_29 : decode cX5_broadcast 29 = .ok (.aload_n 0, 1) := by decide +kernel
theorem dX5_broadcast_30 : decode cX5_broadcast 30 = .ok (.getfield 9, 3) := by decide +kernel
theorem dX5_broadcast_33 : decode cX5_broadcast 33 = .ok (.bipush 44, 2) := by decide +kernel
theorem dX5_broadcast_35 : decode cX5_broadcast 35 = .ok (.iaload, 1) := by decide +kernel
theorem dX5_broadcast_36 : decode cX5_broadcast 36 = .ok (.istore_n 3, 1) := by decide +kernel
theorem dX5_broadcast_37 : decode cX5_broadcast 37 = .ok (.aload_n 0, 1) := by decide +kernel
theorem dX5_broadcast_38 : decode cX5_broadcast 38 = .ok (.getfield 9, 3) := by decide +kernel
theorem dX5_broadcast_41 : decode cX5_broadcast 41 = .ok (.bipush 44, 2) := by decide +kernel
theorem dX5_broadcast_43 : decode cX5_broadcast 43 = .ok (.dup2, 1) := by decide +kernel
theorem dX5_broadcast_44 : decode cX5_broadcast 44 = .ok (.iaload, 1) := by decide +kernel
theorem dX5_broadcast_45 : decode cX5_broadcast 45 = .ok (.iconst 1, 1) := by decide +kernel
theorem dX5_broadcast_46 : decode cX5_broadcast 46 = .ok (.iadd, 1) := by decide +kernel
theorem dX5_broadcast_47 : decode cX5_broadcast 47 = .ok (.iastore, 1) := by decide +kernel
theorem dX5_broadcast_48 : decode cX5_broadcast 48 = .ok (.aload_n 0, 1) := by decide +kernel
theorem dX5_broadcast_49 : decode cX5_broadcast 49 = .ok (.getfield 9, 3) := by decide +kernel
theorem dX5_broadcast_52 : decode cX5_broadcast 52 = .ok (.bipush 50, 2) := by decide +kernel
theorem dX5_broadcast_54 : decode cX5_broadcast 54 = .ok (.iload_n 3, 1) := by decide +kernel
theorem dX5_broadcast_55 : decode cX5_broadcast 55 = .ok (.iadd, 1) := by decide +kernel
theorem dX5_broadcast_56 : decode cX5_broadcast 56 = .ok (.iload_n 1, 1) := by decide +kernel
theorem dX5_broadcast_57 : decode cX5_broadcast 57 = .ok (.iastore, 1) := by decide +kernel
theorem dX5_broadcast_58 : decode cX5_broadcast 58 = .ok (.aload_n 0, 1) := by decide +kernel
theorem dX5_broadcast_59 : decode cX5_broadcast 59 = .ok (.getfield 9, 3) := by decide +kernel
theorem dX5_broadcast_62 : decode cX5_broadcast 62 = .ok (.sipush 200, 3) := by decide +kernel
theorem dX5_broadcast_65 : decode cX5_broadcast 65 = .ok (.iload_n 3, 1) := by decide +kernel
theorem dX5_broadcast_66 : decode cX5_broadcast 66 = .ok (.iadd, 1) := by decide +kernel
theorem dX5_broadcast_67 : decode cX5_broadcast 67 = .ok (.iload_n 2, 1) := by decide +kernel
theorem dX5_broadcast_68 : decode cX5_broadcast 68 = .ok (.iastore, 1) := by decide +kernel
theorem dX5_broadcast_69 : decode cX5_broadcast 69 = .ok (.aload_n 0, 1) := by decide +kernel
theorem dX5_broadcast_70 : decode cX5_broadcast 70 = .ok (.getfield 9, 3) := by decide +kernel
theorem dX5_broadcast_73 : decode cX5_broadcast 73 = .ok (.sipush 350, 3) := by decide +kernel
theorem dX5_broadcast_76 : decode cX5_broadcast 76 = .ok (.iload_n 3, 1) := by decide +kernel
theorem dX5_broadcast_77 : decode cX5_broadcast 77 = .ok (.iadd, 1) := by decide +kernel
theorem dX5_broadcast_78 : decode cX5_broadcast 78 = .ok (.aload_n 0, 1) := by decide +kernel
theorem dX5_broadcast_79 : decode cX5_broadcast 79 = .ok (.getfield 9, 3) := by decide +kernel
theorem dX5_broadcast_82 : decode cX5_broadcast 82 = .ok (.bipush 42, 2) := by decide +kernel
theorem dX5_broadcast_84 : decode cX5_broadcast 84 = .ok (.iaload, 1) := by decide +kernel
theorem dX5_broadcast_85 : decode cX5_broadcast 85 = .ok (.iastore, 1) := by decide +kernel
theorem dX5_broadcast_86 : decode cX5_broadcast 86 = .ok (.aload_n 0, 1) := by decide +kernel
theorem dX5_broadcast_87 : decode cX5_broadcast 87 = .ok (.getfield 9, 3) := by decide +kernel
theorem dX5_broadcast_90 : decode cX5_broadcast 90 = .ok (.sipush 500, 3) := by decide +kernel
theorem dX5_broadcast_93 : decode cX5_broadcast 93 = .ok (.iload_n 3, 1) := by decide +kernel
theorem dX5_broadcast_94 : decode cX5_broadcast 94 = .ok (.iadd, 1) := by decide +kernel
theorem dX5_broadcast_95 : decode cX5_broadcast 95 = .ok (.aload_n 0, 1) := by decide +kernel
theorem dX5_broadcast_96 : decode cX5_broadcast 96 = .ok (.iload_n 1, 1) := by decide +kernel
theorem dX5_broadcast_97 : decode cX5_broadcast 97 = .ok (.iload_n 1, 1) := by decide +kernel
theorem dX5_broadcast_98 : decode cX5_broadcast 98 = .ok (.invokevirtual 76, 3) := by decide +kernel
theorem dX5_broadcast_101 : decode cX5_broadcast 101 = .ok (.iconst 1, 1) := by decide +kernel
theorem dX5_broadcast_102 : decode cX5_broadcast 102 = .ok (.iadd, 1) := by decide +kernel
theorem dX5_broadcast_103 : decode cX5_broadcast 103 = .ok (.iastore, 1) := by decide +kernel
theorem dX5_broadcast_104 : decode cX5_broadcast 104 = .ok (.aload_n 0, 1) := by decide +kernel
theorem dX5_broadcast_105 : decode cX5_broadcast 105 = .ok (.iload_n 1, 1) := by decide +kernel
theorem dX5_broadcast_106 : decode cX5_broadcast 106 = .ok (.iload_n 3, 1) := by decide +kernel
theorem dX5_broadcast_107 : decode cX5_broadcast 107 = .ok (.invokevirtual 90, 3) := by decide +kernel
theorem dX5_broadcast_110 : decode cX5_broadcast 110 = .ok (.iconst 0, 1) := by decide +kernel
theorem dX5_broadcast_111 : decode cX5_broadcast 111 = .ok (.istore 4, 2) := by decide +kernel
theorem dX5_broadcast_113 : decode cX5_broadcast 113 = .ok (.iload 4, 2) := by decide +kernel
theorem dX5_broadcast_115 : decode cX5_broadcast 115 = .ok (.bipush 6, 2) := by decide +kernel
theorem dX5_broadcast_117 : decode cX5_broadcast 117 = .ok (.if_icmp .ge 32, 3) := by decide +kernel
theorem dX5_broadcast_120 : decode cX5_broadcast 120 = .ok (.aload_n 0, 1) := by decide +kernel
theorem dX5_broadcast_121 : decode cX5_broadcast 121 = .ok (.getfield 9, 3) := by decide +kernel
theorem dX5_broadcast_124 : decode cX5_broadcast 124 = .ok (.sipush 650, 3) := by decide +kernel
theorem dX5_broadcast_127 : decode cX5_broadcast 127 = .ok (.bipush 6, 2) := by decide +kernel
theorem dX5_broadcast_129 : decode cX5_broadcast 129 = .ok (.iload_n 3, 1) := by decide +kernel
theorem dX5_broadcast_130 : decode cX5_broadcast 130 = .ok (.imul, 1) := by decide +kernel
theorem dX5_broadcast_131 : decode cX5_broadcast 131 = .ok (.iadd, 1) := by decide +kernel
theorem dX5_broadcast_132 : decode cX5_broadcast 132 = .ok (.iload 4, 2) := by decide +kernel
theorem dX5_broadcast_134 : decode cX5_broadcast 134 = .ok (.iadd, 1) := by decide +kernel
theorem dX5_broadcast_135 : decode cX5_broadcast 135 = .ok (.aload_n 0, 1) := by decide +kernel
theorem dX5_broadcast_136 : decode cX5_broadcast 136 = .ok (.iload_n 1, 1) := by decide +kernel
theorem dX5_broadcast_137 : decode cX5_broadcast 137 = .ok (.iload 4, 2) := by decide +kernel
theorem dX5_broadcast_139 : decode cX5_broadcast 139 = .ok (.invokevirtual 76, 3) := by decide +kernel
theorem dX5_broadcast_142 : decode cX5_broadcast 142 = .ok (.iastore, 1) := by decide +kernel
theorem dX5_broadcast_143 : decode cX5_broadcast 143 = .ok (.iinc 4 1, 3) := by decide +kernel
theorem dX5_broadcast_146 : decode cX5_broadcast 146 = .ok (.goto (-33), 3) := by decide +kernel
theorem dX5_broadcast_149 : decode cX5_broadcast 149 = .ok (.iload_n 3, 1) := by decide +kernel
theorem dX5_broadcast_150 : decode cX5_broadcast 150 = .ok (.ireturn, 1) := by decide +kernel
theorem dX5_isBuffered_0 : decode cX5_isBuffered 0 = .ok (.aload_n 0, 1) := by decide +kernel
theorem dX5_isBuffered_1 : decode cX5_isBuffered 1 = .ok (.iload_n 2, 1) := by decide +kernel
theorem dX5_isBuffered_2 : decode cX5_isBuffered 2 = .ok (.invokevirtual 69, 3) := by decide +kernel
theorem dX5_isBuffered_5 : decode cX5_isBuffered 5 = .ok (.ifCond .eq 36, 3) := by decide +kernel
theorem dX5_isBuffered_8 : decode cX5_isBuffered 8 = .ok (.aload_n 0, 1) := by decide +kernel
theorem dX5_isBuffered_9 : decode cX5_isBuffered 9 = .ok (.getfield 9, 3) := by decide +kernel
theorem dX5_isBuffered_12 : decode cX5_isBuffered 12 = .ok (.sipush 3360, 3) := by decide +kernel
theorem dX5_isBuffered_15 : decode cX5_isBuffered 15 = .ok (.sipush 150, 3) := by decide +kernel
theorem dX5_isBuffered_18 : decode cX5_isBuffered 18 = .ok (.iload_n 1, 1) := by decide +kernel
theorem dX5_isBuffered_19 : decode cX5_isBuffered 19 = .ok (.imul, 1) := by decide +kernel
theorem dX5_isBuffered_20 : decode cX5_isBuffered 20 = .ok (.iadd, 1) := by decide +kernel
theorem dX5_isBuffered_21 : decode cX5_isBuffered 21 = .ok (.iload_n 2, 1) := by decide +kernel
theorem dX5_isBuffered_22 : decode cX5_isBuffered 22 = .ok (.iadd, 1) := by decide +kernel
theorem dX5_isBuffered_23 : decode cX5_isBuffered 23 = .ok (.iaload, 1) := by decide +kernel
theorem dX5_isBuffered_24 : decode cX5_isBuffered 24 = .ok (.iconst 1, 1) := by decide +kernel
theorem dX5_isBuffered_25 : decode cX5_isBuffered 25 = .ok (.if_icmp .ne 16, 3) := by decide +kernel
theorem dX5_isBuffered_28 : decode cX5_isBuffered 28 = .ok (.aload_n 0, 1) := by decide +kernel
theorem dX5_isBuffered_29 : decode cX5_isBuffered 29 = .ok (.iload_n 1, 1) := by decide +kernel
theorem dX5_isBuffered_30 : decode cX5_isBuffered 30 = .ok (.iload_n 2, 1) := by decide +kernel
theorem dX5_isBuffered_31 : decode cX5_isBuffered 31 = .ok (.invokevirtual 72, 3) := by decide +kernel
theorem dX5_isBuffered_34 : decode cX5_isBuffered 34 = .ok (.ifCond .ne 7, 3) := by decide +kernel
theorem dX5_isBuffered_37 : decode cX5_isBuffered 37 = .ok (.iconst 1, 1) := by decide +kernel
theorem dX5_isBuffered_38 : decode cX5_isBuffered 38 = .ok (.goto 4, 3) := by decide +kernel
theorem dX5_isBuffered_41 : decode cX5_isBuffered 41 = .ok (.iconst 0, 1) := by decide +kernel
theorem dX5_isBuffered_42 : decode cX5_isBuffered 42 = .ok (.ireturn, 1) := by decide +kernel
theorem dX5_comes_0 : decode cX5_comes 0 = .ok (.aload_n 0, 1) := by decide +kernel
theorem dX5_comes_1 : decode cX5_comes 1 = .ok (.getfield 9, 3) := by decide +kernel
theorem dX5_comes_4 : decode cX5_comes 4 = .ok (.sipush 3360, 3) := by decide +kernel
theorem dX5_comes_7 : decode cX5_comes 7 = .ok (.sipush 150, 3) := by decide +kernel
theorem dX5_comes_10 : decode cX5_comes 10 = .ok (.iload_n 1, 1) := by decide +kernel
theorem dX5_comes_11 : decode cX5_comes 11 = .ok (.imul, 1) := by decide +kernel
theorem dX5_comes_12 : decode cX5_comes 12 = .ok (.iadd, 1) := by decide +kernel
theorem dX5_comes_13 : decode cX5_comes 13 = .ok (.iload_n 2, 1) := by decide +kernel
theorem dX5_comes_14 : decode cX5_comes 14 = .ok (.iadd, 1) := by decide +kernel
theorem dX5_comes_15 : decode cX5_comes 15 = .ok (.iconst 1, 1) := by decide +kernel
theorem dX5_comes_16 : decode cX5_comes 16 = .ok (.iastore, 1) := by decide +kernel
theorem dX5_comes_17 : decode cX5_comes 17 = .ok (.iconst 0, 1) := by decide +kernel
theorem dX5_comes_18 : decode cX5_comes 18 = .ok (.istore_n 3, 1) := by decide +kernel
theorem dX5_comes_19 : decode cX5_comes 19 = .ok (.iconst 1, 1) := by decide +kernel
theorem dX5_comes_20 : decode cX5_comes 20 = .ok (.istore 4, 2) := by decide +kernel
theorem dX5_comes_22 : decode cX5_comes 22 = .ok (.iload 4, 2) := by decide +kernel
theorem dX5_comes_24 : decode cX5_comes 24 = .ok (.ifCond .eq 71, 3) := by decide +kernel
theorem dX5_comes_27 : decode cX5_comes 27 = .ok (.iconst 0, 1) := by decide +kernel
theorem dX5_comes_28 : decode cX5_comes 28 = .ok (.istore 4, 2) := by decide +kernel
theorem dX5_comes_30 : decode cX5_comes 30 = .ok (.iconst 0, 1) := by decide +kernel
theorem dX5_comes_31 : decode cX5_comes 31 = .ok (.istore 5, 2) := by decide +kernel
theorem dX5_comes_33 : decode cX5_comes 33 = .ok (.iload 5, 2) := by decide +kernel
theorem dX5_comes_35 : decode cX5_comes 35 = .ok (.aload_n 0, 1) := by decide +kernel
theorem dX5_comes_36 : decode cX5_comes 36 = .ok (.getfield 9, 3) := by decide +kernel
theorem dX5_comes_39 : decode cX5_comes 39 = .ok (.bipush 44, 2) := by decide +kernel
theorem dX5_comes_41 : decode cX5_comes 41 = .ok (.iaload, 1) := by decide +kernel
theorem dX5_comes_42 : decode cX5_comes 42 = .ok (.if_icmp .ge 50, 3) := by decide +kernel
theorem dX5_comes_45 : decode cX5_comes 45 = .ok (.iload 4, 2) := by decide +kernel
theorem dX5_comes_47 : decode cX5_comes 47 = .ok (.ifCond .ne 45, 3) := by decide +kernel
theorem dX5_comes_50 : decode cX5_comes 50 = .ok (.aload_n 0, 1) := by decide +kernel
theorem dX5_comes_51 : decode cX5_comes 51 = .ok (.iload_n 1, 1) := by decide +kernel
theorem dX5_comes_52 : decode cX5_comes 52 = .ok (.iload 5, 2) := by decide +kernel
theorem dX5_comes_54 : decode cX5_comes 54 = .ok (.invokevirtual 99, 3) := by decide +kernel
theorem dX5_comes_57 : decode cX5_comes 57 = .ok (.ifCond .eq 29, 3) := by decide +kernel
theorem dX5_comes_60 : decode cX5_comes 60 = .ok (.aload_n 0, 1) := by decide +kernel
theorem dX5_comes_61 : decode cX5_comes 61 = .ok (.iload_n 1, 1) := by decide +kernel
theorem dX5_comes_62 : decode cX5_comes 62 = .ok (.iload 5, 2) := by decide +kernel
theorem dX5_comes_64 : decode cX5_comes 64 = .ok (.invokevirtual 84, 3) := by decide +kernel
theorem dX5_comes_67 : decode cX5_comes 67 = .ok (.ifCond .ne 6, 3) := by decide +kernel
theorem dX5_comes_70 : decode cX5_comes 70 = .ok (.goto 16, 3) := by decide +kernel
theorem dX5_comes_73 : decode cX5_comes 73 = .ok (.aload_n 0, 1) := by decide +kernel
theorem dX5_comes_74 : decode cX5_comes 74 = .ok (.iload_n 1, 1) := by decide +kernel
theorem dX5_comes_75 : decode cX5_comes 75 = .ok (.iload 5, 2) := by decide +kernel
theorem dX5_comes_77 : decode cX5_comes 77 = .ok (.invokevirtual 90, 3) := by decide +kernel
theorem dX5_comes_80 : decode cX5_comes 80 = .ok (.iinc 3 1, 3) := by decide +kernel
theorem dX5_comes_83 : decode cX5_comes 83 = .ok (.iconst 1, 1) := by decide +kernel
theorem dX5_comes_84 : decode cX5_comes 84 = .ok (.istore 4, 2) := by decide +kernel
theorem dX5_comes_86 : decode cX5_comes 86 = .ok (.iinc 5 1, 3) := by decide +kernel
theorem dX5_comes_89 : decode cX5_comes 89 = .ok (.goto (-56), 3) := by decide +kernel
theorem dX5_comes_92 : decode cX5_comes 92 = .ok (.goto (-70), 3) := by decide +kernel
theorem dX5_comes_95 : decode cX5_comes 95 = .ok (.iload_n 3, 1) := by decide +kernel
theorem dX5_comes_96 : decode cX5_comes 96 = .ok (.ireturn, 1) := by decide +kernel
theorem dX5_isOnTheWay_0 : decode cX5_isOnTheWay 0 = .ok (.aload_n 0, 1) := by decide +kernel
theorem dX5_isOnTheWay_1 : decode cX5_isOnTheWay 1 = .ok (.iload_n 2, 1) := by decide +kernel
theorem dX5_isOnTheWay_2 : decode cX5_isOnTheWay 2 = .ok (.invokevirtual 69, 3) := by decide +kernel
theorem dX5_isOnTheWay_5 : decode cX5_isOnTheWay 5 = .ok (.ifCond .eq 39, 3) := by decide +kernel
theorem dX5_isOnTheWay_8 : decode cX5_isOnTheWay 8 = .ok (.aload_n 0, 1) := by decide +kernel
theorem dX5_isOnTheWay_9 : decode cX5_isOnTheWay 9 = .ok (.getfield 9, 3) := by decide +kernel
theorem dX5_isOnTheWay_12 : decode cX5_isOnTheWay 12 = .ok (.bipush 50, 2) := by decide +kernel
theorem dX5_isOnTheWay_14 : decode cX5_isOnTheWay 14 = .ok (.iload_n 2, 1) := by decide +kernel
theorem dX5_isOnTheWay_15 : decode cX5_isOnTheWay 15 = .ok (.iadd, 1) := by decide +kernel
theorem dX5_isOnTheWay_16 : decode cX5_isOnTheWay 16 = .ok (.iaload, 1) := by decide +kernel
theorem dX5_isOnTheWay_17 : decode cX5_isOnTheWay 17 = .ok (.iload_n 1, 1) := by decide +kernel
theorem dX5_isOnTheWay_18 : decode cX5_isOnTheWay 18 = .ok (.if_icmp .eq 26, 3) := by decide +kernel
theorem dX5_isOnTheWay_21 : decode cX5_isOnTheWay 21 = .ok (.aload_n 0, 1) := by decide +kernel
theorem dX5_isOnTheWay_22 : decode cX5_isOnTheWay 22 = .ok (.getfield 9, 3) := by decide +kernel
theorem dX5_isOnTheWay_25 : decode cX5_isOnTheWay 25 = .ok (.sipush 3360, 3) := by decide +kernel
theorem dX5_isOnTheWay_28 : decode cX5_isOnTheWay 28 = .ok (.sipush 150, 3) := by decide +kernel
theorem dX5_isOnTheWay_31 : decode cX5_isOnTheWay 31 = .ok (.iload_n 1, 1) := by decide +kernel
theorem dX5_isOnTheWay_32 : decode cX5_isOnTheWay 32 = .ok (.imul, 1) := by decide +kernel
theorem dX5_isOnTheWay_33 : decode cX5_isOnTheWay 33 = .ok (.iadd, 1) := by decide +kernel
theorem dX5_isOnTheWay_34 : decode cX5_isOnTheWay 34 = .ok (.iload_n 2, 1) := by decide +kernel
theorem dX5_isOnTheWay_35 : decode cX5_isOnTheWay 35 = .ok (.iadd, 1) := by decide +kernel
theorem dX5_isOnTheWay_36 : decode cX5_isOnTheWay 36 = .ok (.iaload, 1) := by decide +kernel
theorem dX5_isOnTheWay_37 : decode cX5_isOnTheWay 37 = .ok (.ifCond .ne 7, 3) := by decide +kernel
theorem dX5_isOnTheWay_40 : decode cX5_isOnTheWay 40 = .ok (.iconst 1, 1) := by decide +kernel
theorem dX5_isOnTheWay_41 : decode cX5_isOnTheWay 41 = .ok (.goto 4, 3) := by decide +kernel
theorem dX5_isOnTheWay_44 : decode cX5_isOnTheWay 44 = .ok (.iconst 0, 1) := by decide +kernel
theorem dX5_isOnTheWay_45 : decode cX5_isOnTheWay 45 = .ok (.ireturn, 1) := by decide +kernel
theorem dX5_arrive_0 : decode cX5_arrive 0 = .ok (.aload_n 0, 1) := by decide +kernel
theorem dX5_arrive_1 : decode cX5_arrive 1 = .ok (.iconst 0, 1) := by decide +kernel
theorem dX5_arrive_2 : decode cX5_arrive 2 = .ok (.putfield 38, 3) := by decide +kernel
theorem dX5_arrive_5 : decode cX5_arrive 5 = .ok (.iload_n 1, 1) := by decide +kernel
theorem dX5_arrive_6 : decode cX5_arrive 6 = .ok (.invokestatic 49, 3) := by decide +kernel
theorem dX5_arrive_9 : decode cX5_arrive 9 = .ok (.ifCond .eq 11, 3) := by decide +kernel
theorem dX5_arrive_12 : decode cX5_arrive 12 = .ok (.aload_n 0, 1) := by decide +kernel
theorem dX5_arrive_13 : decode cX5_arrive 13 = .ok (.iload_n 2, 1) := by decide +kernel
theorem dX5_arrive_14 : decode cX5_arrive 14 = .ok (.invokevirtual 56, 3) := by decide +kernel
theorem dX5_arrive_17 : decode cX5_arrive 17 = .ok (.ifCond .ne 9, 3) := by decide +kernel
theorem dX5_arrive_20 : decode cX5_arrive 20 = .ok (.aload_n 0, 1) := by decide +kernel
theorem dX5_arrive_21 : decode cX5_arrive 21 = .ok (.iconst 1, 1) := by decide +kernel
theorem dX5_arrive_22 : decode cX5_arrive 22 = .ok (.invokevirtual 59, 3) := by decide +kernel
theorem dX5_arrive_25 : decode cX5_arrive 25 = .ok (.ireturn, 1) := by decide +kernel
theorem dX5_arrive_26 : decode cX5_arrive 26 = .ok (.aload_n 0, 1) := by decide +kernel
theorem dX5_arrive_27 : decode cX5_arrive 27 = .ok (.iload_n 1, 1) := by decide +kernel
theorem dX5_arrive_28 : decode cX5_arrive 28 = .ok (.invokevirtual 53, 3) := by decide +kernel
theorem dX5_arrive_31 : decode cX5_arrive 31 = .ok (.ifCond .eq 11, 3) := by decide +kernel
theorem dX5_arrive_34 : decode cX5_arrive 34 = .ok (.aload_n 0, 1) := by decide +kernel
theorem dX5_arrive_35 : decode cX5_arrive 35 = .ok (.iload_n 2, 1) := by decide +kernel
theorem dX5_arrive_36 : decode cX5_arrive 36 = .ok (.invokevirtual 69, 3) := by decide +kernel
theorem dX5_arrive_39 : decode cX5_arrive 39 = .ok (.ifCond .ne 9, 3) := by decide +kernel
theorem dX5_arrive_42 : decode cX5_arrive 42 = .ok (.aload_n 0, 1) := by decide +kernel
theorem dX5_arrive_43 : decode cX5_arrive 43 = .ok (.iconst 2, 1) := by decide +kernel
theorem dX5_arrive_44 : decode cX5_arrive 44 = .ok (.invokevirtual 59, 3) := by decide +kernel
theorem dX5_arrive_47 : decode cX5_arrive 47 = .ok (.ireturn, 1) := by decide +kernel
theorem dX5_arrive_48 : decode cX5_arrive 48 = .ok (.aload_n 0, 1) := by decide +kernel
theorem dX5_arrive_49 : decode cX5_arrive 49 = .ok (.iload_n 1, 1) := by decide +kernel
theorem dX5_arrive_50 : decode cX5_arrive 50 = .ok (.iload_n 2, 1) := by decide +kernel
theorem dX5_arrive_51 : decode cX5_arrive 51 = .ok (.invokevirtual 102, 3) := by decide +kernel
theorem dX5_arrive_54 : decode cX5_arrive 54 = .ok (.ifCond .eq 10, 3) := by decide +kernel
theorem dX5_arrive_57 : decode cX5_arrive 57 = .ok (.aload_n 0, 1) := by decide +kernel
theorem dX5_arrive_58 : decode cX5_arrive 58 = .ok (.iload_n 1, 1) := by decide +kernel
theorem dX5_arrive_59 : decode cX5_arrive 59 = .ok (.iload_n 2, 1) := by decide +kernel
theorem dX5_arrive_60 : decode cX5_arrive 60 = .ok (.invokevirtual 105, 3) := by decide +kernel
theorem dX5_arrive_63 : decode cX5_arrive 63 = .ok (.ireturn, 1) := by decide +kernel
theorem dX5_arrive_64 : decode cX5_arrive 64 = .ok (.aload_n 0, 1) := by decide +kernel
theorem dX5_arrive_65 : decode cX5_arrive 65 = .ok (.getfield 9, 3) := by decide +kernel
theorem dX5_arrive_68 : decode cX5_arrive 68 = .ok (.bipush 45, 2) := by decide +kernel
theorem dX5_arrive_70 : decode cX5_arrive 70 = .ok (.dup2, 1) := by decide +kernel
theorem dX5_arrive_71 : decode cX5_arrive 71 = .ok (.iaload, 1) := by decide +kernel
theorem dX5_arrive_72 : decode cX5_arrive 72 = .ok (.iconst 1, 1) := by decide +kernel
theorem dX5_arrive_73 : decode cX5_arrive 73 = .ok (.iadd, 1) := by decide +kernel
theorem dX5_arrive_74 : decode cX5_arrive 74 = .ok (.iastore, 1) := by decide +kernel
theorem dX5_arrive_75 : decode cX5_arrive 75 = .ok (.iconst 0, 1) := by decide +kernel
theorem dX5_arrive_76 : decode cX5_arrive 76 = .ok (.ireturn, 1) := by decide +kernel
theorem dX5_arriveAll_0 : decode cX5_arriveAll 0 = .ok (.aload_n 0, 1) := by decide +kernel
theorem dX5_arriveAll_1 : decode cX5_arriveAll 1 = .ok (.iload_n 1, 1) := by decide +kernel
theorem dX5_arriveAll_2 : decode cX5_arriveAll 2 = .ok (.invokevirtual 96, 3) := by decide +kernel
theorem dX5_arriveAll_5 : decode cX5_arriveAll 5 = .ok (.ifCond .ne 5, 3) := by decide +kernel
theorem dX5_arriveAll_8 : decode cX5_arriveAll 8 = .ok (.iconst 0, 1) := by decide +kernel
theorem dX5_arriveAll_9 : decode cX5_arriveAll 9 = .ok (.ireturn, 1) := by decide +kernel
theorem dX5_arriveAll_10 : decode cX5_arriveAll 10 = .ok (.iconst 0, 1) := by decide +kernel
theorem dX5_arriveAll_11 : decode cX5_arriveAll 11 = .ok (.istore_n 2, 1) := by decide +kernel
theorem dX5_arriveAll_12 : decode cX5_arriveAll 12 = .ok (.iconst 0, 1) := by decide +kernel
theorem dX5_arriveAll_13 : decode cX5_arriveAll 13 = .ok (.istore_n 3, 1) := by decide +kernel
theorem dX5_arriveAll_14 : decode cX5_arriveAll 14 = .ok (.iload_n 3, 1) := by decide +kernel
theorem dX5_arriveAll_15 : decode cX5_arriveAll 15 = .ok (.aload_n 0, 1) := by decide +kernel
theorem dX5_arriveAll_16 : decode cX5_arriveAll 16 = .ok (.getfield 9, 3) := by decide +kernel
theorem dX5_arriveAll_19 : decode cX5_arriveAll 19 = .ok (.bipush 44, 2) := by decide +kernel
theorem dX5_arriveAll_21 : decode cX5_arriveAll 21 = .ok (.iaload, 1) := by decide +kernel
theorem dX5_arriveAll_22 : decode cX5_arriveAll 22 = .ok (.if_icmp .ge 31, 3) := by decide +kernel
theorem dX5_arriveAll_25 : decode cX5_arriveAll 25 = .ok (.iload_n 2, 1) := by decide +kernel
theorem dX5_arriveAll_26 : decode cX5_arriveAll 26 = .ok (.aload_n 0, 1) := by decide +kernel
theorem dX5_arriveAll_27 : decode cX5_arriveAll 27 = .ok (.iload_n 1, 1) := by decide +kernel
theorem dX5_arriveAll_28 : decode cX5_arriveAll 28 = .ok (.iload_n 3, 1) := by decide +kernel
theorem dX5_arriveAll_29 : decode cX5_arriveAll 29 = .ok (.invokevirtual 102, 3) := by decide +kernel
theorem dX5_arriveAll_32 : decode cX5_arriveAll 32 = .ok (.ifCond .eq 12, 3) := by decide +kernel
theorem dX5_arriveAll_35 : decode cX5_arriveAll 35 = .ok (.aload_n 0, 1) := by decide +kernel
theorem dX5_arriveAll_36 : decode cX5_arriveAll 36 = .ok (.iload_n 1, 1) := by decide +kernel
theorem dX5_arriveAll_37 : decode cX5_arriveAll 37 = .ok (.iload_n 3, 1) := by decide +kernel
theorem dX5_arriveAll_38 : decode cX5_arriveAll 38 = .ok (.invokevirtual 105, 3) := by decide +kernel
theorem dX5_arriveAll_41 : decode cX5_arriveAll 41 = .ok (.goto 4, 3) := by decide +kernel
theorem dX5_arriveAll_44 : decode cX5_arriveAll 44 = .ok (.iconst 0, 1) := by decide +kernel
theorem dX5_arriveAll_45 : decode cX5_arriveAll 45 = .ok (.iadd, 1) := by decide +kernel
theorem dX5_arriveAll_46 : decode cX5_arriveAll 46 = .ok (.istore_n 2, 1) := by decide +kernel
theorem dX5_arriveAll_47 : decode cX5_arriveAll 47 = .ok (.iinc 3 1, 3) := by decide +kernel
theorem dX5_arriveAll_50 : decode cX5_arriveAll 50 = .ok (.goto (-36), 3) := by decide +kernel
theorem dX5_arriveAll_53 : decode cX5_arriveAll 53 = .ok (.iload_n 2, 1) := by decide +kernel
theorem dX5_arriveAll_54 : decode cX5_arriveAll 54 = .ok (.ireturn, 1) := by decide +kernel
theorem dX5_gossip_0 : decode cX5_gossip 0 = .ok (.aload_n 0, 1) := by decide +kernel
theorem dX5_gossip_1 : decode cX5_gossip 1 = .ok (.iconst 0, 1) := by decide +kernel
theorem dX5_gossip_2 : decode cX5_gossip 2 = .ok (.putfield 38, 3) := by decide +kernel
theorem dX5_gossip_5 : decode cX5_gossip 5 = .ok (.iload_n 1, 1) := by decide +kernel
theorem dX5_gossip_6 : decode cX5_gossip 6 = .ok (.invokestatic 49, 3) := by decide +kernel
theorem dX5_gossip_9 : decode cX5_gossip 9 = .ok (.ifCond .eq 10, 3) := by decide +kernel
theorem dX5_gossip_12 : decode cX5_gossip 12 = .ok (.iload_n 2, 1) := by decide +kernel
theorem dX5_gossip_13 : decode cX5_gossip 13 = .ok (.invokestatic 49, 3) := by decide +kernel
theorem dX5_gossip_16 : decode cX5_gossip 16 = .ok (.ifCond .ne 9, 3) := by decide +kernel
theorem dX5_gossip_19 : decode cX5_gossip 19 = .ok (.aload_n 0, 1) := by decide +kernel
theorem dX5_gossip_20 : decode cX5_gossip 20 = .ok (.iconst 1, 1) := by decide +kernel
theorem dX5_gossip_21 : decode cX5_gossip 21 = .ok (.invokevirtual 59, 3) := by decide +kernel
theorem dX5_gossip_24 : decode cX5_gossip 24 = .ok (.ireturn, 1) := by decide +kernel
theorem dX5_gossip_25 : decode cX5_gossip 25 = .ok (.aload_n 0, 1) := by decide +kernel
theorem dX5_gossip_26 : decode cX5_gossip 26 = .ok (.iload_n 1, 1) := by decide +kernel
theorem dX5_gossip_27 : decode cX5_gossip 27 = .ok (.invokevirtual 53, 3) := by decide +kernel
theorem dX5_gossip_30 : decode cX5_gossip 30 = .ok (.ifCond .eq 16, 3) := by decide +kernel
theorem dX5_gossip_33 : decode cX5_gossip 33 = .ok (.aload_n 0, 1) := by decide +kernel
theorem dX5_gossip_34 : decode cX5_gossip 34 = .ok (.iload_n 2, 1) := by decide +kernel
theorem dX5_gossip_35 : decode cX5_gossip 35 = .ok (.invokevirtual 53, 3) := by decide +kernel
theorem dX5_gossip_38 : decode cX5_gossip 38 = .ok (.ifCond .eq 8, 3) := by decide +kernel
theorem dX5_gossip_41 : decode cX5_gossip 41 = .ok (.iload_n 1, 1) := by decide +kernel
theorem dX5_gossip_42 : decode cX5_gossip 42 = .ok (.iload_n 2, 1) := by decide +kernel
theorem dX5_gossip_43 : decode cX5_gossip 43 = .ok (.if_icmp .ne 9, 3) := by decide +kernel
theorem dX5_gossip_46 : decode cX5_gossip 46 = .ok (.aload_n 0, 1) := by decide +kernel
theorem dX5_gossip_47 : decode cX5_gossip 47 = .ok (.iconst 2, 1) := by decide +kernel
theorem dX5_gossip_48 : decode cX5_gossip 48 = .ok (.invokevirtual 59, 3) := by decide +kernel
theorem dX5_gossip_51 : decode cX5_gossip 51 = .ok (.ireturn, 1) := by decide +kernel
theorem dX5_gossip_52 : decode cX5_gossip 52 = .ok (.iconst 0, 1) := by decide +kernel
theorem dX5_gossip_53 : decode cX5_gossip 53 = .ok (.istore_n 3, 1) := by decide +kernel
theorem dX5_gossip_54 : decode cX5_gossip 54 = .ok (.iconst 0, 1) := by decide +kernel
theorem dX5_gossip_55 : decode cX5_gossip 55 = .ok (.istore 4, 2) := by decide +kernel
theorem dX5_gossip_57 : decode cX5_gossip 57 = .ok (.iload 4, 2) := by decide +kernel
theorem dX5_gossip_59 : decode cX5_gossip 59 = .ok (.bipush 6, 2) := by decide +kernel
theorem dX5_gossip_61 : decode cX5_gossip 61 = .ok (.if_icmp .ge 101, 3) := by decide +kernel
theorem dX5_gossip_64 : decode cX5_gossip 64 = .ok (.iconst 0, 1) := by decide +kernel
theorem dX5_gossip_65 : decode cX5_gossip 65 = .ok (.istore 5, 2) := by decide +kernel
theorem dX5_gossip_67 : decode cX5_gossip 67 = .ok (.iload 5, 2) := by decide +kernel
theorem dX5_gossip_69 : decode cX5_gossip 69 = .ok (.bipush 6, 2) := by decide +kernel
theorem dX5_gossip_71 : decode cX5_gossip 71 = .ok (.if_icmp .ge 85, 3) := by decide +kernel
theorem dX5_gossip_74 : decode cX5_gossip 74 = .ok (.iload 4, 2) := by decide +kernel
theorem dX5_gossip_76 : decode cX5_gossip 76 = .ok (.iload_n 2, 1) := by decide +kernel
theorem dX5_gossip_77 : decode cX5_gossip 77 = .ok (.if_icmp .eq 79, 3) := by decide +kernel
theorem dX5_gossip_80 : decode cX5_gossip 80 = .ok (.sipush 4270, 3) := by decide +kernel
theorem dX5_gossip_83 : decode cX5_gossip 83 = .ok (.bipush 36, 2) := by decide +kernel
theorem dX5_gossip_85 : decode cX5_gossip 85 = .ok (.iload_n 2, 1) := by decide +kernel
theorem dX5_gossip_86 : decode cX5_gossip 86 = .ok (.imul, 1) := by decide +kernel
theorem dX5_gossip_87 : decode cX5_gossip 87 = .ok (.iadd, 1) := by decide +kernel
theorem dX5_gossip_88 : decode cX5_gossip 88 = .ok (.bipush 6, 2) := by decide +kernel
theorem dX5_gossip_90 : decode cX5_gossip 90 = .ok (.iload 4, 2) := by decide +kernel
theorem dX5_gossip_92 : decode cX5_gossip 92 = .ok (.imul, 1) := by decide +kernel
theorem dX5_gossip_93 : decode cX5_gossip 93 = .ok (.iadd, 1) := by decide +kernel
theorem dX5_gossip_94 : decode cX5_gossip 94 = .ok (.iload 5, 2) := by decide +kernel
theorem dX5_gossip_96 : decode cX5_gossip 96 = .ok (.iadd, 1) := by decide +kernel
theorem dX5_gossip_97 : decode cX5_gossip 97 = .ok (.istore 6, 2) := by decide +kernel
theorem dX5_gossip_99 : decode cX5_gossip 99 = .ok (.aload_n 0, 1) := by decide +kernel
theorem dX5_gossip_100 : decode cX5_gossip 100 = .ok (.getfield 9, 3) := by decide +kernel
theorem dX5_gossip_103 : decode cX5_gossip 103 = .ok (.sipush 4270, 3) := by decide +kernel
theorem dX5_gossip_106 : decode cX5_gossip 106 = .ok (.bipush 36, 2) := by decide +kernel
theorem dX5_gossip_108 : decode cX5_gossip 108 = .ok (.iload_n 1, 1) := by decide +kernel
theorem dX5_gossip_109 : decode cX5_gossip 109 = .ok (.imul, 1) := by decide +kernel
theorem dX5_gossip_110 : decode cX5_gossip 110 = .ok (.iadd, 1) := by decide +kernel
theorem dX5_gossip_111 : decode cX5_gossip 111 = .ok (.bipush 6, 2) := by decide +kernel
theorem dX5_gossip_113 : decode cX5_gossip 113 = .ok (.iload 4, 2) := by decide +kernel
theorem dX5_gossip_115 : decode cX5_gossip 115 = .ok (.imul, 1) := by decide +kernel
theorem dX5_gossip_116 : decode cX5_gossip 116 = .ok (.iadd, 1) := by decide +kernel
theorem dX5_gossip_117 : decode cX5_gossip 117 = .ok (.iload 5, 2) := by decide +kernel
theorem dX5_gossip_119 : decode cX5_gossip 119 = .ok (.iadd, 1) := by decide +kernel
theorem dX5_gossip_120 : decode cX5_gossip 120 = .ok (.iaload, 1) := by decide +kernel
theorem dX5_gossip_121 : decode cX5_gossip 121 = .ok (.istore 7, 2) := by decide +kernel
theorem dX5_gossip_123 : decode cX5_gossip 123 = .ok (.iload 7, 2) := by decide +kernel
theorem dX5_gossip_125 : decode cX5_gossip 125 = .ok (.aload_n 0, 1) := by decide +kernel
theorem dX5_gossip_126 : decode cX5_gossip 126 = .ok (.getfield 9, 3) := by decide +kernel
theorem dX5_gossip_129 : decode cX5_gossip 129 = .ok (.iload 6, 2) := by decide +kernel
theorem dX5_gossip_131 : decode cX5_gossip 131 = .ok (.iaload, 1) := by decide +kernel
theorem dX5_gossip_132 : decode cX5_gossip 132 = .ok (.if_icmp .gt 6, 3) := by decide +kernel
theorem dX5_gossip_135 : decode cX5_gossip 135 = .ok (.goto 15, 3) := by decide +kernel
theorem dX5_gossip_138 : decode cX5_gossip 138 = .ok (.aload_n 0, 1) := by decide +kernel
theorem dX5_gossip_139 : decode cX5_gossip 139 = .ok (.getfield 9, 3) := by decide +kernel
theorem dX5_gossip_142 : decode cX5_gossip 142 = .ok (.iload 6, 2) := by decide +kernel
theorem dX5_gossip_144 : decode cX5_gossip 144 = .ok (.iload 7, 2) := by decide +kernel
theorem dX5_gossip_146 : decode cX5_gossip 146 = .ok (.iastore, 1) := by decide +kernel
theorem dX5_gossip_147 : decode cX5_gossip 147 = .ok (.iinc 3 1, 3) := by decide +kernel
theorem dX5_gossip_150 : decode cX5_gossip 150 = .ok (.iinc 5 1, 3) := by decide +kernel
theorem dX5_gossip_153 : decode cX5_gossip 153 = .ok (.goto (-86), 3) := by decide +kernel
theorem dX5_gossip_156 : decode cX5_gossip 156 = .ok (.iinc 4 1, 3) := by decide +kernel
theorem dX5_gossip_159 : decode cX5_gossip 159 = .ok (.goto (-102), 3) := by decide +kernel
theorem dX5_gossip_162 : decode cX5_gossip 162 = .ok (.iload_n 3, 1) := by decide +kernel
theorem dX5_gossip_163 : decode cX5_gossip 163 = .ok (.ireturn, 1) := by decide +kernel
theorem dX5_messageCount_0 : decode cX5_messageCount 0 = .ok (.aload_n 0, 1) := by decide +kernel
theorem dX5_messageCount_1 : decode cX5_messageCount 1 = .ok (.iconst 0, 1) := by decide +kernel
theorem dX5_messageCount_2 : decode cX5_messageCount 2 = .ok (.putfield 38, 3) := by decide +kernel
theorem dX5_messageCount_5 : decode cX5_messageCount 5 = .ok (.aload_n 0, 1) := by decide +kernel
theorem dX5_messageCount_6 : decode cX5_messageCount 6 = .ok (.getfield 9, 3) := by decide +kernel
theorem dX5_messageCount_9 : decode cX5_messageCount 9 = .ok (.bipush 44, 2) := by decide +kernel
theorem dX5_messageCount_11 : decode cX5_messageCount 11 = .ok (.iaload, 1) := by decide +kernel
theorem dX5_messageCount_12 : decode cX5_messageCount 12 = .ok (.ireturn, 1) := by decide +kernel
theorem dX5_message_0 : decode cX5_message 0 = .ok (.aload_n 0, 1) := by decide +kernel
theorem dX5_message_1 : decode cX5_message 1 = .ok (.iload_n 1, 1) := by decide +kernel
theorem dX5_message_2 : decode cX5_message 2 = .ok (.invokevirtual 108, 3) := by decide +kernel
theorem dX5_message_5 : decode cX5_message 5 = .ok (.ifCond .ne 5, 3) := by decide +kernel
theorem dX5_message_8 : decode cX5_message 8 = .ok (.iconst 0, 1) := by decide +kernel
theorem dX5_message_9 : decode cX5_message 9 = .ok (.ireturn, 1) := by decide +kernel
theorem dX5_message_10 : decode cX5_message 10 = .ok (.iload_n 2, 1) := by decide +kernel
theorem dX5_message_11 : decode cX5_message 11 = .ok (.iconst 0, 1) := by decide +kernel
theorem dX5_message_12 : decode cX5_message 12 = .ok (.iconst 3, 1) := by decide +kernel
theorem dX5_message_13 : decode cX5_message 13 = .ok (.invokestatic 41, 3) := by decide +kernel
theorem dX5_message_16 : decode cX5_message 16 = .ok (.ifCond .ne 9, 3) := by decide +kernel
theorem dX5_message_19 : decode cX5_message 19 = .ok (.aload_n 0, 1) := by decide +kernel
theorem dX5_message_20 : decode cX5_message 20 = .ok (.iconst 2, 1) := by decide +kernel
theorem dX5_message_21 : decode cX5_message 21 = .ok (.invokevirtual 59, 3) := by decide +kernel
theorem dX5_message_24 : decode cX5_message 24 = .ok (.ireturn, 1) := by decide +kernel
theorem dX5_message_25 : decode cX5_message 25 = .ok (.iload_n 2, 1) := by decide +kernel
theorem dX5_message_26 : decode cX5_message 26 = .ok (.ifCond .ne 15, 3) := by decide +kernel
theorem dX5_message_29 : decode cX5_message 29 = .ok (.aload_n 0, 1) := by decide +kernel
theorem dX5_message_30 : decode cX5_message 30 = .ok (.getfield 9, 3) := by decide +kernel
theorem dX5_message_33 : decode cX5_message 33 = .ok (.bipush 50, 2) := by decide +kernel
theorem dX5_message_35 : decode cX5_message 35 = .ok (.iload_n 1, 1) := by decide +kernel
theorem dX5_message_36 : decode cX5_message 36 = .ok (.iadd, 1) := by decide +kernel
theorem dX5_message_37 : decode cX5_message 37 = .ok (.iaload, 1) := by decide +kernel
theorem dX5_message_38 : decode cX5_message 38 = .ok (.goto 49, 3) := by decide +kernel
theorem dX5_message_41 : decode cX5_message 41 = .ok (.iload_n 2, 1) := by decide +kernel
theorem dX5_message_42 : decode cX5_message 42 = .ok (.iconst 1, 1) := by decide +kernel
theorem dX5_message_43 : decode cX5_message 43 = .ok (.if_icmp .ne 16, 3) := by decide +kernel
theorem dX5_message_46 : decode cX5_message 46 = .ok (.aload_n 0, 1) := by decide +kernel
theorem dX5_message_47 : decode cX5_message 47 = .ok (.getfield 9, 3) := by decide +kernel
theorem dX5_message_50 : decode cX5_message 50 = .ok (.sipush 200, 3) := by decide +kernel
theorem dX5_message_53 : decode cX5_message 53 = .ok (.iload_n 1, 1) := by decide +kernel
theorem dX5_message_54 : decode cX5_message 54 = .ok (.iadd, 1) := by decide +kernel
theorem dX5_message_55 : decode cX5_message 55 = .ok (.iaload, 1) := by decide +kernel
theorem dX5_message_56 : decode cX5_message 56 = .ok (.goto 31, 3) := by decide +kernel
theorem dX5_message_59 : decode cX5_message 59 = .ok (.iload_n 2, 1) := by decide +kernel
theorem dX5_message_60 : decode cX5_message 60 = .ok (.iconst 2, 1) := by decide +kernel
theorem dX5_message_61 : decode cX5_message 61 = .ok (.if_icmp .ne 16, 3) := by decide +kernel
theorem dX5_message_64 : decode cX5_message 64 = .ok (.aload_n 0, 1) := by decide +kernel
theorem dX5_message_65 : decode cX5_message 65 = .ok (.getfield 9, 3) := by decide +kernel
theorem dX5_message_68 : decode cX5_message 68 = .ok (.sipush 350, 3) := by decide +kernel
theorem dX5_message_71 : decode cX5_message 71 = .ok (.iload_n 1, 1) := by decide +kernel
theorem dX5_message_72 : decode cX5_message 72 = .ok (.iadd, 1) := by decide +kernel
theorem dX5_message_73 : decode cX5_message 73 = .ok (.iaload, 1) := by decide +kernel
theorem dX5_message_74 : decode cX5_message 74 = .ok (.goto 13, 3) := by decide +kernel
theorem dX5_message_77 : decode cX5_message 77 = .ok (.aload_n 0, 1) := by decide +kernel
theorem dX5_message_78 : decode cX5_message 78 = .ok (.getfield 9, 3) := by decide +kernel
theorem dX5_message_81 : decode cX5_message 81 = .ok (.sipush 500, 3) := by decide +kernel
theorem dX5_message_84 : decode cX5_message 84 = .ok (.iload_n 1, 1) := by decide +kernel
theorem dX5_message_85 : decode cX5_message 85 = .ok (.iadd, 1) := by decide +kernel
theorem dX5_message_86 : decode cX5_message 86 = .ok (.iaload, 1) := by decide +kernel
theorem dX5_message_87 : decode cX5_message 87 = .ok (.ireturn, 1) := by decide +kernel
theorem dX5_messageClock_0 : decode cX5_messageClock 0 = .ok (.aload_n 0, 1) := by decide +kernel
theorem dX5_messageClock_1 : decode cX5_messageClock 1 = .ok (.iconst 0, 1) := by decide +kernel
theorem dX5_messageClock_2 : decode cX5_messageClock 2 = .ok (.putfield 38, 3) := by decide +kernel
theorem dX5_messageClock_5 : decode cX5_messageClock 5 = .ok (.aload_n 0, 1) := by decide +kernel
theorem dX5_messageClock_6 : decode cX5_messageClock 6 = .ok (.iload_n 1, 1) := by decide +kernel
theorem dX5_messageClock_7 : decode cX5_messageClock 7 = .ok (.invokevirtual 56, 3) := by decide +kernel
theorem dX5_messageClock_10 : decode cX5_messageClock 10 = .ok (.ifCond .eq 28, 3) := by decide +kernel
theorem dX5_messageClock_13 : decode cX5_messageClock 13 = .ok (.iload_n 2, 1) := by decide +kernel
theorem dX5_messageClock_14 : decode cX5_messageClock 14 = .ok (.invokestatic 49, 3) := by decide +kernel
theorem dX5_messageClock_17 : decode cX5_messageClock 17 = .ok (.ifCond .eq 21, 3) := by decide +kernel
theorem dX5_messageClock_20 : decode cX5_messageClock 20 = .ok (.aload_n 0, 1) := by decide +kernel
theorem dX5_messageClock_21 : decode cX5_messageClock 21 = .ok (.getfield 9, 3) := by decide +kernel
theorem dX5_messageClock_24 : decode cX5_messageClock 24 = .ok (.sipush 650, 3) := by decide +kernel
theorem dX5_messageClock_27 : decode cX5_messageClock 27 = .ok (.bipush 6, 2) := by decide +kernel
theorem dX5_messageClock_29 : decode cX5_messageClock 29 = .ok (.iload_n 1, 1) := by decide +kernel
theorem dX5_messageClock_30 : decode cX5_messageClock 30 = .ok (.imul, 1) := by decide +kernel
theorem dX5_messageClock_31 : decode cX5_messageClock 31 = .ok (.iadd, 1) := by decide +kernel
theorem dX5_messageClock_32 : decode cX5_messageClock 32 = .ok (.iload_n 2, 1) := by decide +kernel
theorem dX5_messageClock_33 : decode cX5_messageClock 33 = .ok (.iadd, 1) := by decide +kernel
theorem dX5_messageClock_34 : decode cX5_messageClock 34 = .ok (.iaload, 1) := by decide +kernel
theorem dX5_messageClock_35 : decode cX5_messageClock 35 = .ok (.goto 8, 3) := by decide +kernel
theorem dX5_messageClock_38 : decode cX5_messageClock 38 = .ok (.aload_n 0, 1) := by decide +kernel
theorem dX5_messageClock_39 : decode cX5_messageClock 39 = .ok (.iconst 1, 1) := by decide +kernel
theorem dX5_messageClock_40 : decode cX5_messageClock 40 = .ok (.invokevirtual 59, 3) := by decide +kernel
theorem dX5_messageClock_43 : decode cX5_messageClock 43 = .ok (.ireturn, 1) := by decide +kernel
theorem dX5_isCauseOf_0 : decode cX5_isCauseOf 0 = .ok (.iload_n 1, 1) := by decide +kernel
theorem dX5_isCauseOf_1 : decode cX5_isCauseOf 1 = .ok (.iload_n 2, 1) := by decide +kernel
theorem dX5_isCauseOf_2 : decode cX5_isCauseOf 2 = .ok (.if_icmp .eq 66, 3) := by decide +kernel
theorem dX5_isCauseOf_5 : decode cX5_isCauseOf 5 = .ok (.aload_n 0, 1) := by decide +kernel
theorem dX5_isCauseOf_6 : decode cX5_isCauseOf 6 = .ok (.getfield 9, 3) := by decide +kernel
theorem dX5_isCauseOf_9 : decode cX5_isCauseOf 9 = .ok (.sipush 350, 3) := by decide +kernel
theorem dX5_isCauseOf_12 : decode cX5_isCauseOf 12 = .ok (.iload_n 1, 1) := by decide +kernel
theorem dX5_isCauseOf_13 : decode cX5_isCauseOf 13 = .ok (.iadd, 1) := by decide +kernel
theorem dX5_isCauseOf_14 : decode cX5_isCauseOf 14 = .ok (.iaload, 1) := by decide +kernel
theorem dX5_isCauseOf_15 : decode cX5_isCauseOf 15 = .ok (.aload_n 0, 1) := by decide +kernel
theorem dX5_isCauseOf_16 : decode cX5_isCauseOf 16 = .ok (.getfield 9, 3) := by decide +kernel
theorem dX5_isCauseOf_19 : decode cX5_isCauseOf 19 = .ok (.sipush 350, 3) := by decide +kernel
theorem dX5_isCauseOf_22 : decode cX5_isCauseOf 22 = .ok (.iload_n 2, 1) := by decide +kernel
theorem dX5_isCauseOf_23 : decode cX5_isCauseOf 23 = .ok (.iadd, 1) := by decide +kernel
theorem dX5_isCauseOf_24 : decode cX5_isCauseOf 24 = .ok (.iaload, 1) := by decide +kernel
theorem dX5_isCauseOf_25 : decode cX5_isCauseOf 25 = .ok (.if_icmp .ne 43, 3) := by decide +kernel
theorem dX5_isCauseOf_28 : decode cX5_isCauseOf 28 = .ok (.aload_n 0, 1) := by decide +kernel
theorem dX5_isCauseOf_29 : decode cX5_isCauseOf 29 = .ok (.getfield 9, 3) := by decide +kernel
theorem dX5_isCauseOf_32 : decode cX5_isCauseOf 32 = .ok (.sipush 650, 3) := by decide +kernel
theorem dX5_isCauseOf_35 : decode cX5_isCauseOf 35 = .ok (.bipush 6, 2) := by decide +kernel
theorem dX5_isCauseOf_37 : decode cX5_isCauseOf 37 = .ok (.iload_n 2, 1) := by decide +kernel
theorem dX5_isCauseOf_38 : decode cX5_isCauseOf 38 = .ok (.imul, 1) := by decide +kernel
theorem dX5_isCauseOf_39 : decode cX5_isCauseOf 39 = .ok (.iadd, 1) := by decide +kernel
theorem dX5_isCauseOf_40 : decode cX5_isCauseOf 40 = .ok (.aload_n 0, 1) := by decide +kernel
theorem dX5_isCauseOf_41 : decode cX5_isCauseOf 41 = .ok (.getfield 9, 3) := by decide +kernel
theorem dX5_isCauseOf_44 : decode cX5_isCauseOf 44 = .ok (.bipush 50, 2) := by decide +kernel
theorem dX5_isCauseOf_46 : decode cX5_isCauseOf 46 = .ok (.iload_n 1, 1) := by decide +kernel
theorem dX5_isCauseOf_47 : decode cX5_isCauseOf 47 = .ok (.iadd, 1) := by decide +kernel
theorem dX5_isCauseOf_48 : decode cX5_isCauseOf 48 = .ok (.iaload, 1) := by decide +kernel
theorem dX5_isCauseOf_49 : decode cX5_isCauseOf 49 = .ok (.iadd, 1) := by decide +kernel
theorem dX5_isCauseOf_50 : decode cX5_isCauseOf 50 = .ok (.iaload, 1) := by decide +kernel
theorem dX5_isCauseOf_51 : decode cX5_isCauseOf 51 = .ok (.aload_n 0, 1) := by decide +kernel
theorem dX5_isCauseOf_52 : decode cX5_isCauseOf 52 = .ok (.getfield 9, 3) := by decide +kernel
theorem dX5_isCauseOf_55 : decode cX5_isCauseOf 55 = .ok (.sipush 500, 3) := by decide +kernel
theorem dX5_isCauseOf_58 : decode cX5_isCauseOf 58 = .ok (.iload_n 1, 1) := by decide +kernel
theorem dX5_isCauseOf_59 : decode cX5_isCauseOf 59 = .ok (.iadd, 1) := by decide +kernel
theorem dX5_isCauseOf_60 : decode cX5_isCauseOf 60 = .ok (.iaload, 1) := by decide +kernel
theorem dX5_isCauseOf_61 : decode cX5_isCauseOf 61 = .ok (.if_icmp .lt 7, 3) := by decide +kernel
theorem dX5_isCauseOf_64 : decode cX5_isCauseOf 64 = .ok (.iconst 1, 1) := by decide +kernel
theorem dX5_isCauseOf_65 : decode cX5_isCauseOf 65 = .ok (.goto 4, 3) := by decide +kernel
theorem dX5_isCauseOf_68 : decode cX5_isCauseOf 68 = .ok (.iconst 0, 1) := by decide +kernel
theorem dX5_isCauseOf_69 : decode cX5_isCauseOf 69 = .ok (.ireturn, 1) := by decide +kernel
theorem dX5_isCause_0 : decode cX5_isCause 0 = .ok (.aload_n 0, 1) := by decide +kernel
theorem dX5_isCause_1 : decode cX5_isCause 1 = .ok (.aload_n 0, 1) := by decide +kernel
theorem dX5_isCause_2 : decode cX5_isCause 2 = .ok (.iload_n 1, 1) := by decide +kernel
theorem dX5_isCause_3 : decode cX5_isCause 3 = .ok (.invokevirtual 56, 3) := by decide +kernel
theorem dX5_isCause_6 : decode cX5_isCause 6 = .ok (.ifCond .eq 15, 3) := by decide +kernel
theorem dX5_isCause_9 : decode cX5_isCause 9 = .ok (.aload_n 0, 1) := by decide +kernel
theorem dX5_isCause_10 : decode cX5_isCause 10 = .ok (.iload_n 2, 1) := by decide +kernel
theorem dX5_isCause_11 : decode cX5_isCause 11 = .ok (.invokevirtual 56, 3) := by decide +kernel
theorem dX5_isCause_14 : decode cX5_isCause 14 = .ok (.ifCond .eq 7, 3) := by decide +kernel
theorem dX5_isCause_17 : decode cX5_isCause 17 = .ok (.iconst 0, 1) := by decide +kernel
theorem dX5_isCause_18 : decode cX5_isCause 18 = .ok (.goto 4, 3) := by decide +kernel
theorem dX5_isCause_21 : decode cX5_isCause 21 = .ok (.iconst 1, 1) := by decide +kernel
theorem dX5_isCause_22 : decode cX5_isCause 22 = .ok (.putfield 38, 3) := by decide +kernel
theorem dX5_isCause_25 : decode cX5_isCause 25 = .ok (.aload_n 0, 1) := by decide +kernel
theorem dX5_isCause_26 : decode cX5_isCause 26 = .ok (.getfield 38, 3) := by decide +kernel
theorem dX5_isCause_29 : decode cX5_isCause 29 = .ok (.ifCond .ne 16, 3) := by decide +kernel
theorem dX5_isCause_32 : decode cX5_isCause 32 = .ok (.aload_n 0, 1) := by decide +kernel
theorem dX5_isCause_33 : decode cX5_isCause 33 = .ok (.iload_n 1, 1) := by decide +kernel
theorem dX5_isCause_34 : decode cX5_isCause 34 = .ok (.iload_n 2, 1) := by decide +kernel
theorem dX5_isCause_35 : decode cX5_isCause 35 = .ok (.invokevirtual 111, 3) := by decide +kernel
theorem dX5_isCause_38 : decode cX5_isCause 38 = .ok (.ifCond .eq 7, 3) := by decide +kernel
theorem dX5_isCause_41 : decode cX5_isCause 41 = .ok (.iconst 1, 1) := by decide +kernel
theorem dX5_isCause_42 : decode cX5_isCause 42 = .ok (.goto 4, 3) := by decide +kernel
theorem dX5_isCause_45 : decode cX5_isCause 45 = .ok (.iconst 0, 1) := by decide +kernel
theorem dX5_isCause_46 : decode cX5_isCause 46 = .ok (.ireturn, 1) := by decide +kernel
theorem dX5_causes_0 : decode cX5_causes 0 = .ok (.aload_n 0, 1) := by decide +kernel
theorem dX5_causes_1 : decode cX5_causes 1 = .ok (.iload_n 1, 1) := by decide +kernel
theorem dX5_causes_2 : decode cX5_causes 2 = .ok (.invokevirtual 108, 3) := by decide +kernel
theorem dX5_causes_5 : decode cX5_causes 5 = .ok (.ifCond .ne 5, 3) := by decide +kernel
theorem dX5_causes_8 : decode cX5_causes 8 = .ok (.iconst 0, 1) := by decide +kernel
theorem dX5_causes_9 : decode cX5_causes 9 = .ok (.ireturn, 1) := by decide +kernel
theorem dX5_causes_10 : decode cX5_causes 10 = .ok (.iconst 0, 1) := by decide +kernel
theorem dX5_causes_11 : decode cX5_causes 11 = .ok (.istore_n 2, 1) := by decide +kernel
theorem dX5_causes_12 : decode cX5_causes 12 = .ok (.iconst 0, 1) := by decide +kernel
theorem dX5_causes_13 : decode cX5_causes 13 = .ok (.istore_n 3, 1) := by decide +kernel
theorem dX5_causes_14 : decode cX5_causes 14 = .ok (.iload_n 3, 1) := by decide +kernel
theorem dX5_causes_15 : decode cX5_causes 15 = .ok (.aload_n 0, 1) := by decide +kernel
theorem dX5_causes_16 : decode cX5_causes 16 = .ok (.getfield 9, 3) := by decide +kernel
theorem dX5_causes_19 : decode cX5_causes 19 = .ok (.bipush 44, 2) := by decide +kernel
theorem dX5_causes_21 : decode cX5_causes 21 = .ok (.iaload, 1) := by decide +kernel
theorem dX5_causes_22 : decode cX5_causes 22 = .ok (.if_icmp .ge 26, 3) := by decide +kernel
theorem dX5_causes_25 : decode cX5_causes 25 = .ok (.iload_n 2, 1) := by decide +kernel
theorem dX5_causes_26 : decode cX5_causes 26 = .ok (.aload_n 0, 1) := by decide +kernel
theorem dX5_causes_27 : decode cX5_causes 27 = .ok (.iload_n 3, 1) := by decide +kernel
theorem dX5_causes_28 : decode cX5_causes 28 = .ok (.iload_n 1, 1) := by decide +kernel
theorem dX5_causes_29 : decode cX5_causes 29 = .ok (.invokevirtual 111, 3) := by decide +kernel
theorem dX5_causes_32 : decode cX5_causes 32 = .ok (.ifCond .eq 7, 3) := by decide +kernel
theorem dX5_causes_35 : decode cX5_causes 35 = .ok (.iconst 1, 1) := by decide +kernel
theorem dX5_causes_36 : decode cX5_causes 36 = .ok (.goto 4, 3) := by decide +kernel
theorem dX5_causes_39 : decode cX5_causes 39 = .ok (.iconst 0, 1) := by decide +kernel
theorem dX5_causes_40 : decode cX5_causes 40 = .ok (.iadd, 1) := by decide +kernel
theorem dX5_causes_41 : decode cX5_causes 41 = .ok (.istore_n 2, 1) := by decide +kernel
theorem dX5_causes_42 : decode cX5_causes 42 = .ok (.iinc 3 1, 3) := by decide +kernel
theorem dX5_causes_45 : decode cX5_causes 45 = .ok (.goto (-31), 3) := by decide +kernel
theorem dX5_causes_48 : decode cX5_causes 48 = .ok (.iload_n 2, 1) := by decide +kernel
theorem dX5_causes_49 : decode cX5_causes 49 = .ok (.ireturn, 1) := by decide +kernel
theorem dX5_concurrent_0 : decode cX5_concurrent 0 = .ok (.aload_n 0, 1) := by decide +kernel
theorem dX5_concurrent_1 : decode cX5_concurrent 1 = .ok (.iload_n 1, 1) := by decide +kernel
theorem dX5_concurrent_2 : decode cX5_concurrent 2 = .ok (.invokevirtual 108, 3) := by decide +kernel
theorem dX5_concurrent_5 : decode cX5_concurrent 5 = .ok (.ifCond .ne 5, 3) := by decide +kernel
theorem dX5_concurrent_8 : decode cX5_concurrent 8 = .ok (.iconst 0, 1) := by decide +kernel
theorem dX5_concurrent_9 : decode cX5_concurrent 9 = .ok (.ireturn, 1) := by decide +kernel
theorem dX5_concurrent_10 : decode cX5_concurrent 10 = .ok (.iconst 0, 1) := by decide +kernel
theorem dX5_concurrent_11 : decode cX5_concurrent 11 = .ok (.istore_n 2, 1) := by decide +kernel
theorem dX5_concurrent_12 : decode cX5_concurrent 12 = .ok (.iconst 0, 1) := by decide +kernel
theorem dX5_concurrent_13 : decode cX5_concurrent 13 = .ok (.istore_n 3, 1) := by decide +kernel
theorem dX5_concurrent_14 : decode cX5_concurrent 14 = .ok (.iload_n 3, 1) := by decide +kernel
theorem dX5_concurrent_15 : decode cX5_concurrent 15 = .ok (.aload_n 0, 1) := by decide +kernel
theorem dX5_concurrent_16 : decode cX5_concurrent 16 = .ok (.getfield 9, 3) := by decide +kernel
theorem dX5_concurrent_19 : decode cX5_concurrent 19 = .ok (.bipush 44, 2) := by decide +kernel
theorem dX5_concurrent_21 : decode cX5_concurrent 21 = .ok (.iaload, 1) := by decide +kernel
theorem dX5_concurrent_22 : decode cX5_concurrent 22 = .ok (.if_icmp .ge 63, 3) := by decide +kernel
theorem dX5_concurrent_25 : decode cX5_concurrent 25 = .ok (.iload_n 2, 1) := by decide +kernel
theorem dX5_concurrent_26 : decode cX5_concurrent 26 = .ok (.iload_n 3, 1) := by decide +kernel
theorem dX5_concurrent_27 : decode cX5_concurrent 27 = .ok (.iload_n 1, 1) := by decide +kernel
theorem dX5_concurrent_28 : decode cX5_concurrent 28 = .ok (.if_icmp .eq 48, 3) := by decide +kernel
theorem dX5_concurrent_31 : decode cX5_concurrent 31 = .ok (.aload_n 0, 1) := by decide +kernel
theorem dX5_concurrent_32 : decode cX5_concurrent 32 = .ok (.getfield 9, 3) := by decide +kernel
theorem dX5_concurrent_35 : decode cX5_concurrent 35 = .ok (.sipush 350, 3) := by decide +kernel
theorem dX5_concurrent_38 : decode cX5_concurrent 38 = .ok (.iload_n 3, 1) := by decide +kernel
theorem dX5_concurrent_39 : decode cX5_concurrent 39 = .ok (.iadd, 1) := by decide +kernel
theorem dX5_concurrent_40 : decode cX5_concurrent 40 = .ok (.iaload, 1) := by decide +kernel
theorem dX5_concurrent_41 : decode cX5_concurrent 41 = .ok (.aload_n 0, 1) := by decide +kernel
theorem dX5_concurrent_42 : decode cX5_concurrent 42 = .ok (.getfield 9, 3) := by decide +kernel
theorem dX5_concurrent_45 : decode cX5_concurrent 45 = .ok (.sipush 350, 3) := by decide +kernel
theorem dX5_concurrent_48 : decode cX5_concurrent 48 = .ok (.iload_n 1, 1) := by decide +kernel
theorem dX5_concurrent_49 : decode cX5_concurrent 49 = .ok (.iadd, 1) := by decide +kernel
theorem dX5_concurrent_50 : decode cX5_concurrent 50 = .ok (.iaload, 1) := by decide +kernel
theorem dX5_concurrent_51 : decode cX5_concurrent 51 = .ok (.if_icmp .ne 25, 3) := by decide +kernel
theorem dX5_concurrent_54 : decode cX5_concurrent 54 = .ok (.aload_n 0, 1) := by decide +kernel
theorem dX5_concurrent_55 : decode cX5_concurrent 55 = .ok (.iload_n 3, 1) := by decide +kernel
theorem dX5_concurrent_56 : decode cX5_concurrent 56 = .ok (.iload_n 1, 1) := by decide +kernel
theorem dX5_concurrent_57 : decode cX5_concurrent 57 = .ok (.invokevirtual 111, 3) := by decide +kernel
theorem dX5_concurrent_60 : decode cX5_concurrent 60 = .ok (.ifCond .ne 16, 3) := by decide +kernel
theorem dX5_concurrent_63 : decode cX5_concurrent 63 = .ok (.aload_n 0, 1) := by decide +kernel
theorem dX5_concurrent_64 : decode cX5_concurrent 64 = .ok (.iload_n 1, 1) := by decide +kernel
theorem dX5_concurrent_65 : decode cX5_concurrent 65 = .ok (.iload_n 3, 1) := by decide +kernel
theorem dX5_concurrent_66 : decode cX5_concurrent 66 = .ok (.invokevirtual 111, 3) := by decide +kernel
theorem dX5_concurrent_69 : decode cX5_concurrent 69 = .ok (.ifCond .ne 7, 3) := by decide +kernel
theorem dX5_concurrent_72 : decode cX5_concurrent 72 = .ok (.iconst 1, 1) := by decide +kernel
theorem dX5_concurrent_73 : decode cX5_concurrent 73 = .ok (.goto 4, 3) := by decide +kernel
theorem dX5_concurrent_76 : decode cX5_concurrent 76 = .ok (.iconst 0, 1) := by decide +kernel
theorem dX5_concurrent_77 : decode cX5_concurrent 77 = .ok (.iadd, 1) := by decide +kernel
theorem dX5_concurrent_78 : decode cX5_concurrent 78 = .ok (.istore_n 2, 1) := by decide +kernel
theorem dX5_concurrent_79 : decode cX5_concurrent 79 = .ok (.iinc 3 1, 3) := by decide +kernel
theorem dX5_concurrent_82 : decode cX5_concurrent 82 = .ok (.goto (-68), 3) := by decide +kernel
theorem dX5_concurrent_85 : decode cX5_concurrent 85 = .ok (.iload_n 2, 1) := by decide +kernel
theorem dX5_concurrent_86 : decode cX5_concurrent 86 = .ok (.ireturn, 1) := by decide +kernel
theorem dX5_longestChain_0 : decode cX5_longestChain 0 = .ok (.aload_n 0, 1) := by decide +kernel
theorem dX5_longestChain_1 : decode cX5_longestChain 1 = .ok (.iconst 0, 1) := by decide +kernel
theorem dX5_longestChain_2 : decode cX5_longestChain 2 = .ok (.putfield 38, 3) := by decide +kernel
theorem dX5_longestChain_5 : decode cX5_longestChain 5 = .ok (.iload_n 1, 1) := by decide +kernel
theorem dX5_longestChain_6 : decode cX5_longestChain 6 = .ok (.iconst 0, 1) := by decide +kernel
theorem dX5_longestChain_7 : decode cX5_longestChain 7 = .ok (.aload_n 0, 1) := by decide +kernel
theorem dX5_longestChain_8 : decode cX5_longestChain 8 = .ok (.getfield 9, 3) := by decide +kernel
theorem dX5_longestChain_11 : decode cX5_longestChain 11 = .ok (.bipush 42, 2) := by decide +kernel
theorem dX5_longestChain_13 : decode cX5_longestChain 13 = .ok (.iaload, 1) := by decide +kernel
theorem dX5_longestChain_14 : decode cX5_longestChain 14 = .ok (.invokestatic 41, 3) := by decide +kernel
theorem dX5_longestChain_17 : decode cX5_longestChain 17 = .ok (.ifCond .ne 9, 3) := by decide +kernel
theorem dX5_longestChain_20 : decode cX5_longestChain 20 = .ok (.aload_n 0, 1) := by decide +kernel
theorem dX5_longestChain_21 : decode cX5_longestChain 21 = .ok (.iconst 1, 1) := by decide +kernel
theorem dX5_longestChain_22 : decode cX5_longestChain 22 = .ok (.invokevirtual 59, 3) := by decide +kernel
theorem dX5_longestChain_25 : decode cX5_longestChain 25 = .ok (.ireturn, 1) := by decide +kernel
theorem dX5_longestChain_26 : decode cX5_longestChain 26 = .ok (.iconst 0, 1) := by decide +kernel
theorem dX5_longestChain_27 : decode cX5_longestChain 27 = .ok (.istore_n 2, 1) := by decide +kernel
theorem dX5_longestChain_28 : decode cX5_longestChain 28 = .ok (.iconst 0, 1) := by decide +kernel
theorem dX5_longestChain_29 : decode cX5_longestChain 29 = .ok (.istore_n 3, 1) := by decide +kernel
theorem dX5_longestChain_30 : decode cX5_longestChain 30 = .ok (.iload_n 3, 1) := by decide +kernel
theorem dX5_longestChain_31 : decode cX5_longestChain 31 = .ok (.aload_n 0, 1) := by decide +kernel
theorem dX5_longestChain_32 : decode cX5_longestChain 32 = .ok (.getfield 9, 3) := by decide +kernel
theorem dX5_longestChain_35 : decode cX5_longestChain 35 = .ok (.bipush 44, 2) := by decide +kernel
theorem dX5_longestChain_37 : decode cX5_longestChain 37 = .ok (.iaload, 1) := by decide +kernel
theorem dX5_longestChain_38 : decode cX5_longestChain 38 = .ok (.if_icmp .ge 110, 3) := by decide +kernel
theorem dX5_longestChain_41 : decode cX5_longestChain 41 = .ok (.aload_n 0, 1) := by decide +kernel
theorem dX5_longestChain_42 : decode cX5_longestChain 42 = .ok (.getfield 9, 3) := by decide +kernel
theorem dX5_longestChain_45 : decode cX5_longestChain 45 = .ok (.sipush 350, 3) := by decide +kernel
theorem dX5_longestChain_48 : decode cX5_longestChain 48 = .ok (.iload_n 3, 1) := by decide +kernel
theorem dX5_longestChain_49 : decode cX5_longestChain 49 = .ok (.iadd, 1) := by decide +kernel
theorem dX5_longestChain_50 : decode cX5_longestChain 50 = .ok (.iaload, 1) := by decide +kernel
theorem dX5_longestChain_51 : decode cX5_longestChain 51 = .ok (.iload_n 1, 1) := by decide +kernel
theorem dX5_longestChain_52 : decode cX5_longestChain 52 = .ok (.if_icmp .eq 6, 3) := by decide +kernel
theorem dX5_longestChain_55 : decode cX5_longestChain 55 = .ok (.goto 87, 3) := by decide +kernel
theorem dX5_longestChain_58 : decode cX5_longestChain 58 = .ok (.aload_n 0, 1) := by decide +kernel
theorem dX5_longestChain_59 : decode cX5_longestChain 59 = .ok (.getfield 26, 3) := by decide +kernel
theorem dX5_longestChain_62 : decode cX5_longestChain 62 = .ok (.iload_n 3, 1) := by decide +kernel
theorem dX5_longestChain_63 : decode cX5_longestChain 63 = .ok (.iconst 1, 1) := by decide +kernel
theorem dX5_longestChain_64 : decode cX5_longestChain 64 = .ok (.iastore, 1) := by decide +kernel
theorem dX5_longestChain_65 : decode cX5_longestChain 65 = .ok (.iconst 0, 1) := by decide +kernel
theorem dX5_longestChain_66 : decode cX5_longestChain 66 = .ok (.istore 4, 2) := by decide +kernel
theorem dX5_longestChain_68 : decode cX5_longestChain 68 = .ok (.iload 4, 2) := by decide +kernel
theorem dX5_longestChain_70 : decode cX5_longestChain 70 = .ok (.iload_n 3, 1) := by decide +kernel
theorem dX5_longestChain_71 : decode cX5_longestChain 71 = .ok (.if_icmp .ge 50, 3) := by decide +kernel
theorem dX5_longestChain_74 : decode cX5_longestChain 74 = .ok (.aload_n 0, 1) := by decide +kernel
theorem dX5_longestChain_75 : decode cX5_longestChain 75 = .ok (.iload 4, 2) := by decide +kernel
theorem dX5_longestChain_77 : decode cX5_longestChain 77 = .ok (.iload_n 3, 1) := by decide +kernel
theorem dX5_longestChain_78 : decode cX5_longestChain 78 = .ok (.invokevirtual 111, 3) := by decide +kernel
theorem dX5_longestChain_81 : decode cX5_longestChain 81 = .ok (.ifCond .eq 34, 3) := by decide +kernel
theorem dX5_longestChain_84 : decode cX5_longestChain 84 = .ok (.aload_n 0, 1) := by decide +kernel
theorem dX5_longestChain_85 : decode cX5_longestChain 85 = .ok (.getfield 26, 3) := by decide +kernel
theorem dX5_longestChain_88 : decode cX5_longestChain 88 = .ok (.iload 4, 2) := by decide +kernel
theorem dX5_longestChain_90 : decode cX5_longestChain 90 = .ok (.iaload, 1) := by decide +kernel
theorem dX5_longestChain_91 : decode cX5_longestChain 91 = .ok (.aload_n 0, 1) := by decide +kernel
theorem dX5_longestChain_92 : decode cX5_longestChain 92 = .ok (.getfield 26, 3) := by decide +kernel
theorem dX5_longestChain_95 : decode cX5_longestChain 95 = .ok (.iload_n 3, 1) := by decide +kernel
theorem dX5_longestChain_96 : decode cX5_longestChain 96 = .ok (.iaload, 1) := by decide +kernel
theorem dX5_longestChain_97 : decode cX5_longestChain 97 = .ok (.if_icmp .lt 18, 3) := by decide +kernel
theorem dX5_longestChain_100 : decode cX5_longestChain 100 = .ok (.aload_n 0, 1) := by decide +kernel
theorem dX5_longestChain_101 : decode cX5_longestChain 101 = .ok (.getfield 26, 3) := by decide +kernel
theorem dX5_longestChain_104 : decode cX5_longestChain 104 = .ok (.iload_n 3, 1) := by decide +kernel
theorem dX5_longestChain_105 : decode cX5_longestChain 105 = .ok (.aload_n 0, 1) := by decide +kernel
theorem dX5_longestChain_106 : decode cX5_longestChain 106 = .ok (.getfield 26, 3) := by decide +kernel
theorem dX5_longestChain_109 : decode cX5_longestChain 109 = .ok (.iload 4, 2) := by decide +kernel
theorem dX5_longestChain_111 : decode cX5_longestChain 111 = .ok (.iaload, 1) := by decide +kernel
theorem dX5_longestChain_112 : decode cX5_longestChain 112 = .ok (.iconst 1, 1) := by decide +kernel
theorem dX5_longestChain_113 : decode cX5_longestChain 113 = .ok (.iadd, 1) := by decide +kernel
theorem dX5_longestChain_114 : decode cX5_longestChain 114 = .ok (.iastore, 1) := by decide +kernel
theorem dX5_longestChain_115 : decode cX5_longestChain 115 = .ok (.iinc 4 1, 3) := by decide +kernel
theorem dX5_longestChain_118 : decode cX5_longestChain 118 = .ok (.goto (-50), 3) := by decide +kernel
theorem dX5_longestChain_121 : decode cX5_longestChain 121 = .ok (.aload_n 0, 1) := by decide +kernel
theorem dX5_longestChain_122 : decode cX5_longestChain 122 = .ok (.getfield 26, 3) := by decide +kernel
theorem dX5_longestChain_125 : decode cX5_longestChain 125 = .ok (.iload_n 3, 1) := by decide +kernel
theorem dX5_longestChain_126 : decode cX5_longestChain 126 = .ok (.iaload, 1) := by decide +kernel
theorem dX5_longestChain_127 : decode cX5_longestChain 127 = .ok (.iload_n 2, 1) := by decide +kernel
theorem dX5_longestChain_128 : decode cX5_longestChain 128 = .ok (.if_icmp .le 12, 3) := by decide +kernel
theorem dX5_longestChain_131 : decode cX5_longestChain 131 = .ok (.aload_n 0, 1) := by decide +kernel
theorem dX5_longestChain_132 : decode cX5_longestChain 132 = .ok (.getfield 26, 3) := by decide +kernel
theorem dX5_longestChain_135 : decode cX5_longestChain 135 = .ok (.iload_n 3, 1) := by decide +kernel
theorem dX5_longestChain_136 : decode cX5_longestChain 136 = .ok (.iaload, 1) := by decide +kernel
theorem dX5_longestChain_137 : decode cX5_longestChain 137 = .ok (.goto 4, 3) := by decide +kernel
theorem dX5_longestChain_140 : decode cX5_longestChain 140 = .ok (.iload_n 2, 1) := by decide +kernel
theorem dX5_longestChain_141 : decode cX5_longestChain 141 = .ok (.istore_n 2, 1) := by decide +kernel
theorem dX5_longestChain_142 : decode cX5_longestChain 142 = .ok (.iinc 3 1, 3) := by decide +kernel
theorem dX5_longestChain_145 : decode cX5_longestChain 145 = .ok (.goto (-115), 3) := by decide +kernel
theorem dX5_longestChain_148 : decode cX5_longestChain 148 = .ok (.iload_n 2, 1) := by decide +kernel
theorem dX5_longestChain_149 : decode cX5_longestChain 149 = .ok (.ireturn, 1) := by decide +kernel
theorem dX5_duplicates_0 : decode cX5_duplicates 0 = .ok (.aload_n 0, 1) := by decide +kernel
theorem dX5_duplicates_1 : decode cX5_duplicates 1 = .ok (.iconst 0, 1) := by decide +kernel
theorem dX5_duplicates_2 : decode cX5_duplicates 2 = .ok (.putfield 38, 3) := by decide +kernel
theorem dX5_duplicates_5 : decode cX5_duplicates 5 = .ok (.aload_n 0, 1) := by decide +kernel
theorem dX5_duplicates_6 : decode cX5_duplicates 6 = .ok (.getfield 9, 3) := by decide +kernel
theorem dX5_duplicates_9 : decode cX5_duplicates 9 = .ok (.bipush 45, 2) := by decide +kernel
theorem dX5_duplicates_11 : decode cX5_duplicates 11 = .ok (.iaload, 1) := by decide +kernel
theorem dX5_duplicates_12 : decode cX5_duplicates 12 = .ok (.ireturn, 1) := by decide +kernel
theorem dX5_logLength_0 : decode cX5_logLength 0 = .ok (.aload_n 0, 1) := by decide +kernel
theorem dX5_logLength_1 : decode cX5_logLength 1 = .ok (.iload_n 1, 1) := by decide +kernel
theorem dX5_logLength_2 : decode cX5_logLength 2 = .ok (.invokevirtual 63, 3) := by decide +kernel
theorem dX5_logLength_5 : decode cX5_logLength 5 = .ok (.ifCond .eq 16, 3) := by decide +kernel
theorem dX5_logLength_8 : decode cX5_logLength 8 = .ok (.aload_n 0, 1) := by decide +kernel
theorem dX5_logLength_9 : decode cX5_logLength 9 = .ok (.getfield 9, 3) := by decide +kernel
theorem dX5_logLength_12 : decode cX5_logLength 12 = .ok (.sipush 1550, 3) := by decide +kernel
theorem dX5_logLength_15 : decode cX5_logLength 15 = .ok (.iload_n 1, 1) := by decide +kernel
theorem dX5_logLength_16 : decode cX5_logLength 16 = .ok (.iadd, 1) := by decide +kernel
theorem dX5_logLength_17 : decode cX5_logLength 17 = .ok (.iaload, 1) := by decide +kernel
theorem dX5_logLength_18 : decode cX5_logLength 18 = .ok (.goto 4, 3) := by decide +kernel
theorem dX5_logLength_21 : decode cX5_logLength 21 = .ok (.iconst 0, 1) := by decide +kernel
theorem dX5_logLength_22 : decode cX5_logLength 22 = .ok (.ireturn, 1) := by decide +kernel
theorem dX5_logged_0 : decode cX5_logged 0 = .ok (.aload_n 0, 1) := by decide +kernel
theorem dX5_logged_1 : decode cX5_logged 1 = .ok (.iload_n 1, 1) := by decide +kernel
theorem dX5_logged_2 : decode cX5_logged 2 = .ok (.invokevirtual 63, 3) := by decide +kernel
theorem dX5_logged_5 : decode cX5_logged 5 = .ok (.ifCond .ne 5, 3) := by decide +kernel
theorem dX5_logged_8 : decode cX5_logged 8 = .ok (.iconst 0, 1) := by decide +kernel
theorem dX5_logged_9 : decode cX5_logged 9 = .ok (.ireturn, 1) := by decide +kernel
theorem dX5_logged_10 : decode cX5_logged 10 = .ok (.iload_n 2, 1) := by decide +kernel
theorem dX5_logged_11 : decode cX5_logged 11 = .ok (.iconst 0, 1) := by decide +kernel
theorem dX5_logged_12 : decode cX5_logged 12 = .ok (.aload_n 0, 1) := by decide +kernel
theorem dX5_logged_13 : decode cX5_logged 13 = .ok (.getfield 9, 3) := by decide +kernel
theorem dX5_logged_16 : decode cX5_logged 16 = .ok (.sipush 1550, 3) := by decide +kernel
theorem dX5_logged_19 : decode cX5_logged 19 = .ok (.iload_n 1, 1) := by decide +kernel
theorem dX5_logged_20 : decode cX5_logged 20 = .ok (.iadd, 1) := by decide +kernel
theorem dX5_logged_21 : decode cX5_logged 21 = .ok (.iaload, 1) := by decide +kernel
theorem dX5_logged_22 : decode cX5_logged 22 = .ok (.iconst 1, 1) := by decide +kernel
theorem dX5_logged_23 : decode cX5_logged 23 = .ok (.isub, 1) := by decide +kernel
theorem dX5_logged_24 : decode cX5_logged 24 = .ok (.invokestatic 41, 3) := by decide +kernel
theorem dX5_logged_27 : decode cX5_logged 27 = .ok (.ifCond .eq 22, 3) := by decide +kernel
theorem dX5_logged_30 : decode cX5_logged 30 = .ok (.aload_n 0, 1) := by decide +kernel
theorem dX5_logged_31 : decode cX5_logged 31 = .ok (.getfield 9, 3) := by decide +kernel
theorem dX5_logged_34 : decode cX5_logged 34 = .ok (.sipush 1560, 3) := by decide +kernel
theorem dX5_logged_37 : decode cX5_logged 37 = .ok (.sipush 150, 3) := by decide +kernel
theorem dX5_logged_40 : decode cX5_logged 40 = .ok (.iload_n 1, 1) := by decide +kernel
theorem dX5_logged_41 : decode cX5_logged 41 = .ok (.imul, 1) := by decide +kernel
theorem dX5_logged_42 : decode cX5_logged 42 = .ok (.iadd, 1) := by decide +kernel
theorem dX5_logged_43 : decode cX5_logged 43 = .ok (.iload_n 2, 1) := by decide +kernel
theorem dX5_logged_44 : decode cX5_logged 44 = .ok (.iadd, 1) := by decide +kernel
theorem dX5_logged_45 : decode cX5_logged 45 = .ok (.iaload, 1) := by decide +kernel
theorem dX5_logged_46 : decode cX5_logged 46 = .ok (.goto 8, 3) := by decide +kernel
theorem dX5_logged_49 : decode cX5_logged 49 = .ok (.aload_n 0, 1) := by decide +kernel
theorem dX5_logged_50 : decode cX5_logged 50 = .ok (.iconst 1, 1) := by decide +kernel
theorem dX5_logged_51 : decode cX5_logged 51 = .ok (.invokevirtual 59, 3) := by decide +kernel
theorem dX5_logged_54 : decode cX5_logged 54 = .ok (.ireturn, 1) := by decide +kernel
theorem dX5_placeOf_0 : decode cX5_placeOf 0 = .ok (.iconst 0, 1) := by decide +kernel
theorem dX5_placeOf_1 : decode cX5_placeOf 1 = .ok (.istore_n 3, 1) := by decide +kernel
theorem dX5_placeOf_2 : decode cX5_placeOf 2 = .ok (.iload_n 3, 1) := by decide +kernel
theorem dX5_placeOf_3 : decode cX5_placeOf 3 = .ok (.aload_n 0, 1) := by decide +kernel
theorem dX5_placeOf_4 : decode cX5_placeOf 4 = .ok (.getfield 9, 3) := by decide +kernel
theorem dX5_placeOf_7 : decode cX5_placeOf 7 = .ok (.sipush 1550, 3) := by decide +kernel
theorem dX5_placeOf_10 : decode cX5_placeOf 10 = .ok (.iload_n 1, 1) := by decide +kernel
theorem dX5_placeOf_11 : decode cX5_placeOf 11 = .ok (.iadd, 1) := by decide +kernel
theorem dX5_placeOf_12 : decode cX5_placeOf 12 = .ok (.iaload, 1) := by decide +kernel
theorem dX5_placeOf_13 : decode cX5_placeOf 13 = .ok (.if_icmp .ge 31, 3) := by decide +kernel
theorem dX5_placeOf_16 : decode cX5_placeOf 16 = .ok (.aload_n 0, 1) := by decide +kernel
theorem dX5_placeOf_17 : decode cX5_placeOf 17 = .ok (.getfield 9, 3) := by decide +kernel
theorem dX5_placeOf_20 : decode cX5_placeOf 20 = .ok (.sipush 1560, 3) := by decide +kernel
theorem dX5_placeOf_23 : decode cX5_placeOf 23 = .ok (.sipush 150, 3) := by decide +kernel
theorem dX5_placeOf_26 : decode cX5_placeOf 26 = .ok (.iload_n 1, 1) := by decide +kernel
theorem dX5_placeOf_27 : decode cX5_placeOf 27 = .ok (.imul, 1) := by decide +kernel
theorem dX5_placeOf_28 : decode cX5_placeOf 28 = .ok (.iadd, 1) := by decide +kernel
theorem dX5_placeOf_29 : decode cX5_placeOf 29 = .ok (.iload_n 3, 1) := by decide +kernel
theorem dX5_placeOf_30 : decode cX5_placeOf 30 = .ok (.iadd, 1) := by decide +kernel
theorem dX5_placeOf_31 : decode cX5_placeOf 31 = .ok (.iaload, 1) := by decide +kernel
theorem dX5_placeOf_32 : decode cX5_placeOf 32 = .ok (.iload_n 2, 1) := by decide +kernel
theorem dX5_placeOf_33 : decode cX5_placeOf 33 = .ok (.if_icmp .ne 5, 3) := by decide +kernel
theorem dX5_placeOf_36 : decode cX5_placeOf 36 = .ok (.iload_n 3, 1) := by decide +kernel
theorem dX5_placeOf_37 : decode cX5_placeOf 37 = .ok (.ireturn, 1) := by decide +kernel
theorem dX5_placeOf_38 : decode cX5_placeOf 38 = .ok (.iinc 3 1, 3) := by decide +kernel
theorem dX5_placeOf_41 : decode cX5_placeOf 41 = .ok (.goto (-39), 3) := by decide +kernel
theorem dX5_placeOf_44 : decode cX5_placeOf 44 = .ok (.iconst (-1), 1) := by decide +kernel
theorem dX5_placeOf_45 : decode cX5_placeOf 45 = .ok (.ireturn, 1) := by decide +kernel
theorem dX5_position_0 : decode cX5_position 0 = .ok (.aload_n 0, 1) := by decide +kernel
theorem dX5_position_1 : decode cX5_position 1 = .ok (.iconst 0, 1) := by decide +kernel
theorem dX5_position_2 : decode cX5_position 2 = .ok (.putfield 38, 3) := by decide +kernel
theorem dX5_position_5 : decode cX5_position 5 = .ok (.iload_n 1, 1) := by decide +kernel
theorem dX5_position_6 : decode cX5_position 6 = .ok (.invokestatic 49, 3) := by decide +kernel
theorem dX5_position_9 : decode cX5_position 9 = .ok (.ifCond .eq 11, 3) := by decide +kernel
theorem dX5_position_12 : decode cX5_position 12 = .ok (.aload_n 0, 1) := by decide +kernel
theorem dX5_position_13 : decode cX5_position 13 = .ok (.iload_n 2, 1) := by decide +kernel
theorem dX5_position_14 : decode cX5_position 14 = .ok (.invokevirtual 56, 3) := by decide +kernel
theorem dX5_position_17 : decode cX5_position 17 = .ok (.ifCond .ne 9, 3) := by decide +kernel
theorem dX5_position_20 : decode cX5_position 20 = .ok (.aload_n 0, 1) := by decide +kernel
theorem dX5_position_21 : decode cX5_position 21 = .ok (.iconst 1, 1) := by decide +kernel
theorem dX5_position_22 : decode cX5_position 22 = .ok (.invokevirtual 59, 3) := by decide +kernel
theorem dX5_position_25 : decode cX5_position 25 = .ok (.ireturn, 1) := by decide +kernel
theorem dX5_position_26 : decode cX5_position 26 = .ok (.aload_n 0, 1) := by decide +kernel
theorem dX5_position_27 : decode cX5_position 27 = .ok (.iload_n 1, 1) := by decide +kernel
theorem dX5_position_28 : decode cX5_position 28 = .ok (.iload_n 2, 1) := by decide +kernel
theorem dX5_position_29 : decode cX5_position 29 = .ok (.invokevirtual 114, 3) := by decide +kernel
theorem dX5_position_32 : decode cX5_position 32 = .ok (.istore_n 3, 1) := by decide +kernel
theorem dX5_position_33 : decode cX5_position 33 = .ok (.iload_n 3, 1) := by decide +kernel
theorem dX5_position_34 : decode cX5_position 34 = .ok (.ifCond .ge 11, 3) := by decide +kernel
theorem dX5_position_37 : decode cX5_position 37 = .ok (.aload_n 0, 1) := by decide +kernel
theorem dX5_position_38 : decode cX5_position 38 = .ok (.iconst 2, 1) := by decide +kernel
theorem dX5_position_39 : decode cX5_position 39 = .ok (.invokevirtual 59, 3) := by decide +kernel
theorem dX5_position_42 : decode cX5_position 42 = .ok (.goto 4, 3) := by decide +kernel
theorem dX5_position_45 : decode cX5_position 45 = .ok (.iload_n 3, 1) := by decide +kernel
theorem dX5_position_46 : decode cX5_position 46 = .ok (.ireturn, 1) := by decide +kernel
theorem dX5_state_0 : decode cX5_state 0 = .ok (.aload_n 0, 1) := by decide +kernel
theorem dX5_state_1 : decode cX5_state 1 = .ok (.iload_n 1, 1) := by decide +kernel
theorem dX5_state_2 : decode cX5_state 2 = .ok (.invokevirtual 63, 3) := by decide +kernel
theorem dX5_state_5 : decode cX5_state 5 = .ok (.ifCond .eq 16, 3) := by decide +kernel
theorem dX5_state_8 : decode cX5_state 8 = .ok (.aload_n 0, 1) := by decide +kernel
theorem dX5_state_9 : decode cX5_state 9 = .ok (.getfield 9, 3) := by decide +kernel
theorem dX5_state_12 : decode cX5_state 12 = .ok (.sipush 4260, 3) := by decide +kernel
theorem dX5_state_15 : decode cX5_state 15 = .ok (.iload_n 1, 1) := by decide +kernel
theorem dX5_state_16 : decode cX5_state 16 = .ok (.iadd, 1) := by decide +kernel
theorem dX5_state_17 : decode cX5_state 17 = .ok (.iaload, 1) := by decide +kernel
theorem dX5_state_18 : decode cX5_state 18 = .ok (.goto 4, 3) := by decide +kernel
theorem dX5_state_21 : decode cX5_state 21 = .ok (.iconst 0, 1) := by decide +kernel
theorem dX5_state_22 : decode cX5_state 22 = .ok (.ireturn, 1) := by decide +kernel
theorem dX5_clock_0 : decode cX5_clock 0 = .ok (.aload_n 0, 1) := by decide +kernel
theorem dX5_clock_1 : decode cX5_clock 1 = .ok (.iconst 0, 1) := by decide +kernel
theorem dX5_clock_2 : decode cX5_clock 2 = .ok (.putfield 38, 3) := by decide +kernel
theorem dX5_clock_5 : decode cX5_clock 5 = .ok (.iload_n 1, 1) := by decide +kernel
theorem dX5_clock_6 : decode cX5_clock 6 = .ok (.invokestatic 49, 3) := by decide +kernel
theorem dX5_clock_9 : decode cX5_clock 9 = .ok (.ifCond .eq 10, 3) := by decide +kernel
theorem dX5_clock_12 : decode cX5_clock 12 = .ok (.iload_n 2, 1) := by decide +kernel
theorem dX5_clock_13 : decode cX5_clock 13 = .ok (.invokestatic 49, 3) := by decide +kernel
theorem dX5_clock_16 : decode cX5_clock 16 = .ok (.ifCond .ne 9, 3) := by decide +kernel
theorem dX5_clock_19 : decode cX5_clock 19 = .ok (.aload_n 0, 1) := by decide +kernel
theorem dX5_clock_20 : decode cX5_clock 20 = .ok (.iconst 1, 1) := by decide +kernel
theorem dX5_clock_21 : decode cX5_clock 21 = .ok (.invokevirtual 59, 3) := by decide +kernel
theorem dX5_clock_24 : decode cX5_clock 24 = .ok (.ireturn, 1) := by decide +kernel
theorem dX5_clock_25 : decode cX5_clock 25 = .ok (.aload_n 0, 1) := by decide +kernel
theorem dX5_clock_26 : decode cX5_clock 26 = .ok (.iload_n 1, 1) := by decide +kernel
theorem dX5_clock_27 : decode cX5_clock 27 = .ok (.invokevirtual 53, 3) := by decide +kernel
theorem dX5_clock_30 : decode cX5_clock 30 = .ok (.ifCond .eq 12, 3) := by decide +kernel
theorem dX5_clock_33 : decode cX5_clock 33 = .ok (.aload_n 0, 1) := by decide +kernel
theorem dX5_clock_34 : decode cX5_clock 34 = .ok (.iload_n 1, 1) := by decide +kernel
theorem dX5_clock_35 : decode cX5_clock 35 = .ok (.iload_n 2, 1) := by decide +kernel
theorem dX5_clock_36 : decode cX5_clock 36 = .ok (.invokevirtual 76, 3) := by decide +kernel
theorem dX5_clock_39 : decode cX5_clock 39 = .ok (.goto 8, 3) := by decide +kernel
theorem dX5_clock_42 : decode cX5_clock 42 = .ok (.aload_n 0, 1) := by decide +kernel
theorem dX5_clock_43 : decode cX5_clock 43 = .ok (.iconst 2, 1) := by decide +kernel
theorem dX5_clock_44 : decode cX5_clock 44 = .ok (.invokevirtual 59, 3) := by decide +kernel
theorem dX5_clock_47 : decode cX5_clock 47 = .ok (.ireturn, 1) := by decide +kernel
theorem dX5_buffered_0 : decode cX5_buffered 0 = .ok (.aload_n 0, 1) := by decide +kernel
theorem dX5_buffered_1 : decode cX5_buffered 1 = .ok (.iload_n 1, 1) := by decide +kernel
theorem dX5_buffered_2 : decode cX5_buffered 2 = .ok (.invokevirtual 96, 3) := by decide +kernel
theorem dX5_buffered_5 : decode cX5_buffered 5 = .ok (.ifCond .ne 5, 3) := by decide +kernel
theorem dX5_buffered_8 : decode cX5_buffered 8 = .ok (.iconst 0, 1) := by decide +kernel
theorem dX5_buffered_9 : decode cX5_buffered 9 = .ok (.ireturn, 1) := by decide +kernel
theorem dX5_buffered_10 : decode cX5_buffered 10 = .ok (.iconst 0, 1) := by decide +kernel
theorem dX5_buffered_11 : decode cX5_buffered 11 = .ok (.istore_n 2, 1) := by decide +kernel
theorem dX5_buffered_12 : decode cX5_buffered 12 = .ok (.iconst 0, 1) := by decide +kernel
theorem dX5_buffered_13 : decode cX5_buffered 13 = .ok (.istore_n 3, 1) := by decide +kernel
theorem dX5_buffered_14 : decode cX5_buffered 14 = .ok (.iload_n 3, 1) := by decide +kernel
theorem dX5_buffered_15 : decode cX5_buffered 15 = .ok (.aload_n 0, 1) := by decide +kernel
theorem dX5_buffered_16 : decode cX5_buffered 16 = .ok (.getfield 9, 3) := by decide +kernel
theorem dX5_buffered_19 : decode cX5_buffered 19 = .ok (.bipush 44, 2) := by decide +kernel
theorem dX5_buffered_21 : decode cX5_buffered 21 = .ok (.iaload, 1) := by decide +kernel
theorem dX5_buffered_22 : decode cX5_buffered 22 = .ok (.if_icmp .ge 26, 3) := by decide +kernel
theorem dX5_buffered_25 : decode cX5_buffered 25 = .ok (.iload_n 2, 1) := by decide +kernel
theorem dX5_buffered_26 : decode cX5_buffered 26 = .ok (.aload_n 0, 1) := by decide +kernel
theorem dX5_buffered_27 : decode cX5_buffered 27 = .ok (.iload_n 1, 1) := by decide +kernel
theorem dX5_buffered_28 : decode cX5_buffered 28 = .ok (.iload_n 3, 1) := by decide +kernel
theorem dX5_buffered_29 : decode cX5_buffered 29 = .ok (.invokevirtual 99, 3) := by decide +kernel
theorem dX5_buffered_32 : decode cX5_buffered 32 = .ok (.ifCond .eq 7, 3) := by decide +kernel
theorem dX5_buffered_35 : decode cX5_buffered 35 = .ok (.iconst 1, 1) := by decide +kernel
theorem dX5_buffered_36 : decode cX5_buffered 36 = .ok (.goto 4, 3) := by decide +kernel
theorem dX5_buffered_39 : decode cX5_buffered 39 = .ok (.iconst 0, 1) := by decide +kernel
theorem dX5_buffered_40 : decode cX5_buffered 40 = .ok (.iadd, 1) := by decide +kernel
theorem dX5_buffered_41 : decode cX5_buffered 41 = .ok (.istore_n 2, 1) := by decide +kernel
theorem dX5_buffered_42 : decode cX5_buffered 42 = .ok (.iinc 3 1, 3) := by decide +kernel
theorem dX5_buffered_45 : decode cX5_buffered 45 = .ok (.goto (-31), 3) := by decide +kernel
theorem dX5_buffered_48 : decode cX5_buffered 48 = .ok (.iload_n 2, 1) := by decide +kernel
theorem dX5_buffered_49 : decode cX5_buffered 49 = .ok (.ireturn, 1) := by decide +kernel
theorem dX5_bufferedMessage_0 : decode cX5_bufferedMessage 0 = .ok (.aload_n 0, 1) := by decide +kernel
theorem dX5_bufferedMessage_1 : decode cX5_bufferedMessage 1 = .ok (.iload_n 1, 1) := by decide +kernel
theorem dX5_bufferedMessage_2 : decode cX5_bufferedMessage 2 = .ok (.invokevirtual 96, 3) := by decide +kernel
theorem dX5_bufferedMessage_5 : decode cX5_bufferedMessage 5 = .ok (.ifCond .ne 5, 3) := by decide +kernel
theorem dX5_bufferedMessage_8 : decode cX5_bufferedMessage 8 = .ok (.iconst 0, 1) := by decide +kernel
theorem dX5_bufferedMessage_9 : decode cX5_bufferedMessage 9 = .ok (.ireturn, 1) := by decide +kernel
theorem dX5_bufferedMessage_10 : decode cX5_bufferedMessage 10 = .ok (.iconst 0, 1) := by decide +kernel
theorem dX5_bufferedMessage_11 : decode cX5_bufferedMessage 11 = .ok (.istore_n 3, 1) := by decide +kernel
theorem dX5_bufferedMessage_12 : decode cX5_bufferedMessage 12 = .ok (.iconst 0, 1) := by decide +kernel
theorem dX5_bufferedMessage_13 : decode cX5_bufferedMessage 13 = .ok (.istore 4, 2) := by decide +kernel
theorem dX5_bufferedMessage_15 : decode cX5_bufferedMessage 15 = .ok (.iload 4, 2) := by decide +kernel
theorem dX5_bufferedMessage_17 : decode cX5_bufferedMessage 17 = .ok (.aload_n 0, 1) := by decide +kernel
theorem dX5_bufferedMessage_18 : decode cX5_bufferedMessage 18 = .ok (.getfield 9, 3) := by decide +kernel
theorem dX5_bufferedMessage_21 : decode cX5_bufferedMessage 21 = .ok (.bipush 44, 2) := by decide +kernel
theorem dX5_bufferedMessage_23 : decode cX5_bufferedMessage 23 = .ok (.iaload, 1) := by decide +kernel
theorem dX5_bufferedMessage_24 : decode cX5_bufferedMessage 24 = .ok (.if_icmp .ge 33, 3) := by decide +kernel
theorem dX5_bufferedMessage_27 : decode cX5_bufferedMessage 27 = .ok (.aload_n 0, 1) := by decide +kernel
theorem dX5_bufferedMessage_28 : decode cX5_bufferedMessage 28 = .ok (.iload_n 1, 1) := by decide +kernel
theorem dX5_bufferedMessage_29 : decode cX5_bufferedMessage 29 = .ok (.iload 4, 2) := by decide +kernel
theorem dX5_bufferedMessage_31 : decode cX5_bufferedMessage 31 = .ok (.invokevirtual 99, 3) := by decide +kernel
theorem dX5_bufferedMessage_34 : decode cX5_bufferedMessage 34 = .ok (.ifCond .ne 6, 3) := by decide +kernel
theorem dX5_bufferedMessage_37 : decode cX5_bufferedMessage 37 = .ok (.goto 14, 3) := by decide +kernel
theorem dX5_bufferedMessage_40 : decode cX5_bufferedMessage 40 = .ok (.iload_n 3, 1) := by decide +kernel
theorem dX5_bufferedMessage_41 : decode cX5_bufferedMessage 41 = .ok (.iload_n 2, 1) := by decide +kernel
theorem dX5_bufferedMessage_42 : decode cX5_bufferedMessage 42 = .ok (.if_icmp .ne 6, 3) := by decide +kernel
theorem dX5_bufferedMessage_45 : decode cX5_bufferedMessage 45 = .ok (.iload 4, 2) := by decide +kernel
theorem dX5_bufferedMessage_47 : decode cX5_bufferedMessage 47 = .ok (.ireturn, 1) := by decide +kernel
theorem dX5_bufferedMessage_48 : decode cX5_bufferedMessage 48 = .ok (.iinc 3 1, 3) := by decide +kernel
theorem dX5_bufferedMessage_51 : decode cX5_bufferedMessage 51 = .ok (.iinc 4 1, 3) := by decide +kernel
theorem dX5_bufferedMessage_54 : decode cX5_bufferedMessage 54 = .ok (.goto (-39), 3) := by decide +kernel
theorem dX5_bufferedMessage_57 : decode cX5_bufferedMessage 57 = .ok (.aload_n 0, 1) := by decide +kernel
theorem dX5_bufferedMessage_58 : decode cX5_bufferedMessage 58 = .ok (.iconst 3, 1) := by decide +kernel
theorem dX5_bufferedMessage_59 : decode cX5_bufferedMessage 59 = .ok (.invokevirtual 59, 3) := by decide +kernel
theorem dX5_bufferedMessage_62 : decode cX5_bufferedMessage 62 = .ok (.ireturn, 1) := by decide +kernel
theorem dX5_missing_0 : decode cX5_missing 0 = .ok (.aload_n 0, 1) := by decide +kernel
theorem dX5_missing_1 : decode cX5_missing 1 = .ok (.iconst 0, 1) := by decide +kernel
theorem dX5_missing_2 : decode cX5_missing 2 = .ok (.putfield 38, 3) := by decide +kernel
theorem dX5_missing_5 : decode cX5_missing 5 = .ok (.iload_n 1, 1) := by decide +kernel
theorem dX5_missing_6 : decode cX5_missing 6 = .ok (.invokestatic 49, 3) := by decide +kernel
theorem dX5_missing_9 : decode cX5_missing 9 = .ok (.ifCond .eq 11, 3) := by decide +kernel
theorem dX5_missing_12 : decode cX5_missing 12 = .ok (.aload_n 0, 1) := by decide +kernel
theorem dX5_missing_13 : decode cX5_missing 13 = .ok (.iload_n 2, 1) := by decide +kernel
theorem dX5_missing_14 : decode cX5_missing 14 = .ok (.invokevirtual 56, 3) := by decide +kernel
theorem dX5_missing_17 : decode cX5_missing 17 = .ok (.ifCond .ne 9, 3) := by decide +kernel
theorem dX5_missing_20 : decode cX5_missing 20 = .ok (.aload_n 0, 1) := by decide +kernel
theorem dX5_missing_21 : decode cX5_missing 21 = .ok (.iconst 1, 1) := by decide +kernel
theorem dX5_missing_22 : decode cX5_missing 22 = .ok (.invokevirtual 59, 3) := by decide +kernel
theorem dX5_missing_25 : decode cX5_missing 25 = .ok (.ireturn, 1) := by decide +kernel
theorem dX5_missing_26 : decode cX5_missing 26 = .ok (.aload_n 0, 1) := by decide +kernel
theorem dX5_missing_27 : decode cX5_missing 27 = .ok (.iload_n 1, 1) := by decide +kernel
theorem dX5_missing_28 : decode cX5_missing 28 = .ok (.invokevirtual 53, 3) := by decide +kernel
theorem dX5_missing_31 : decode cX5_missing 31 = .ok (.ifCond .eq 11, 3) := by decide +kernel
theorem dX5_missing_34 : decode cX5_missing 34 = .ok (.aload_n 0, 1) := by decide +kernel
theorem dX5_missing_35 : decode cX5_missing 35 = .ok (.iload_n 2, 1) := by decide +kernel
theorem dX5_missing_36 : decode cX5_missing 36 = .ok (.invokevirtual 69, 3) := by decide +kernel
theorem dX5_missing_39 : decode cX5_missing 39 = .ok (.ifCond .ne 9, 3) := by decide +kernel
theorem dX5_missing_42 : decode cX5_missing 42 = .ok (.aload_n 0, 1) := by decide +kernel
theorem dX5_missing_43 : decode cX5_missing 43 = .ok (.iconst 2, 1) := by decide +kernel
theorem dX5_missing_44 : decode cX5_missing 44 = .ok (.invokevirtual 59, 3) := by decide +kernel
theorem dX5_missing_47 : decode cX5_missing 47 = .ok (.ireturn, 1) := by decide +kernel
theorem dX5_missing_48 : decode cX5_missing 48 = .ok (.iconst 0, 1) := by decide +kernel
theorem dX5_missing_49 : decode cX5_missing 49 = .ok (.istore_n 3, 1) := by decide +kernel
theorem dX5_missing_50 : decode cX5_missing 50 = .ok (.iconst 0, 1) := by decide +kernel
theorem dX5_missing_51 : decode cX5_missing 51 = .ok (.istore 4, 2) := by decide +kernel
theorem dX5_missing_53 : decode cX5_missing 53 = .ok (.iload 4, 2) := by decide +kernel
theorem dX5_missing_55 : decode cX5_missing 55 = .ok (.aload_n 0, 1) := by decide +kernel
theorem dX5_missing_56 : decode cX5_missing 56 = .ok (.getfield 9, 3) := by decide +kernel
theorem dX5_missing_59 : decode cX5_missing 59 = .ok (.bipush 44, 2) := by decide +kernel
theorem dX5_missing_61 : decode cX5_missing 61 = .ok (.iaload, 1) := by decide +kernel
theorem dX5_missing_62 : decode cX5_missing 62 = .ok (.if_icmp .ge 37, 3) := by decide +kernel
theorem dX5_missing_65 : decode cX5_missing 65 = .ok (.iload_n 3, 1) := by decide +kernel
theorem dX5_missing_66 : decode cX5_missing 66 = .ok (.aload_n 0, 1) := by decide +kernel
theorem dX5_missing_67 : decode cX5_missing 67 = .ok (.iload 4, 2) := by decide +kernel
theorem dX5_missing_69 : decode cX5_missing 69 = .ok (.iload_n 2, 1) := by decide +kernel
theorem dX5_missing_70 : decode cX5_missing 70 = .ok (.invokevirtual 111, 3) := by decide +kernel
theorem dX5_missing_73 : decode cX5_missing 73 = .ok (.ifCond .eq 17, 3) := by decide +kernel
theorem dX5_missing_76 : decode cX5_missing 76 = .ok (.aload_n 0, 1) := by decide +kernel
theorem dX5_missing_77 : decode cX5_missing 77 = .ok (.iload_n 1, 1) := by decide +kernel
theorem dX5_missing_78 : decode cX5_missing 78 = .ok (.iload 4, 2) := by decide +kernel
theorem dX5_missing_80 : decode cX5_missing 80 = .ok (.invokevirtual 72, 3) := by decide +kernel
theorem dX5_missing_83 : decode cX5_missing 83 = .ok (.ifCond .ne 7, 3) := by decide +kernel
theorem dX5_missing_86 : decode cX5_missing 86 = .ok (.iconst 1, 1) := by decide +kernel
theorem dX5_missing_87 : decode cX5_missing 87 = .ok (.goto 4, 3) := by decide +kernel
theorem dX5_missing_90 : decode cX5_missing 90 = .ok (.iconst 0, 1) := by decide +kernel
theorem dX5_missing_91 : decode cX5_missing 91 = .ok (.iadd, 1) := by decide +kernel
theorem dX5_missing_92 : decode cX5_missing 92 = .ok (.istore_n 3, 1) := by decide +kernel
theorem dX5_missing_93 : decode cX5_missing 93 = .ok (.iinc 4 1, 3) := by decide +kernel
theorem dX5_missing_96 : decode cX5_missing 96 = .ok (.goto (-43), 3) := by decide +kernel
theorem dX5_missing_99 : decode cX5_missing 99 = .ok (.iload_n 3, 1) := by decide +kernel
theorem dX5_missing_100 : decode cX5_missing 100 = .ok (.ireturn, 1) := by decide +kernel
theorem dX5_inTransit_0 : decode cX5_inTransit 0 = .ok (.aload_n 0, 1) := by decide +kernel
theorem dX5_inTransit_1 : decode cX5_inTransit 1 = .ok (.iload_n 1, 1) := by decide +kernel
theorem dX5_inTransit_2 : decode cX5_inTransit 2 = .ok (.invokevirtual 96, 3) := by decide +kernel
theorem dX5_inTransit_5 : decode cX5_inTransit 5 = .ok (.ifCond .ne 5, 3) := by decide +kernel
theorem dX5_inTransit_8 : decode cX5_inTransit 8 = .ok (.iconst 0, 1) := by decide +kernel
theorem dX5_inTransit_9 : decode cX5_inTransit 9 = .ok (.ireturn, 1) := by decide +kernel
theorem dX5_inTransit_10 : decode cX5_inTransit 10 = .ok (.iconst 0, 1) := by decide +kernel
theorem dX5_inTransit_11 : decode cX5_inTransit 11 = .ok (.istore_n 2, 1) := by decide +kernel
theorem dX5_inTransit_12 : decode cX5_inTransit 12 = .ok (.iconst 0, 1) := by decide +kernel
theorem dX5_inTransit_13 : decode cX5_inTransit 13 = .ok (.istore_n 3, 1) := by decide +kernel
theorem dX5_inTransit_14 : decode cX5_inTransit 14 = .ok (.iload_n 3, 1) := by decide +kernel
theorem dX5_inTransit_15 : decode cX5_inTransit 15 = .ok (.aload_n 0, 1) := by decide +kernel
theorem dX5_inTransit_16 : decode cX5_inTransit 16 = .ok (.getfield 9, 3) := by decide +kernel
theorem dX5_inTransit_19 : decode cX5_inTransit 19 = .ok (.bipush 44, 2) := by decide +kernel
theorem dX5_inTransit_21 : decode cX5_inTransit 21 = .ok (.iaload, 1) := by decide +kernel
theorem dX5_inTransit_22 : decode cX5_inTransit 22 = .ok (.if_icmp .ge 26, 3) := by decide +kernel
theorem dX5_inTransit_25 : decode cX5_inTransit 25 = .ok (.iload_n 2, 1) := by decide +kernel
theorem dX5_inTransit_26 : decode cX5_inTransit 26 = .ok (.aload_n 0, 1) := by decide +kernel
theorem dX5_inTransit_27 : decode cX5_inTransit 27 = .ok (.iload_n 1, 1) := by decide +kernel
theorem dX5_inTransit_28 : decode cX5_inTransit 28 = .ok (.iload_n 3, 1) := by decide +kernel
theorem dX5_inTransit_29 : decode cX5_inTransit 29 = .ok (.invokevirtual 102, 3) := by decide +kernel
theorem dX5_inTransit_32 : decode cX5_inTransit 32 = .ok (.ifCond .eq 7, 3) := by decide +kernel
theorem dX5_inTransit_35 : decode cX5_inTransit 35 = .ok (.iconst 1, 1) := by decide +kernel
theorem dX5_inTransit_36 : decode cX5_inTransit 36 = .ok (.goto 4, 3) := by decide +kernel
theorem dX5_inTransit_39 : decode cX5_inTransit 39 = .ok (.iconst 0, 1) := by decide +kernel
theorem dX5_inTransit_40 : decode cX5_inTransit 40 = .ok (.iadd, 1) := by decide +kernel
theorem dX5_inTransit_41 : decode cX5_inTransit 41 = .ok (.istore_n 2, 1) := by decide +kernel
theorem dX5_inTransit_42 : decode cX5_inTransit 42 = .ok (.iinc 3 1, 3) := by decide +kernel
theorem dX5_inTransit_45 : decode cX5_inTransit 45 = .ok (.goto (-31), 3) := by decide +kernel
theorem dX5_inTransit_48 : decode cX5_inTransit 48 = .ok (.iload_n 2, 1) := by decide +kernel
theorem dX5_inTransit_49 : decode cX5_inTransit 49 = .ok (.ireturn, 1) := by decide +kernel
theorem dX5_disagreements_0 : decode cX5_disagreements 0 = .ok (.aload_n 0, 1) := by decide +kernel
theorem dX5_disagreements_1 : decode cX5_disagreements 1 = .ok (.iconst 0, 1) := by decide +kernel
theorem dX5_disagreements_2 : decode cX5_disagreements 2 = .ok (.putfield 38, 3) := by decide +kernel
theorem dX5_disagreements_5 : decode cX5_disagreements 5 = .ok (.iload_n 1, 1) := by decide +kernel
theorem dX5_disagreements_6 : decode cX5_disagreements 6 = .ok (.invokestatic 49, 3) := by decide +kernel
theorem dX5_disagreements_9 : decode cX5_disagreements 9 = .ok (.ifCond .eq 10, 3) := by decide +kernel
theorem dX5_disagreements_12 : decode cX5_disagreements 12 = .ok (.iload_n 2, 1) := by decide +kernel
theorem dX5_disagreements_13 : decode cX5_disagreements 13 = .ok (.invokestatic 49, 3) := by decide +kernel
theorem dX5_disagreements_16 : decode cX5_disagreements 16 = .ok (.ifCond .ne 9, 3) := by decide +kernel
theorem dX5_disagreements_19 : decode cX5_disagreements 19 = .ok (.aload_n 0, 1) := by decide +kernel
theorem dX5_disagreements_20 : decode cX5_disagreements 20 = .ok (.iconst 1, 1) := by decide +kernel
theorem dX5_disagreements_21 : decode cX5_disagreements 21 = .ok (.invokevirtual 59, 3) := by decide +kernel
theorem dX5_disagreements_24 : decode cX5_disagreements 24 = .ok (.ireturn, 1) := by decide +kernel
theorem dX5_disagreements_25 : decode cX5_disagreements 25 = .ok (.iconst 0, 1) := by decide +kernel
theorem dX5_disagreements_26 : decode cX5_disagreements 26 = .ok (.istore_n 3, 1) := by decide +kernel
theorem dX5_disagreements_27 : decode cX5_disagreements 27 = .ok (.iconst 0, 1) := by decide +kernel
theorem dX5_disagreements_28 : decode cX5_disagreements 28 = .ok (.istore 4, 2) := by decide +kernel
theorem dX5_disagreements_30 : decode cX5_disagreements 30 = .ok (.iload 4, 2) := by decide +kernel
theorem dX5_disagreements_32 : decode cX5_disagreements 32 = .ok (.aload_n 0, 1) := by decide +kernel
theorem dX5_disagreements_33 : decode cX5_disagreements 33 = .ok (.getfield 9, 3) := by decide +kernel
theorem dX5_disagreements_36 : decode cX5_disagreements 36 = .ok (.sipush 1550, 3) := by decide +kernel
theorem dX5_disagreements_39 : decode cX5_disagreements 39 = .ok (.iload_n 1, 1) := by decide +kernel
theorem dX5_disagreements_40 : decode cX5_disagreements 40 = .ok (.iadd, 1) := by decide +kernel
theorem dX5_disagreements_41 : decode cX5_disagreements 41 = .ok (.iaload, 1) := by decide +kernel
theorem dX5_disagreements_42 : decode cX5_disagreements 42 = .ok (.if_icmp .ge 89, 3) := by decide +kernel
theorem dX5_disagreements_45 : decode cX5_disagreements 45 = .ok (.aload_n 0, 1) := by decide +kernel
theorem dX5_disagreements_46 : decode cX5_disagreements 46 = .ok (.iload_n 2, 1) := by decide +kernel
theorem dX5_disagreements_47 : decode cX5_disagreements 47 = .ok (.aload_n 0, 1) := by decide +kernel
theorem dX5_disagreements_48 : decode cX5_disagreements 48 = .ok (.getfield 9, 3) := by decide +kernel
theorem dX5_disagreements_51 : decode cX5_disagreements 51 = .ok (.sipush 1560, 3) := by decide +kernel
theorem dX5_disagreements_54 : decode cX5_disagreements 54 = .ok (.sipush 150, 3) := by decide +kernel
theorem dX5_disagreements_57 : decode cX5_disagreements 57 = .ok (.iload_n 1, 1) := by decide +kernel
theorem dX5_disagreements_58 : decode cX5_disagreements 58 = .ok (.imul, 1) := by decide +kernel
theorem dX5_disagreements_59 : decode cX5_disagreements 59 = .ok (.iadd, 1) := by decide +kernel
theorem dX5_disagreements_60 : decode cX5_disagreements 60 = .ok (.iload 4, 2) := by decide +kernel
theorem dX5_disagreements_62 : decode cX5_disagreements 62 = .ok (.iadd, 1) := by decide +kernel
theorem dX5_disagreements_63 : decode cX5_disagreements 63 = .ok (.iaload, 1) := by decide +kernel
theorem dX5_disagreements_64 : decode cX5_disagreements 64 = .ok (.invokevirtual 114, 3) := by decide +kernel
theorem dX5_disagreements_67 : decode cX5_disagreements 67 = .ok (.istore 5, 2) := by decide +kernel
theorem dX5_disagreements_69 : decode cX5_disagreements 69 = .ok (.iconst 0, 1) := by decide +kernel
theorem dX5_disagreements_70 : decode cX5_disagreements 70 = .ok (.istore 6, 2) := by decide +kernel
theorem dX5_disagreements_72 : decode cX5_disagreements 72 = .ok (.iload 6, 2) := by decide +kernel
theorem dX5_disagreements_74 : decode cX5_disagreements 74 = .ok (.iload 4, 2) := by decide +kernel
theorem dX5_disagreements_76 : decode cX5_disagreements 76 = .ok (.if_icmp .ge 49, 3) := by decide +kernel
theorem dX5_disagreements_79 : decode cX5_disagreements 79 = .ok (.iload 5, 2) := by decide +kernel
theorem dX5_disagreements_81 : decode cX5_disagreements 81 = .ok (.ifCond .lt 44, 3) := by decide +kernel
theorem dX5_disagreements_84 : decode cX5_disagreements 84 = .ok (.iload_n 3, 1) := by decide +kernel
theorem dX5_disagreements_85 : decode cX5_disagreements 85 = .ok (.aload_n 0, 1) := by decide +kernel
theorem dX5_disagreements_86 : decode cX5_disagreements 86 = .ok (.iload_n 2, 1) := by decide +kernel
theorem dX5_disagreements_87 : decode cX5_disagreements 87 = .ok (.aload_n 0, 1) := by decide +kernel
theorem dX5_disagreements_88 : decode cX5_disagreements 88 = .ok (.getfield 9, 3) := by decide +kernel
theorem dX5_disagreements_91 : decode cX5_disagreements 91 = .ok (.sipush 1560, 3) := by decide +kernel
theorem dX5_disagreements_94 : decode cX5_disagreements 94 = .ok (.sipush 150, 3) := by decide +kernel
theorem dX5_disagreements_97 : decode cX5_disagreements 97 = .ok (.iload_n 1, 1) := by decide +kernel
theorem dX5_disagreements_98 : decode cX5_disagreements 98 = .ok (.imul, 1) := by decide +kernel
theorem dX5_disagreements_99 : decode cX5_disagreements 99 = .ok (.iadd, 1) := by decide +kernel
theorem dX5_disagreements_100 : decode cX5_disagreements 100 = .ok (.iload 6, 2) := by decide +kernel
theorem dX5_disagreements_102 : decode cX5_disagreements 102 = .ok (.iadd, 1) := by decide +kernel
theorem dX5_disagreements_103 : decode cX5_disagreements 103 = .ok (.iaload, 1) := by decide +kernel
theorem dX5_disagreements_104 : decode cX5_disagreements 104 = .ok (.invokevirtual 114, 3) := by decide +kernel
theorem dX5_disagreements_107 : decode cX5_disagreements 107 = .ok (.iload 5, 2) := by decide +kernel
theorem dX5_disagreements_109 : decode cX5_disagreements 109 = .ok (.if_icmp .le 7, 3) := by decide +kernel
theorem dX5_disagreements_112 : decode cX5_disagreements 112 = .ok (.iconst 1, 1) := by decide +kernel
theorem dX5_disagreements_113 : decode cX5_disagreements 113 = .ok (.goto 4, 3) := by decide +kernel
theorem dX5_disagreements_116 : decode cX5_disagreements 116 = .ok (.iconst 0, 1) := by decide +kernel
theorem dX5_disagreements_117 : decode cX5_disagreements 117 = .ok (.iadd, 1) := by decide +kernel
theorem dX5_disagreements_118 : decode cX5_disagreements 118 = .ok (.istore_n 3, 1) := by decide +kernel
theorem dX5_disagreements_119 : decode cX5_disagreements 119 = .ok (.iinc 6 1, 3) := by decide +kernel
theorem dX5_disagreements_122 : decode cX5_disagreements 122 = .ok (.goto (-50), 3) := by decide +kernel
theorem dX5_disagreements_125 : decode cX5_disagreements 125 = .ok (.iinc 4 1, 3) := by decide +kernel
theorem dX5_disagreements_128 : decode cX5_disagreements 128 = .ok (.goto (-98), 3) := by decide +kernel
theorem dX5_disagreements_131 : decode cX5_disagreements 131 = .ok (.iload_n 3, 1) := by decide +kernel
theorem dX5_disagreements_132 : decode cX5_disagreements 132 = .ok (.ireturn, 1) := by decide +kernel
theorem dX5_overlap_0 : decode cX5_overlap 0 = .ok (.aload_n 0, 1) := by decide +kernel
theorem dX5_overlap_1 : decode cX5_overlap 1 = .ok (.iload_n 1, 1) := by decide +kernel
theorem dX5_overlap_2 : decode cX5_overlap 2 = .ok (.invokestatic 49, 3) := by decide +kernel
theorem dX5_overlap_5 : decode cX5_overlap 5 = .ok (.ifCond .eq 10, 3) := by decide +kernel
theorem dX5_overlap_8 : decode cX5_overlap 8 = .ok (.iload_n 2, 1) := by decide +kernel
theorem dX5_overlap_9 : decode cX5_overlap 9 = .ok (.invokestatic 49, 3) := by decide +kernel
theorem dX5_overlap_12 : decode cX5_overlap 12 = .ok (.ifCond .ne 7, 3) := by decide +kernel
theorem dX5_overlap_15 : decode cX5_overlap 15 = .ok (.iconst 1, 1) := by decide +kernel
theorem dX5_overlap_16 : decode cX5_overlap 16 = .ok (.goto 21, 3) := by decide +kernel
theorem dX5_overlap_19 : decode cX5_overlap 19 = .ok (.aload_n 0, 1) := by decide +kernel
theorem dX5_overlap_20 : decode cX5_overlap 20 = .ok (.getfield 9, 3) := by decide +kernel
theorem dX5_overlap_23 : decode cX5_overlap 23 = .ok (.sipush 1550, 3) := by decide +kernel
theorem dX5_overlap_26 : decode cX5_overlap 26 = .ok (.iload_n 1, 1) := by decide +kernel
theorem dX5_overlap_27 : decode cX5_overlap 27 = .ok (.iadd, 1) := by decide +kernel
theorem dX5_overlap_28 : decode cX5_overlap 28 = .ok (.iaload, 1) := by decide +kernel
theorem dX5_overlap_29 : decode cX5_overlap 29 = .ok (.ifCond .ne 7, 3) := by decide +kernel
theorem dX5_overlap_32 : decode cX5_overlap 32 = .ok (.iconst 2, 1) := by decide +kernel
theorem dX5_overlap_33 : decode cX5_overlap 33 = .ok (.goto 4, 3) := by decide +kernel
theorem dX5_overlap_36 : decode cX5_overlap 36 = .ok (.iconst 0, 1) := by decide +kernel
theorem dX5_overlap_37 : decode cX5_overlap 37 = .ok (.putfield 38, 3) := by decide +kernel
theorem dX5_overlap_40 : decode cX5_overlap 40 = .ok (.aload_n 0, 1) := by decide +kernel
theorem dX5_overlap_41 : decode cX5_overlap 41 = .ok (.getfield 38, 3) := by decide +kernel
theorem dX5_overlap_44 : decode cX5_overlap 44 = .ok (.ifCond .eq 5, 3) := by decide +kernel
theorem dX5_overlap_47 : decode cX5_overlap 47 = .ok (.dconst 0, 1) := by decide +kernel
theorem dX5_overlap_48 : decode cX5_overlap 48 = .ok (.dreturn, 1) := by decide +kernel
theorem dX5_overlap_49 : decode cX5_overlap 49 = .ok (.iconst 0, 1) := by decide +kernel
theorem dX5_overlap_50 : decode cX5_overlap 50 = .ok (.istore_n 3, 1) := by decide +kernel
theorem dX5_overlap_51 : decode cX5_overlap 51 = .ok (.iconst 0, 1) := by decide +kernel
theorem dX5_overlap_52 : decode cX5_overlap 52 = .ok (.istore 4, 2) := by decide +kernel
theorem dX5_overlap_54 : decode cX5_overlap 54 = .ok (.iload 4, 2) := by decide +kernel
theorem dX5_overlap_56 : decode cX5_overlap 56 = .ok (.aload_n 0, 1) := by decide +kernel
theorem dX5_overlap_57 : decode cX5_overlap 57 = .ok (.getfield 9, 3) := by decide +kernel
theorem dX5_overlap_60 : decode cX5_overlap 60 = .ok (.sipush 1550, 3) := by decide +kernel
theorem dX5_overlap_63 : decode cX5_overlap 63 = .ok (.iload_n 1, 1) := by decide +kernel
theorem dX5_overlap_64 : decode cX5_overlap 64 = .ok (.iadd, 1) := by decide +kernel
theorem dX5_overlap_65 : decode cX5_overlap 65 = .ok (.iaload, 1) := by decide +kernel
theorem dX5_overlap_66 : decode cX5_overlap 66 = .ok (.if_icmp .ge 42, 3) := by decide +kernel
theorem dX5_overlap_69 : decode cX5_overlap 69 = .ok (.iload_n 3, 1) := by decide +kernel
theorem dX5_overlap_70 : decode cX5_overlap 70 = .ok (.aload_n 0, 1) := by decide +kernel
theorem dX5_overlap_71 : decode cX5_overlap 71 = .ok (.iload_n 2, 1) := by decide +kernel
theorem dX5_overlap_72 : decode cX5_overlap 72 = .ok (.aload_n 0, 1) := by decide +kernel
theorem dX5_overlap_73 : decode cX5_overlap 73 = .ok (.getfield 9, 3) := by decide +kernel
theorem dX5_overlap_76 : decode cX5_overlap 76 = .ok (.sipush 1560, 3) := by decide +kernel
theorem dX5_overlap_79 : decode cX5_overlap 79 = .ok (.sipush 150, 3) := by decide +kernel
theorem dX5_overlap_82 : decode cX5_overlap 82 = .ok (.iload_n 1, 1) := by decide +kernel
theorem dX5_overlap_83 : decode cX5_overlap 83 = .ok (.imul, 1) := by decide +kernel
theorem dX5_overlap_84 : decode cX5_overlap 84 = .ok (.iadd, 1) := by decide +kernel
theorem dX5_overlap_85 : decode cX5_overlap 85 = .ok (.iload 4, 2) := by decide +kernel
theorem dX5_overlap_87 : decode cX5_overlap 87 = .ok (.iadd, 1) := by decide +kernel
theorem dX5_overlap_88 : decode cX5_overlap 88 = .ok (.iaload, 1) := by decide +kernel
theorem dX5_overlap_89 : decode cX5_overlap 89 = .ok (.invokevirtual 72, 3) := by decide +kernel
theorem dX5_overlap_92 : decode cX5_overlap 92 = .ok (.ifCond .eq 7, 3) := by decide +kernel
theorem dX5_overlap_95 : decode cX5_overlap 95 = .ok (.iconst 1, 1) := by decide +kernel
theorem dX5_overlap_96 : decode cX5_overlap 96 = .ok (.goto 4, 3) := by decide +kernel
theorem dX5_overlap_99 : decode cX5_overlap 99 = .ok (.iconst 0, 1) := by decide +kernel
theorem dX5_overlap_100 : decode cX5_overlap 100 = .ok (.iadd, 1) := by decide +kernel
theorem dX5_overlap_101 : decode cX5_overlap 101 = .ok (.istore_n 3, 1) := by decide +kernel
theorem dX5_overlap_102 : decode cX5_overlap 102 = .ok (.iinc 4 1, 3) := by decide +kernel
theorem dX5_overlap_105 : decode cX5_overlap 105 = .ok (.goto (-51), 3) := by decide +kernel
theorem dX5_overlap_108 : decode cX5_overlap 108 = .ok (.iload_n 3, 1) := by decide +kernel
theorem dX5_overlap_109 : decode cX5_overlap 109 = .ok (.i2d, 1) := by decide +kernel
theorem dX5_overlap_110 : decode cX5_overlap 110 = .ok (.aload_n 0, 1) := by decide +kernel
theorem dX5_overlap_111 : decode cX5_overlap 111 = .ok (.getfield 9, 3) := by decide +kernel
theorem dX5_overlap_114 : decode cX5_overlap 114 = .ok (.sipush 1550, 3) := by decide +kernel
theorem dX5_overlap_117 : decode cX5_overlap 117 = .ok (.iload_n 1, 1) := by decide +kernel
theorem dX5_overlap_118 : decode cX5_overlap 118 = .ok (.iadd, 1) := by decide +kernel
theorem dX5_overlap_119 : decode cX5_overlap 119 = .ok (.iaload, 1) := by decide +kernel
theorem dX5_overlap_120 : decode cX5_overlap 120 = .ok (.i2d, 1) := by decide +kernel
theorem dX5_overlap_121 : decode cX5_overlap 121 = .ok (.ddiv, 1) := by decide +kernel
theorem dX5_overlap_122 : decode cX5_overlap 122 = .ok (.dreturn, 1) := by decide +kernel
theorem dX5_known_0 : decode cX5_known 0 = .ok (.aload_n 0, 1) := by decide +kernel
theorem dX5_known_1 : decode cX5_known 1 = .ok (.iconst 0, 1) := by decide +kernel
theorem dX5_known_2 : decode cX5_known 2 = .ok (.putfield 38, 3) := by decide +kernel
theorem dX5_known_5 : decode cX5_known 5 = .ok (.iload_n 1, 1) := by decide +kernel
theorem dX5_known_6 : decode cX5_known 6 = .ok (.invokestatic 49, 3) := by decide +kernel
theorem dX5_known_9 : decode cX5_known 9 = .ok (.ifCond .eq 17, 3) := by decide +kernel
theorem dX5_known_12 : decode cX5_known 12 = .ok (.iload_n 2, 1) := by decide +kernel
theorem dX5_known_13 : decode cX5_known 13 = .ok (.invokestatic 49, 3) := by decide +kernel
theorem dX5_known_16 : decode cX5_known 16 = .ok (.ifCond .eq 10, 3) := by decide +kernel
theorem dX5_known_19 : decode cX5_known 19 = .ok (.iload_n 3, 1) := by decide +kernel
theorem dX5_known_20 : decode cX5_known 20 = .ok (.invokestatic 49, 3) := by decide +kernel
theorem dX5_known_23 : decode cX5_known 23 = .ok (.ifCond .ne 9, 3) := by decide +kernel
theorem dX5_known_26 : decode cX5_known 26 = .ok (.aload_n 0, 1) := by decide +kernel
theorem dX5_known_27 : decode cX5_known 27 = .ok (.iconst 1, 1) := by decide +kernel
theorem dX5_known_28 : decode cX5_known 28 = .ok (.invokevirtual 59, 3) := by decide +kernel
theorem dX5_known_31 : decode cX5_known 31 = .ok (.ireturn, 1) := by decide +kernel
theorem dX5_known_32 : decode cX5_known 32 = .ok (.aload_n 0, 1) := by decide +kernel
theorem dX5_known_33 : decode cX5_known 33 = .ok (.iload_n 1, 1) := by decide +kernel
theorem dX5_known_34 : decode cX5_known 34 = .ok (.invokevirtual 53, 3) := by decide +kernel
theorem dX5_known_37 : decode cX5_known 37 = .ok (.ifCond .eq 26, 3) := by decide +kernel
theorem dX5_known_40 : decode cX5_known 40 = .ok (.aload_n 0, 1) := by decide +kernel
theorem dX5_known_41 : decode cX5_known 41 = .ok (.getfield 9, 3) := by decide +kernel
theorem dX5_known_44 : decode cX5_known 44 = .ok (.sipush 4270, 3) := by decide +kernel
theorem dX5_known_47 : decode cX5_known 47 = .ok (.bipush 36, 2) := by decide +kernel
theorem dX5_known_49 : decode cX5_known 49 = .ok (.iload_n 1, 1) := by decide +kernel
theorem dX5_known_50 : decode cX5_known 50 = .ok (.imul, 1) := by decide +kernel
theorem dX5_known_51 : decode cX5_known 51 = .ok (.iadd, 1) := by decide +kernel
theorem dX5_known_52 : decode cX5_known 52 = .ok (.bipush 6, 2) := by decide +kernel
theorem dX5_known_54 : decode cX5_known 54 = .ok (.iload_n 2, 1) := by decide +kernel
theorem dX5_known_55 : decode cX5_known 55 = .ok (.imul, 1) := by decide +kernel
theorem dX5_known_56 : decode cX5_known 56 = .ok (.iadd, 1) := by decide +kernel
theorem dX5_known_57 : decode cX5_known 57 = .ok (.iload_n 3, 1) := by decide +kernel
theorem dX5_known_58 : decode cX5_known 58 = .ok (.iadd, 1) := by decide +kernel
theorem dX5_known_59 : decode cX5_known 59 = .ok (.iaload, 1) := by decide +kernel
theorem dX5_known_60 : decode cX5_known 60 = .ok (.goto 8, 3) := by decide +kernel
theorem dX5_known_63 : decode cX5_known 63 = .ok (.aload_n 0, 1) := by decide +kernel
theorem dX5_known_64 : decode cX5_known 64 = .ok (.iconst 2, 1) := by decide +kernel
theorem dX5_known_65 : decode cX5_known 65 = .ok (.invokevirtual 59, 3) := by decide +kernel
theorem dX5_known_68 : decode cX5_known 68 = .ok (.ireturn, 1) := by decide +kernel
theorem dX5_isSafe_0 : decode cX5_isSafe 0 = .ok (.aload_n 0, 1) := by decide +kernel
theorem dX5_isSafe_1 : decode cX5_isSafe 1 = .ok (.iload_n 2, 1) := by decide +kernel
theorem dX5_isSafe_2 : decode cX5_isSafe 2 = .ok (.invokevirtual 69, 3) := by decide +kernel
theorem dX5_isSafe_5 : decode cX5_isSafe 5 = .ok (.ifCond .ne 5, 3) := by decide +kernel
theorem dX5_isSafe_8 : decode cX5_isSafe 8 = .ok (.iconst 1, 1) := by decide +kernel
theorem dX5_isSafe_9 : decode cX5_isSafe 9 = .ok (.ireturn, 1) := by decide +kernel
theorem dX5_isSafe_10 : decode cX5_isSafe 10 = .ok (.iconst 0, 1) := by decide +kernel
theorem dX5_isSafe_11 : decode cX5_isSafe 11 = .ok (.istore_n 3, 1) := by decide +kernel
theorem dX5_isSafe_12 : decode cX5_isSafe 12 = .ok (.iload_n 3, 1) := by decide +kernel
theorem dX5_isSafe_13 : decode cX5_isSafe 13 = .ok (.bipush 6, 2) := by decide +kernel
theorem dX5_isSafe_15 : decode cX5_isSafe 15 = .ok (.if_icmp .ge 60, 3) := by decide +kernel
theorem dX5_isSafe_18 : decode cX5_isSafe 18 = .ok (.aload_n 0, 1) := by decide +kernel
theorem dX5_isSafe_19 : decode cX5_isSafe 19 = .ok (.iload_n 3, 1) := by decide +kernel
theorem dX5_isSafe_20 : decode cX5_isSafe 20 = .ok (.invokevirtual 53, 3) := by decide +kernel
theorem dX5_isSafe_23 : decode cX5_isSafe 23 = .ok (.ifCond .eq 46, 3) := by decide +kernel
theorem dX5_isSafe_26 : decode cX5_isSafe 26 = .ok (.aload_n 0, 1) := by decide +kernel
theorem dX5_isSafe_27 : decode cX5_isSafe 27 = .ok (.getfield 9, 3) := by decide +kernel
theorem dX5_isSafe_30 : decode cX5_isSafe 30 = .ok (.sipush 4270, 3) := by decide +kernel
theorem dX5_isSafe_33 : decode cX5_isSafe 33 = .ok (.bipush 36, 2) := by decide +kernel
theorem dX5_isSafe_35 : decode cX5_isSafe 35 = .ok (.iload_n 1, 1) := by decide +kernel
theorem dX5_isSafe_36 : decode cX5_isSafe 36 = .ok (.imul, 1) := by decide +kernel
theorem dX5_isSafe_37 : decode cX5_isSafe 37 = .ok (.iadd, 1) := by decide +kernel
theorem dX5_isSafe_38 : decode cX5_isSafe 38 = .ok (.bipush 6, 2) := by decide +kernel
theorem dX5_isSafe_40 : decode cX5_isSafe 40 = .ok (.iload_n 3, 1) := by decide +kernel
theorem dX5_isSafe_41 : decode cX5_isSafe 41 = .ok (.imul, 1) := by decide +kernel
theorem dX5_isSafe_42 : decode cX5_isSafe 42 = .ok (.iadd, 1) := by decide +kernel
theorem dX5_isSafe_43 : decode cX5_isSafe 43 = .ok (.aload_n 0, 1) := by decide +kernel
theorem dX5_isSafe_44 : decode cX5_isSafe 44 = .ok (.getfield 9, 3) := by decide +kernel
theorem dX5_isSafe_47 : decode cX5_isSafe 47 = .ok (.bipush 50, 2) := by decide +kernel
theorem dX5_isSafe_49 : decode cX5_isSafe 49 = .ok (.iload_n 2, 1) := by decide +kernel
theorem dX5_isSafe_50 : decode cX5_isSafe 50 = .ok (.iadd, 1) := by decide +kernel
theorem dX5_isSafe_51 : decode cX5_isSafe 51 = .ok (.iaload, 1) := by decide +kernel
theorem dX5_isSafe_52 : decode cX5_isSafe 52 = .ok (.iadd, 1) := by decide +kernel
theorem dX5_isSafe_53 : decode cX5_isSafe 53 = .ok (.iaload, 1) := by decide +kernel
theorem dX5_isSafe_54 : decode cX5_isSafe 54 = .ok (.aload_n 0, 1) := by decide +kernel
theorem dX5_isSafe_55 : decode cX5_isSafe 55 = .ok (.getfield 9, 3) := by decide +kernel
theorem dX5_isSafe_58 : decode cX5_isSafe 58 = .ok (.sipush 500, 3) := by decide +kernel
theorem dX5_isSafe_61 : decode cX5_isSafe 61 = .ok (.iload_n 2, 1) := by decide +kernel
theorem dX5_isSafe_62 : decode cX5_isSafe 62 = .ok (.iadd, 1) := by decide +kernel
theorem dX5_isSafe_63 : decode cX5_isSafe 63 = .ok (.iaload, 1) := by decide +kernel
theorem dX5_isSafe_64 : decode cX5_isSafe 64 = .ok (.if_icmp .ge 5, 3) := by decide +kernel
theorem dX5_isSafe_67 : decode cX5_isSafe 67 = .ok (.iconst 0, 1) := by decide +kernel
theorem dX5_isSafe_68 : decode cX5_isSafe 68 = .ok (.ireturn, 1) := by decide +kernel
theorem dX5_isSafe_69 : decode cX5_isSafe 69 = .ok (.iinc 3 1, 3) := by decide +kernel
theorem dX5_isSafe_72 : decode cX5_isSafe 72 = .ok (.goto (-60), 3) := by decide +kernel
theorem dX5_isSafe_75 : decode cX5_isSafe 75 = .ok (.iconst 1, 1) := by decide +kernel
theorem dX5_isSafe_76 : decode cX5_isSafe 76 = .ok (.ireturn, 1) := by decide +kernel
theorem dX5_isStable_0 : decode cX5_isStable 0 = .ok (.aload_n 0, 1) := by decide +kernel
theorem dX5_isStable_1 : decode cX5_isStable 1 = .ok (.iload_n 1, 1) := by decide +kernel
theorem dX5_isStable_2 : decode cX5_isStable 2 = .ok (.invokestatic 49, 3) := by decide +kernel
theorem dX5_isStable_5 : decode cX5_isStable 5 = .ok (.ifCond .eq 11, 3) := by decide +kernel
theorem dX5_isStable_8 : decode cX5_isStable 8 = .ok (.aload_n 0, 1) := by decide +kernel
theorem dX5_isStable_9 : decode cX5_isStable 9 = .ok (.iload_n 2, 1) := by decide +kernel
theorem dX5_isStable_10 : decode cX5_isStable 10 = .ok (.invokevirtual 56, 3) := by decide +kernel
theorem dX5_isStable_13 : decode cX5_isStable 13 = .ok (.ifCond .ne 7, 3) := by decide +kernel
theorem dX5_isStable_16 : decode cX5_isStable 16 = .ok (.iconst 1, 1) := by decide +kernel
theorem dX5_isStable_17 : decode cX5_isStable 17 = .ok (.goto 29, 3) := by decide +kernel
theorem dX5_isStable_20 : decode cX5_isStable 20 = .ok (.aload_n 0, 1) := by decide +kernel
theorem dX5_isStable_21 : decode cX5_isStable 21 = .ok (.iload_n 1, 1) := by decide +kernel
theorem dX5_isStable_22 : decode cX5_isStable 22 = .ok (.invokevirtual 53, 3) := by decide +kernel
theorem dX5_isStable_25 : decode cX5_isStable 25 = .ok (.ifCond .ne 7, 3) := by decide +kernel
theorem dX5_isStable_28 : decode cX5_isStable 28 = .ok (.iconst 2, 1) := by decide +kernel
theorem dX5_isStable_29 : decode cX5_isStable 29 = .ok (.goto 17, 3) := by decide +kernel
theorem dX5_isStable_32 : decode cX5_isStable 32 = .ok (.aload_n 0, 1) := by decide +kernel
theorem dX5_isStable_33 : decode cX5_isStable 33 = .ok (.iload_n 1, 1) := by decide +kernel
theorem dX5_isStable_34 : decode cX5_isStable 34 = .ok (.iload_n 2, 1) := by decide +kernel
theorem dX5_isStable_35 : decode cX5_isStable 35 = .ok (.invokevirtual 72, 3) := by decide +kernel
theorem dX5_isStable_38 : decode cX5_isStable 38 = .ok (.ifCond .ne 7, 3) := by decide +kernel
theorem dX5_isStable_41 : decode cX5_isStable 41 = .ok (.iconst 3, 1) := by decide +kernel
theorem dX5_isStable_42 : decode cX5_isStable 42 = .ok (.goto 4, 3) := by decide +kernel
theorem dX5_isStable_45 : decode cX5_isStable 45 = .ok (.iconst 0, 1) := by decide +kernel
theorem dX5_isStable_46 : decode cX5_isStable 46 = .ok (.putfield 38, 3) := by decide +kernel
theorem dX5_isStable_49 : decode cX5_isStable 49 = .ok (.aload_n 0, 1) := by decide +kernel
theorem dX5_isStable_50 : decode cX5_isStable 50 = .ok (.getfield 38, 3) := by decide +kernel
theorem dX5_isStable_53 : decode cX5_isStable 53 = .ok (.ifCond .ne 16, 3) := by decide +kernel
theorem dX5_isStable_56 : decode cX5_isStable 56 = .ok (.aload_n 0, 1) := by decide +kernel
theorem dX5_isStable_57 : decode cX5_isStable 57 = .ok (.iload_n 1, 1) := by decide +kernel
theorem dX5_isStable_58 : decode cX5_isStable 58 = .ok (.iload_n 2, 1) := by decide +kernel
theorem dX5_isStable_59 : decode cX5_isStable 59 = .ok (.invokevirtual 117, 3) := by decide +kernel
theorem dX5_isStable_62 : decode cX5_isStable 62 = .ok (.ifCond .eq 7, 3) := by decide +kernel
theorem dX5_isStable_65 : decode cX5_isStable 65 = .ok (.iconst 1, 1) := by decide +kernel
theorem dX5_isStable_66 : decode cX5_isStable 66 = .ok (.goto 4, 3) := by decide +kernel
theorem dX5_isStable_69 : decode cX5_isStable 69 = .ok (.iconst 0, 1) := by decide +kernel
theorem dX5_isStable_70 : decode cX5_isStable 70 = .ok (.ireturn, 1) := by decide +kernel
theorem dX5_unstable_0 : decode cX5_unstable 0 = .ok (.aload_n 0, 1) := by decide +kernel
theorem dX5_unstable_1 : decode cX5_unstable 1 = .ok (.iload_n 1, 1) := by decide +kernel
theorem dX5_unstable_2 : decode cX5_unstable 2 = .ok (.invokevirtual 96, 3) := by decide +kernel
theorem dX5_unstable_5 : decode cX5_unstable 5 = .ok (.ifCond .ne 5, 3) := by decide +kernel
theorem dX5_unstable_8 : decode cX5_unstable 8 = .ok (.iconst 0, 1) := by decide +kernel
theorem dX5_unstable_9 : decode cX5_unstable 9 = .ok (.ireturn, 1) := by decide +kernel
theorem dX5_unstable_10 : decode cX5_unstable 10 = .ok (.iconst 0, 1) := by decide +kernel
theorem dX5_unstable_11 : decode cX5_unstable 11 = .ok (.istore_n 2, 1) := by decide +kernel
theorem dX5_unstable_12 : decode cX5_unstable 12 = .ok (.iconst 0, 1) := by decide +kernel
theorem dX5_unstable_13 : decode cX5_unstable 13 = .ok (.istore_n 3, 1) := by decide +kernel
theorem dX5_unstable_14 : decode cX5_unstable 14 = .ok (.iload_n 3, 1) := by decide +kernel
theorem dX5_unstable_15 : decode cX5_unstable 15 = .ok (.aload_n 0, 1) := by decide +kernel
theorem dX5_unstable_16 : decode cX5_unstable 16 = .ok (.getfield 9, 3) := by decide +kernel
theorem dX5_unstable_19 : decode cX5_unstable 19 = .ok (.bipush 44, 2) := by decide +kernel
theorem dX5_unstable_21 : decode cX5_unstable 21 = .ok (.iaload, 1) := by decide +kernel
theorem dX5_unstable_22 : decode cX5_unstable 22 = .ok (.if_icmp .ge 35, 3) := by decide +kernel
theorem dX5_unstable_25 : decode cX5_unstable 25 = .ok (.iload_n 2, 1) := by decide +kernel
theorem dX5_unstable_26 : decode cX5_unstable 26 = .ok (.aload_n 0, 1) := by decide +kernel
theorem dX5_unstable_27 : decode cX5_unstable 27 = .ok (.iload_n 1, 1) := by decide +kernel
theorem dX5_unstable_28 : decode cX5_unstable 28 = .ok (.iload_n 3, 1) := by decide +kernel
theorem dX5_unstable_29 : decode cX5_unstable 29 = .ok (.invokevirtual 72, 3) := by decide +kernel
theorem dX5_unstable_32 : decode cX5_unstable 32 = .ok (.ifCond .eq 16, 3) := by decide +kernel
theorem dX5_unstable_35 : decode cX5_unstable 35 = .ok (.aload_n 0, 1) := by decide +kernel
theorem dX5_unstable_36 : decode cX5_unstable 36 = .ok (.iload_n 1, 1) := by decide +kernel
theorem dX5_unstable_37 : decode cX5_unstable 37 = .ok (.iload_n 3, 1) := by decide +kernel
theorem dX5_unstable_38 : decode cX5_unstable 38 = .ok (.invokevirtual 117, 3) := by decide +kernel
theorem dX5_unstable_41 : decode cX5_unstable 41 = .ok (.ifCond .ne 7, 3) := by decide +kernel
theorem dX5_unstable_44 : decode cX5_unstable 44 = .ok (.iconst 1, 1) := by decide +kernel
theorem dX5_unstable_45 : decode cX5_unstable 45 = .ok (.goto 4, 3) := by decide +kernel
theorem dX5_unstable_48 : decode cX5_unstable 48 = .ok (.iconst 0, 1) := by decide +kernel
theorem dX5_unstable_49 : decode cX5_unstable 49 = .ok (.iadd, 1) := by decide +kernel
theorem dX5_unstable_50 : decode cX5_unstable 50 = .ok (.istore_n 2, 1) := by decide +kernel
theorem dX5_unstable_51 : decode cX5_unstable 51 = .ok (.iinc 3 1, 3) := by decide +kernel
theorem dX5_unstable_54 : decode cX5_unstable 54 = .ok (.goto (-40), 3) := by decide +kernel
theorem dX5_unstable_57 : decode cX5_unstable 57 = .ok (.iload_n 2, 1) := by decide +kernel
theorem dX5_unstable_58 : decode cX5_unstable 58 = .ok (.ireturn, 1) := by decide +kernel
theorem dX5_isWithAll_0 : decode cX5_isWithAll 0 = .ok (.iconst 0, 1) := by decide +kernel
theorem dX5_isWithAll_1 : decode cX5_isWithAll 1 = .ok (.istore_n 2, 1) := by decide +kernel
theorem dX5_isWithAll_2 : decode cX5_isWithAll 2 = .ok (.iload_n 2, 1) := by decide +kernel
theorem dX5_isWithAll_3 : decode cX5_isWithAll 3 = .ok (.bipush 6, 2) := by decide +kernel
theorem dX5_isWithAll_5 : decode cX5_isWithAll 5 = .ok (.if_icmp .ge 28, 3) := by decide +kernel
theorem dX5_isWithAll_8 : decode cX5_isWithAll 8 = .ok (.aload_n 0, 1) := by decide +kernel
theorem dX5_isWithAll_9 : decode cX5_isWithAll 9 = .ok (.iload_n 2, 1) := by decide +kernel
theorem dX5_isWithAll_10 : decode cX5_isWithAll 10 = .ok (.invokevirtual 53, 3) := by decide +kernel
theorem dX5_isWithAll_13 : decode cX5_isWithAll 13 = .ok (.ifCond .eq 14, 3) := by decide +kernel
theorem dX5_isWithAll_16 : decode cX5_isWithAll 16 = .ok (.aload_n 0, 1) := by decide +kernel
theorem dX5_isWithAll_17 : decode cX5_isWithAll 17 = .ok (.iload_n 2, 1) := by decide +kernel
theorem dX5_isWithAll_18 : decode cX5_isWithAll 18 = .ok (.iload_n 1, 1) := by decide +kernel
theorem dX5_isWithAll_19 : decode cX5_isWithAll 19 = .ok (.invokevirtual 72, 3) := by decide +kernel
theorem dX5_isWithAll_22 : decode cX5_isWithAll 22 = .ok (.ifCond .ne 5, 3) := by decide +kernel
theorem dX5_isWithAll_25 : decode cX5_isWithAll 25 = .ok (.iconst 0, 1) := by decide +kernel
theorem dX5_isWithAll_26 : decode cX5_isWithAll 26 = .ok (.ireturn, 1) := by decide +kernel
theorem dX5_isWithAll_27 : decode cX5_isWithAll 27 = .ok (.iinc 2 1, 3) := by decide +kernel
theorem dX5_isWithAll_30 : decode cX5_isWithAll 30 = .ok (.goto (-28), 3) := by decide +kernel
theorem dX5_isWithAll_33 : decode cX5_isWithAll 33 = .ok (.iconst 1, 1) := by decide +kernel
theorem dX5_isWithAll_34 : decode cX5_isWithAll 34 = .ok (.ireturn, 1) := by decide +kernel
theorem dX5_isEverywhere_0 : decode cX5_isEverywhere 0 = .ok (.aload_n 0, 1) := by decide +kernel
theorem dX5_isEverywhere_1 : decode cX5_isEverywhere 1 = .ok (.iload_n 1, 1) := by decide +kernel
theorem dX5_isEverywhere_2 : decode cX5_isEverywhere 2 = .ok (.invokevirtual 108, 3) := by decide +kernel
theorem dX5_isEverywhere_5 : decode cX5_isEverywhere 5 = .ok (.ifCond .eq 15, 3) := by decide +kernel
theorem dX5_isEverywhere_8 : decode cX5_isEverywhere 8 = .ok (.aload_n 0, 1) := by decide +kernel
theorem dX5_isEverywhere_9 : decode cX5_isEverywhere 9 = .ok (.iload_n 1, 1) := by decide +kernel
theorem dX5_isEverywhere_10 : decode cX5_isEverywhere 10 = .ok (.invokevirtual 120, 3) := by decide +kernel
theorem dX5_isEverywhere_13 : decode cX5_isEverywhere 13 = .ok (.ifCond .eq 7, 3) := by decide +kernel
theorem dX5_isEverywhere_16 : decode cX5_isEverywhere 16 = .ok (.iconst 1, 1) := by decide +kernel
theorem dX5_isEverywhere_17 : decode cX5_isEverywhere 17 = .ok (.goto 4, 3) := by decide +kernel
theorem dX5_isEverywhere_20 : decode cX5_isEverywhere 20 = .ok (.iconst 0, 1) := by decide +kernel
theorem dX5_isEverywhere_21 : decode cX5_isEverywhere 21 = .ok (.ireturn, 1) := by decide +kernel
theorem dX5_firstUnaware_0 : decode cX5_firstUnaware 0 = .ok (.aload_n 0, 1) := by decide +kernel
theorem dX5_firstUnaware_1 : decode cX5_firstUnaware 1 = .ok (.iload_n 1, 1) := by decide +kernel
theorem dX5_firstUnaware_2 : decode cX5_firstUnaware 2 = .ok (.invokevirtual 108, 3) := by decide +kernel
theorem dX5_firstUnaware_5 : decode cX5_firstUnaware 5 = .ok (.ifCond .ne 5, 3) := by decide +kernel
theorem dX5_firstUnaware_8 : decode cX5_firstUnaware 8 = .ok (.iconst 0, 1) := by decide +kernel
theorem dX5_firstUnaware_9 : decode cX5_firstUnaware 9 = .ok (.ireturn, 1) := by decide +kernel
theorem dX5_firstUnaware_10 : decode cX5_firstUnaware 10 = .ok (.iconst 0, 1) := by decide +kernel
theorem dX5_firstUnaware_11 : decode cX5_firstUnaware 11 = .ok (.istore_n 2, 1) := by decide +kernel
theorem dX5_firstUnaware_12 : decode cX5_firstUnaware 12 = .ok (.iload_n 2, 1) := by decide +kernel
theorem dX5_firstUnaware_13 : decode cX5_firstUnaware 13 = .ok (.bipush 6, 2) := by decide +kernel
theorem dX5_firstUnaware_15 : decode cX5_firstUnaware 15 = .ok (.if_icmp .ge 36, 3) := by decide +kernel
theorem dX5_firstUnaware_18 : decode cX5_firstUnaware 18 = .ok (.aload_n 0, 1) := by decide +kernel
theorem dX5_firstUnaware_19 : decode cX5_firstUnaware 19 = .ok (.iload_n 1, 1) := by decide +kernel
theorem dX5_firstUnaware_20 : decode cX5_firstUnaware 20 = .ok (.invokevirtual 120, 3) := by decide +kernel
theorem dX5_firstUnaware_23 : decode cX5_firstUnaware 23 = .ok (.ifCond .eq 28, 3) := by decide +kernel
theorem dX5_firstUnaware_26 : decode cX5_firstUnaware 26 = .ok (.aload_n 0, 1) := by decide +kernel
theorem dX5_firstUnaware_27 : decode cX5_firstUnaware 27 = .ok (.iload_n 2, 1) := by decide +kernel
theorem dX5_firstUnaware_28 : decode cX5_firstUnaware 28 = .ok (.invokevirtual 53, 3) := by decide +kernel
theorem dX5_firstUnaware_31 : decode cX5_firstUnaware 31 = .ok (.ifCond .eq 14, 3) := by decide +kernel
theorem dX5_firstUnaware_34 : decode cX5_firstUnaware 34 = .ok (.aload_n 0, 1) := by decide +kernel
theorem dX5_firstUnaware_35 : decode cX5_firstUnaware 35 = .ok (.iload_n 2, 1) := by decide +kernel
theorem dX5_firstUnaware_36 : decode cX5_firstUnaware 36 = .ok (.iload_n 1, 1) := by decide +kernel
theorem dX5_firstUnaware_37 : decode cX5_firstUnaware 37 = .ok (.invokevirtual 117, 3) := by decide +kernel
theorem dX5_firstUnaware_40 : decode cX5_firstUnaware 40 = .ok (.ifCond .ne 5, 3) := by decide +kernel
theorem dX5_firstUnaware_43 : decode cX5_firstUnaware 43 = .ok (.iload_n 2, 1) := by decide +kernel
theorem dX5_firstUnaware_44 : decode cX5_firstUnaware 44 = .ok (.ireturn, 1) := by decide +kernel
theorem dX5_firstUnaware_45 : decode cX5_firstUnaware 45 = .ok (.iinc 2 1, 3) := by decide +kernel
theorem dX5_firstUnaware_48 : decode cX5_firstUnaware 48 = .ok (.goto (-36), 3) := by decide +kernel
theorem dX5_firstUnaware_51 : decode cX5_firstUnaware 51 = .ok (.aload_n 0, 1) := by decide +kernel
theorem dX5_firstUnaware_52 : decode cX5_firstUnaware 52 = .ok (.iconst 2, 1) := by decide +kernel
theorem dX5_firstUnaware_53 : decode cX5_firstUnaware 53 = .ok (.invokevirtual 59, 3) := by decide +kernel
theorem dX5_firstUnaware_56 : decode cX5_firstUnaware 56 = .ok (.ireturn, 1) := by decide +kernel
theorem dX5_append_0 : decode cX5_append 0 = .ok (.aload_n 0, 1) := by decide +kernel
theorem dX5_append_1 : decode cX5_append 1 = .ok (.iconst 0, 1) := by decide +kernel
theorem dX5_append_2 : decode cX5_append 2 = .ok (.putfield 38, 3) := by decide +kernel
theorem dX5_append_5 : decode cX5_append 5 = .ok (.iload_n 1, 1) := by decide +kernel
theorem dX5_append_6 : decode cX5_append 6 = .ok (.bipush 32, 2) := by decide +kernel
theorem dX5_append_8 : decode cX5_append 8 = .ok (.bipush 126, 2) := by decide +kernel
theorem dX5_append_10 : decode cX5_append 10 = .ok (.invokestatic 41, 3) := by decide +kernel
theorem dX5_append_13 : decode cX5_append 13 = .ok (.ifCond .ne 9, 3) := by decide +kernel
theorem dX5_append_16 : decode cX5_append 16 = .ok (.aload_n 0, 1) := by decide +kernel
theorem dX5_append_17 : decode cX5_append 17 = .ok (.iconst 1, 1) := by decide +kernel
theorem dX5_append_18 : decode cX5_append 18 = .ok (.invokevirtual 59, 3) := by decide +kernel
theorem dX5_append_21 : decode cX5_append 21 = .ok (.ireturn, 1) := by decide +kernel
theorem dX5_append_22 : decode cX5_append 22 = .ok (.aload_n 0, 1) := by decide +kernel
theorem dX5_append_23 : decode cX5_append 23 = .ok (.getfield 123, 3) := by decide +kernel
theorem dX5_append_26 : decode cX5_append 26 = .ok (.bipush 60, 2) := by decide +kernel
theorem dX5_append_28 : decode cX5_append 28 = .ok (.if_icmp .ne 9, 3) := by decide +kernel
theorem dX5_append_31 : decode cX5_append 31 = .ok (.aload_n 0, 1) := by decide +kernel
theorem dX5_append_32 : decode cX5_append 32 = .ok (.iconst 2, 1) := by decide +kernel
theorem dX5_append_33 : decode cX5_append 33 = .ok (.invokevirtual 59, 3) := by decide +kernel
theorem dX5_append_36 : decode cX5_append 36 = .ok (.ireturn, 1) := by decide +kernel
theorem dX5_append_37 : decode cX5_append 37 = .ok (.aload_n 0, 1) := by decide +kernel
theorem dX5_append_38 : decode cX5_append 38 = .ok (.getfield 19, 3) := by decide +kernel
theorem dX5_append_41 : decode cX5_append 41 = .ok (.aload_n 0, 1) := by decide +kernel
theorem dX5_append_42 : decode cX5_append 42 = .ok (.getfield 123, 3) := by decide +kernel
theorem dX5_append_45 : decode cX5_append 45 = .ok (.iload_n 1, 1) := by decide +kernel
theorem dX5_append_46 : decode cX5_append 46 = .ok (.iastore, 1) := by decide +kernel
theorem dX5_append_47 : decode cX5_append 47 = .ok (.aload_n 0, 1) := by decide +kernel
theorem dX5_append_48 : decode cX5_append 48 = .ok (.dup, 1) := by decide +kernel
theorem dX5_append_49 : decode cX5_append 49 = .ok (.getfield 123, 3) := by decide +kernel
theorem dX5_append_52 : decode cX5_append 52 = .ok (.iconst 1, 1) := by decide +kernel
theorem dX5_append_53 : decode cX5_append 53 = .ok (.iadd, 1) := by decide +kernel
theorem dX5_append_54 : decode cX5_append 54 = .ok (.putfield 123, 3) := by decide +kernel
theorem dX5_append_57 : decode cX5_append 57 = .ok (.aload_n 0, 1) := by decide +kernel
theorem dX5_append_58 : decode cX5_append 58 = .ok (.getfield 123, 3) := by decide +kernel
theorem dX5_append_61 : decode cX5_append 61 = .ok (.ireturn, 1) := by decide +kernel
theorem dX5_here_0 : decode cX5_here 0 = .ok (.aload_n 0, 1) := by decide +kernel
theorem dX5_here_1 : decode cX5_here 1 = .ok (.getfield 126, 3) := by decide +kernel
theorem dX5_here_4 : decode cX5_here 4 = .ok (.aload_n 0, 1) := by decide +kernel
theorem dX5_here_5 : decode cX5_here 5 = .ok (.getfield 123, 3) := by decide +kernel
theorem dX5_here_8 : decode cX5_here 8 = .ok (.if_icmp .ge 15, 3) := by decide +kernel
theorem dX5_here_11 : decode cX5_here 11 = .ok (.aload_n 0, 1) := by decide +kernel
theorem dX5_here_12 : decode cX5_here 12 = .ok (.getfield 19, 3) := by decide +kernel
theorem dX5_here_15 : decode cX5_here 15 = .ok (.aload_n 0, 1) := by decide +kernel
theorem dX5_here_16 : decode cX5_here 16 = .ok (.getfield 126, 3) := by decide +kernel
theorem dX5_here_19 : decode cX5_here 19 = .ok (.iaload, 1) := by decide +kernel
theorem dX5_here_20 : decode cX5_here 20 = .ok (.goto 4, 3) := by decide +kernel
theorem dX5_here_23 : decode cX5_here 23 = .ok (.iconst (-1), 1) := by decide +kernel
theorem dX5_here_24 : decode cX5_here 24 = .ok (.ireturn, 1) := by decide +kernel
theorem dX5_digit_0 : decode cX5_digit 0 = .ok (.aload_n 0, 1) := by decide +kernel
theorem dX5_digit_1 : decode cX5_digit 1 = .ok (.invokevirtual 129, 3) := by decide +kernel
theorem dX5_digit_4 : decode cX5_digit 4 = .ok (.bipush 48, 2) := by decide +kernel
theorem dX5_digit_6 : decode cX5_digit 6 = .ok (.isub, 1) := by decide +kernel
theorem dX5_digit_7 : decode cX5_digit 7 = .ok (.istore_n 2, 1) := by decide +kernel
theorem dX5_digit_8 : decode cX5_digit 8 = .ok (.aload_n 0, 1) := by decide +kernel
theorem dX5_digit_9 : decode cX5_digit 9 = .ok (.dup, 1) := by decide +kernel
theorem dX5_digit_10 : decode cX5_digit 10 = .ok (.getfield 132, 3) := by decide +kernel
theorem dX5_digit_13 : decode cX5_digit 13 = .ok (.iload_n 2, 1) := by decide +kernel
theorem dX5_digit_14 : decode cX5_digit 14 = .ok (.iconst 0, 1) := by decide +kernel
theorem dX5_digit_15 : decode cX5_digit 15 = .ok (.iload_n 1, 1) := by decide +kernel
theorem dX5_digit_16 : decode cX5_digit 16 = .ok (.invokestatic 41, 3) := by decide +kernel
theorem dX5_digit_19 : decode cX5_digit 19 = .ok (.ifCond .ne 7, 3) := by decide +kernel
theorem dX5_digit_22 : decode cX5_digit 22 = .ok (.iconst 1, 1) := by decide +kernel
theorem dX5_digit_23 : decode cX5_digit 23 = .ok (.goto 4, 3) := by decide +kernel
theorem dX5_digit_26 : decode cX5_digit 26 = .ok (.iconst 0, 1) := by decide +kernel
theorem dX5_digit_27 : decode cX5_digit 27 = .ok (.ior, 1) := by decide +kernel
theorem dX5_digit_28 : decode cX5_digit 28 = .ok (.putfield 132, 3) := by decide +kernel
theorem dX5_digit_31 : decode cX5_digit 31 = .ok (.aload_n 0, 1) := by decide +kernel
theorem dX5_digit_32 : decode cX5_digit 32 = .ok (.dup, 1) := by decide +kernel
theorem dX5_digit_33 : decode cX5_digit 33 = .ok (.getfield 126, 3) := by decide +kernel
theorem dX5_digit_36 : decode cX5_digit 36 = .ok (.aload_n 0, 1) := by decide +kernel
theorem dX5_digit_37 : decode cX5_digit 37 = .ok (.getfield 132, 3) := by decide +kernel
theorem dX5_digit_40 : decode cX5_digit 40 = .ok (.ifCond .eq 7, 3) := by decide +kernel
theorem dX5_digit_43 : decode cX5_digit 43 = .ok (.iconst 0, 1) := by decide +kernel
theorem dX5_digit_44 : decode cX5_digit 44 = .ok (.goto 4, 3) := by decide +kernel
theorem dX5_digit_47 : decode cX5_digit 47 = .ok (.iconst 1, 1) := by decide +kernel
theorem dX5_digit_48 : decode cX5_digit 48 = .ok (.iadd, 1) := by decide +kernel
theorem dX5_digit_49 : decode cX5_digit 49 = .ok (.putfield 126, 3) := by decide +kernel
theorem dX5_digit_52 : decode cX5_digit 52 = .ok (.iload_n 2, 1) := by decide +kernel
theorem dX5_digit_53 : decode cX5_digit 53 = .ok (.ireturn, 1) := by decide +kernel
theorem dX5_sign_0 : decode cX5_sign 0 = .ok (.aload_n 0, 1) := by decide +kernel
theorem dX5_sign_1 : decode cX5_sign 1 = .ok (.dup, 1) := by decide +kernel
theorem dX5_sign_2 : decode cX5_sign 2 = .ok (.getfield 132, 3) := by decide +kernel
theorem dX5_sign_5 : decode cX5_sign 5 = .ok (.aload_n 0, 1) := by decide +kernel
theorem dX5_sign_6 : decode cX5_sign 6 = .ok (.invokevirtual 129, 3) := by decide +kernel
theorem dX5_sign_9 : decode cX5_sign 9 = .ok (.iload_n 1, 1) := by decide +kernel
theorem dX5_sign_10 : decode cX5_sign 10 = .ok (.if_icmp .eq 7, 3) := by decide +kernel
theorem dX5_sign_13 : decode cX5_sign 13 = .ok (.iconst 1, 1) := by decide +kernel
theorem dX5_sign_14 : decode cX5_sign 14 = .ok (.goto 4, 3) := by decide +kernel
theorem dX5_sign_17 : decode cX5_sign 17 = .ok (.iconst 0, 1) := by decide +kernel
theorem dX5_sign_18 : decode cX5_sign 18 = .ok (.ior, 1) := by decide +kernel
theorem dX5_sign_19 : decode cX5_sign 19 = .ok (.putfield 132, 3) := by decide +kernel
theorem dX5_sign_22 : decode cX5_sign 22 = .ok (.aload_n 0, 1) := by decide +kernel
theorem dX5_sign_23 : decode cX5_sign 23 = .ok (.dup, 1) := by decide +kernel
theorem dX5_sign_24 : decode cX5_sign 24 = .ok (.getfield 126, 3) := by decide +kernel
theorem dX5_sign_27 : decode cX5_sign 27 = .ok (.aload_n 0, 1) := by decide +kernel
theorem dX5_sign_28 : decode cX5_sign 28 = .ok (.getfield 132, 3) := by decide +kernel
theorem dX5_sign_31 : decode cX5_sign 31 = .ok (.ifCond .eq 7, 3) := by decide +kernel
theorem dX5_sign_34 : decode cX5_sign 34 = .ok (.iconst 0, 1) := by decide +kernel
theorem dX5_sign_35 : decode cX5_sign 35 = .ok (.goto 4, 3) := by decide +kernel
theorem dX5_sign_38 : decode cX5_sign 38 = .ok (.iconst 1, 1) := by decide +kernel
theorem dX5_sign_39 : decode cX5_sign 39 = .ok (.iadd, 1) := by decide +kernel
theorem dX5_sign_40 : decode cX5_sign 40 = .ok (.putfield 126, 3) := by decide +kernel
theorem dX5_sign_43 : decode cX5_sign 43 = .ok (.return_, 1) := by decide +kernel
theorem dX5_number_0 : decode cX5_number 0 = .ok (.aload_n 0, 1) := by decide +kernel
theorem dX5_number_1 : decode cX5_number 1 = .ok (.getfield 132, 3) := by decide +kernel
theorem dX5_number_4 : decode cX5_number 4 = .ok (.ifCond .eq 7, 3) := by decide +kernel
theorem dX5_number_7 : decode cX5_number 7 = .ok (.iconst 0, 1) := by decide +kernel
theorem dX5_number_8 : decode cX5_number 8 = .ok (.goto 9, 3) := by decide +kernel
theorem dX5_number_11 : decode cX5_number 11 = .ok (.aload_n 0, 1) := by decide +kernel
theorem dX5_number_12 : decode cX5_number 12 = .ok (.bipush 9, 2) := by decide +kernel
theorem dX5_number_14 : decode cX5_number 14 = .ok (.invokevirtual 136, 3) := by decide +kernel
theorem dX5_number_17 : decode cX5_number 17 = .ok (.istore_n 1, 1) := by decide +kernel
theorem dX5_number_18 : decode cX5_number 18 = .ok (.iconst 1, 1) := by decide +kernel
theorem dX5_number_19 : decode cX5_number 19 = .ok (.istore_n 2, 1) := by decide +kernel
theorem dX5_number_20 : decode cX5_number 20 = .ok (.iload_n 2, 1) := by decide +kernel
theorem dX5_number_21 : decode cX5_number 21 = .ok (.iconst 3, 1) := by decide +kernel
theorem dX5_number_22 : decode cX5_number 22 = .ok (.if_icmp .ge 42, 3) := by decide +kernel
theorem dX5_number_25 : decode cX5_number 25 = .ok (.aload_n 0, 1) := by decide +kernel
theorem dX5_number_26 : decode cX5_number 26 = .ok (.getfield 132, 3) := by decide +kernel
theorem dX5_number_29 : decode cX5_number 29 = .ok (.ifCond .ne 35, 3) := by decide +kernel
theorem dX5_number_32 : decode cX5_number 32 = .ok (.aload_n 0, 1) := by decide +kernel
theorem dX5_number_33 : decode cX5_number 33 = .ok (.invokevirtual 129, 3) := by decide +kernel
theorem dX5_number_36 : decode cX5_number 36 = .ok (.bipush 48, 2) := by decide +kernel
theorem dX5_number_38 : decode cX5_number 38 = .ok (.bipush 57, 2) := by decide +kernel
theorem dX5_number_40 : decode cX5_number 40 = .ok (.invokestatic 41, 3) := by decide +kernel
theorem dX5_number_43 : decode cX5_number 43 = .ok (.ifCond .eq 21, 3) := by decide +kernel
theorem dX5_number_46 : decode cX5_number 46 = .ok (.bipush 10, 2) := by decide +kernel
theorem dX5_number_48 : decode cX5_number 48 = .ok (.iload_n 1, 1) := by decide +kernel
theorem dX5_number_49 : decode cX5_number 49 = .ok (.imul, 1) := by decide +kernel
theorem dX5_number_50 : decode cX5_number 50 = .ok (.aload_n 0, 1) := by decide +kernel
theorem dX5_number_51 : decode cX5_number 51 = .ok (.bipush 9, 2) := by decide +kernel
theorem dX5_number_53 : decode cX5_number 53 = .ok (.invokevirtual 136, 3) := by decide +kernel
theorem dX5_number_56 : decode cX5_number 56 = .ok (.iadd, 1) := by decide +kernel
theorem dX5_number_57 : decode cX5_number 57 = .ok (.istore_n 1, 1) := by decide +kernel
theorem dX5_number_58 : decode cX5_number 58 = .ok (.iinc 2 1, 3) := by decide +kernel
theorem dX5_number_61 : decode cX5_number 61 = .ok (.goto (-41), 3) := by decide +kernel
theorem dX5_number_64 : decode cX5_number 64 = .ok (.iload_n 1, 1) := by decide +kernel
theorem dX5_number_65 : decode cX5_number 65 = .ok (.ireturn, 1) := by decide +kernel
theorem dX5_event_0 : decode cX5_event 0 = .ok (.aload_n 0, 1) := by decide +kernel
theorem dX5_event_1 : decode cX5_event 1 = .ok (.invokevirtual 129, 3) := by decide +kernel
theorem dX5_event_4 : decode cX5_event 4 = .ok (.istore_n 2, 1) := by decide +kernel
theorem dX5_event_5 : decode cX5_event 5 = .ok (.aload_n 0, 1) := by decide +kernel
theorem dX5_event_6 : decode cX5_event 6 = .ok (.dup, 1) := by decide +kernel
theorem dX5_event_7 : decode cX5_event 7 = .ok (.getfield 132, 3) := by decide +kernel
theorem dX5_event_10 : decode cX5_event 10 = .ok (.iload_n 2, 1) := by decide +kernel
theorem dX5_event_11 : decode cX5_event 11 = .ok (.bipush 98, 2) := by decide +kernel
theorem dX5_event_13 : decode cX5_event 13 = .ok (.if_icmp .eq 37, 3) := by decide +kernel
theorem dX5_event_16 : decode cX5_event 16 = .ok (.iload_n 2, 1) := by decide +kernel
theorem dX5_event_17 : decode cX5_event 17 = .ok (.bipush 97, 2) := by decide +kernel
theorem dX5_event_19 : decode cX5_event 19 = .ok (.if_icmp .eq 31, 3) := by decide +kernel
theorem dX5_event_22 : decode cX5_event 22 = .ok (.iload_n 2, 1) := by decide +kernel
theorem dX5_event_23 : decode cX5_event 23 = .ok (.bipush 103, 2) := by decide +kernel
theorem dX5_event_25 : decode cX5_event 25 = .ok (.if_icmp .eq 25, 3) := by decide +kernel
theorem dX5_event_28 : decode cX5_event 28 = .ok (.iload_n 2, 1) := by decide +kernel
theorem dX5_event_29 : decode cX5_event 29 = .ok (.bipush 106, 2) := by decide +kernel
theorem dX5_event_31 : decode cX5_event 31 = .ok (.if_icmp .eq 19, 3) := by decide +kernel
theorem dX5_event_34 : decode cX5_event 34 = .ok (.iload_n 2, 1) := by decide +kernel
theorem dX5_event_35 : decode cX5_event 35 = .ok (.bipush 108, 2) := by decide +kernel
theorem dX5_event_37 : decode cX5_event 37 = .ok (.if_icmp .eq 13, 3) := by decide +kernel
theorem dX5_event_40 : decode cX5_event 40 = .ok (.iload_n 2, 1) := by decide +kernel
theorem dX5_event_41 : decode cX5_event 41 = .ok (.bipush 105, 2) := by decide +kernel
theorem dX5_event_43 : decode cX5_event 43 = .ok (.if_icmp .eq 7, 3) := by decide +kernel
theorem dX5_event_46 : decode cX5_event 46 = .ok (.iconst 1, 1) := by decide +kernel
theorem dX5_event_47 : decode cX5_event 47 = .ok (.goto 4, 3) := by decide +kernel
theorem dX5_event_50 : decode cX5_event 50 = .ok (.iconst 0, 1) := by decide +kernel
theorem dX5_event_51 : decode cX5_event 51 = .ok (.ior, 1) := by decide +kernel
theorem dX5_event_52 : decode cX5_event 52 = .ok (.putfield 132, 3) := by decide +kernel
theorem dX5_event_55 : decode cX5_event 55 = .ok (.aload_n 0, 1) := by decide +kernel
theorem dX5_event_56 : decode cX5_event 56 = .ok (.getfield 132, 3) := by decide +kernel
theorem dX5_event_59 : decode cX5_event 59 = .ok (.ifCond .eq 4, 3) := by decide +kernel
theorem dX5_event_62 : decode cX5_event 62 = .ok (.return_, 1) := by decide +kernel
theorem dX5_event_63 : decode cX5_event 63 = .ok (.aload_n 0, 1) := by decide +kernel
theorem dX5_event_64 : decode cX5_event 64 = .ok (.dup, 1) := by decide +kernel
theorem dX5_event_65 : decode cX5_event 65 = .ok (.getfield 126, 3) := by decide +kernel
theorem dX5_event_68 : decode cX5_event 68 = .ok (.iconst 1, 1) := by decide +kernel
theorem dX5_event_69 : decode cX5_event 69 = .ok (.iadd, 1) := by decide +kernel
theorem dX5_event_70 : decode cX5_event 70 = .ok (.putfield 126, 3) := by decide +kernel
theorem dX5_event_73 : decode cX5_event 73 = .ok (.aload_n 0, 1) := by decide +kernel
theorem dX5_event_74 : decode cX5_event 74 = .ok (.getfield 29, 3) := by decide +kernel
theorem dX5_event_77 : decode cX5_event 77 = .ok (.iload_n 1, 1) := by decide +kernel
theorem dX5_event_78 : decode cX5_event 78 = .ok (.iload_n 2, 1) := by decide +kernel
theorem dX5_event_79 : decode cX5_event 79 = .ok (.iastore, 1) := by decide +kernel
theorem dX5_event_80 : decode cX5_event 80 = .ok (.iload_n 2, 1) := by decide +kernel
theorem dX5_event_81 : decode cX5_event 81 = .ok (.bipush 105, 2) := by decide +kernel
theorem dX5_event_83 : decode cX5_event 83 = .ok (.if_icmp .ne 4, 3) := by decide +kernel
theorem dX5_event_86 : decode cX5_event 86 = .ok (.return_, 1) := by decide +kernel
theorem dX5_event_87 : decode cX5_event 87 = .ok (.aload_n 0, 1) := by decide +kernel
theorem dX5_event_88 : decode cX5_event 88 = .ok (.getfield 32, 3) := by decide +kernel
theorem dX5_event_91 : decode cX5_event 91 = .ok (.iload_n 1, 1) := by decide +kernel
theorem dX5_event_92 : decode cX5_event 92 = .ok (.aload_n 0, 1) := by decide +kernel
theorem dX5_event_93 : decode cX5_event 93 = .ok (.iconst 5, 1) := by decide +kernel
theorem dX5_event_94 : decode cX5_event 94 = .ok (.invokevirtual 136, 3) := by decide +kernel
theorem dX5_event_97 : decode cX5_event 97 = .ok (.iastore, 1) := by decide +kernel
theorem dX5_event_98 : decode cX5_event 98 = .ok (.aload_n 0, 1) := by decide +kernel
theorem dX5_event_99 : decode cX5_event 99 = .ok (.getfield 132, 3) := by decide +kernel
theorem dX5_event_102 : decode cX5_event 102 = .ok (.ifCond .ne 15, 3) := by decide +kernel
theorem dX5_event_105 : decode cX5_event 105 = .ok (.iload_n 2, 1) := by decide +kernel
theorem dX5_event_106 : decode cX5_event 106 = .ok (.bipush 106, 2) := by decide +kernel
theorem dX5_event_108 : decode cX5_event 108 = .ok (.if_icmp .eq 9, 3) := by decide +kernel
theorem dX5_event_111 : decode cX5_event 111 = .ok (.iload_n 2, 1) := by decide +kernel
theorem dX5_event_112 : decode cX5_event 112 = .ok (.bipush 108, 2) := by decide +kernel
theorem dX5_event_114 : decode cX5_event 114 = .ok (.if_icmp .ne 4, 3) := by decide +kernel
theorem dX5_event_117 : decode cX5_event 117 = .ok (.return_, 1) := by decide +kernel
theorem dX5_event_118 : decode cX5_event 118 = .ok (.aload_n 0, 1) := by decide +kernel
theorem dX5_event_119 : decode cX5_event 119 = .ok (.iload_n 2, 1) := by decide +kernel
theorem dX5_event_120 : decode cX5_event 120 = .ok (.bipush 98, 2) := by decide +kernel
theorem dX5_event_122 : decode cX5_event 122 = .ok (.if_icmp .ne 8, 3) := by decide +kernel
theorem dX5_event_125 : decode cX5_event 125 = .ok (.bipush 61, 2) := by decide +kernel
theorem dX5_event_127 : decode cX5_event 127 = .ok (.goto 5, 3) := by decide +kernel
theorem dX5_event_130 : decode cX5_event 130 = .ok (.bipush 44, 2) := by decide +kernel
theorem dX5_event_132 : decode cX5_event 132 = .ok (.invokevirtual 139, 3) := by decide +kernel
theorem dX5_event_135 : decode cX5_event 135 = .ok (.aload_n 0, 1) := by decide +kernel
theorem dX5_event_136 : decode cX5_event 136 = .ok (.getfield 132, 3) := by decide +kernel
theorem dX5_event_139 : decode cX5_event 139 = .ok (.ifCond .eq 4, 3) := by decide +kernel
theorem dX5_event_142 : decode cX5_event 142 = .ok (.return_, 1) := by decide +kernel
theorem dX5_event_143 : decode cX5_event 143 = .ok (.iload_n 2, 1) := by decide +kernel
theorem dX5_event_144 : decode cX5_event 144 = .ok (.bipush 103, 2) := by decide +kernel
theorem dX5_event_146 : decode cX5_event 146 = .ok (.if_icmp .ne 15, 3) := by decide +kernel
theorem dX5_event_149 : decode cX5_event 149 = .ok (.aload_n 0, 1) := by decide +kernel
theorem dX5_event_150 : decode cX5_event 150 = .ok (.getfield 35, 3) := by decide +kernel
theorem dX5_event_153 : decode cX5_event 153 = .ok (.iload_n 1, 1) := by decide +kernel
theorem dX5_event_154 : decode cX5_event 154 = .ok (.aload_n 0, 1) := by decide +kernel
theorem dX5_event_155 : decode cX5_event 155 = .ok (.iconst 5, 1) := by decide +kernel
theorem dX5_event_156 : decode cX5_event 156 = .ok (.invokevirtual 136, 3) := by decide +kernel
theorem dX5_event_159 : decode cX5_event 159 = .ok (.iastore, 1) := by decide +kernel
theorem dX5_event_160 : decode cX5_event 160 = .ok (.return_, 1) := by decide +kernel
theorem dX5_event_161 : decode cX5_event 161 = .ok (.iload_n 2, 1) := by decide +kernel
theorem dX5_event_162 : decode cX5_event 162 = .ok (.bipush 98, 2) := by decide +kernel
theorem dX5_event_164 : decode cX5_event 164 = .ok (.if_icmp .ne 16, 3) := by decide +kernel
theorem dX5_event_167 : decode cX5_event 167 = .ok (.aload_n 0, 1) := by decide +kernel
theorem dX5_event_168 : decode cX5_event 168 = .ok (.invokevirtual 129, 3) := by decide +kernel
theorem dX5_event_171 : decode cX5_event 171 = .ok (.bipush 45, 2) := by decide +kernel
theorem dX5_event_173 : decode cX5_event 173 = .ok (.if_icmp .ne 7, 3) := by decide +kernel
theorem dX5_event_176 : decode cX5_event 176 = .ok (.iconst 1, 1) := by decide +kernel
theorem dX5_event_177 : decode cX5_event 177 = .ok (.goto 4, 3) := by decide +kernel
theorem dX5_event_180 : decode cX5_event 180 = .ok (.iconst 0, 1) := by decide +kernel
theorem dX5_event_181 : decode cX5_event 181 = .ok (.istore_n 3, 1) := by decide +kernel
theorem dX5_event_182 : decode cX5_event 182 = .ok (.aload_n 0, 1) := by decide +kernel
theorem dX5_event_183 : decode cX5_event 183 = .ok (.dup, 1) := by decide +kernel
theorem dX5_event_184 : decode cX5_event 184 = .ok (.getfield 126, 3) := by decide +kernel
theorem dX5_event_187 : decode cX5_event 187 = .ok (.iload_n 3, 1) := by decide +kernel
theorem dX5_event_188 : decode cX5_event 188 = .ok (.ifCond .eq 7, 3) := by decide +kernel
theorem dX5_event_191 : decode cX5_event 191 = .ok (.iconst 1, 1) := by decide +kernel
theorem dX5_event_192 : decode cX5_event 192 = .ok (.goto 4, 3) := by decide +kernel
theorem dX5_event_195 : decode cX5_event 195 = .ok (.iconst 0, 1) := by decide +kernel
theorem dX5_event_196 : decode cX5_event 196 = .ok (.iadd, 1) := by decide +kernel
theorem dX5_event_197 : decode cX5_event 197 = .ok (.putfield 126, 3) := by decide +kernel
theorem dX5_event_200 : decode cX5_event 200 = .ok (.aload_n 0, 1) := by decide +kernel
theorem dX5_event_201 : decode cX5_event 201 = .ok (.invokevirtual 143, 3) := by decide +kernel
theorem dX5_event_204 : decode cX5_event 204 = .ok (.istore 4, 2) := by decide +kernel
theorem dX5_event_206 : decode cX5_event 206 = .ok (.aload_n 0, 1) := by decide +kernel
theorem dX5_event_207 : decode cX5_event 207 = .ok (.getfield 35, 3) := by decide +kernel
theorem dX5_event_210 : decode cX5_event 210 = .ok (.iload_n 1, 1) := by decide +kernel
theorem dX5_event_211 : decode cX5_event 211 = .ok (.iload_n 3, 1) := by decide +kernel
theorem dX5_event_212 : decode cX5_event 212 = .ok (.ifCond .eq 9, 3) := by decide +kernel
theorem dX5_event_215 : decode cX5_event 215 = .ok (.iload 4, 2) := by decide +kernel
theorem dX5_event_217 : decode cX5_event 217 = .ok (.ineg, 1) := by decide +kernel
theorem dX5_event_218 : decode cX5_event 218 = .ok (.goto 5, 3) := by decide +kernel
theorem dX5_event_221 : decode cX5_event 221 = .ok (.iload 4, 2) := by decide +kernel
theorem dX5_event_223 : decode cX5_event 223 = .ok (.iastore, 1) := by decide +kernel
theorem dX5_event_224 : decode cX5_event 224 = .ok (.return_, 1) := by decide +kernel
theorem dX5_does_0 : decode cX5_does 0 = .ok (.aload_n 0, 1) := by decide +kernel
theorem dX5_does_1 : decode cX5_does 1 = .ok (.getfield 29, 3) := by decide +kernel
theorem dX5_does_4 : decode cX5_does 4 = .ok (.iload_n 1, 1) := by decide +kernel
theorem dX5_does_5 : decode cX5_does 5 = .ok (.iaload, 1) := by decide +kernel
theorem dX5_does_6 : decode cX5_does 6 = .ok (.bipush 98, 2) := by decide +kernel
theorem dX5_does_8 : decode cX5_does 8 = .ok (.if_icmp .ne 22, 3) := by decide +kernel
theorem dX5_does_11 : decode cX5_does 11 = .ok (.aload_n 0, 1) := by decide +kernel
theorem dX5_does_12 : decode cX5_does 12 = .ok (.aload_n 0, 1) := by decide +kernel
theorem dX5_does_13 : decode cX5_does 13 = .ok (.getfield 32, 3) := by decide +kernel
theorem dX5_does_16 : decode cX5_does 16 = .ok (.iload_n 1, 1) := by decide +kernel
theorem dX5_does_17 : decode cX5_does 17 = .ok (.iaload, 1) := by decide +kernel
theorem dX5_does_18 : decode cX5_does 18 = .ok (.aload_n 0, 1) := by decide +kernel
theorem dX5_does_19 : decode cX5_does 19 = .ok (.getfield 35, 3) := by decide +kernel
theorem dX5_does_22 : decode cX5_does 22 = .ok (.iload_n 1, 1) := by decide +kernel
theorem dX5_does_23 : decode cX5_does 23 = .ok (.iaload, 1) := by decide +kernel
theorem dX5_does_24 : decode cX5_does 24 = .ok (.invokevirtual 146, 3) := by decide +kernel
theorem dX5_does_27 : decode cX5_does 27 = .ok (.goto 115, 3) := by decide +kernel
theorem dX5_does_30 : decode cX5_does 30 = .ok (.aload_n 0, 1) := by decide +kernel
theorem dX5_does_31 : decode cX5_does 31 = .ok (.getfield 29, 3) := by decide +kernel
theorem dX5_does_34 : decode cX5_does 34 = .ok (.iload_n 1, 1) := by decide +kernel
theorem dX5_does_35 : decode cX5_does 35 = .ok (.iaload, 1) := by decide +kernel
theorem dX5_does_36 : decode cX5_does 36 = .ok (.bipush 97, 2) := by decide +kernel
theorem dX5_does_38 : decode cX5_does 38 = .ok (.if_icmp .ne 22, 3) := by decide +kernel
theorem dX5_does_41 : decode cX5_does 41 = .ok (.aload_n 0, 1) := by decide +kernel
theorem dX5_does_42 : decode cX5_does 42 = .ok (.aload_n 0, 1) := by decide +kernel
theorem dX5_does_43 : decode cX5_does 43 = .ok (.getfield 32, 3) := by decide +kernel
theorem dX5_does_46 : decode cX5_does 46 = .ok (.iload_n 1, 1) := by decide +kernel
theorem dX5_does_47 : decode cX5_does 47 = .ok (.iaload, 1) := by decide +kernel
theorem dX5_does_48 : decode cX5_does 48 = .ok (.aload_n 0, 1) := by decide +kernel
theorem dX5_does_49 : decode cX5_does 49 = .ok (.getfield 35, 3) := by decide +kernel
theorem dX5_does_52 : decode cX5_does 52 = .ok (.iload_n 1, 1) := by decide +kernel
theorem dX5_does_53 : decode cX5_does 53 = .ok (.iaload, 1) := by decide +kernel
theorem dX5_does_54 : decode cX5_does 54 = .ok (.invokevirtual 149, 3) := by decide +kernel
theorem dX5_does_57 : decode cX5_does 57 = .ok (.goto 85, 3) := by decide +kernel
theorem dX5_does_60 : decode cX5_does 60 = .ok (.aload_n 0, 1) := by decide +kernel
theorem dX5_does_61 : decode cX5_does 61 = .ok (.getfield 29, 3) := by decide +kernel
theorem dX5_does_64 : decode cX5_does 64 = .ok (.iload_n 1, 1) := by decide +kernel
theorem dX5_does_65 : decode cX5_does 65 = .ok (.iaload, 1) := by decide +kernel
theorem dX5_does_66 : decode cX5_does 66 = .ok (.bipush 103, 2) := by decide +kernel
theorem dX5_does_68 : decode cX5_does 68 = .ok (.if_icmp .ne 22, 3) := by decide +kernel
theorem dX5_does_71 : decode cX5_does 71 = .ok (.aload_n 0, 1) := by decide +kernel
theorem dX5_does_72 : decode cX5_does 72 = .ok (.aload_n 0, 1) := by decide +kernel
theorem dX5_does_73 : decode cX5_does 73 = .ok (.getfield 32, 3) := by decide +kernel
theorem dX5_does_76 : decode cX5_does 76 = .ok (.iload_n 1, 1) := by decide +kernel
theorem dX5_does_77 : decode cX5_does 77 = .ok (.iaload, 1) := by decide +kernel
theorem dX5_does_78 : decode cX5_does 78 = .ok (.aload_n 0, 1) := by decide +kernel
theorem dX5_does_79 : decode cX5_does 79 = .ok (.getfield 35, 3) := by decide +kernel
theorem dX5_does_82 : decode cX5_does 82 = .ok (.iload_n 1, 1) := by decide +kernel
theorem dX5_does_83 : decode cX5_does 83 = .ok (.iaload, 1) := by decide +kernel
theorem dX5_does_84 : decode cX5_does 84 = .ok (.invokevirtual 152, 3) := by decide +kernel
theorem dX5_does_87 : decode cX5_does 87 = .ok (.goto 55, 3) := by decide +kernel
theorem dX5_does_90 : decode cX5_does 90 = .ok (.aload_n 0, 1) := by decide +kernel
theorem dX5_does_91 : decode cX5_does 91 = .ok (.getfield 29, 3) := by decide +kernel
theorem dX5_does_94 : decode cX5_does 94 = .ok (.iload_n 1, 1) := by decide +kernel
theorem dX5_does_95 : decode cX5_does 95 = .ok (.iaload, 1) := by decide +kernel
theorem dX5_does_96 : decode cX5_does 96 = .ok (.bipush 106, 2) := by decide +kernel
theorem dX5_does_98 : decode cX5_does 98 = .ok (.if_icmp .ne 16, 3) := by decide +kernel
theorem dX5_does_101 : decode cX5_does 101 = .ok (.aload_n 0, 1) := by decide +kernel
theorem dX5_does_102 : decode cX5_does 102 = .ok (.aload_n 0, 1) := by decide +kernel
theorem dX5_does_103 : decode cX5_does 103 = .ok (.getfield 32, 3) := by decide +kernel
theorem dX5_does_106 : decode cX5_does 106 = .ok (.iload_n 1, 1) := by decide +kernel
theorem dX5_does_107 : decode cX5_does 107 = .ok (.iaload, 1) := by decide +kernel
theorem dX5_does_108 : decode cX5_does 108 = .ok (.invokevirtual 155, 3) := by decide +kernel
theorem dX5_does_111 : decode cX5_does 111 = .ok (.goto 31, 3) := by decide +kernel
theorem dX5_does_114 : decode cX5_does 114 = .ok (.aload_n 0, 1) := by decide +kernel
theorem dX5_does_115 : decode cX5_does 115 = .ok (.getfield 29, 3) := by decide +kernel
theorem dX5_does_118 : decode cX5_does 118 = .ok (.iload_n 1, 1) := by decide +kernel
theorem dX5_does_119 : decode cX5_does 119 = .ok (.iaload, 1) := by decide +kernel
theorem dX5_does_120 : decode cX5_does 120 = .ok (.bipush 108, 2) := by decide +kernel
theorem dX5_does_122 : decode cX5_does 122 = .ok (.if_icmp .ne 16, 3) := by decide +kernel
theorem dX5_does_125 : decode cX5_does 125 = .ok (.aload_n 0, 1) := by decide +kernel
theorem dX5_does_126 : decode cX5_does 126 = .ok (.aload_n 0, 1) := by decide +kernel
theorem dX5_does_127 : decode cX5_does 127 = .ok (.getfield 32, 3) := by decide +kernel
theorem dX5_does_130 : decode cX5_does 130 = .ok (.iload_n 1, 1) := by decide +kernel
theorem dX5_does_131 : decode cX5_does 131 = .ok (.iaload, 1) := by decide +kernel
theorem dX5_does_132 : decode cX5_does 132 = .ok (.invokevirtual 158, 3) := by decide +kernel
theorem dX5_does_135 : decode cX5_does 135 = .ok (.goto 7, 3) := by decide +kernel
theorem dX5_does_138 : decode cX5_does 138 = .ok (.aload_n 0, 1) := by decide +kernel
theorem dX5_does_139 : decode cX5_does 139 = .ok (.invokevirtual 161, 3) := by decide +kernel
theorem dX5_does_142 : decode cX5_does 142 = .ok (.istore_n 2, 1) := by decide +kernel
theorem dX5_does_143 : decode cX5_does 143 = .ok (.return_, 1) := by decide +kernel
theorem dX5_run_0 : decode cX5_run 0 = .ok (.aload_n 0, 1) := by decide +kernel
theorem dX5_run_1 : decode cX5_run 1 = .ok (.iconst 0, 1) := by decide +kernel
theorem dX5_run_2 : decode cX5_run 2 = .ok (.putfield 126, 3) := by decide +kernel
theorem dX5_run_5 : decode cX5_run 5 = .ok (.aload_n 0, 1) := by decide +kernel
theorem dX5_run_6 : decode cX5_run 6 = .ok (.iconst 0, 1) := by decide +kernel
theorem dX5_run_7 : decode cX5_run 7 = .ok (.putfield 132, 3) := by decide +kernel
theorem dX5_run_10 : decode cX5_run 10 = .ok (.iconst 0, 1) := by decide +kernel
theorem dX5_run_11 : decode cX5_run 11 = .ok (.istore_n 1, 1) := by decide +kernel
theorem dX5_run_12 : decode cX5_run 12 = .ok (.iconst 1, 1) := by decide +kernel
theorem dX5_run_13 : decode cX5_run 13 = .ok (.istore_n 2, 1) := by decide +kernel
theorem dX5_run_14 : decode cX5_run 14 = .ok (.iload_n 2, 1) := by decide +kernel
theorem dX5_run_15 : decode cX5_run 15 = .ok (.ifCond .eq 54, 3) := by decide +kernel
theorem dX5_run_18 : decode cX5_run 18 = .ok (.aload_n 0, 1) := by decide +kernel
theorem dX5_run_19 : decode cX5_run 19 = .ok (.iload_n 1, 1) := by decide +kernel
theorem dX5_run_20 : decode cX5_run 20 = .ok (.invokevirtual 164, 3) := by decide +kernel
theorem dX5_run_23 : decode cX5_run 23 = .ok (.iinc 1 1, 3) := by decide +kernel
theorem dX5_run_26 : decode cX5_run 26 = .ok (.aload_n 0, 1) := by decide +kernel
theorem dX5_run_27 : decode cX5_run 27 = .ok (.getfield 132, 3) := by decide +kernel
theorem dX5_run_30 : decode cX5_run 30 = .ok (.ifCond .ne 16, 3) := by decide +kernel
theorem dX5_run_33 : decode cX5_run 33 = .ok (.aload_n 0, 1) := by decide +kernel
theorem dX5_run_34 : decode cX5_run 34 = .ok (.invokevirtual 129, 3) := by decide +kernel
theorem dX5_run_37 : decode cX5_run 37 = .ok (.bipush 59, 2) := by decide +kernel
theorem dX5_run_39 : decode cX5_run 39 = .ok (.if_icmp .ne 7, 3) := by decide +kernel
theorem dX5_run_42 : decode cX5_run 42 = .ok (.iconst 1, 1) := by decide +kernel
theorem dX5_run_43 : decode cX5_run 43 = .ok (.goto 4, 3) := by decide +kernel
theorem dX5_run_46 : decode cX5_run 46 = .ok (.iconst 0, 1) := by decide +kernel
theorem dX5_run_47 : decode cX5_run 47 = .ok (.istore_n 2, 1) := by decide +kernel
theorem dX5_run_48 : decode cX5_run 48 = .ok (.aload_n 0, 1) := by decide +kernel
theorem dX5_run_49 : decode cX5_run 49 = .ok (.dup, 1) := by decide +kernel
theorem dX5_run_50 : decode cX5_run 50 = .ok (.getfield 126, 3) := by decide +kernel
theorem dX5_run_53 : decode cX5_run 53 = .ok (.iload_n 2, 1) := by decide +kernel
theorem dX5_run_54 : decode cX5_run 54 = .ok (.ifCond .eq 7, 3) := by decide +kernel
theorem dX5_run_57 : decode cX5_run 57 = .ok (.iconst 1, 1) := by decide +kernel
theorem dX5_run_58 : decode cX5_run 58 = .ok (.goto 4, 3) := by decide +kernel
theorem dX5_run_61 : decode cX5_run 61 = .ok (.iconst 0, 1) := by decide +kernel
theorem dX5_run_62 : decode cX5_run 62 = .ok (.iadd, 1) := by decide +kernel
theorem dX5_run_63 : decode cX5_run 63 = .ok (.putfield 126, 3) := by decide +kernel
theorem dX5_run_66 : decode cX5_run 66 = .ok (.goto (-52), 3) := by decide +kernel
theorem dX5_run_69 : decode cX5_run 69 = .ok (.aload_n 0, 1) := by decide +kernel
theorem dX5_run_70 : decode cX5_run 70 = .ok (.dup, 1) := by decide +kernel
theorem dX5_run_71 : decode cX5_run 71 = .ok (.getfield 132, 3) := by decide +kernel
theorem dX5_run_74 : decode cX5_run 74 = .ok (.aload_n 0, 1) := by decide +kernel
theorem dX5_run_75 : decode cX5_run 75 = .ok (.getfield 126, 3) := by decide +kernel
theorem dX5_run_78 : decode cX5_run 78 = .ok (.aload_n 0, 1) := by decide +kernel
theorem dX5_run_79 : decode cX5_run 79 = .ok (.getfield 123, 3) := by decide +kernel
theorem dX5_run_82 : decode cX5_run 82 = .ok (.if_icmp .ge 7, 3) := by decide +kernel
theorem dX5_run_85 : decode cX5_run 85 = .ok (.iconst 1, 1) := by decide +kernel
theorem dX5_run_86 : decode cX5_run 86 = .ok (.goto 4, 3) := by decide +kernel
theorem dX5_run_89 : decode cX5_run 89 = .ok (.iconst 0, 1) := by decide +kernel
theorem dX5_run_90 : decode cX5_run 90 = .ok (.ior, 1) := by decide +kernel
theorem dX5_run_91 : decode cX5_run 91 = .ok (.putfield 132, 3) := by decide +kernel
theorem dX5_run_94 : decode cX5_run 94 = .ok (.aload_n 0, 1) := by decide +kernel
theorem dX5_run_95 : decode cX5_run 95 = .ok (.iconst 0, 1) := by decide +kernel
theorem dX5_run_96 : decode cX5_run 96 = .ok (.putfield 123, 3) := by decide +kernel
theorem dX5_run_99 : decode cX5_run 99 = .ok (.aload_n 0, 1) := by decide +kernel
theorem dX5_run_100 : decode cX5_run 100 = .ok (.getfield 132, 3) := by decide +kernel
theorem dX5_run_103 : decode cX5_run 103 = .ok (.ifCond .eq 17, 3) := by decide +kernel
theorem dX5_run_106 : decode cX5_run 106 = .ok (.aload_n 0, 1) := by decide +kernel
theorem dX5_run_107 : decode cX5_run 107 = .ok (.aload_n 0, 1) := by decide +kernel
theorem dX5_run_108 : decode cX5_run 108 = .ok (.getfield 126, 3) := by decide +kernel
theorem dX5_run_111 : decode cX5_run 111 = .ok (.putfield 22, 3) := by decide +kernel
theorem dX5_run_114 : decode cX5_run 114 = .ok (.aload_n 0, 1) := by decide +kernel
theorem dX5_run_115 : decode cX5_run 115 = .ok (.iconst 1, 1) := by decide +kernel
theorem dX5_run_116 : decode cX5_run 116 = .ok (.invokevirtual 59, 3) := by decide +kernel
theorem dX5_run_119 : decode cX5_run 119 = .ok (.ireturn, 1) := by decide +kernel
theorem dX5_run_120 : decode cX5_run 120 = .ok (.aload_n 0, 1) := by decide +kernel
theorem dX5_run_121 : decode cX5_run 121 = .ok (.getfield 9, 3) := by decide +kernel
theorem dX5_run_124 : decode cX5_run 124 = .ok (.aload_n 0, 1) := by decide +kernel
theorem dX5_run_125 : decode cX5_run 125 = .ok (.getfield 16, 3) := by decide +kernel
theorem dX5_run_128 : decode cX5_run 128 = .ok (.invokestatic 167, 3) := by decide +kernel
theorem dX5_run_131 : decode cX5_run 131 = .ok (.iconst 0, 1) := by decide +kernel
theorem dX5_run_132 : decode cX5_run 132 = .ok (.istore_n 3, 1) := by decide +kernel
theorem dX5_run_133 : decode cX5_run 133 = .ok (.iload_n 3, 1) := by decide +kernel
theorem dX5_run_134 : decode cX5_run 134 = .ok (.iload_n 1, 1) := by decide +kernel
theorem dX5_run_135 : decode cX5_run 135 = .ok (.if_icmp .ge 41, 3) := by decide +kernel
theorem dX5_run_138 : decode cX5_run 138 = .ok (.aload_n 0, 1) := by decide +kernel
theorem dX5_run_139 : decode cX5_run 139 = .ok (.iload_n 3, 1) := by decide +kernel
theorem dX5_run_140 : decode cX5_run 140 = .ok (.invokevirtual 171, 3) := by decide +kernel
theorem dX5_run_143 : decode cX5_run 143 = .ok (.aload_n 0, 1) := by decide +kernel
theorem dX5_run_144 : decode cX5_run 144 = .ok (.getfield 38, 3) := by decide +kernel
theorem dX5_run_147 : decode cX5_run 147 = .ok (.ifCond .ne 6, 3) := by decide +kernel
theorem dX5_run_150 : decode cX5_run 150 = .ok (.goto 20, 3) := by decide +kernel
theorem dX5_run_153 : decode cX5_run 153 = .ok (.aload_n 0, 1) := by decide +kernel
theorem dX5_run_154 : decode cX5_run 154 = .ok (.getfield 16, 3) := by decide +kernel
theorem dX5_run_157 : decode cX5_run 157 = .ok (.aload_n 0, 1) := by decide +kernel
theorem dX5_run_158 : decode cX5_run 158 = .ok (.getfield 9, 3) := by decide +kernel
theorem dX5_run_161 : decode cX5_run 161 = .ok (.invokestatic 167, 3) := by decide +kernel
theorem dX5_run_164 : decode cX5_run 164 = .ok (.aload_n 0, 1) := by decide +kernel
theorem dX5_run_165 : decode cX5_run 165 = .ok (.iconst 2, 1) := by decide +kernel
theorem dX5_run_166 : decode cX5_run 166 = .ok (.invokevirtual 59, 3) := by decide +kernel
theorem dX5_run_169 : decode cX5_run 169 = .ok (.ireturn, 1) := by decide +kernel
theorem dX5_run_170 : decode cX5_run 170 = .ok (.iinc 3 1, 3) := by decide +kernel
theorem dX5_run_173 : decode cX5_run 173 = .ok (.goto (-40), 3) := by decide +kernel
theorem dX5_run_176 : decode cX5_run 176 = .ok (.aload_n 0, 1) := by decide +kernel
theorem dX5_run_177 : decode cX5_run 177 = .ok (.iconst 0, 1) := by decide +kernel
theorem dX5_run_178 : decode cX5_run 178 = .ok (.putfield 38, 3) := by decide +kernel
theorem dX5_run_181 : decode cX5_run 181 = .ok (.iload_n 1, 1) := by decide +kernel
theorem dX5_run_182 : decode cX5_run 182 = .ok (.ireturn, 1) := by decide +kernel
theorem dX5_errorPosition_0 : decode cX5_errorPosition 0 = .ok (.aload_n 0, 1) := by decide +kernel
theorem dX5_errorPosition_1 : decode cX5_errorPosition 1 = .ok (.aload_n 0, 1) := by decide +kernel
theorem dX5_errorPosition_2 : decode cX5_errorPosition 2 = .ok (.getfield 22, 3) := by decide +kernel
theorem dX5_errorPosition_5 : decode cX5_errorPosition 5 = .ok (.ifCond .ge 7, 3) := by decide +kernel
theorem dX5_errorPosition_8 : decode cX5_errorPosition 8 = .ok (.iconst 1, 1) := by decide +kernel
theorem dX5_errorPosition_9 : decode cX5_errorPosition 9 = .ok (.goto 4, 3) := by decide +kernel
theorem dX5_errorPosition_12 : decode cX5_errorPosition 12 = .ok (.iconst 0, 1) := by decide +kernel
theorem dX5_errorPosition_13 : decode cX5_errorPosition 13 = .ok (.putfield 38, 3) := by decide +kernel
theorem dX5_errorPosition_16 : decode cX5_errorPosition 16 = .ok (.aload_n 0, 1) := by decide +kernel
theorem dX5_errorPosition_17 : decode cX5_errorPosition 17 = .ok (.getfield 22, 3) := by decide +kernel
theorem dX5_errorPosition_20 : decode cX5_errorPosition 20 = .ok (.ifCond .ge 7, 3) := by decide +kernel
theorem dX5_errorPosition_23 : decode cX5_errorPosition 23 = .ok (.iconst 0, 1) := by decide +kernel
theorem dX5_errorPosition_24 : decode cX5_errorPosition 24 = .ok (.goto 7, 3) := by decide +kernel
theorem dX5_errorPosition_27 : decode cX5_errorPosition 27 = .ok (.aload_n 0, 1) := by decide +kernel
theorem dX5_errorPosition_28 : decode cX5_errorPosition 28 = .ok (.getfield 22, 3) := by decide +kernel
theorem dX5_errorPosition_31 : decode cX5_errorPosition 31 = .ok (.ireturn, 1) := by decide +kernel
theorem dX5_saveSnapshot_0 : decode cX5_saveSnapshot 0 = .ok (.aload_n 0, 1) := by decide +kernel
theorem dX5_saveSnapshot_1 : decode cX5_saveSnapshot 1 = .ok (.iconst 0, 1) := by decide +kernel
theorem dX5_saveSnapshot_2 : decode cX5_saveSnapshot 2 = .ok (.putfield 38, 3) := by decide +kernel
theorem dX5_saveSnapshot_5 : decode cX5_saveSnapshot 5 = .ok (.aload_n 0, 1) := by decide +kernel
theorem dX5_saveSnapshot_6 : decode cX5_saveSnapshot 6 = .ok (.getfield 9, 3) := by decide +kernel
theorem dX5_saveSnapshot_9 : decode cX5_saveSnapshot 9 = .ok (.aload_n 0, 1) := by decide +kernel
theorem dX5_saveSnapshot_10 : decode cX5_saveSnapshot 10 = .ok (.getfield 13, 3) := by decide +kernel
theorem dX5_saveSnapshot_13 : decode cX5_saveSnapshot 13 = .ok (.invokestatic 167, 3) := by decide +kernel
theorem dX5_saveSnapshot_16 : decode cX5_saveSnapshot 16 = .ok (.aload_n 0, 1) := by decide +kernel
theorem dX5_saveSnapshot_17 : decode cX5_saveSnapshot 17 = .ok (.iconst 1, 1) := by decide +kernel
theorem dX5_saveSnapshot_18 : decode cX5_saveSnapshot 18 = .ok (.putfield 174, 3) := by decide +kernel
theorem dX5_saveSnapshot_21 : decode cX5_saveSnapshot 21 = .ok (.aload_n 0, 1) := by decide +kernel
theorem dX5_saveSnapshot_22 : decode cX5_saveSnapshot 22 = .ok (.getfield 9, 3) := by decide +kernel
theorem dX5_saveSnapshot_25 : decode cX5_saveSnapshot 25 = .ok (.bipush 44, 2) := by decide +kernel
theorem dX5_saveSnapshot_27 : decode cX5_saveSnapshot 27 = .ok (.iaload, 1) := by decide +kernel
theorem dX5_saveSnapshot_28 : decode cX5_saveSnapshot 28 = .ok (.ireturn, 1) := by decide +kernel
theorem dX5_restoreSnapshot_0 : decode cX5_restoreSnapshot 0 = .ok (.aload_n 0, 1) := by decide +kernel
theorem dX5_restoreSnapshot_1 : decode cX5_restoreSnapshot 1 = .ok (.aload_n 0, 1) := by decide +kernel
theorem dX5_restoreSnapshot_2 : decode cX5_restoreSnapshot 2 = .ok (.getfield 174, 3) := by decide +kernel
theorem dX5_restoreSnapshot_5 : decode cX5_restoreSnapshot 5 = .ok (.ifCond .eq 7, 3) := by decide +kernel
theorem dX5_restoreSnapshot_8 : decode cX5_restoreSnapshot 8 = .ok (.iconst 0, 1) := by decide +kernel
theorem dX5_restoreSnapshot_9 : decode cX5_restoreSnapshot 9 = .ok (.goto 4, 3) := by decide +kernel
theorem dX5_restoreSnapshot_12 : decode cX5_restoreSnapshot 12 = .ok (.iconst 1, 1) := by decide +kernel
theorem dX5_restoreSnapshot_13 : decode cX5_restoreSnapshot 13 = .ok (.putfield 38, 3) := by decide +kernel
theorem dX5_restoreSnapshot_16 : decode cX5_restoreSnapshot 16 = .ok (.aload_n 0, 1) := by decide +kernel
theorem dX5_restoreSnapshot_17 : decode cX5_restoreSnapshot 17 = .ok (.getfield 174, 3) := by decide +kernel
theorem dX5_restoreSnapshot_20 : decode cX5_restoreSnapshot 20 = .ok (.ifCond .ne 5, 3) := by decide +kernel
theorem dX5_restoreSnapshot_23 : decode cX5_restoreSnapshot 23 = .ok (.iconst 0, 1) := by decide +kernel
theorem dX5_restoreSnapshot_24 : decode cX5_restoreSnapshot 24 = .ok (.ireturn, 1) := by decide +kernel
theorem dX5_restoreSnapshot_25 : decode cX5_restoreSnapshot 25 = .ok (.aload_n 0, 1) := by decide +kernel
theorem dX5_restoreSnapshot_26 : decode cX5_restoreSnapshot 26 = .ok (.getfield 13, 3) := by decide +kernel
theorem dX5_restoreSnapshot_29 : decode cX5_restoreSnapshot 29 = .ok (.aload_n 0, 1) := by decide +kernel
theorem dX5_restoreSnapshot_30 : decode cX5_restoreSnapshot 30 = .ok (.getfield 9, 3) := by decide +kernel
theorem dX5_restoreSnapshot_33 : decode cX5_restoreSnapshot 33 = .ok (.invokestatic 167, 3) := by decide +kernel
theorem dX5_restoreSnapshot_36 : decode cX5_restoreSnapshot 36 = .ok (.aload_n 0, 1) := by decide +kernel
theorem dX5_restoreSnapshot_37 : decode cX5_restoreSnapshot 37 = .ok (.getfield 9, 3) := by decide +kernel
theorem dX5_restoreSnapshot_40 : decode cX5_restoreSnapshot 40 = .ok (.bipush 44, 2) := by decide +kernel
theorem dX5_restoreSnapshot_42 : decode cX5_restoreSnapshot 42 = .ok (.iaload, 1) := by decide +kernel
theorem dX5_restoreSnapshot_43 : decode cX5_restoreSnapshot 43 = .ok (.ireturn, 1) := by decide +kernel
end
section
theorem dX0_init_0 : decode cX0_init 0 = .ok (.aload_n 0, 1) := by decide +kernel
theorem dX0_init_1 : decode cX0_init 1 = .ok (.invokespecial 3, 3) := by decide +kernel
theorem dX0_init_4 : decode cX0_init 4 = .ok (.aload_n 0, 1) := by decide +kernel
theorem dX0_init_5 : decode cX0_init 5 = .ok (.bipush 21, 2) := by decide +kernel
theorem dX0_init_7 : decode cX0_init 7 = .ok (.newarray .int, 2) := by decide +kernel
theorem dX0_init_9 : decode cX0_init 9 = .ok (.putfield 9, 3) := by decide +kernel
theorem dX0_init_12 : decode cX0_init 12 = .ok (.aload_n 0, 1) := by decide +kernel
theorem dX0_init_13 : decode cX0_init 13 = .ok (.bipush 21, 2) := by decide +kernel
theorem dX0_init_15 : decode cX0_init 15 = .ok (.newarray .int, 2) := by decide +kernel
theorem dX0_init_17 : decode cX0_init 17 = .ok (.putfield 15, 3) := by decide +kernel
theorem dX0_init_20 : decode cX0_init 20 = .ok (.aload_n 0, 1) := by decide +kernel
theorem dX0_init_21 : decode cX0_init 21 = .ok (.new 18, 3) := by decide +kernel
theorem dX0_init_24 : decode cX0_init 24 = .ok (.dup, 1) := by decide +kernel
theorem dX0_init_25 : decode cX0_init 25 = .ok (.invokespecial 20, 3) := by decide +kernel
theorem dX0_init_28 : decode cX0_init 28 = .ok (.putfield 21, 3) := by decide +kernel
theorem dX0_init_31 : decode cX0_init 31 = .ok (.aload_n 0, 1) := by decide +kernel
theorem dX0_init_32 : decode cX0_init 32 = .ok (.bipush 6, 2) := by decide +kernel
theorem dX0_init_34 : decode cX0_init 34 = .ok (.anewarray 25, 3) := by decide +kernel
theorem dX0_init_37 : decode cX0_init 37 = .ok (.putfield 27, 3) := by decide +kernel
theorem dX0_init_40 : decode cX0_init 40 = .ok (.aload_n 0, 1) := by decide +kernel
theorem dX0_init_41 : decode cX0_init 41 = .ok (.iconst 0, 1) := by decide +kernel
theorem dX0_init_42 : decode cX0_init 42 = .ok (.putfield 31, 3) := by decide +kernel
theorem dX0_init_45 : decode cX0_init 45 = .ok (.aload_n 0, 1) := by decide +kernel
theorem dX0_init_46 : decode cX0_init 46 = .ok (.iconst 0, 1) := by decide +kernel
theorem dX0_init_47 : decode cX0_init 47 = .ok (.putfield 35, 3) := by decide +kernel
theorem dX0_init_50 : decode cX0_init 50 = .ok (.aload_n 0, 1) := by decide +kernel
theorem dX0_init_51 : decode cX0_init 51 = .ok (.iconst 0, 1) := by decide +kernel
theorem dX0_init_52 : decode cX0_init 52 = .ok (.putfield 38, 3) := by decide +kernel
theorem dX0_init_55 : decode cX0_init 55 = .ok (.aload_n 0, 1) := by decide +kernel
theorem dX0_init_56 : decode cX0_init 56 = .ok (.iconst 0, 1) := by decide +kernel
theorem dX0_init_57 : decode cX0_init 57 = .ok (.putfield 41, 3) := by decide +kernel
theorem dX0_init_60 : decode cX0_init 60 = .ok (.iconst 0, 1) := by decide +kernel
theorem dX0_init_61 : decode cX0_init 61 = .ok (.istore_n 1, 1) := by decide +kernel
theorem dX0_init_62 : decode cX0_init 62 = .ok (.iload_n 1, 1) := by decide +kernel
theorem dX0_init_63 : decode cX0_init 63 = .ok (.bipush 6, 2) := by decide +kernel
theorem dX0_init_65 : decode cX0_init 65 = .ok (.if_icmp .ge 23, 3) := by decide +kernel
theorem dX0_init_68 : decode cX0_init 68 = .ok (.aload_n 0, 1) := by decide +kernel
theorem dX0_init_69 : decode cX0_init 69 = .ok (.getfield 27, 3) := by decide +kernel
theorem dX0_init_72 : decode cX0_init 72 = .ok (.iload_n 1, 1) := by decide +kernel
theorem dX0_init_73 : decode cX0_init 73 = .ok (.new 25, 3) := by decide +kernel
theorem dX0_init_76 : decode cX0_init 76 = .ok (.dup, 1) := by decide +kernel
theorem dX0_init_77 : decode cX0_init 77 = .ok (.iload_n 1, 1) := by decide +kernel
theorem dX0_init_78 : decode cX0_init 78 = .ok (.invokespecial 44, 3) := by decide +kernel
theorem dX0_init_81 : decode cX0_init 81 = .ok (.aastore, 1) := by decide +kernel
theorem dX0_init_82 : decode cX0_init 82 = .ok (.iinc 1 1, 3) := by decide +kernel
theorem dX0_init_85 : decode cX0_init 85 = .ok (.goto (-23), 3) := by decide +kernel
theorem dX0_init_88 : decode cX0_init 88 = .ok (.aload_n 0, 1) := by decide +kernel
theorem dX0_init_89 : decode cX0_init 89 = .ok (.iconst 3, 1) := by decide +kernel
theorem dX0_init_90 : decode cX0_init 90 = .ok (.invokevirtual 47, 3) := by decide +kernel
theorem dX0_init_93 : decode cX0_init 93 = .ok (.return_, 1) := by decide +kernel
theorem dX0_startAnew_0 : decode cX0_startAnew 0 = .ok (.aload_n 0, 1) := by decide +kernel
theorem dX0_startAnew_1 : decode cX0_startAnew 1 = .ok (.getfield 21, 3) := by decide +kernel
theorem dX0_startAnew_4 : decode cX0_startAnew 4 = .ok (.iconst 0, 1) := by decide +kernel
theorem dX0_startAnew_5 : decode cX0_startAnew 5 = .ok (.putfield 50, 3) := by decide +kernel
theorem dX0_startAnew_8 : decode cX0_startAnew 8 = .ok (.iconst 0, 1) := by decide +kernel
theorem dX0_startAnew_9 : decode cX0_startAnew 9 = .ok (.istore_n 2, 1) := by decide +kernel
theorem dX0_startAnew_10 : decode cX0_startAnew 10 = .ok (.iload_n 2, 1) := by decide +kernel
theorem dX0_startAnew_11 : decode cX0_startAnew 11 = .ok (.bipush 6, 2) := by decide +kernel
theorem dX0_startAnew_13 : decode cX0_startAnew 13 = .ok (.if_icmp .ge 18, 3) := by decide +kernel
theorem dX0_startAnew_16 : decode cX0_startAnew 16 = .ok (.aload_n 0, 1) := by decide +kernel
theorem dX0_startAnew_17 : decode cX0_startAnew 17 = .ok (.getfield 27, 3) := by decide +kernel
theorem dX0_startAnew_20 : decode cX0_startAnew 20 = .ok (.iload_n 2, 1) := by decide +kernel
theorem dX0_startAnew_21 : decode cX0_startAnew 21 = .ok (.aaload, 1) := by decide +kernel
theorem dX0_startAnew_22 : decode cX0_startAnew 22 = .ok (.invokevirtual 53, 3) := by decide +kernel
theorem dX0_startAnew_25 : decode cX0_startAnew 25 = .ok (.iinc 2 1, 3) := by decide +kernel
theorem dX0_startAnew_28 : decode cX0_startAnew 28 = .ok (.goto (-18), 3) := by decide +kernel
theorem dX0_startAnew_31 : decode cX0_startAnew 31 = .ok (.aload_n 0, 1) := by decide +kernel
theorem dX0_startAnew_32 : decode cX0_startAnew 32 = .ok (.iconst 0, 1) := by decide +kernel
theorem dX0_startAnew_33 : decode cX0_startAnew 33 = .ok (.putfield 31, 3) := by decide +kernel
theorem dX0_startAnew_36 : decode cX0_startAnew 36 = .ok (.aload_n 0, 1) := by decide +kernel
theorem dX0_startAnew_37 : decode cX0_startAnew 37 = .ok (.getfield 9, 3) := by decide +kernel
theorem dX0_startAnew_40 : decode cX0_startAnew 40 = .ok (.iconst 0, 1) := by decide +kernel
theorem dX0_startAnew_41 : decode cX0_startAnew 41 = .ok (.iload_n 1, 1) := by decide +kernel
theorem dX0_startAnew_42 : decode cX0_startAnew 42 = .ok (.iastore, 1) := by decide +kernel
theorem dX0_startAnew_43 : decode cX0_startAnew 43 = .ok (.aload_n 0, 1) := by decide +kernel
theorem dX0_startAnew_44 : decode cX0_startAnew 44 = .ok (.iload_n 1, 1) := by decide +kernel
theorem dX0_startAnew_45 : decode cX0_startAnew 45 = .ok (.putfield 35, 3) := by decide +kernel
theorem dX0_startAnew_48 : decode cX0_startAnew 48 = .ok (.aload_n 0, 1) := by decide +kernel
theorem dX0_startAnew_49 : decode cX0_startAnew 49 = .ok (.iconst 0, 1) := by decide +kernel
theorem dX0_startAnew_50 : decode cX0_startAnew 50 = .ok (.putfield 38, 3) := by decide +kernel
theorem dX0_startAnew_53 : decode cX0_startAnew 53 = .ok (.aload_n 0, 1) := by decide +kernel
theorem dX0_startAnew_54 : decode cX0_startAnew 54 = .ok (.iconst 0, 1) := by decide +kernel
theorem dX0_startAnew_55 : decode cX0_startAnew 55 = .ok (.putfield 41, 3) := by decide +kernel
theorem dX0_startAnew_58 : decode cX0_startAnew 58 = .ok (.return_, 1) := by decide +kernel
theorem dX0_copyFrom_0 : decode cX0_copyFrom 0 = .ok (.aload_n 1, 1) := by decide +kernel
theorem dX0_copyFrom_1 : decode cX0_copyFrom 1 = .ok (.getfield 9, 3) := by decide +kernel
theorem dX0_copyFrom_4 : decode cX0_copyFrom 4 = .ok (.aload_n 0, 1) := by decide +kernel
theorem dX0_copyFrom_5 : decode cX0_copyFrom 5 = .ok (.getfield 9, 3) := by decide +kernel
theorem dX0_copyFrom_8 : decode cX0_copyFrom 8 = .ok (.invokestatic 55, 3) := by decide +kernel
theorem dX0_copyFrom_11 : decode cX0_copyFrom 11 = .ok (.aload_n 1, 1) := by decide +kernel
theorem dX0_copyFrom_12 : decode cX0_copyFrom 12 = .ok (.getfield 15, 3) := by decide +kernel
theorem dX0_copyFrom_15 : decode cX0_copyFrom 15 = .ok (.aload_n 0, 1) := by decide +kernel
theorem dX0_copyFrom_16 : decode cX0_copyFrom 16 = .ok (.getfield 15, 3) := by decide +kernel
theorem dX0_copyFrom_19 : decode cX0_copyFrom 19 = .ok (.invokestatic 55, 3) := by decide +kernel
theorem dX0_copyFrom_22 : decode cX0_copyFrom 22 = .ok (.aload_n 0, 1) := by decide +kernel
theorem dX0_copyFrom_23 : decode cX0_copyFrom 23 = .ok (.getfield 21, 3) := by decide +kernel
theorem dX0_copyFrom_26 : decode cX0_copyFrom 26 = .ok (.aload_n 1, 1) := by decide +kernel
theorem dX0_copyFrom_27 : decode cX0_copyFrom 27 = .ok (.getfield 21, 3) := by decide +kernel
theorem dX0_copyFrom_30 : decode cX0_copyFrom 30 = .ok (.invokevirtual 59, 3) := by decide +kernel
theorem dX0_copyFrom_33 : decode cX0_copyFrom 33 = .ok (.iconst 0, 1) := by decide +kernel
theorem dX0_copyFrom_34 : decode cX0_copyFrom 34 = .ok (.istore_n 2, 1) := by decide +kernel
theorem dX0_copyFrom_35 : decode cX0_copyFrom 35 = .ok (.iload_n 2, 1) := by decide +kernel
theorem dX0_copyFrom_36 : decode cX0_copyFrom 36 = .ok (.bipush 6, 2) := by decide +kernel
theorem dX0_copyFrom_38 : decode cX0_copyFrom 38 = .ok (.if_icmp .ge 24, 3) := by decide +kernel
theorem dX0_copyFrom_41 : decode cX0_copyFrom 41 = .ok (.aload_n 0, 1) := by decide +kernel
theorem dX0_copyFrom_42 : decode cX0_copyFrom 42 = .ok (.getfield 27, 3) := by decide +kernel
theorem dX0_copyFrom_45 : decode cX0_copyFrom 45 = .ok (.iload_n 2, 1) := by decide +kernel
theorem dX0_copyFrom_46 : decode cX0_copyFrom 46 = .ok (.aaload, 1) := by decide +kernel
theorem dX0_copyFrom_47 : decode cX0_copyFrom 47 = .ok (.aload_n 1, 1) := by decide +kernel
theorem dX0_copyFrom_48 : decode cX0_copyFrom 48 = .ok (.getfield 27, 3) := by decide +kernel
theorem dX0_copyFrom_51 : decode cX0_copyFrom 51 = .ok (.iload_n 2, 1) := by decide +kernel
theorem dX0_copyFrom_52 : decode cX0_copyFrom 52 = .ok (.aaload, 1) := by decide +kernel
theorem dX0_copyFrom_53 : decode cX0_copyFrom 53 = .ok (.invokevirtual 63, 3) := by decide +kernel
theorem dX0_copyFrom_56 : decode cX0_copyFrom 56 = .ok (.iinc 2 1, 3) := by decide +kernel
theorem dX0_copyFrom_59 : decode cX0_copyFrom 59 = .ok (.goto (-24), 3) := by decide +kernel
theorem dX0_copyFrom_62 : decode cX0_copyFrom 62 = .ok (.aload_n 0, 1) := by decide +kernel
theorem dX0_copyFrom_63 : decode cX0_copyFrom 63 = .ok (.aload_n 1, 1) := by decide +kernel
theorem dX0_copyFrom_64 : decode cX0_copyFrom 64 = .ok (.getfield 31, 3) := by decide +kernel
theorem dX0_copyFrom_67 : decode cX0_copyFrom 67 = .ok (.putfield 31, 3) := by decide +kernel
theorem dX0_copyFrom_70 : decode cX0_copyFrom 70 = .ok (.aload_n 0, 1) := by decide +kernel
theorem dX0_copyFrom_71 : decode cX0_copyFrom 71 = .ok (.aload_n 1, 1) := by decide +kernel
theorem dX0_copyFrom_72 : decode cX0_copyFrom 72 = .ok (.getfield 35, 3) := by decide +kernel
theorem dX0_copyFrom_75 : decode cX0_copyFrom 75 = .ok (.putfield 35, 3) := by decide +kernel
theorem dX0_copyFrom_78 : decode cX0_copyFrom 78 = .ok (.aload_n 0, 1) := by decide +kernel
theorem dX0_copyFrom_79 : decode cX0_copyFrom 79 = .ok (.aload_n 1, 1) := by decide +kernel
theorem dX0_copyFrom_80 : decode cX0_copyFrom 80 = .ok (.getfield 38, 3) := by decide +kernel
theorem dX0_copyFrom_83 : decode cX0_copyFrom 83 = .ok (.putfield 38, 3) := by decide +kernel
theorem dX0_copyFrom_86 : decode cX0_copyFrom 86 = .ok (.aload_n 0, 1) := by decide +kernel
theorem dX0_copyFrom_87 : decode cX0_copyFrom 87 = .ok (.aload_n 1, 1) := by decide +kernel
theorem dX0_copyFrom_88 : decode cX0_copyFrom 88 = .ok (.getfield 41, 3) := by decide +kernel
theorem dX0_copyFrom_91 : decode cX0_copyFrom 91 = .ok (.putfield 41, 3) := by decide +kernel
theorem dX0_copyFrom_94 : decode cX0_copyFrom 94 = .ok (.return_, 1) := by decide +kernel
theorem dX0_perform_0 : decode cX0_perform 0 = .ok (.aload_n 0, 1) := by decide +kernel
theorem dX0_perform_1 : decode cX0_perform 1 = .ok (.iload_n 1, 1) := by decide +kernel
theorem dX0_perform_2 : decode cX0_perform 2 = .ok (.iload_n 2, 1) := by decide +kernel
theorem dX0_perform_3 : decode cX0_perform 3 = .ok (.iload_n 3, 1) := by decide +kernel
theorem dX0_perform_4 : decode cX0_perform 4 = .ok (.invokevirtual 66, 3) := by decide +kernel
theorem dX0_perform_7 : decode cX0_perform 7 = .ok (.ifCond .ne 5, 3) := by decide +kernel
theorem dX0_perform_10 : decode cX0_perform 10 = .ok (.iconst 0, 1) := by decide +kernel
theorem dX0_perform_11 : decode cX0_perform 11 = .ok (.ireturn, 1) := by decide +kernel
theorem dX0_perform_12 : decode cX0_perform 12 = .ok (.iload_n 1, 1) := by decide +kernel
theorem dX0_perform_13 : decode cX0_perform 13 = .ok (.tableswitch 111 97 108 #[73, 63, 111, 111, 111, 111, 83, 111, 111, 93, 111, 102], 63) := by decide +kernel
theorem dX0_perform_76 : decode cX0_perform 76 = .ok (.aload_n 0, 1) := by decide +kernel
theorem dX0_perform_77 : decode cX0_perform 77 = .ok (.iload_n 2, 1) := by decide +kernel
theorem dX0_perform_78 : decode cX0_perform 78 = .ok (.iload_n 3, 1) := by decide +kernel
theorem dX0_perform_79 : decode cX0_perform 79 = .ok (.invokevirtual 70, 3) := by decide +kernel
theorem dX0_perform_82 : decode cX0_perform 82 = .ok (.pop, 1) := by decide +kernel
theorem dX0_perform_83 : decode cX0_perform 83 = .ok (.goto 46, 3) := by decide +kernel
theorem dX0_perform_86 : decode cX0_perform 86 = .ok (.aload_n 0, 1) := by decide +kernel
theorem dX0_perform_87 : decode cX0_perform 87 = .ok (.iload_n 2, 1) := by decide +kernel
theorem dX0_perform_88 : decode cX0_perform 88 = .ok (.iload_n 3, 1) := by decide +kernel
theorem dX0_perform_89 : decode cX0_perform 89 = .ok (.invokevirtual 74, 3) := by decide +kernel
theorem dX0_perform_92 : decode cX0_perform 92 = .ok (.pop, 1) := by decide +kernel
theorem dX0_perform_93 : decode cX0_perform 93 = .ok (.goto 36, 3) := by decide +kernel
theorem dX0_perform_96 : decode cX0_perform 96 = .ok (.aload_n 0, 1) := by decide +kernel
theorem dX0_perform_97 : decode cX0_perform 97 = .ok (.iload_n 2, 1) := by decide +kernel
theorem dX0_perform_98 : decode cX0_perform 98 = .ok (.iload_n 3, 1) := by decide +kernel
theorem dX0_perform_99 : decode cX0_perform 99 = .ok (.invokevirtual 77, 3) := by decide +kernel
theorem dX0_perform_102 : decode cX0_perform 102 = .ok (.pop, 1) := by decide +kernel
theorem dX0_perform_103 : decode cX0_perform 103 = .ok (.goto 26, 3) := by decide +kernel
theorem dX0_perform_106 : decode cX0_perform 106 = .ok (.aload_n 0, 1) := by decide +kernel
theorem dX0_perform_107 : decode cX0_perform 107 = .ok (.iload_n 2, 1) := by decide +kernel
theorem dX0_perform_108 : decode cX0_perform 108 = .ok (.invokevirtual 80, 3) := by decide +kernel
theorem dX0_perform_111 : decode cX0_perform 111 = .ok (.pop, 1) := by decide +kernel
theorem dX0_perform_112 : decode cX0_perform 112 = .ok (.goto 17, 3) := by decide +kernel
theorem dX0_perform_115 : decode cX0_perform 115 = .ok (.aload_n 0, 1) := by decide +kernel
theorem dX0_perform_116 : decode cX0_perform 116 = .ok (.iload_n 2, 1) := by decide +kernel
theorem dX0_perform_117 : decode cX0_perform 117 = .ok (.invokevirtual 84, 3) := by decide +kernel
theorem dX0_perform_120 : decode cX0_perform 120 = .ok (.pop, 1) := by decide +kernel
theorem dX0_perform_121 : decode cX0_perform 121 = .ok (.goto 8, 3) := by decide +kernel
theorem dX0_perform_124 : decode cX0_perform 124 = .ok (.aload_n 0, 1) := by decide +kernel
theorem dX0_perform_125 : decode cX0_perform 125 = .ok (.invokevirtual 87, 3) := by decide +kernel
theorem dX0_perform_128 : decode cX0_perform 128 = .ok (.pop, 1) := by decide +kernel
theorem dX0_perform_129 : decode cX0_perform 129 = .ok (.iconst 1, 1) := by decide +kernel
theorem dX0_perform_130 : decode cX0_perform 130 = .ok (.ireturn, 1) := by decide +kernel
theorem dX0_canPerform_0 : decode cX0_canPerform 0 = .ok (.iload_n 1, 1) := by decide +kernel
theorem dX0_canPerform_1 : decode cX0_canPerform 1 = .ok (.tableswitch 95 97 108 #[69, 63, 95, 95, 95, 95, 76, 95, 95, 83, 95, 89], 63) := by decide +kernel
theorem dX0_canPerform_64 : decode cX0_canPerform 64 = .ok (.aload_n 0, 1) := by decide +kernel
theorem dX0_canPerform_65 : decode cX0_canPerform 65 = .ok (.iload_n 2, 1) := by decide +kernel
theorem dX0_canPerform_66 : decode cX0_canPerform 66 = .ok (.invokevirtual 91, 3) := by decide +kernel
theorem dX0_canPerform_69 : decode cX0_canPerform 69 = .ok (.ireturn, 1) := by decide +kernel
theorem dX0_canPerform_70 : decode cX0_canPerform 70 = .ok (.aload_n 0, 1) := by decide +kernel
theorem dX0_canPerform_71 : decode cX0_canPerform 71 = .ok (.iload_n 2, 1) := by decide +kernel
theorem dX0_canPerform_72 : decode cX0_canPerform 72 = .ok (.iload_n 3, 1) := by decide +kernel
theorem dX0_canPerform_73 : decode cX0_canPerform 73 = .ok (.invokevirtual 95, 3) := by decide +kernel
theorem dX0_canPerform_76 : decode cX0_canPerform 76 = .ok (.ireturn, 1) := by decide +kernel
theorem dX0_canPerform_77 : decode cX0_canPerform 77 = .ok (.aload_n 0, 1) := by decide +kernel
theorem dX0_canPerform_78 : decode cX0_canPerform 78 = .ok (.iload_n 2, 1) := by decide +kernel
theorem dX0_canPerform_79 : decode cX0_canPerform 79 = .ok (.iload_n 3, 1) := by decide +kernel
theorem dX0_canPerform_80 : decode cX0_canPerform 80 = .ok (.invokevirtual 99, 3) := by decide +kernel
theorem dX0_canPerform_83 : decode cX0_canPerform 83 = .ok (.ireturn, 1) := by decide +kernel
theorem dX0_canPerform_84 : decode cX0_canPerform 84 = .ok (.aload_n 0, 1) := by decide +kernel
theorem dX0_canPerform_85 : decode cX0_canPerform 85 = .ok (.iload_n 2, 1) := by decide +kernel
theorem dX0_canPerform_86 : decode cX0_canPerform 86 = .ok (.invokevirtual 102, 3) := by decide +kernel
theorem dX0_canPerform_89 : decode cX0_canPerform 89 = .ok (.ireturn, 1) := by decide +kernel
theorem dX0_canPerform_90 : decode cX0_canPerform 90 = .ok (.aload_n 0, 1) := by decide +kernel
theorem dX0_canPerform_91 : decode cX0_canPerform 91 = .ok (.iload_n 2, 1) := by decide +kernel
theorem dX0_canPerform_92 : decode cX0_canPerform 92 = .ok (.invokevirtual 105, 3) := by decide +kernel
theorem dX0_canPerform_95 : decode cX0_canPerform 95 = .ok (.ireturn, 1) := by decide +kernel
theorem dX0_canPerform_96 : decode cX0_canPerform 96 = .ok (.aload_n 0, 1) := by decide +kernel
theorem dX0_canPerform_97 : decode cX0_canPerform 97 = .ok (.invokevirtual 108, 3) := by decide +kernel
theorem dX0_canPerform_100 : decode cX0_canPerform 100 = .ok (.ireturn, 1) := by decide +kernel
theorem dX0_members_0 : decode cX0_members 0 = .ok (.aload_n 0, 1) := by decide +kernel
theorem dX0_members_1 : decode cX0_members 1 = .ok (.getfield 9, 3) := by decide +kernel
theorem dX0_members_4 : decode cX0_members 4 = .ok (.aload_n 0, 1) := by decide +kernel
theorem dX0_members_5 : decode cX0_members 5 = .ok (.getfield 31, 3) := by decide +kernel
theorem dX0_members_8 : decode cX0_members 8 = .ok (.iaload, 1) := by decide +kernel
theorem dX0_members_9 : decode cX0_members 9 = .ok (.ireturn, 1) := by decide +kernel
theorem dX0_isMember_0 : decode cX0_isMember 0 = .ok (.iload_n 1, 1) := by decide +kernel
theorem dX0_isMember_1 : decode cX0_isMember 1 = .ok (.invokestatic 112, 3) := by decide +kernel
theorem dX0_isMember_4 : decode cX0_isMember 4 = .ok (.ifCond .eq 18, 3) := by decide +kernel
theorem dX0_isMember_7 : decode cX0_isMember 7 = .ok (.aload_n 0, 1) := by decide +kernel
theorem dX0_isMember_8 : decode cX0_isMember 8 = .ok (.invokevirtual 115, 3) := by decide +kernel
theorem dX0_isMember_11 : decode cX0_isMember 11 = .ok (.iload_n 1, 1) := by decide +kernel
theorem dX0_isMember_12 : decode cX0_isMember 12 = .ok (.invokestatic 118, 3) := by decide +kernel
theorem dX0_isMember_15 : decode cX0_isMember 15 = .ok (.ifCond .eq 7, 3) := by decide +kernel
theorem dX0_isMember_18 : decode cX0_isMember 18 = .ok (.iconst 1, 1) := by decide +kernel
theorem dX0_isMember_19 : decode cX0_isMember 19 = .ok (.goto 4, 3) := by decide +kernel
theorem dX0_isMember_22 : decode cX0_isMember 22 = .ok (.iconst 0, 1) := by decide +kernel
theorem dX0_isMember_23 : decode cX0_isMember 23 = .ok (.ireturn, 1) := by decide +kernel
theorem dX0_canEnter_0 : decode cX0_canEnter 0 = .ok (.iload_n 1, 1) := by decide +kernel
theorem dX0_canEnter_1 : decode cX0_canEnter 1 = .ok (.invokestatic 112, 3) := by decide +kernel
theorem dX0_canEnter_4 : decode cX0_canEnter 4 = .ok (.ifCond .eq 18, 3) := by decide +kernel
theorem dX0_canEnter_7 : decode cX0_canEnter 7 = .ok (.aload_n 0, 1) := by decide +kernel
theorem dX0_canEnter_8 : decode cX0_canEnter 8 = .ok (.getfield 35, 3) := by decide +kernel
theorem dX0_canEnter_11 : decode cX0_canEnter 11 = .ok (.iload_n 1, 1) := by decide +kernel
theorem dX0_canEnter_12 : decode cX0_canEnter 12 = .ok (.invokestatic 118, 3) := by decide +kernel
theorem dX0_canEnter_15 : decode cX0_canEnter 15 = .ok (.ifCond .ne 7, 3) := by decide +kernel
theorem dX0_canEnter_18 : decode cX0_canEnter 18 = .ok (.iconst 1, 1) := by decide +kernel
theorem dX0_canEnter_19 : decode cX0_canEnter 19 = .ok (.goto 4, 3) := by decide +kernel
theorem dX0_canEnter_22 : decode cX0_canEnter 22 = .ok (.iconst 0, 1) := by decide +kernel
theorem dX0_canEnter_23 : decode cX0_canEnter 23 = .ok (.ireturn, 1) := by decide +kernel
theorem dX0_enter_0 : decode cX0_enter 0 = .ok (.aload_n 0, 1) := by decide +kernel
theorem dX0_enter_1 : decode cX0_enter 1 = .ok (.dup, 1) := by decide +kernel
theorem dX0_enter_2 : decode cX0_enter 2 = .ok (.getfield 35, 3) := by decide +kernel
theorem dX0_enter_5 : decode cX0_enter 5 = .ok (.iconst 1, 1) := by decide +kernel
theorem dX0_enter_6 : decode cX0_enter 6 = .ok (.iload_n 1, 1) := by decide +kernel
theorem dX0_enter_7 : decode cX0_enter 7 = .ok (.ishl, 1) := by decide +kernel
theorem dX0_enter_8 : decode cX0_enter 8 = .ok (.ior, 1) := by decide +kernel
theorem dX0_enter_9 : decode cX0_enter 9 = .ok (.putfield 35, 3) := by decide +kernel
theorem dX0_enter_12 : decode cX0_enter 12 = .ok (.aload_n 0, 1) := by decide +kernel
theorem dX0_enter_13 : decode cX0_enter 13 = .ok (.getfield 35, 3) := by decide +kernel
theorem dX0_enter_16 : decode cX0_enter 16 = .ok (.invokestatic 121, 3) := by decide +kernel
theorem dX0_enter_19 : decode cX0_enter 19 = .ok (.ireturn, 1) := by decide +kernel
theorem dX0_canQuit_0 : decode cX0_canQuit 0 = .ok (.iload_n 1, 1) := by decide +kernel
theorem dX0_canQuit_1 : decode cX0_canQuit 1 = .ok (.invokestatic 112, 3) := by decide +kernel
theorem dX0_canQuit_4 : decode cX0_canQuit 4 = .ok (.ifCond .eq 36, 3) := by decide +kernel
theorem dX0_canQuit_7 : decode cX0_canQuit 7 = .ok (.aload_n 0, 1) := by decide +kernel
theorem dX0_canQuit_8 : decode cX0_canQuit 8 = .ok (.getfield 35, 3) := by decide +kernel
theorem dX0_canQuit_11 : decode cX0_canQuit 11 = .ok (.iload_n 1, 1) := by decide +kernel
theorem dX0_canQuit_12 : decode cX0_canQuit 12 = .ok (.invokestatic 118, 3) := by decide +kernel
theorem dX0_canQuit_15 : decode cX0_canQuit 15 = .ok (.ifCond .eq 25, 3) := by decide +kernel
theorem dX0_canQuit_18 : decode cX0_canQuit 18 = .ok (.aload_n 0, 1) := by decide +kernel
theorem dX0_canQuit_19 : decode cX0_canQuit 19 = .ok (.invokevirtual 115, 3) := by decide +kernel
theorem dX0_canQuit_22 : decode cX0_canQuit 22 = .ok (.aload_n 0, 1) := by decide +kernel
theorem dX0_canQuit_23 : decode cX0_canQuit 23 = .ok (.getfield 35, 3) := by decide +kernel
theorem dX0_canQuit_26 : decode cX0_canQuit 26 = .ok (.iand, 1) := by decide +kernel
theorem dX0_canQuit_27 : decode cX0_canQuit 27 = .ok (.iconst 1, 1) := by decide +kernel
theorem dX0_canQuit_28 : decode cX0_canQuit 28 = .ok (.iload_n 1, 1) := by decide +kernel
theorem dX0_canQuit_29 : decode cX0_canQuit 29 = .ok (.ishl, 1) := by decide +kernel
theorem dX0_canQuit_30 : decode cX0_canQuit 30 = .ok (.iconst (-1), 1) := by decide +kernel
theorem dX0_canQuit_31 : decode cX0_canQuit 31 = .ok (.ixor, 1) := by decide +kernel
theorem dX0_canQuit_32 : decode cX0_canQuit 32 = .ok (.iand, 1) := by decide +kernel
theorem dX0_canQuit_33 : decode cX0_canQuit 33 = .ok (.ifCond .eq 7, 3) := by decide +kernel
theorem dX0_canQuit_36 : decode cX0_canQuit 36 = .ok (.iconst 1, 1) := by decide +kernel
theorem dX0_canQuit_37 : decode cX0_canQuit 37 = .ok (.goto 4, 3) := by decide +kernel
theorem dX0_canQuit_40 : decode cX0_canQuit 40 = .ok (.iconst 0, 1) := by decide +kernel
theorem dX0_canQuit_41 : decode cX0_canQuit 41 = .ok (.ireturn, 1) := by decide +kernel
theorem dX0_quit_0 : decode cX0_quit 0 = .ok (.aload_n 0, 1) := by decide +kernel
theorem dX0_quit_1 : decode cX0_quit 1 = .ok (.dup, 1) := by decide +kernel
theorem dX0_quit_2 : decode cX0_quit 2 = .ok (.getfield 35, 3) := by decide +kernel
theorem dX0_quit_5 : decode cX0_quit 5 = .ok (.iconst 1, 1) := by decide +kernel
theorem dX0_quit_6 : decode cX0_quit 6 = .ok (.iload_n 1, 1) := by decide +kernel
theorem dX0_quit_7 : decode cX0_quit 7 = .ok (.ishl, 1) := by decide +kernel
theorem dX0_quit_8 : decode cX0_quit 8 = .ok (.iconst (-1), 1) := by decide +kernel
theorem dX0_quit_9 : decode cX0_quit 9 = .ok (.ixor, 1) := by decide +kernel
theorem dX0_quit_10 : decode cX0_quit 10 = .ok (.iand, 1) := by decide +kernel
theorem dX0_quit_11 : decode cX0_quit 11 = .ok (.putfield 35, 3) := by decide +kernel
theorem dX0_quit_14 : decode cX0_quit 14 = .ok (.aload_n 0, 1) := by decide +kernel
theorem dX0_quit_15 : decode cX0_quit 15 = .ok (.getfield 35, 3) := by decide +kernel
theorem dX0_quit_18 : decode cX0_quit 18 = .ok (.invokestatic 121, 3) := by decide +kernel
theorem dX0_quit_21 : decode cX0_quit 21 = .ok (.ireturn, 1) := by decide +kernel
theorem dX0_canChangeView_0 : decode cX0_canChangeView 0 = .ok (.aload_n 0, 1) := by decide +kernel
theorem dX0_canChangeView_1 : decode cX0_canChangeView 1 = .ok (.getfield 31, 3) := by decide +kernel
theorem dX0_canChangeView_4 : decode cX0_canChangeView 4 = .ok (.bipush 20, 2) := by decide +kernel
theorem dX0_canChangeView_6 : decode cX0_canChangeView 6 = .ok (.if_icmp .ge 7, 3) := by decide +kernel
theorem dX0_canChangeView_9 : decode cX0_canChangeView 9 = .ok (.iconst 1, 1) := by decide +kernel
theorem dX0_canChangeView_10 : decode cX0_canChangeView 10 = .ok (.goto 4, 3) := by decide +kernel
theorem dX0_canChangeView_13 : decode cX0_canChangeView 13 = .ok (.iconst 0, 1) := by decide +kernel
theorem dX0_canChangeView_14 : decode cX0_canChangeView 14 = .ok (.ireturn, 1) := by decide +kernel
theorem dX0_changeView_0 : decode cX0_changeView 0 = .ok (.aload_n 0, 1) := by decide +kernel
theorem dX0_changeView_1 : decode cX0_changeView 1 = .ok (.invokevirtual 115, 3) := by decide +kernel
theorem dX0_changeView_4 : decode cX0_changeView 4 = .ok (.aload_n 0, 1) := by decide +kernel
theorem dX0_changeView_5 : decode cX0_changeView 5 = .ok (.getfield 35, 3) := by decide +kernel
theorem dX0_changeView_8 : decode cX0_changeView 8 = .ok (.iand, 1) := by decide +kernel
theorem dX0_changeView_9 : decode cX0_changeView 9 = .ok (.istore_n 1, 1) := by decide +kernel
theorem dX0_changeView_10 : decode cX0_changeView 10 = .ok (.iconst 0, 1) := by decide +kernel
theorem dX0_changeView_11 : decode cX0_changeView 11 = .ok (.istore_n 2, 1) := by decide +kernel
theorem dX0_changeView_12 : decode cX0_changeView 12 = .ok (.iconst 0, 1) := by decide +kernel
theorem dX0_changeView_13 : decode cX0_changeView 13 = .ok (.istore_n 3, 1) := by decide +kernel
theorem dX0_changeView_14 : decode cX0_changeView 14 = .ok (.iload_n 3, 1) := by decide +kernel
theorem dX0_changeView_15 : decode cX0_changeView 15 = .ok (.bipush 6, 2) := by decide +kernel
theorem dX0_changeView_17 : decode cX0_changeView 17 = .ok (.if_icmp .ge 26, 3) := by decide +kernel
theorem dX0_changeView_20 : decode cX0_changeView 20 = .ok (.iload_n 1, 1) := by decide +kernel
theorem dX0_changeView_21 : decode cX0_changeView 21 = .ok (.iload_n 3, 1) := by decide +kernel
theorem dX0_changeView_22 : decode cX0_changeView 22 = .ok (.invokestatic 118, 3) := by decide +kernel
theorem dX0_changeView_25 : decode cX0_changeView 25 = .ok (.ifCond .eq 12, 3) := by decide +kernel
theorem dX0_changeView_28 : decode cX0_changeView 28 = .ok (.iload_n 2, 1) := by decide +kernel
theorem dX0_changeView_29 : decode cX0_changeView 29 = .ok (.aload_n 0, 1) := by decide +kernel
theorem dX0_changeView_30 : decode cX0_changeView 30 = .ok (.iload_n 3, 1) := by decide +kernel
theorem dX0_changeView_31 : decode cX0_changeView 31 = .ok (.iload_n 1, 1) := by decide +kernel
theorem dX0_changeView_32 : decode cX0_changeView 32 = .ok (.invokevirtual 126, 3) := by decide +kernel
theorem dX0_changeView_35 : decode cX0_changeView 35 = .ok (.iadd, 1) := by decide +kernel
theorem dX0_changeView_36 : decode cX0_changeView 36 = .ok (.istore_n 2, 1) := by decide +kernel
theorem dX0_changeView_37 : decode cX0_changeView 37 = .ok (.iinc 3 1, 3) := by decide +kernel
theorem dX0_changeView_40 : decode cX0_changeView 40 = .ok (.goto (-26), 3) := by decide +kernel
theorem dX0_changeView_43 : decode cX0_changeView 43 = .ok (.aload_n 0, 1) := by decide +kernel
theorem dX0_changeView_44 : decode cX0_changeView 44 = .ok (.aload_n 0, 1) := by decide +kernel
theorem dX0_changeView_45 : decode cX0_changeView 45 = .ok (.getfield 35, 3) := by decide +kernel
theorem dX0_changeView_48 : decode cX0_changeView 48 = .ok (.aload_n 0, 1) := by decide +kernel
theorem dX0_changeView_49 : decode cX0_changeView 49 = .ok (.invokevirtual 115, 3) := by decide +kernel
theorem dX0_changeView_52 : decode cX0_changeView 52 = .ok (.iconst (-1), 1) := by decide +kernel
theorem dX0_changeView_53 : decode cX0_changeView 53 = .ok (.ixor, 1) := by decide +kernel
theorem dX0_changeView_54 : decode cX0_changeView 54 = .ok (.iand, 1) := by decide +kernel
theorem dX0_changeView_55 : decode cX0_changeView 55 = .ok (.aload_n 0, 1) := by decide +kernel
theorem dX0_changeView_56 : decode cX0_changeView 56 = .ok (.getfield 27, 3) := by decide +kernel
theorem dX0_changeView_59 : decode cX0_changeView 59 = .ok (.iload_n 1, 1) := by decide +kernel
theorem dX0_changeView_60 : decode cX0_changeView 60 = .ok (.invokestatic 129, 3) := by decide +kernel
theorem dX0_changeView_63 : decode cX0_changeView 63 = .ok (.aaload, 1) := by decide +kernel
theorem dX0_changeView_64 : decode cX0_changeView 64 = .ok (.invokevirtual 132, 3) := by decide +kernel
theorem dX0_changeView_67 : decode cX0_changeView 67 = .ok (.aload_n 0, 1) := by decide +kernel
theorem dX0_changeView_68 : decode cX0_changeView 68 = .ok (.dup, 1) := by decide +kernel
theorem dX0_changeView_69 : decode cX0_changeView 69 = .ok (.getfield 31, 3) := by decide +kernel
theorem dX0_changeView_72 : decode cX0_changeView 72 = .ok (.iconst 1, 1) := by decide +kernel
theorem dX0_changeView_73 : decode cX0_changeView 73 = .ok (.iadd, 1) := by decide +kernel
theorem dX0_changeView_74 : decode cX0_changeView 74 = .ok (.putfield 31, 3) := by decide +kernel
theorem dX0_changeView_77 : decode cX0_changeView 77 = .ok (.aload_n 0, 1) := by decide +kernel
theorem dX0_changeView_78 : decode cX0_changeView 78 = .ok (.getfield 9, 3) := by decide +kernel
theorem dX0_changeView_81 : decode cX0_changeView 81 = .ok (.aload_n 0, 1) := by decide +kernel
theorem dX0_changeView_82 : decode cX0_changeView 82 = .ok (.getfield 31, 3) := by decide +kernel
theorem dX0_changeView_85 : decode cX0_changeView 85 = .ok (.aload_n 0, 1) := by decide +kernel
theorem dX0_changeView_86 : decode cX0_changeView 86 = .ok (.getfield 35, 3) := by decide +kernel
theorem dX0_changeView_89 : decode cX0_changeView 89 = .ok (.iastore, 1) := by decide +kernel
theorem dX0_changeView_90 : decode cX0_changeView 90 = .ok (.aload_n 0, 1) := by decide +kernel
theorem dX0_changeView_91 : decode cX0_changeView 91 = .ok (.getfield 15, 3) := by decide +kernel
theorem dX0_changeView_94 : decode cX0_changeView 94 = .ok (.aload_n 0, 1) := by decide +kernel
theorem dX0_changeView_95 : decode cX0_changeView 95 = .ok (.getfield 31, 3) := by decide +kernel
theorem dX0_changeView_98 : decode cX0_changeView 98 = .ok (.iload_n 2, 1) := by decide +kernel
theorem dX0_changeView_99 : decode cX0_changeView 99 = .ok (.iastore, 1) := by decide +kernel
theorem dX0_changeView_100 : decode cX0_changeView 100 = .ok (.aload_n 0, 1) := by decide +kernel
theorem dX0_changeView_101 : decode cX0_changeView 101 = .ok (.invokevirtual 136, 3) := by decide +kernel
theorem dX0_changeView_104 : decode cX0_changeView 104 = .ok (.iload_n 2, 1) := by decide +kernel
theorem dX0_changeView_105 : decode cX0_changeView 105 = .ok (.ireturn, 1) := by decide +kernel
theorem dX0_force_0 : decode cX0_force 0 = .ok (.iconst 0, 1) := by decide +kernel
theorem dX0_force_1 : decode cX0_force 1 = .ok (.istore_n 3, 1) := by decide +kernel
theorem dX0_force_2 : decode cX0_force 2 = .ok (.aload_n 0, 1) := by decide +kernel
theorem dX0_force_3 : decode cX0_force 3 = .ok (.getfield 38, 3) := by decide +kernel
theorem dX0_force_6 : decode cX0_force 6 = .ok (.istore 4, 2) := by decide +kernel
theorem dX0_force_8 : decode cX0_force 8 = .ok (.iload 4, 2) := by decide +kernel
theorem dX0_force_10 : decode cX0_force 10 = .ok (.aload_n 0, 1) := by decide +kernel
theorem dX0_force_11 : decode cX0_force 11 = .ok (.getfield 21, 3) := by decide +kernel
theorem dX0_force_14 : decode cX0_force 14 = .ok (.getfield 50, 3) := by decide +kernel
theorem dX0_force_17 : decode cX0_force 17 = .ok (.if_icmp .ge 47, 3) := by decide +kernel
theorem dX0_force_20 : decode cX0_force 20 = .ok (.aload_n 0, 1) := by decide +kernel
theorem dX0_force_21 : decode cX0_force 21 = .ok (.iload_n 2, 1) := by decide +kernel
theorem dX0_force_22 : decode cX0_force 22 = .ok (.iload 4, 2) := by decide +kernel
theorem dX0_force_24 : decode cX0_force 24 = .ok (.invokevirtual 139, 3) := by decide +kernel
theorem dX0_force_27 : decode cX0_force 27 = .ok (.ifCond .eq 31, 3) := by decide +kernel
theorem dX0_force_30 : decode cX0_force 30 = .ok (.aload_n 0, 1) := by decide +kernel
theorem dX0_force_31 : decode cX0_force 31 = .ok (.getfield 27, 3) := by decide +kernel
theorem dX0_force_34 : decode cX0_force 34 = .ok (.iload_n 1, 1) := by decide +kernel
theorem dX0_force_35 : decode cX0_force 35 = .ok (.aaload, 1) := by decide +kernel
theorem dX0_force_36 : decode cX0_force 36 = .ok (.aload_n 0, 1) := by decide +kernel
theorem dX0_force_37 : decode cX0_force 37 = .ok (.getfield 21, 3) := by decide +kernel
theorem dX0_force_40 : decode cX0_force 40 = .ok (.iload 4, 2) := by decide +kernel
theorem dX0_force_42 : decode cX0_force 42 = .ok (.invokevirtual 142, 3) := by decide +kernel
theorem dX0_force_45 : decode cX0_force 45 = .ok (.ifCond .eq 13, 3) := by decide +kernel
theorem dX0_force_48 : decode cX0_force 48 = .ok (.aload_n 0, 1) := by decide +kernel
theorem dX0_force_49 : decode cX0_force 49 = .ok (.iload_n 1, 1) := by decide +kernel
theorem dX0_force_50 : decode cX0_force 50 = .ok (.iload 4, 2) := by decide +kernel
theorem dX0_force_52 : decode cX0_force 52 = .ok (.invokevirtual 146, 3) := by decide +kernel
theorem dX0_force_55 : decode cX0_force 55 = .ok (.iinc 3 1, 3) := by decide +kernel
theorem dX0_force_58 : decode cX0_force 58 = .ok (.iinc 4 1, 3) := by decide +kernel
theorem dX0_force_61 : decode cX0_force 61 = .ok (.goto (-53), 3) := by decide +kernel
theorem dX0_force_64 : decode cX0_force 64 = .ok (.iload_n 3, 1) := by decide +kernel
theorem dX0_force_65 : decode cX0_force 65 = .ok (.ireturn, 1) := by decide +kernel
theorem dX0_isLoggedAmong_0 : decode cX0_isLoggedAmong 0 = .ok (.iconst 0, 1) := by decide +kernel
theorem dX0_isLoggedAmong_1 : decode cX0_isLoggedAmong 1 = .ok (.istore_n 3, 1) := by decide +kernel
theorem dX0_isLoggedAmong_2 : decode cX0_isLoggedAmong 2 = .ok (.iload_n 3, 1) := by decide +kernel
theorem dX0_isLoggedAmong_3 : decode cX0_isLoggedAmong 3 = .ok (.bipush 6, 2) := by decide +kernel
theorem dX0_isLoggedAmong_5 : decode cX0_isLoggedAmong 5 = .ok (.if_icmp .ge 32, 3) := by decide +kernel
theorem dX0_isLoggedAmong_8 : decode cX0_isLoggedAmong 8 = .ok (.iload_n 1, 1) := by decide +kernel
theorem dX0_isLoggedAmong_9 : decode cX0_isLoggedAmong 9 = .ok (.iload_n 3, 1) := by decide +kernel
theorem dX0_isLoggedAmong_10 : decode cX0_isLoggedAmong 10 = .ok (.invokestatic 118, 3) := by decide +kernel
theorem dX0_isLoggedAmong_13 : decode cX0_isLoggedAmong 13 = .ok (.ifCond .eq 18, 3) := by decide +kernel
theorem dX0_isLoggedAmong_16 : decode cX0_isLoggedAmong 16 = .ok (.aload_n 0, 1) := by decide +kernel
theorem dX0_isLoggedAmong_17 : decode cX0_isLoggedAmong 17 = .ok (.getfield 27, 3) := by decide +kernel
theorem dX0_isLoggedAmong_20 : decode cX0_isLoggedAmong 20 = .ok (.iload_n 3, 1) := by decide +kernel
theorem dX0_isLoggedAmong_21 : decode cX0_isLoggedAmong 21 = .ok (.aaload, 1) := by decide +kernel
theorem dX0_isLoggedAmong_22 : decode cX0_isLoggedAmong 22 = .ok (.iload_n 2, 1) := by decide +kernel
theorem dX0_isLoggedAmong_23 : decode cX0_isLoggedAmong 23 = .ok (.invokevirtual 150, 3) := by decide +kernel
theorem dX0_isLoggedAmong_26 : decode cX0_isLoggedAmong 26 = .ok (.ifCond .eq 5, 3) := by decide +kernel
theorem dX0_isLoggedAmong_29 : decode cX0_isLoggedAmong 29 = .ok (.iconst 1, 1) := by decide +kernel
theorem dX0_isLoggedAmong_30 : decode cX0_isLoggedAmong 30 = .ok (.ireturn, 1) := by decide +kernel
theorem dX0_isLoggedAmong_31 : decode cX0_isLoggedAmong 31 = .ok (.iinc 3 1, 3) := by decide +kernel
theorem dX0_isLoggedAmong_34 : decode cX0_isLoggedAmong 34 = .ok (.goto (-32), 3) := by decide +kernel
theorem dX0_isLoggedAmong_37 : decode cX0_isLoggedAmong 37 = .ok (.iconst 0, 1) := by decide +kernel
theorem dX0_isLoggedAmong_38 : decode cX0_isLoggedAmong 38 = .ok (.ireturn, 1) := by decide +kernel
theorem dX0_beginView_0 : decode cX0_beginView 0 = .ok (.aload_n 0, 1) := by decide +kernel
theorem dX0_beginView_1 : decode cX0_beginView 1 = .ok (.aload_n 0, 1) := by decide +kernel
theorem dX0_beginView_2 : decode cX0_beginView 2 = .ok (.getfield 21, 3) := by decide +kernel
theorem dX0_beginView_5 : decode cX0_beginView 5 = .ok (.getfield 50, 3) := by decide +kernel
theorem dX0_beginView_8 : decode cX0_beginView 8 = .ok (.putfield 38, 3) := by decide +kernel
theorem dX0_beginView_11 : decode cX0_beginView 11 = .ok (.iconst 0, 1) := by decide +kernel
theorem dX0_beginView_12 : decode cX0_beginView 12 = .ok (.istore_n 1, 1) := by decide +kernel
theorem dX0_beginView_13 : decode cX0_beginView 13 = .ok (.iload_n 1, 1) := by decide +kernel
theorem dX0_beginView_14 : decode cX0_beginView 14 = .ok (.bipush 6, 2) := by decide +kernel
theorem dX0_beginView_16 : decode cX0_beginView 16 = .ok (.if_icmp .ge 18, 3) := by decide +kernel
theorem dX0_beginView_19 : decode cX0_beginView 19 = .ok (.aload_n 0, 1) := by decide +kernel
theorem dX0_beginView_20 : decode cX0_beginView 20 = .ok (.getfield 27, 3) := by decide +kernel
theorem dX0_beginView_23 : decode cX0_beginView 23 = .ok (.iload_n 1, 1) := by decide +kernel
theorem dX0_beginView_24 : decode cX0_beginView 24 = .ok (.aaload, 1) := by decide +kernel
theorem dX0_beginView_25 : decode cX0_beginView 25 = .ok (.invokevirtual 153, 3) := by decide +kernel
theorem dX0_beginView_28 : decode cX0_beginView 28 = .ok (.iinc 1 1, 3) := by decide +kernel
theorem dX0_beginView_31 : decode cX0_beginView 31 = .ok (.goto (-18), 3) := by decide +kernel
theorem dX0_beginView_34 : decode cX0_beginView 34 = .ok (.return_, 1) := by decide +kernel
theorem dX0_welcome_0 : decode cX0_welcome 0 = .ok (.iconst 0, 1) := by decide +kernel
theorem dX0_welcome_1 : decode cX0_welcome 1 = .ok (.istore_n 3, 1) := by decide +kernel
theorem dX0_welcome_2 : decode cX0_welcome 2 = .ok (.iload_n 3, 1) := by decide +kernel
theorem dX0_welcome_3 : decode cX0_welcome 3 = .ok (.bipush 6, 2) := by decide +kernel
theorem dX0_welcome_5 : decode cX0_welcome 5 = .ok (.if_icmp .ge 27, 3) := by decide +kernel
theorem dX0_welcome_8 : decode cX0_welcome 8 = .ok (.iload_n 1, 1) := by decide +kernel
theorem dX0_welcome_9 : decode cX0_welcome 9 = .ok (.iload_n 3, 1) := by decide +kernel
theorem dX0_welcome_10 : decode cX0_welcome 10 = .ok (.invokestatic 118, 3) := by decide +kernel
theorem dX0_welcome_13 : decode cX0_welcome 13 = .ok (.ifCond .eq 13, 3) := by decide +kernel
theorem dX0_welcome_16 : decode cX0_welcome 16 = .ok (.aload_n 0, 1) := by decide +kernel
theorem dX0_welcome_17 : decode cX0_welcome 17 = .ok (.getfield 27, 3) := by decide +kernel
theorem dX0_welcome_20 : decode cX0_welcome 20 = .ok (.iload_n 3, 1) := by decide +kernel
theorem dX0_welcome_21 : decode cX0_welcome 21 = .ok (.aaload, 1) := by decide +kernel
theorem dX0_welcome_22 : decode cX0_welcome 22 = .ok (.aload_n 2, 1) := by decide +kernel
theorem dX0_welcome_23 : decode cX0_welcome 23 = .ok (.invokevirtual 156, 3) := by decide +kernel
theorem dX0_welcome_26 : decode cX0_welcome 26 = .ok (.iinc 3 1, 3) := by decide +kernel
theorem dX0_welcome_29 : decode cX0_welcome 29 = .ok (.goto (-27), 3) := by decide +kernel
theorem dX0_welcome_32 : decode cX0_welcome 32 = .ok (.return_, 1) := by decide +kernel
theorem dX0_canSend_0 : decode cX0_canSend 0 = .ok (.aload_n 0, 1) := by decide +kernel
theorem dX0_canSend_1 : decode cX0_canSend 1 = .ok (.iload_n 1, 1) := by decide +kernel
theorem dX0_canSend_2 : decode cX0_canSend 2 = .ok (.invokevirtual 159, 3) := by decide +kernel
theorem dX0_canSend_5 : decode cX0_canSend 5 = .ok (.ifCond .eq 17, 3) := by decide +kernel
theorem dX0_canSend_8 : decode cX0_canSend 8 = .ok (.aload_n 0, 1) := by decide +kernel
theorem dX0_canSend_9 : decode cX0_canSend 9 = .ok (.getfield 21, 3) := by decide +kernel
theorem dX0_canSend_12 : decode cX0_canSend 12 = .ok (.invokevirtual 162, 3) := by decide +kernel
theorem dX0_canSend_15 : decode cX0_canSend 15 = .ok (.ifCond .ne 7, 3) := by decide +kernel
theorem dX0_canSend_18 : decode cX0_canSend 18 = .ok (.iconst 1, 1) := by decide +kernel
theorem dX0_canSend_19 : decode cX0_canSend 19 = .ok (.goto 4, 3) := by decide +kernel
theorem dX0_canSend_22 : decode cX0_canSend 22 = .ok (.iconst 0, 1) := by decide +kernel
theorem dX0_canSend_23 : decode cX0_canSend 23 = .ok (.ireturn, 1) := by decide +kernel
theorem dX0_send_0 : decode cX0_send 0 = .ok (.aload_n 0, 1) := by decide +kernel
theorem dX0_send_1 : decode cX0_send 1 = .ok (.getfield 21, 3) := by decide +kernel
theorem dX0_send_4 : decode cX0_send 4 = .ok (.getfield 50, 3) := by decide +kernel
theorem dX0_send_7 : decode cX0_send 7 = .ok (.istore_n 3, 1) := by decide +kernel
theorem dX0_send_8 : decode cX0_send 8 = .ok (.aload_n 0, 1) := by decide +kernel
theorem dX0_send_9 : decode cX0_send 9 = .ok (.getfield 27, 3) := by decide +kernel
theorem dX0_send_12 : decode cX0_send 12 = .ok (.iload_n 1, 1) := by decide +kernel
theorem dX0_send_13 : decode cX0_send 13 = .ok (.aaload, 1) := by decide +kernel
theorem dX0_send_14 : decode cX0_send 14 = .ok (.iload_n 3, 1) := by decide +kernel
theorem dX0_send_15 : decode cX0_send 15 = .ok (.iload_n 1, 1) := by decide +kernel
theorem dX0_send_16 : decode cX0_send 16 = .ok (.iload_n 2, 1) := by decide +kernel
theorem dX0_send_17 : decode cX0_send 17 = .ok (.invokevirtual 165, 3) := by decide +kernel
theorem dX0_send_20 : decode cX0_send 20 = .ok (.aload_n 0, 1) := by decide +kernel
theorem dX0_send_21 : decode cX0_send 21 = .ok (.getfield 21, 3) := by decide +kernel
theorem dX0_send_24 : decode cX0_send 24 = .ok (.aload_n 0, 1) := by decide +kernel
theorem dX0_send_25 : decode cX0_send 25 = .ok (.getfield 27, 3) := by decide +kernel
theorem dX0_send_28 : decode cX0_send 28 = .ok (.iload_n 1, 1) := by decide +kernel
theorem dX0_send_29 : decode cX0_send 29 = .ok (.aaload, 1) := by decide +kernel
theorem dX0_send_30 : decode cX0_send 30 = .ok (.iload_n 2, 1) := by decide +kernel
theorem dX0_send_31 : decode cX0_send 31 = .ok (.aload_n 0, 1) := by decide +kernel
theorem dX0_send_32 : decode cX0_send 32 = .ok (.getfield 31, 3) := by decide +kernel
theorem dX0_send_35 : decode cX0_send 35 = .ok (.invokevirtual 168, 3) := by decide +kernel
theorem dX0_send_38 : decode cX0_send 38 = .ok (.iload_n 3, 1) := by decide +kernel
theorem dX0_send_39 : decode cX0_send 39 = .ok (.ireturn, 1) := by decide +kernel
theorem dX0_canReceive_0 : decode cX0_canReceive 0 = .ok (.aload_n 0, 1) := by decide +kernel
theorem dX0_canReceive_1 : decode cX0_canReceive 1 = .ok (.iload_n 1, 1) := by decide +kernel
theorem dX0_canReceive_2 : decode cX0_canReceive 2 = .ok (.invokevirtual 159, 3) := by decide +kernel
theorem dX0_canReceive_5 : decode cX0_canReceive 5 = .ok (.ifCond .eq 26, 3) := by decide +kernel
theorem dX0_canReceive_8 : decode cX0_canReceive 8 = .ok (.aload_n 0, 1) := by decide +kernel
theorem dX0_canReceive_9 : decode cX0_canReceive 9 = .ok (.getfield 21, 3) := by decide +kernel
theorem dX0_canReceive_12 : decode cX0_canReceive 12 = .ok (.iload_n 2, 1) := by decide +kernel
theorem dX0_canReceive_13 : decode cX0_canReceive 13 = .ok (.invokevirtual 172, 3) := by decide +kernel
theorem dX0_canReceive_16 : decode cX0_canReceive 16 = .ok (.ifCond .eq 15, 3) := by decide +kernel
theorem dX0_canReceive_19 : decode cX0_canReceive 19 = .ok (.iload_n 2, 1) := by decide +kernel
theorem dX0_canReceive_20 : decode cX0_canReceive 20 = .ok (.aload_n 0, 1) := by decide +kernel
theorem dX0_canReceive_21 : decode cX0_canReceive 21 = .ok (.getfield 38, 3) := by decide +kernel
theorem dX0_canReceive_24 : decode cX0_canReceive 24 = .ok (.if_icmp .lt 7, 3) := by decide +kernel
theorem dX0_canReceive_27 : decode cX0_canReceive 27 = .ok (.iconst 1, 1) := by decide +kernel
theorem dX0_canReceive_28 : decode cX0_canReceive 28 = .ok (.goto 4, 3) := by decide +kernel
theorem dX0_canReceive_31 : decode cX0_canReceive 31 = .ok (.iconst 0, 1) := by decide +kernel
theorem dX0_canReceive_32 : decode cX0_canReceive 32 = .ok (.ireturn, 1) := by decide +kernel
theorem dX0_receive_0 : decode cX0_receive 0 = .ok (.aload_n 0, 1) := by decide +kernel
theorem dX0_receive_1 : decode cX0_receive 1 = .ok (.getfield 27, 3) := by decide +kernel
theorem dX0_receive_4 : decode cX0_receive 4 = .ok (.iload_n 1, 1) := by decide +kernel
theorem dX0_receive_5 : decode cX0_receive 5 = .ok (.aaload, 1) := by decide +kernel
theorem dX0_receive_6 : decode cX0_receive 6 = .ok (.getfield 175, 3) := by decide +kernel
theorem dX0_receive_9 : decode cX0_receive 9 = .ok (.iload_n 2, 1) := by decide +kernel
theorem dX0_receive_10 : decode cX0_receive 10 = .ok (.iaload, 1) := by decide +kernel
theorem dX0_receive_11 : decode cX0_receive 11 = .ok (.bipush (-2), 2) := by decide +kernel
theorem dX0_receive_13 : decode cX0_receive 13 = .ok (.if_icmp .eq 15, 3) := by decide +kernel
theorem dX0_receive_16 : decode cX0_receive 16 = .ok (.aload_n 0, 1) := by decide +kernel
theorem dX0_receive_17 : decode cX0_receive 17 = .ok (.dup, 1) := by decide +kernel
theorem dX0_receive_18 : decode cX0_receive 18 = .ok (.getfield 41, 3) := by decide +kernel
theorem dX0_receive_21 : decode cX0_receive 21 = .ok (.iconst 1, 1) := by decide +kernel
theorem dX0_receive_22 : decode cX0_receive 22 = .ok (.iadd, 1) := by decide +kernel
theorem dX0_receive_23 : decode cX0_receive 23 = .ok (.putfield 41, 3) := by decide +kernel
theorem dX0_receive_26 : decode cX0_receive 26 = .ok (.iconst 0, 1) := by decide +kernel
theorem dX0_receive_27 : decode cX0_receive 27 = .ok (.ireturn, 1) := by decide +kernel
theorem dX0_receive_28 : decode cX0_receive 28 = .ok (.aload_n 0, 1) := by decide +kernel
theorem dX0_receive_29 : decode cX0_receive 29 = .ok (.getfield 27, 3) := by decide +kernel
theorem dX0_receive_32 : decode cX0_receive 32 = .ok (.iload_n 1, 1) := by decide +kernel
theorem dX0_receive_33 : decode cX0_receive 33 = .ok (.aaload, 1) := by decide +kernel
theorem dX0_receive_34 : decode cX0_receive 34 = .ok (.getfield 175, 3) := by decide +kernel
theorem dX0_receive_37 : decode cX0_receive 37 = .ok (.iload_n 2, 1) := by decide +kernel
theorem dX0_receive_38 : decode cX0_receive 38 = .ok (.iconst (-1), 1) := by decide +kernel
theorem dX0_receive_39 : decode cX0_receive 39 = .ok (.iastore, 1) := by decide +kernel
theorem dX0_receive_40 : decode cX0_receive 40 = .ok (.aload_n 0, 1) := by decide +kernel
theorem dX0_receive_41 : decode cX0_receive 41 = .ok (.iload_n 1, 1) := by decide +kernel
theorem dX0_receive_42 : decode cX0_receive 42 = .ok (.iload_n 2, 1) := by decide +kernel
theorem dX0_receive_43 : decode cX0_receive 43 = .ok (.invokevirtual 178, 3) := by decide +kernel
theorem dX0_receive_46 : decode cX0_receive 46 = .ok (.ireturn, 1) := by decide +kernel
theorem dX0_receiveRest_0 : decode cX0_receiveRest 0 = .ok (.iconst 0, 1) := by decide +kernel
theorem dX0_receiveRest_1 : decode cX0_receiveRest 1 = .ok (.istore_n 2, 1) := by decide +kernel
theorem dX0_receiveRest_2 : decode cX0_receiveRest 2 = .ok (.aload_n 0, 1) := by decide +kernel
theorem dX0_receiveRest_3 : decode cX0_receiveRest 3 = .ok (.getfield 38, 3) := by decide +kernel
theorem dX0_receiveRest_6 : decode cX0_receiveRest 6 = .ok (.istore_n 3, 1) := by decide +kernel
theorem dX0_receiveRest_7 : decode cX0_receiveRest 7 = .ok (.iload_n 3, 1) := by decide +kernel
theorem dX0_receiveRest_8 : decode cX0_receiveRest 8 = .ok (.aload_n 0, 1) := by decide +kernel
theorem dX0_receiveRest_9 : decode cX0_receiveRest 9 = .ok (.getfield 21, 3) := by decide +kernel
theorem dX0_receiveRest_12 : decode cX0_receiveRest 12 = .ok (.getfield 50, 3) := by decide +kernel
theorem dX0_receiveRest_15 : decode cX0_receiveRest 15 = .ok (.if_icmp .ge 34, 3) := by decide +kernel
theorem dX0_receiveRest_18 : decode cX0_receiveRest 18 = .ok (.aload_n 0, 1) := by decide +kernel
theorem dX0_receiveRest_19 : decode cX0_receiveRest 19 = .ok (.getfield 27, 3) := by decide +kernel
theorem dX0_receiveRest_22 : decode cX0_receiveRest 22 = .ok (.iload_n 1, 1) := by decide +kernel
theorem dX0_receiveRest_23 : decode cX0_receiveRest 23 = .ok (.aaload, 1) := by decide +kernel
theorem dX0_receiveRest_24 : decode cX0_receiveRest 24 = .ok (.getfield 175, 3) := by decide +kernel
theorem dX0_receiveRest_27 : decode cX0_receiveRest 27 = .ok (.iload_n 3, 1) := by decide +kernel
theorem dX0_receiveRest_28 : decode cX0_receiveRest 28 = .ok (.iaload, 1) := by decide +kernel
theorem dX0_receiveRest_29 : decode cX0_receiveRest 29 = .ok (.bipush (-2), 2) := by decide +kernel
theorem dX0_receiveRest_31 : decode cX0_receiveRest 31 = .ok (.if_icmp .ne 12, 3) := by decide +kernel
theorem dX0_receiveRest_34 : decode cX0_receiveRest 34 = .ok (.iload_n 2, 1) := by decide +kernel
theorem dX0_receiveRest_35 : decode cX0_receiveRest 35 = .ok (.aload_n 0, 1) := by decide +kernel
theorem dX0_receiveRest_36 : decode cX0_receiveRest 36 = .ok (.iload_n 1, 1) := by decide +kernel
theorem dX0_receiveRest_37 : decode cX0_receiveRest 37 = .ok (.iload_n 3, 1) := by decide +kernel
theorem dX0_receiveRest_38 : decode cX0_receiveRest 38 = .ok (.invokevirtual 74, 3) := by decide +kernel
theorem dX0_receiveRest_41 : decode cX0_receiveRest 41 = .ok (.iadd, 1) := by decide +kernel
theorem dX0_receiveRest_42 : decode cX0_receiveRest 42 = .ok (.istore_n 2, 1) := by decide +kernel
theorem dX0_receiveRest_43 : decode cX0_receiveRest 43 = .ok (.iinc 3 1, 3) := by decide +kernel
theorem dX0_receiveRest_46 : decode cX0_receiveRest 46 = .ok (.goto (-39), 3) := by decide +kernel
theorem dX0_receiveRest_49 : decode cX0_receiveRest 49 = .ok (.iload_n 2, 1) := by decide +kernel
theorem dX0_receiveRest_50 : decode cX0_receiveRest 50 = .ok (.ireturn, 1) := by decide +kernel
theorem dX0_deliverWaiting_0 : decode cX0_deliverWaiting 0 = .ok (.iconst 0, 1) := by decide +kernel
theorem dX0_deliverWaiting_1 : decode cX0_deliverWaiting 1 = .ok (.istore_n 3, 1) := by decide +kernel
theorem dX0_deliverWaiting_2 : decode cX0_deliverWaiting 2 = .ok (.iload_n 2, 1) := by decide +kernel
theorem dX0_deliverWaiting_3 : decode cX0_deliverWaiting 3 = .ok (.istore 4, 2) := by decide +kernel
theorem dX0_deliverWaiting_5 : decode cX0_deliverWaiting 5 = .ok (.iload 4, 2) := by decide +kernel
theorem dX0_deliverWaiting_7 : decode cX0_deliverWaiting 7 = .ok (.aload_n 0, 1) := by decide +kernel
theorem dX0_deliverWaiting_8 : decode cX0_deliverWaiting 8 = .ok (.getfield 21, 3) := by decide +kernel
theorem dX0_deliverWaiting_11 : decode cX0_deliverWaiting 11 = .ok (.getfield 50, 3) := by decide +kernel
theorem dX0_deliverWaiting_14 : decode cX0_deliverWaiting 14 = .ok (.if_icmp .ge 53, 3) := by decide +kernel
theorem dX0_deliverWaiting_17 : decode cX0_deliverWaiting 17 = .ok (.aload_n 0, 1) := by decide +kernel
theorem dX0_deliverWaiting_18 : decode cX0_deliverWaiting 18 = .ok (.getfield 27, 3) := by decide +kernel
theorem dX0_deliverWaiting_21 : decode cX0_deliverWaiting 21 = .ok (.iload_n 1, 1) := by decide +kernel
theorem dX0_deliverWaiting_22 : decode cX0_deliverWaiting 22 = .ok (.aaload, 1) := by decide +kernel
theorem dX0_deliverWaiting_23 : decode cX0_deliverWaiting 23 = .ok (.getfield 175, 3) := by decide +kernel
theorem dX0_deliverWaiting_26 : decode cX0_deliverWaiting 26 = .ok (.iload 4, 2) := by decide +kernel
theorem dX0_deliverWaiting_28 : decode cX0_deliverWaiting 28 = .ok (.iaload, 1) := by decide +kernel
theorem dX0_deliverWaiting_29 : decode cX0_deliverWaiting 29 = .ok (.iconst (-1), 1) := by decide +kernel
theorem dX0_deliverWaiting_30 : decode cX0_deliverWaiting 30 = .ok (.if_icmp .ne 31, 3) := by decide +kernel
theorem dX0_deliverWaiting_33 : decode cX0_deliverWaiting 33 = .ok (.aload_n 0, 1) := by decide +kernel
theorem dX0_deliverWaiting_34 : decode cX0_deliverWaiting 34 = .ok (.getfield 27, 3) := by decide +kernel
theorem dX0_deliverWaiting_37 : decode cX0_deliverWaiting 37 = .ok (.iload_n 1, 1) := by decide +kernel
theorem dX0_deliverWaiting_38 : decode cX0_deliverWaiting 38 = .ok (.aaload, 1) := by decide +kernel
theorem dX0_deliverWaiting_39 : decode cX0_deliverWaiting 39 = .ok (.aload_n 0, 1) := by decide +kernel
theorem dX0_deliverWaiting_40 : decode cX0_deliverWaiting 40 = .ok (.getfield 21, 3) := by decide +kernel
theorem dX0_deliverWaiting_43 : decode cX0_deliverWaiting 43 = .ok (.iload 4, 2) := by decide +kernel
theorem dX0_deliverWaiting_45 : decode cX0_deliverWaiting 45 = .ok (.invokevirtual 142, 3) := by decide +kernel
theorem dX0_deliverWaiting_48 : decode cX0_deliverWaiting 48 = .ok (.ifCond .eq 13, 3) := by decide +kernel
theorem dX0_deliverWaiting_51 : decode cX0_deliverWaiting 51 = .ok (.aload_n 0, 1) := by decide +kernel
theorem dX0_deliverWaiting_52 : decode cX0_deliverWaiting 52 = .ok (.iload_n 1, 1) := by decide +kernel
theorem dX0_deliverWaiting_53 : decode cX0_deliverWaiting 53 = .ok (.iload 4, 2) := by decide +kernel
theorem dX0_deliverWaiting_55 : decode cX0_deliverWaiting 55 = .ok (.invokevirtual 146, 3) := by decide +kernel
theorem dX0_deliverWaiting_58 : decode cX0_deliverWaiting 58 = .ok (.iinc 3 1, 3) := by decide +kernel
theorem dX0_deliverWaiting_61 : decode cX0_deliverWaiting 61 = .ok (.iinc 4 1, 3) := by decide +kernel
theorem dX0_deliverWaiting_64 : decode cX0_deliverWaiting 64 = .ok (.goto (-59), 3) := by decide +kernel
theorem dX0_deliverWaiting_67 : decode cX0_deliverWaiting 67 = .ok (.iload_n 3, 1) := by decide +kernel
theorem dX0_deliverWaiting_68 : decode cX0_deliverWaiting 68 = .ok (.ireturn, 1) := by decide +kernel
theorem dX0_deliver_0 : decode cX0_deliver 0 = .ok (.aload_n 0, 1) := by decide +kernel
theorem dX0_deliver_1 : decode cX0_deliver 1 = .ok (.getfield 27, 3) := by decide +kernel
theorem dX0_deliver_4 : decode cX0_deliver 4 = .ok (.iload_n 1, 1) := by decide +kernel
theorem dX0_deliver_5 : decode cX0_deliver 5 = .ok (.aaload, 1) := by decide +kernel
theorem dX0_deliver_6 : decode cX0_deliver 6 = .ok (.iload_n 2, 1) := by decide +kernel
theorem dX0_deliver_7 : decode cX0_deliver 7 = .ok (.aload_n 0, 1) := by decide +kernel
theorem dX0_deliver_8 : decode cX0_deliver 8 = .ok (.getfield 21, 3) := by decide +kernel
theorem dX0_deliver_11 : decode cX0_deliver 11 = .ok (.getfield 181, 3) := by decide +kernel
theorem dX0_deliver_14 : decode cX0_deliver 14 = .ok (.iload_n 2, 1) := by decide +kernel
theorem dX0_deliver_15 : decode cX0_deliver 15 = .ok (.iaload, 1) := by decide +kernel
theorem dX0_deliver_16 : decode cX0_deliver 16 = .ok (.aload_n 0, 1) := by decide +kernel
theorem dX0_deliver_17 : decode cX0_deliver 17 = .ok (.getfield 21, 3) := by decide +kernel
theorem dX0_deliver_20 : decode cX0_deliver 20 = .ok (.getfield 184, 3) := by decide +kernel
theorem dX0_deliver_23 : decode cX0_deliver 23 = .ok (.iload_n 2, 1) := by decide +kernel
theorem dX0_deliver_24 : decode cX0_deliver 24 = .ok (.iaload, 1) := by decide +kernel
theorem dX0_deliver_25 : decode cX0_deliver 25 = .ok (.invokevirtual 165, 3) := by decide +kernel
theorem dX0_deliver_28 : decode cX0_deliver 28 = .ok (.aload_n 0, 1) := by decide +kernel
theorem dX0_deliver_29 : decode cX0_deliver 29 = .ok (.getfield 27, 3) := by decide +kernel
theorem dX0_deliver_32 : decode cX0_deliver 32 = .ok (.iload_n 1, 1) := by decide +kernel
theorem dX0_deliver_33 : decode cX0_deliver 33 = .ok (.aaload, 1) := by decide +kernel
theorem dX0_deliver_34 : decode cX0_deliver 34 = .ok (.aload_n 0, 1) := by decide +kernel
theorem dX0_deliver_35 : decode cX0_deliver 35 = .ok (.getfield 21, 3) := by decide +kernel
theorem dX0_deliver_38 : decode cX0_deliver 38 = .ok (.iload_n 2, 1) := by decide +kernel
theorem dX0_deliver_39 : decode cX0_deliver 39 = .ok (.invokevirtual 187, 3) := by decide +kernel
theorem dX0_deliver_42 : decode cX0_deliver 42 = .ok (.return_, 1) := by decide +kernel
theorem dX0_canTell_0 : decode cX0_canTell 0 = .ok (.aload_n 0, 1) := by decide +kernel
theorem dX0_canTell_1 : decode cX0_canTell 1 = .ok (.iload_n 1, 1) := by decide +kernel
theorem dX0_canTell_2 : decode cX0_canTell 2 = .ok (.invokevirtual 159, 3) := by decide +kernel
theorem dX0_canTell_5 : decode cX0_canTell 5 = .ok (.ifCond .eq 20, 3) := by decide +kernel
theorem dX0_canTell_8 : decode cX0_canTell 8 = .ok (.aload_n 0, 1) := by decide +kernel
theorem dX0_canTell_9 : decode cX0_canTell 9 = .ok (.iload_n 2, 1) := by decide +kernel
theorem dX0_canTell_10 : decode cX0_canTell 10 = .ok (.invokevirtual 159, 3) := by decide +kernel
theorem dX0_canTell_13 : decode cX0_canTell 13 = .ok (.ifCond .eq 12, 3) := by decide +kernel
theorem dX0_canTell_16 : decode cX0_canTell 16 = .ok (.iload_n 1, 1) := by decide +kernel
theorem dX0_canTell_17 : decode cX0_canTell 17 = .ok (.iload_n 2, 1) := by decide +kernel
theorem dX0_canTell_18 : decode cX0_canTell 18 = .ok (.if_icmp .eq 7, 3) := by decide +kernel
theorem dX0_canTell_21 : decode cX0_canTell 21 = .ok (.iconst 1, 1) := by decide +kernel
theorem dX0_canTell_22 : decode cX0_canTell 22 = .ok (.goto 4, 3) := by decide +kernel
theorem dX0_canTell_25 : decode cX0_canTell 25 = .ok (.iconst 0, 1) := by decide +kernel
theorem dX0_canTell_26 : decode cX0_canTell 26 = .ok (.ireturn, 1) := by decide +kernel
theorem dX0_tell_0 : decode cX0_tell 0 = .ok (.aload_n 0, 1) := by decide +kernel
theorem dX0_tell_1 : decode cX0_tell 1 = .ok (.getfield 27, 3) := by decide +kernel
theorem dX0_tell_4 : decode cX0_tell 4 = .ok (.iload_n 2, 1) := by decide +kernel
theorem dX0_tell_5 : decode cX0_tell 5 = .ok (.aaload, 1) := by decide +kernel
theorem dX0_tell_6 : decode cX0_tell 6 = .ok (.aload_n 0, 1) := by decide +kernel
theorem dX0_tell_7 : decode cX0_tell 7 = .ok (.getfield 27, 3) := by decide +kernel
theorem dX0_tell_10 : decode cX0_tell 10 = .ok (.iload_n 1, 1) := by decide +kernel
theorem dX0_tell_11 : decode cX0_tell 11 = .ok (.aaload, 1) := by decide +kernel
theorem dX0_tell_12 : decode cX0_tell 12 = .ok (.invokevirtual 191, 3) := by decide +kernel
theorem dX0_tell_15 : decode cX0_tell 15 = .ok (.ireturn, 1) := by decide +kernel
theorem dX0_countPlaced_0 : decode cX0_countPlaced 0 = .ok (.iconst 0, 1) := by decide +kernel
theorem dX0_countPlaced_1 : decode cX0_countPlaced 1 = .ok (.istore_n 3, 1) := by decide +kernel
theorem dX0_countPlaced_2 : decode cX0_countPlaced 2 = .ok (.aload_n 0, 1) := by decide +kernel
theorem dX0_countPlaced_3 : decode cX0_countPlaced 3 = .ok (.getfield 38, 3) := by decide +kernel
theorem dX0_countPlaced_6 : decode cX0_countPlaced 6 = .ok (.istore 4, 2) := by decide +kernel
theorem dX0_countPlaced_8 : decode cX0_countPlaced 8 = .ok (.iload 4, 2) := by decide +kernel
theorem dX0_countPlaced_10 : decode cX0_countPlaced 10 = .ok (.aload_n 0, 1) := by decide +kernel
theorem dX0_countPlaced_11 : decode cX0_countPlaced 11 = .ok (.getfield 21, 3) := by decide +kernel
theorem dX0_countPlaced_14 : decode cX0_countPlaced 14 = .ok (.getfield 50, 3) := by decide +kernel
theorem dX0_countPlaced_17 : decode cX0_countPlaced 17 = .ok (.if_icmp .ge 28, 3) := by decide +kernel
theorem dX0_countPlaced_20 : decode cX0_countPlaced 20 = .ok (.aload_n 0, 1) := by decide +kernel
theorem dX0_countPlaced_21 : decode cX0_countPlaced 21 = .ok (.getfield 27, 3) := by decide +kernel
theorem dX0_countPlaced_24 : decode cX0_countPlaced 24 = .ok (.iload_n 1, 1) := by decide +kernel
theorem dX0_countPlaced_25 : decode cX0_countPlaced 25 = .ok (.aaload, 1) := by decide +kernel
theorem dX0_countPlaced_26 : decode cX0_countPlaced 26 = .ok (.getfield 175, 3) := by decide +kernel
theorem dX0_countPlaced_29 : decode cX0_countPlaced 29 = .ok (.iload 4, 2) := by decide +kernel
theorem dX0_countPlaced_31 : decode cX0_countPlaced 31 = .ok (.iaload, 1) := by decide +kernel
theorem dX0_countPlaced_32 : decode cX0_countPlaced 32 = .ok (.iload_n 2, 1) := by decide +kernel
theorem dX0_countPlaced_33 : decode cX0_countPlaced 33 = .ok (.if_icmp .ne 6, 3) := by decide +kernel
theorem dX0_countPlaced_36 : decode cX0_countPlaced 36 = .ok (.iinc 3 1, 3) := by decide +kernel
theorem dX0_countPlaced_39 : decode cX0_countPlaced 39 = .ok (.iinc 4 1, 3) := by decide +kernel
theorem dX0_countPlaced_42 : decode cX0_countPlaced 42 = .ok (.goto (-34), 3) := by decide +kernel
theorem dX0_countPlaced_45 : decode cX0_countPlaced 45 = .ok (.iload_n 3, 1) := by decide +kernel
theorem dX0_countPlaced_46 : decode cX0_countPlaced 46 = .ok (.ireturn, 1) := by decide +kernel
theorem dX0_waitingAt_0 : decode cX0_waitingAt 0 = .ok (.iconst 0, 1) := by decide +kernel
theorem dX0_waitingAt_1 : decode cX0_waitingAt 1 = .ok (.istore_n 3, 1) := by decide +kernel
theorem dX0_waitingAt_2 : decode cX0_waitingAt 2 = .ok (.aload_n 0, 1) := by decide +kernel
theorem dX0_waitingAt_3 : decode cX0_waitingAt 3 = .ok (.getfield 38, 3) := by decide +kernel
theorem dX0_waitingAt_6 : decode cX0_waitingAt 6 = .ok (.istore 4, 2) := by decide +kernel
theorem dX0_waitingAt_8 : decode cX0_waitingAt 8 = .ok (.iload 4, 2) := by decide +kernel
theorem dX0_waitingAt_10 : decode cX0_waitingAt 10 = .ok (.aload_n 0, 1) := by decide +kernel
theorem dX0_waitingAt_11 : decode cX0_waitingAt 11 = .ok (.getfield 21, 3) := by decide +kernel
theorem dX0_waitingAt_14 : decode cX0_waitingAt 14 = .ok (.getfield 50, 3) := by decide +kernel
theorem dX0_waitingAt_17 : decode cX0_waitingAt 17 = .ok (.if_icmp .ge 36, 3) := by decide +kernel
theorem dX0_waitingAt_20 : decode cX0_waitingAt 20 = .ok (.aload_n 0, 1) := by decide +kernel
theorem dX0_waitingAt_21 : decode cX0_waitingAt 21 = .ok (.getfield 27, 3) := by decide +kernel
theorem dX0_waitingAt_24 : decode cX0_waitingAt 24 = .ok (.iload_n 1, 1) := by decide +kernel
theorem dX0_waitingAt_25 : decode cX0_waitingAt 25 = .ok (.aaload, 1) := by decide +kernel
theorem dX0_waitingAt_26 : decode cX0_waitingAt 26 = .ok (.getfield 175, 3) := by decide +kernel
theorem dX0_waitingAt_29 : decode cX0_waitingAt 29 = .ok (.iload 4, 2) := by decide +kernel
theorem dX0_waitingAt_31 : decode cX0_waitingAt 31 = .ok (.iaload, 1) := by decide +kernel
theorem dX0_waitingAt_32 : decode cX0_waitingAt 32 = .ok (.iconst (-1), 1) := by decide +kernel
theorem dX0_waitingAt_33 : decode cX0_waitingAt 33 = .ok (.if_icmp .ne 14, 3) := by decide +kernel
theorem dX0_waitingAt_36 : decode cX0_waitingAt 36 = .ok (.iload_n 3, 1) := by decide +kernel
theorem dX0_waitingAt_37 : decode cX0_waitingAt 37 = .ok (.iload_n 2, 1) := by decide +kernel
theorem dX0_waitingAt_38 : decode cX0_waitingAt 38 = .ok (.if_icmp .ne 6, 3) := by decide +kernel
theorem dX0_waitingAt_41 : decode cX0_waitingAt 41 = .ok (.iload 4, 2) := by decide +kernel
theorem dX0_waitingAt_43 : decode cX0_waitingAt 43 = .ok (.ireturn, 1) := by decide +kernel
theorem dX0_waitingAt_44 : decode cX0_waitingAt 44 = .ok (.iinc 3 1, 3) := by decide +kernel
theorem dX0_waitingAt_47 : decode cX0_waitingAt 47 = .ok (.iinc 4 1, 3) := by decide +kernel
theorem dX0_waitingAt_50 : decode cX0_waitingAt 50 = .ok (.goto (-42), 3) := by decide +kernel
theorem dX0_waitingAt_53 : decode cX0_waitingAt 53 = .ok (.iconst (-1), 1) := by decide +kernel
theorem dX0_waitingAt_54 : decode cX0_waitingAt 54 = .ok (.ireturn, 1) := by decide +kernel
theorem dX0_countMissing_0 : decode cX0_countMissing 0 = .ok (.iconst 0, 1) := by decide +kernel
theorem dX0_countMissing_1 : decode cX0_countMissing 1 = .ok (.istore_n 3, 1) := by decide +kernel
theorem dX0_countMissing_2 : decode cX0_countMissing 2 = .ok (.aload_n 0, 1) := by decide +kernel
theorem dX0_countMissing_3 : decode cX0_countMissing 3 = .ok (.getfield 38, 3) := by decide +kernel
theorem dX0_countMissing_6 : decode cX0_countMissing 6 = .ok (.istore 4, 2) := by decide +kernel
theorem dX0_countMissing_8 : decode cX0_countMissing 8 = .ok (.iload 4, 2) := by decide +kernel
theorem dX0_countMissing_10 : decode cX0_countMissing 10 = .ok (.aload_n 0, 1) := by decide +kernel
theorem dX0_countMissing_11 : decode cX0_countMissing 11 = .ok (.getfield 21, 3) := by decide +kernel
theorem dX0_countMissing_14 : decode cX0_countMissing 14 = .ok (.getfield 50, 3) := by decide +kernel
theorem dX0_countMissing_17 : decode cX0_countMissing 17 = .ok (.if_icmp .ge 39, 3) := by decide +kernel
theorem dX0_countMissing_20 : decode cX0_countMissing 20 = .ok (.aload_n 0, 1) := by decide +kernel
theorem dX0_countMissing_21 : decode cX0_countMissing 21 = .ok (.getfield 21, 3) := by decide +kernel
theorem dX0_countMissing_24 : decode cX0_countMissing 24 = .ok (.iload 4, 2) := by decide +kernel
theorem dX0_countMissing_26 : decode cX0_countMissing 26 = .ok (.iload_n 2, 1) := by decide +kernel
theorem dX0_countMissing_27 : decode cX0_countMissing 27 = .ok (.invokevirtual 195, 3) := by decide +kernel
theorem dX0_countMissing_30 : decode cX0_countMissing 30 = .ok (.ifCond .eq 20, 3) := by decide +kernel
theorem dX0_countMissing_33 : decode cX0_countMissing 33 = .ok (.aload_n 0, 1) := by decide +kernel
theorem dX0_countMissing_34 : decode cX0_countMissing 34 = .ok (.getfield 27, 3) := by decide +kernel
theorem dX0_countMissing_37 : decode cX0_countMissing 37 = .ok (.iload_n 1, 1) := by decide +kernel
theorem dX0_countMissing_38 : decode cX0_countMissing 38 = .ok (.aaload, 1) := by decide +kernel
theorem dX0_countMissing_39 : decode cX0_countMissing 39 = .ok (.iload 4, 2) := by decide +kernel
theorem dX0_countMissing_41 : decode cX0_countMissing 41 = .ok (.invokevirtual 150, 3) := by decide +kernel
theorem dX0_countMissing_44 : decode cX0_countMissing 44 = .ok (.ifCond .ne 6, 3) := by decide +kernel
theorem dX0_countMissing_47 : decode cX0_countMissing 47 = .ok (.iinc 3 1, 3) := by decide +kernel
theorem dX0_countMissing_50 : decode cX0_countMissing 50 = .ok (.iinc 4 1, 3) := by decide +kernel
theorem dX0_countMissing_53 : decode cX0_countMissing 53 = .ok (.goto (-45), 3) := by decide +kernel
theorem dX0_countMissing_56 : decode cX0_countMissing 56 = .ok (.iload_n 3, 1) := by decide +kernel
theorem dX0_countMissing_57 : decode cX0_countMissing 57 = .ok (.ireturn, 1) := by decide +kernel
theorem dX0_isSettled_0 : decode cX0_isSettled 0 = .ok (.iload_n 2, 1) := by decide +kernel
theorem dX0_isSettled_1 : decode cX0_isSettled 1 = .ok (.aload_n 0, 1) := by decide +kernel
theorem dX0_isSettled_2 : decode cX0_isSettled 2 = .ok (.getfield 38, 3) := by decide +kernel
theorem dX0_isSettled_5 : decode cX0_isSettled 5 = .ok (.if_icmp .ge 5, 3) := by decide +kernel
theorem dX0_isSettled_8 : decode cX0_isSettled 8 = .ok (.iconst 1, 1) := by decide +kernel
theorem dX0_isSettled_9 : decode cX0_isSettled 9 = .ok (.ireturn, 1) := by decide +kernel
theorem dX0_isSettled_10 : decode cX0_isSettled 10 = .ok (.aload_n 0, 1) := by decide +kernel
theorem dX0_isSettled_11 : decode cX0_isSettled 11 = .ok (.getfield 21, 3) := by decide +kernel
theorem dX0_isSettled_14 : decode cX0_isSettled 14 = .ok (.getfield 181, 3) := by decide +kernel
theorem dX0_isSettled_17 : decode cX0_isSettled 17 = .ok (.iload_n 2, 1) := by decide +kernel
theorem dX0_isSettled_18 : decode cX0_isSettled 18 = .ok (.iaload, 1) := by decide +kernel
theorem dX0_isSettled_19 : decode cX0_isSettled 19 = .ok (.istore_n 3, 1) := by decide +kernel
theorem dX0_isSettled_20 : decode cX0_isSettled 20 = .ok (.iconst 0, 1) := by decide +kernel
theorem dX0_isSettled_21 : decode cX0_isSettled 21 = .ok (.istore 4, 2) := by decide +kernel
theorem dX0_isSettled_23 : decode cX0_isSettled 23 = .ok (.iload 4, 2) := by decide +kernel
theorem dX0_isSettled_25 : decode cX0_isSettled 25 = .ok (.bipush 6, 2) := by decide +kernel
theorem dX0_isSettled_27 : decode cX0_isSettled 27 = .ok (.if_icmp .ge 44, 3) := by decide +kernel
theorem dX0_isSettled_30 : decode cX0_isSettled 30 = .ok (.aload_n 0, 1) := by decide +kernel
theorem dX0_isSettled_31 : decode cX0_isSettled 31 = .ok (.iload 4, 2) := by decide +kernel
theorem dX0_isSettled_33 : decode cX0_isSettled 33 = .ok (.invokevirtual 159, 3) := by decide +kernel
theorem dX0_isSettled_36 : decode cX0_isSettled 36 = .ok (.ifCond .eq 29, 3) := by decide +kernel
theorem dX0_isSettled_39 : decode cX0_isSettled 39 = .ok (.aload_n 0, 1) := by decide +kernel
theorem dX0_isSettled_40 : decode cX0_isSettled 40 = .ok (.getfield 27, 3) := by decide +kernel
theorem dX0_isSettled_43 : decode cX0_isSettled 43 = .ok (.iload_n 1, 1) := by decide +kernel
theorem dX0_isSettled_44 : decode cX0_isSettled 44 = .ok (.aaload, 1) := by decide +kernel
theorem dX0_isSettled_45 : decode cX0_isSettled 45 = .ok (.iload 4, 2) := by decide +kernel
theorem dX0_isSettled_47 : decode cX0_isSettled 47 = .ok (.iload_n 3, 1) := by decide +kernel
theorem dX0_isSettled_48 : decode cX0_isSettled 48 = .ok (.invokevirtual 198, 3) := by decide +kernel
theorem dX0_isSettled_51 : decode cX0_isSettled 51 = .ok (.aload_n 0, 1) := by decide +kernel
theorem dX0_isSettled_52 : decode cX0_isSettled 52 = .ok (.getfield 21, 3) := by decide +kernel
theorem dX0_isSettled_55 : decode cX0_isSettled 55 = .ok (.getfield 201, 3) := by decide +kernel
theorem dX0_isSettled_58 : decode cX0_isSettled 58 = .ok (.iload_n 2, 1) := by decide +kernel
theorem dX0_isSettled_59 : decode cX0_isSettled 59 = .ok (.iaload, 1) := by decide +kernel
theorem dX0_isSettled_60 : decode cX0_isSettled 60 = .ok (.if_icmp .ge 5, 3) := by decide +kernel
theorem dX0_isSettled_63 : decode cX0_isSettled 63 = .ok (.iconst 0, 1) := by decide +kernel
theorem dX0_isSettled_64 : decode cX0_isSettled 64 = .ok (.ireturn, 1) := by decide +kernel
theorem dX0_isSettled_65 : decode cX0_isSettled 65 = .ok (.iinc 4 1, 3) := by decide +kernel
theorem dX0_isSettled_68 : decode cX0_isSettled 68 = .ok (.goto (-45), 3) := by decide +kernel
theorem dX0_isSettled_71 : decode cX0_isSettled 71 = .ok (.iconst 1, 1) := by decide +kernel
theorem dX0_isSettled_72 : decode cX0_isSettled 72 = .ok (.ireturn, 1) := by decide +kernel
theorem dX0_countUnsettled_0 : decode cX0_countUnsettled 0 = .ok (.iconst 0, 1) := by decide +kernel
theorem dX0_countUnsettled_1 : decode cX0_countUnsettled 1 = .ok (.istore_n 2, 1) := by decide +kernel
theorem dX0_countUnsettled_2 : decode cX0_countUnsettled 2 = .ok (.aload_n 0, 1) := by decide +kernel
theorem dX0_countUnsettled_3 : decode cX0_countUnsettled 3 = .ok (.getfield 38, 3) := by decide +kernel
theorem dX0_countUnsettled_6 : decode cX0_countUnsettled 6 = .ok (.istore_n 3, 1) := by decide +kernel
theorem dX0_countUnsettled_7 : decode cX0_countUnsettled 7 = .ok (.iload_n 3, 1) := by decide +kernel
theorem dX0_countUnsettled_8 : decode cX0_countUnsettled 8 = .ok (.aload_n 0, 1) := by decide +kernel
theorem dX0_countUnsettled_9 : decode cX0_countUnsettled 9 = .ok (.getfield 21, 3) := by decide +kernel
theorem dX0_countUnsettled_12 : decode cX0_countUnsettled 12 = .ok (.getfield 50, 3) := by decide +kernel
theorem dX0_countUnsettled_15 : decode cX0_countUnsettled 15 = .ok (.if_icmp .ge 34, 3) := by decide +kernel
theorem dX0_countUnsettled_18 : decode cX0_countUnsettled 18 = .ok (.aload_n 0, 1) := by decide +kernel
theorem dX0_countUnsettled_19 : decode cX0_countUnsettled 19 = .ok (.getfield 27, 3) := by decide +kernel
theorem dX0_countUnsettled_22 : decode cX0_countUnsettled 22 = .ok (.iload_n 1, 1) := by decide +kernel
theorem dX0_countUnsettled_23 : decode cX0_countUnsettled 23 = .ok (.aaload, 1) := by decide +kernel
theorem dX0_countUnsettled_24 : decode cX0_countUnsettled 24 = .ok (.iload_n 3, 1) := by decide +kernel
theorem dX0_countUnsettled_25 : decode cX0_countUnsettled 25 = .ok (.invokevirtual 150, 3) := by decide +kernel
theorem dX0_countUnsettled_28 : decode cX0_countUnsettled 28 = .ok (.ifCond .eq 15, 3) := by decide +kernel
theorem dX0_countUnsettled_31 : decode cX0_countUnsettled 31 = .ok (.aload_n 0, 1) := by decide +kernel
theorem dX0_countUnsettled_32 : decode cX0_countUnsettled 32 = .ok (.iload_n 1, 1) := by decide +kernel
theorem dX0_countUnsettled_33 : decode cX0_countUnsettled 33 = .ok (.iload_n 3, 1) := by decide +kernel
theorem dX0_countUnsettled_34 : decode cX0_countUnsettled 34 = .ok (.invokevirtual 204, 3) := by decide +kernel
theorem dX0_countUnsettled_37 : decode cX0_countUnsettled 37 = .ok (.ifCond .ne 6, 3) := by decide +kernel
theorem dX0_countUnsettled_40 : decode cX0_countUnsettled 40 = .ok (.iinc 2 1, 3) := by decide +kernel
theorem dX0_countUnsettled_43 : decode cX0_countUnsettled 43 = .ok (.iinc 3 1, 3) := by decide +kernel
theorem dX0_countUnsettled_46 : decode cX0_countUnsettled 46 = .ok (.goto (-39), 3) := by decide +kernel
theorem dX0_countUnsettled_49 : decode cX0_countUnsettled 49 = .ok (.iload_n 2, 1) := by decide +kernel
theorem dX0_countUnsettled_50 : decode cX0_countUnsettled 50 = .ok (.ireturn, 1) := by decide +kernel
theorem dX0_isWithAll_0 : decode cX0_isWithAll 0 = .ok (.iconst 0, 1) := by decide +kernel
theorem dX0_isWithAll_1 : decode cX0_isWithAll 1 = .ok (.istore_n 2, 1) := by decide +kernel
theorem dX0_isWithAll_2 : decode cX0_isWithAll 2 = .ok (.iload_n 2, 1) := by decide +kernel
theorem dX0_isWithAll_3 : decode cX0_isWithAll 3 = .ok (.bipush 6, 2) := by decide +kernel
theorem dX0_isWithAll_5 : decode cX0_isWithAll 5 = .ok (.if_icmp .ge 32, 3) := by decide +kernel
theorem dX0_isWithAll_8 : decode cX0_isWithAll 8 = .ok (.aload_n 0, 1) := by decide +kernel
theorem dX0_isWithAll_9 : decode cX0_isWithAll 9 = .ok (.iload_n 2, 1) := by decide +kernel
theorem dX0_isWithAll_10 : decode cX0_isWithAll 10 = .ok (.invokevirtual 159, 3) := by decide +kernel
theorem dX0_isWithAll_13 : decode cX0_isWithAll 13 = .ok (.ifCond .eq 18, 3) := by decide +kernel
theorem dX0_isWithAll_16 : decode cX0_isWithAll 16 = .ok (.aload_n 0, 1) := by decide +kernel
theorem dX0_isWithAll_17 : decode cX0_isWithAll 17 = .ok (.getfield 27, 3) := by decide +kernel
theorem dX0_isWithAll_20 : decode cX0_isWithAll 20 = .ok (.iload_n 2, 1) := by decide +kernel
theorem dX0_isWithAll_21 : decode cX0_isWithAll 21 = .ok (.aaload, 1) := by decide +kernel
theorem dX0_isWithAll_22 : decode cX0_isWithAll 22 = .ok (.iload_n 1, 1) := by decide +kernel
theorem dX0_isWithAll_23 : decode cX0_isWithAll 23 = .ok (.invokevirtual 150, 3) := by decide +kernel
theorem dX0_isWithAll_26 : decode cX0_isWithAll 26 = .ok (.ifCond .ne 5, 3) := by decide +kernel
theorem dX0_isWithAll_29 : decode cX0_isWithAll 29 = .ok (.iconst 0, 1) := by decide +kernel
theorem dX0_isWithAll_30 : decode cX0_isWithAll 30 = .ok (.ireturn, 1) := by decide +kernel
theorem dX0_isWithAll_31 : decode cX0_isWithAll 31 = .ok (.iinc 2 1, 3) := by decide +kernel
theorem dX0_isWithAll_34 : decode cX0_isWithAll 34 = .ok (.goto (-32), 3) := by decide +kernel
theorem dX0_isWithAll_37 : decode cX0_isWithAll 37 = .ok (.iconst 1, 1) := by decide +kernel
theorem dX0_isWithAll_38 : decode cX0_isWithAll 38 = .ok (.ireturn, 1) := by decide +kernel
theorem dX0_findUnaware_0 : decode cX0_findUnaware 0 = .ok (.aload_n 0, 1) := by decide +kernel
theorem dX0_findUnaware_1 : decode cX0_findUnaware 1 = .ok (.iload_n 1, 1) := by decide +kernel
theorem dX0_findUnaware_2 : decode cX0_findUnaware 2 = .ok (.invokevirtual 207, 3) := by decide +kernel
theorem dX0_findUnaware_5 : decode cX0_findUnaware 5 = .ok (.ifCond .ne 5, 3) := by decide +kernel
theorem dX0_findUnaware_8 : decode cX0_findUnaware 8 = .ok (.iconst (-1), 1) := by decide +kernel
theorem dX0_findUnaware_9 : decode cX0_findUnaware 9 = .ok (.ireturn, 1) := by decide +kernel
theorem dX0_findUnaware_10 : decode cX0_findUnaware 10 = .ok (.iconst 0, 1) := by decide +kernel
theorem dX0_findUnaware_11 : decode cX0_findUnaware 11 = .ok (.istore_n 2, 1) := by decide +kernel
theorem dX0_findUnaware_12 : decode cX0_findUnaware 12 = .ok (.iload_n 2, 1) := by decide +kernel
theorem dX0_findUnaware_13 : decode cX0_findUnaware 13 = .ok (.bipush 6, 2) := by decide +kernel
theorem dX0_findUnaware_15 : decode cX0_findUnaware 15 = .ok (.if_icmp .ge 28, 3) := by decide +kernel
theorem dX0_findUnaware_18 : decode cX0_findUnaware 18 = .ok (.aload_n 0, 1) := by decide +kernel
theorem dX0_findUnaware_19 : decode cX0_findUnaware 19 = .ok (.iload_n 2, 1) := by decide +kernel
theorem dX0_findUnaware_20 : decode cX0_findUnaware 20 = .ok (.invokevirtual 159, 3) := by decide +kernel
theorem dX0_findUnaware_23 : decode cX0_findUnaware 23 = .ok (.ifCond .eq 14, 3) := by decide +kernel
theorem dX0_findUnaware_26 : decode cX0_findUnaware 26 = .ok (.aload_n 0, 1) := by decide +kernel
theorem dX0_findUnaware_27 : decode cX0_findUnaware 27 = .ok (.iload_n 2, 1) := by decide +kernel
theorem dX0_findUnaware_28 : decode cX0_findUnaware 28 = .ok (.iload_n 1, 1) := by decide +kernel
theorem dX0_findUnaware_29 : decode cX0_findUnaware 29 = .ok (.invokevirtual 204, 3) := by decide +kernel
theorem dX0_findUnaware_32 : decode cX0_findUnaware 32 = .ok (.ifCond .ne 5, 3) := by decide +kernel
theorem dX0_findUnaware_35 : decode cX0_findUnaware 35 = .ok (.iload_n 2, 1) := by decide +kernel
theorem dX0_findUnaware_36 : decode cX0_findUnaware 36 = .ok (.ireturn, 1) := by decide +kernel
theorem dX0_findUnaware_37 : decode cX0_findUnaware 37 = .ok (.iinc 2 1, 3) := by decide +kernel
theorem dX0_findUnaware_40 : decode cX0_findUnaware 40 = .ok (.goto (-28), 3) := by decide +kernel
theorem dX0_findUnaware_43 : decode cX0_findUnaware 43 = .ok (.iconst (-1), 1) := by decide +kernel
theorem dX0_findUnaware_44 : decode cX0_findUnaware 44 = .ok (.ireturn, 1) := by decide +kernel
theorem dX1_init_0 : decode cX1_init 0 = .ok (.aload_n 0, 1) := by decide +kernel
theorem dX1_init_1 : decode cX1_init 1 = .ok (.invokespecial 3, 3) := by decide +kernel
theorem dX1_init_4 : decode cX1_init 4 = .ok (.aload_n 0, 1) := by decide +kernel
theorem dX1_init_5 : decode cX1_init 5 = .ok (.sipush 150, 3) := by decide +kernel
theorem dX1_init_8 : decode cX1_init 8 = .ok (.newarray .int, 2) := by decide +kernel
theorem dX1_init_10 : decode cX1_init 10 = .ok (.putfield 9, 3) := by decide +kernel
theorem dX1_init_13 : decode cX1_init 13 = .ok (.aload_n 0, 1) := by decide +kernel
theorem dX1_init_14 : decode cX1_init 14 = .ok (.sipush 150, 3) := by decide +kernel
theorem dX1_init_17 : decode cX1_init 17 = .ok (.newarray .int, 2) := by decide +kernel
theorem dX1_init_19 : decode cX1_init 19 = .ok (.putfield 15, 3) := by decide +kernel
theorem dX1_init_22 : decode cX1_init 22 = .ok (.aload_n 0, 1) := by decide +kernel
theorem dX1_init_23 : decode cX1_init 23 = .ok (.sipush 150, 3) := by decide +kernel
theorem dX1_init_26 : decode cX1_init 26 = .ok (.newarray .int, 2) := by decide +kernel
theorem dX1_init_28 : decode cX1_init 28 = .ok (.putfield 18, 3) := by decide +kernel
theorem dX1_init_31 : decode cX1_init 31 = .ok (.aload_n 0, 1) := by decide +kernel
theorem dX1_init_32 : decode cX1_init 32 = .ok (.sipush 150, 3) := by decide +kernel
theorem dX1_init_35 : decode cX1_init 35 = .ok (.newarray .int, 2) := by decide +kernel
theorem dX1_init_37 : decode cX1_init 37 = .ok (.putfield 21, 3) := by decide +kernel
theorem dX1_init_40 : decode cX1_init 40 = .ok (.aload_n 0, 1) := by decide +kernel
theorem dX1_init_41 : decode cX1_init 41 = .ok (.sipush 150, 3) := by decide +kernel
theorem dX1_init_44 : decode cX1_init 44 = .ok (.newarray .int, 2) := by decide +kernel
theorem dX1_init_46 : decode cX1_init 46 = .ok (.putfield 24, 3) := by decide +kernel
theorem dX1_init_49 : decode cX1_init 49 = .ok (.aload_n 0, 1) := by decide +kernel
theorem dX1_init_50 : decode cX1_init 50 = .ok (.sipush 900, 3) := by decide +kernel
theorem dX1_init_53 : decode cX1_init 53 = .ok (.newarray .int, 2) := by decide +kernel
theorem dX1_init_55 : decode cX1_init 55 = .ok (.putfield 27, 3) := by decide +kernel
theorem dX1_init_58 : decode cX1_init 58 = .ok (.aload_n 0, 1) := by decide +kernel
theorem dX1_init_59 : decode cX1_init 59 = .ok (.iconst 0, 1) := by decide +kernel
theorem dX1_init_60 : decode cX1_init 60 = .ok (.putfield 30, 3) := by decide +kernel
theorem dX1_init_63 : decode cX1_init 63 = .ok (.return_, 1) := by decide +kernel
theorem dX1_has_0 : decode cX1_has 0 = .ok (.iload_n 1, 1) := by decide +kernel
theorem dX1_has_1 : decode cX1_has 1 = .ok (.ifCond .lt 15, 3) := by decide +kernel
theorem dX1_has_4 : decode cX1_has 4 = .ok (.iload_n 1, 1) := by decide +kernel
theorem dX1_has_5 : decode cX1_has 5 = .ok (.aload_n 0, 1) := by decide +kernel
theorem dX1_has_6 : decode cX1_has 6 = .ok (.getfield 30, 3) := by decide +kernel
theorem dX1_has_9 : decode cX1_has 9 = .ok (.if_icmp .ge 7, 3) := by decide +kernel
theorem dX1_has_12 : decode cX1_has 12 = .ok (.iconst 1, 1) := by decide +kernel
theorem dX1_has_13 : decode cX1_has 13 = .ok (.goto 4, 3) := by decide +kernel
theorem dX1_has_16 : decode cX1_has 16 = .ok (.iconst 0, 1) := by decide +kernel
theorem dX1_has_17 : decode cX1_has 17 = .ok (.ireturn, 1) := by decide +kernel
theorem dX1_isFull_0 : decode cX1_isFull 0 = .ok (.aload_n 0, 1) := by decide +kernel
theorem dX1_isFull_1 : decode cX1_isFull 1 = .ok (.getfield 30, 3) := by decide +kernel
theorem dX1_isFull_4 : decode cX1_isFull 4 = .ok (.sipush 150, 3) := by decide +kernel
theorem dX1_isFull_7 : decode cX1_isFull 7 = .ok (.if_icmp .lt 7, 3) := by decide +kernel
theorem dX1_isFull_10 : decode cX1_isFull 10 = .ok (.iconst 1, 1) := by decide +kernel
theorem dX1_isFull_11 : decode cX1_isFull 11 = .ok (.goto 4, 3) := by decide +kernel
theorem dX1_isFull_14 : decode cX1_isFull 14 = .ok (.iconst 0, 1) := by decide +kernel
theorem dX1_isFull_15 : decode cX1_isFull 15 = .ok (.ireturn, 1) := by decide +kernel
theorem dX1_entry_0 : decode cX1_entry 0 = .ok (.aload_n 0, 1) := by decide +kernel
theorem dX1_entry_1 : decode cX1_entry 1 = .ok (.getfield 27, 3) := by decide +kernel
theorem dX1_entry_4 : decode cX1_entry 4 = .ok (.iload_n 1, 1) := by decide +kernel
theorem dX1_entry_5 : decode cX1_entry 5 = .ok (.bipush 6, 2) := by decide +kernel
theorem dX1_entry_7 : decode cX1_entry 7 = .ok (.imul, 1) := by decide +kernel
theorem dX1_entry_8 : decode cX1_entry 8 = .ok (.iload_n 2, 1) := by decide +kernel
theorem dX1_entry_9 : decode cX1_entry 9 = .ok (.iadd, 1) := by decide +kernel
theorem dX1_entry_10 : decode cX1_entry 10 = .ok (.iaload, 1) := by decide +kernel
theorem dX1_entry_11 : decode cX1_entry 11 = .ok (.ireturn, 1) := by decide +kernel
theorem dX1_add_0 : decode cX1_add 0 = .ok (.aload_n 0, 1) := by decide +kernel
theorem dX1_add_1 : decode cX1_add 1 = .ok (.invokevirtual 34, 3) := by decide +kernel
theorem dX1_add_4 : decode cX1_add 4 = .ok (.ifCond .eq 4, 3) := by decide +kernel
theorem dX1_add_7 : decode cX1_add 7 = .ok (.return_, 1) := by decide +kernel
theorem dX1_add_8 : decode cX1_add 8 = .ok (.aload_n 0, 1) := by decide +kernel
theorem dX1_add_9 : decode cX1_add 9 = .ok (.getfield 30, 3) := by decide +kernel
theorem dX1_add_12 : decode cX1_add 12 = .ok (.istore 4, 2) := by decide +kernel
theorem dX1_add_14 : decode cX1_add 14 = .ok (.aload_n 0, 1) := by decide +kernel
theorem dX1_add_15 : decode cX1_add 15 = .ok (.getfield 9, 3) := by decide +kernel
theorem dX1_add_18 : decode cX1_add 18 = .ok (.iload 4, 2) := by decide +kernel
theorem dX1_add_20 : decode cX1_add 20 = .ok (.aload_n 1, 1) := by decide +kernel
theorem dX1_add_21 : decode cX1_add 21 = .ok (.getfield 38, 3) := by decide +kernel
theorem dX1_add_24 : decode cX1_add 24 = .ok (.iastore, 1) := by decide +kernel
theorem dX1_add_25 : decode cX1_add 25 = .ok (.aload_n 0, 1) := by decide +kernel
theorem dX1_add_26 : decode cX1_add 26 = .ok (.getfield 15, 3) := by decide +kernel
theorem dX1_add_29 : decode cX1_add 29 = .ok (.iload 4, 2) := by decide +kernel
theorem dX1_add_31 : decode cX1_add 31 = .ok (.iload_n 2, 1) := by decide +kernel
theorem dX1_add_32 : decode cX1_add 32 = .ok (.iastore, 1) := by decide +kernel
theorem dX1_add_33 : decode cX1_add 33 = .ok (.aload_n 0, 1) := by decide +kernel
theorem dX1_add_34 : decode cX1_add 34 = .ok (.getfield 18, 3) := by decide +kernel
theorem dX1_add_37 : decode cX1_add 37 = .ok (.iload 4, 2) := by decide +kernel
theorem dX1_add_39 : decode cX1_add 39 = .ok (.iload_n 3, 1) := by decide +kernel
theorem dX1_add_40 : decode cX1_add 40 = .ok (.iastore, 1) := by decide +kernel
theorem dX1_add_41 : decode cX1_add 41 = .ok (.aload_n 0, 1) := by decide +kernel
theorem dX1_add_42 : decode cX1_add 42 = .ok (.getfield 21, 3) := by decide +kernel
theorem dX1_add_45 : decode cX1_add 45 = .ok (.iload 4, 2) := by decide +kernel
theorem dX1_add_47 : decode cX1_add 47 = .ok (.aload_n 1, 1) := by decide +kernel
theorem dX1_add_48 : decode cX1_add 48 = .ok (.aload_n 1, 1) := by decide +kernel
theorem dX1_add_49 : decode cX1_add 49 = .ok (.getfield 38, 3) := by decide +kernel
theorem dX1_add_52 : decode cX1_add 52 = .ok (.invokevirtual 43, 3) := by decide +kernel
theorem dX1_add_55 : decode cX1_add 55 = .ok (.iastore, 1) := by decide +kernel
theorem dX1_add_56 : decode cX1_add 56 = .ok (.iconst 0, 1) := by decide +kernel
theorem dX1_add_57 : decode cX1_add 57 = .ok (.istore 5, 2) := by decide +kernel
theorem dX1_add_59 : decode cX1_add 59 = .ok (.iload 5, 2) := by decide +kernel
theorem dX1_add_61 : decode cX1_add 61 = .ok (.bipush 6, 2) := by decide +kernel
theorem dX1_add_63 : decode cX1_add 63 = .ok (.if_icmp .ge 28, 3) := by decide +kernel
theorem dX1_add_66 : decode cX1_add 66 = .ok (.aload_n 0, 1) := by decide +kernel
theorem dX1_add_67 : decode cX1_add 67 = .ok (.getfield 27, 3) := by decide +kernel
theorem dX1_add_70 : decode cX1_add 70 = .ok (.iload 4, 2) := by decide +kernel
theorem dX1_add_72 : decode cX1_add 72 = .ok (.bipush 6, 2) := by decide +kernel
theorem dX1_add_74 : decode cX1_add 74 = .ok (.imul, 1) := by decide +kernel
theorem dX1_add_75 : decode cX1_add 75 = .ok (.iload 5, 2) := by decide +kernel
theorem dX1_add_77 : decode cX1_add 77 = .ok (.iadd, 1) := by decide +kernel
theorem dX1_add_78 : decode cX1_add 78 = .ok (.aload_n 1, 1) := by decide +kernel
theorem dX1_add_79 : decode cX1_add 79 = .ok (.iload 5, 2) := by decide +kernel
theorem dX1_add_81 : decode cX1_add 81 = .ok (.invokevirtual 43, 3) := by decide +kernel
theorem dX1_add_84 : decode cX1_add 84 = .ok (.iastore, 1) := by decide +kernel
theorem dX1_add_85 : decode cX1_add 85 = .ok (.iinc 5 1, 3) := by decide +kernel
theorem dX1_add_88 : decode cX1_add 88 = .ok (.goto (-29), 3) := by decide +kernel
theorem dX1_add_91 : decode cX1_add 91 = .ok (.aload_n 0, 1) := by decide +kernel
theorem dX1_add_92 : decode cX1_add 92 = .ok (.getfield 24, 3) := by decide +kernel
theorem dX1_add_95 : decode cX1_add 95 = .ok (.iload 4, 2) := by decide +kernel
theorem dX1_add_97 : decode cX1_add 97 = .ok (.iconst 1, 1) := by decide +kernel
theorem dX1_add_98 : decode cX1_add 98 = .ok (.aload_n 0, 1) := by decide +kernel
theorem dX1_add_99 : decode cX1_add 99 = .ok (.iload 4, 2) := by decide +kernel
theorem dX1_add_101 : decode cX1_add 101 = .ok (.invokevirtual 47, 3) := by decide +kernel
theorem dX1_add_104 : decode cX1_add 104 = .ok (.iadd, 1) := by decide +kernel
theorem dX1_add_105 : decode cX1_add 105 = .ok (.iastore, 1) := by decide +kernel
theorem dX1_add_106 : decode cX1_add 106 = .ok (.aload_n 0, 1) := by decide +kernel
theorem dX1_add_107 : decode cX1_add 107 = .ok (.dup, 1) := by decide +kernel
theorem dX1_add_108 : decode cX1_add 108 = .ok (.getfield 30, 3) := by decide +kernel
theorem dX1_add_111 : decode cX1_add 111 = .ok (.iconst 1, 1) := by decide +kernel
theorem dX1_add_112 : decode cX1_add 112 = .ok (.iadd, 1) := by decide +kernel
theorem dX1_add_113 : decode cX1_add 113 = .ok (.putfield 30, 3) := by decide +kernel
theorem dX1_add_116 : decode cX1_add 116 = .ok (.return_, 1) := by decide +kernel
theorem dX1_precedes_0 : decode cX1_precedes 0 = .ok (.iload_n 1, 1) := by decide +kernel
theorem dX1_precedes_1 : decode cX1_precedes 1 = .ok (.iload_n 2, 1) := by decide +kernel
theorem dX1_precedes_2 : decode cX1_precedes 2 = .ok (.if_icmp .eq 42, 3) := by decide +kernel
theorem dX1_precedes_5 : decode cX1_precedes 5 = .ok (.aload_n 0, 1) := by decide +kernel
theorem dX1_precedes_6 : decode cX1_precedes 6 = .ok (.getfield 18, 3) := by decide +kernel
theorem dX1_precedes_9 : decode cX1_precedes 9 = .ok (.iload_n 1, 1) := by decide +kernel
theorem dX1_precedes_10 : decode cX1_precedes 10 = .ok (.iaload, 1) := by decide +kernel
theorem dX1_precedes_11 : decode cX1_precedes 11 = .ok (.aload_n 0, 1) := by decide +kernel
theorem dX1_precedes_12 : decode cX1_precedes 12 = .ok (.getfield 18, 3) := by decide +kernel
theorem dX1_precedes_15 : decode cX1_precedes 15 = .ok (.iload_n 2, 1) := by decide +kernel
theorem dX1_precedes_16 : decode cX1_precedes 16 = .ok (.iaload, 1) := by decide +kernel
theorem dX1_precedes_17 : decode cX1_precedes 17 = .ok (.if_icmp .ne 27, 3) := by decide +kernel
theorem dX1_precedes_20 : decode cX1_precedes 20 = .ok (.aload_n 0, 1) := by decide +kernel
theorem dX1_precedes_21 : decode cX1_precedes 21 = .ok (.iload_n 2, 1) := by decide +kernel
theorem dX1_precedes_22 : decode cX1_precedes 22 = .ok (.aload_n 0, 1) := by decide +kernel
theorem dX1_precedes_23 : decode cX1_precedes 23 = .ok (.getfield 9, 3) := by decide +kernel
theorem dX1_precedes_26 : decode cX1_precedes 26 = .ok (.iload_n 1, 1) := by decide +kernel
theorem dX1_precedes_27 : decode cX1_precedes 27 = .ok (.iaload, 1) := by decide +kernel
theorem dX1_precedes_28 : decode cX1_precedes 28 = .ok (.invokevirtual 50, 3) := by decide +kernel
theorem dX1_precedes_31 : decode cX1_precedes 31 = .ok (.aload_n 0, 1) := by decide +kernel
theorem dX1_precedes_32 : decode cX1_precedes 32 = .ok (.getfield 21, 3) := by decide +kernel
theorem dX1_precedes_35 : decode cX1_precedes 35 = .ok (.iload_n 1, 1) := by decide +kernel
theorem dX1_precedes_36 : decode cX1_precedes 36 = .ok (.iaload, 1) := by decide +kernel
theorem dX1_precedes_37 : decode cX1_precedes 37 = .ok (.if_icmp .lt 7, 3) := by decide +kernel
theorem dX1_precedes_40 : decode cX1_precedes 40 = .ok (.iconst 1, 1) := by decide +kernel
theorem dX1_precedes_41 : decode cX1_precedes 41 = .ok (.goto 4, 3) := by decide +kernel
theorem dX1_precedes_44 : decode cX1_precedes 44 = .ok (.iconst 0, 1) := by decide +kernel
theorem dX1_precedes_45 : decode cX1_precedes 45 = .ok (.ireturn, 1) := by decide +kernel
theorem dX1_greatestDepthBefore_0 : decode cX1_greatestDepthBefore 0 = .ok (.iconst 0, 1) := by decide +kernel
theorem dX1_greatestDepthBefore_1 : decode cX1_greatestDepthBefore 1 = .ok (.istore_n 2, 1) := by decide +kernel
theorem dX1_greatestDepthBefore_2 : decode cX1_greatestDepthBefore 2 = .ok (.iconst 0, 1) := by decide +kernel
theorem dX1_greatestDepthBefore_3 : decode cX1_greatestDepthBefore 3 = .ok (.istore_n 3, 1) := by decide +kernel
theorem dX1_greatestDepthBefore_4 : decode cX1_greatestDepthBefore 4 = .ok (.iload_n 3, 1) := by decide +kernel
theorem dX1_greatestDepthBefore_5 : decode cX1_greatestDepthBefore 5 = .ok (.iload_n 1, 1) := by decide +kernel
theorem dX1_greatestDepthBefore_6 : decode cX1_greatestDepthBefore 6 = .ok (.if_icmp .ge 29, 3) := by decide +kernel
theorem dX1_greatestDepthBefore_9 : decode cX1_greatestDepthBefore 9 = .ok (.aload_n 0, 1) := by decide +kernel
theorem dX1_greatestDepthBefore_10 : decode cX1_greatestDepthBefore 10 = .ok (.iload_n 3, 1) := by decide +kernel
theorem dX1_greatestDepthBefore_11 : decode cX1_greatestDepthBefore 11 = .ok (.iload_n 1, 1) := by decide +kernel
theorem dX1_greatestDepthBefore_12 : decode cX1_greatestDepthBefore 12 = .ok (.invokevirtual 53, 3) := by decide +kernel
theorem dX1_greatestDepthBefore_15 : decode cX1_greatestDepthBefore 15 = .ok (.ifCond .eq 14, 3) := by decide +kernel
theorem dX1_greatestDepthBefore_18 : decode cX1_greatestDepthBefore 18 = .ok (.iload_n 2, 1) := by decide +kernel
theorem dX1_greatestDepthBefore_19 : decode cX1_greatestDepthBefore 19 = .ok (.aload_n 0, 1) := by decide +kernel
theorem dX1_greatestDepthBefore_20 : decode cX1_greatestDepthBefore 20 = .ok (.getfield 24, 3) := by decide +kernel
theorem dX1_greatestDepthBefore_23 : decode cX1_greatestDepthBefore 23 = .ok (.iload_n 3, 1) := by decide +kernel
theorem dX1_greatestDepthBefore_24 : decode cX1_greatestDepthBefore 24 = .ok (.iaload, 1) := by decide +kernel
theorem dX1_greatestDepthBefore_25 : decode cX1_greatestDepthBefore 25 = .ok (.invokestatic 57, 3) := by decide +kernel
theorem dX1_greatestDepthBefore_28 : decode cX1_greatestDepthBefore 28 = .ok (.istore_n 2, 1) := by decide +kernel
theorem dX1_greatestDepthBefore_29 : decode cX1_greatestDepthBefore 29 = .ok (.iinc 3 1, 3) := by decide +kernel
theorem dX1_greatestDepthBefore_32 : decode cX1_greatestDepthBefore 32 = .ok (.goto (-28), 3) := by decide +kernel
theorem dX1_greatestDepthBefore_35 : decode cX1_greatestDepthBefore 35 = .ok (.iload_n 2, 1) := by decide +kernel
theorem dX1_greatestDepthBefore_36 : decode cX1_greatestDepthBefore 36 = .ok (.ireturn, 1) := by decide +kernel
theorem dX1_greatestDepth_0 : decode cX1_greatestDepth 0 = .ok (.iconst 0, 1) := by decide +kernel
theorem dX1_greatestDepth_1 : decode cX1_greatestDepth 1 = .ok (.istore_n 2, 1) := by decide +kernel
theorem dX1_greatestDepth_2 : decode cX1_greatestDepth 2 = .ok (.iconst 0, 1) := by decide +kernel
theorem dX1_greatestDepth_3 : decode cX1_greatestDepth 3 = .ok (.istore_n 3, 1) := by decide +kernel
theorem dX1_greatestDepth_4 : decode cX1_greatestDepth 4 = .ok (.iload_n 3, 1) := by decide +kernel
theorem dX1_greatestDepth_5 : decode cX1_greatestDepth 5 = .ok (.aload_n 0, 1) := by decide +kernel
theorem dX1_greatestDepth_6 : decode cX1_greatestDepth 6 = .ok (.getfield 30, 3) := by decide +kernel
theorem dX1_greatestDepth_9 : decode cX1_greatestDepth 9 = .ok (.if_icmp .ge 30, 3) := by decide +kernel
theorem dX1_greatestDepth_12 : decode cX1_greatestDepth 12 = .ok (.aload_n 0, 1) := by decide +kernel
theorem dX1_greatestDepth_13 : decode cX1_greatestDepth 13 = .ok (.getfield 18, 3) := by decide +kernel
theorem dX1_greatestDepth_16 : decode cX1_greatestDepth 16 = .ok (.iload_n 3, 1) := by decide +kernel
theorem dX1_greatestDepth_17 : decode cX1_greatestDepth 17 = .ok (.iaload, 1) := by decide +kernel
theorem dX1_greatestDepth_18 : decode cX1_greatestDepth 18 = .ok (.iload_n 1, 1) := by decide +kernel
theorem dX1_greatestDepth_19 : decode cX1_greatestDepth 19 = .ok (.if_icmp .ne 14, 3) := by decide +kernel
theorem dX1_greatestDepth_22 : decode cX1_greatestDepth 22 = .ok (.iload_n 2, 1) := by decide +kernel
theorem dX1_greatestDepth_23 : decode cX1_greatestDepth 23 = .ok (.aload_n 0, 1) := by decide +kernel
theorem dX1_greatestDepth_24 : decode cX1_greatestDepth 24 = .ok (.getfield 24, 3) := by decide +kernel
theorem dX1_greatestDepth_27 : decode cX1_greatestDepth 27 = .ok (.iload_n 3, 1) := by decide +kernel
theorem dX1_greatestDepth_28 : decode cX1_greatestDepth 28 = .ok (.iaload, 1) := by decide +kernel
theorem dX1_greatestDepth_29 : decode cX1_greatestDepth 29 = .ok (.invokestatic 57, 3) := by decide +kernel
theorem dX1_greatestDepth_32 : decode cX1_greatestDepth 32 = .ok (.istore_n 2, 1) := by decide +kernel
theorem dX1_greatestDepth_33 : decode cX1_greatestDepth 33 = .ok (.iinc 3 1, 3) := by decide +kernel
theorem dX1_greatestDepth_36 : decode cX1_greatestDepth 36 = .ok (.goto (-32), 3) := by decide +kernel
theorem dX1_greatestDepth_39 : decode cX1_greatestDepth 39 = .ok (.iload_n 2, 1) := by decide +kernel
theorem dX1_greatestDepth_40 : decode cX1_greatestDepth 40 = .ok (.ireturn, 1) := by decide +kernel
theorem dX1_countCauses_0 : decode cX1_countCauses 0 = .ok (.iconst 0, 1) := by decide +kernel
theorem dX1_countCauses_1 : decode cX1_countCauses 1 = .ok (.istore_n 2, 1) := by decide +kernel
theorem dX1_countCauses_2 : decode cX1_countCauses 2 = .ok (.iconst 0, 1) := by decide +kernel
theorem dX1_countCauses_3 : decode cX1_countCauses 3 = .ok (.istore_n 3, 1) := by decide +kernel
theorem dX1_countCauses_4 : decode cX1_countCauses 4 = .ok (.iload_n 3, 1) := by decide +kernel
theorem dX1_countCauses_5 : decode cX1_countCauses 5 = .ok (.aload_n 0, 1) := by decide +kernel
theorem dX1_countCauses_6 : decode cX1_countCauses 6 = .ok (.getfield 30, 3) := by decide +kernel
theorem dX1_countCauses_9 : decode cX1_countCauses 9 = .ok (.if_icmp .ge 21, 3) := by decide +kernel
theorem dX1_countCauses_12 : decode cX1_countCauses 12 = .ok (.aload_n 0, 1) := by decide +kernel
theorem dX1_countCauses_13 : decode cX1_countCauses 13 = .ok (.iload_n 3, 1) := by decide +kernel
theorem dX1_countCauses_14 : decode cX1_countCauses 14 = .ok (.iload_n 1, 1) := by decide +kernel
theorem dX1_countCauses_15 : decode cX1_countCauses 15 = .ok (.invokevirtual 53, 3) := by decide +kernel
theorem dX1_countCauses_18 : decode cX1_countCauses 18 = .ok (.ifCond .eq 6, 3) := by decide +kernel
theorem dX1_countCauses_21 : decode cX1_countCauses 21 = .ok (.iinc 2 1, 3) := by decide +kernel
theorem dX1_countCauses_24 : decode cX1_countCauses 24 = .ok (.iinc 3 1, 3) := by decide +kernel
theorem dX1_countCauses_27 : decode cX1_countCauses 27 = .ok (.goto (-23), 3) := by decide +kernel
theorem dX1_countCauses_30 : decode cX1_countCauses 30 = .ok (.iload_n 2, 1) := by decide +kernel
theorem dX1_countCauses_31 : decode cX1_countCauses 31 = .ok (.ireturn, 1) := by decide +kernel
theorem dX1_countConcurrent_0 : decode cX1_countConcurrent 0 = .ok (.iconst 0, 1) := by decide +kernel
theorem dX1_countConcurrent_1 : decode cX1_countConcurrent 1 = .ok (.istore_n 2, 1) := by decide +kernel
theorem dX1_countConcurrent_2 : decode cX1_countConcurrent 2 = .ok (.iconst 0, 1) := by decide +kernel
theorem dX1_countConcurrent_3 : decode cX1_countConcurrent 3 = .ok (.istore_n 3, 1) := by decide +kernel
theorem dX1_countConcurrent_4 : decode cX1_countConcurrent 4 = .ok (.iload_n 3, 1) := by decide +kernel
theorem dX1_countConcurrent_5 : decode cX1_countConcurrent 5 = .ok (.aload_n 0, 1) := by decide +kernel
theorem dX1_countConcurrent_6 : decode cX1_countConcurrent 6 = .ok (.getfield 30, 3) := by decide +kernel
theorem dX1_countConcurrent_9 : decode cX1_countConcurrent 9 = .ok (.if_icmp .ge 50, 3) := by decide +kernel
theorem dX1_countConcurrent_12 : decode cX1_countConcurrent 12 = .ok (.iload_n 3, 1) := by decide +kernel
theorem dX1_countConcurrent_13 : decode cX1_countConcurrent 13 = .ok (.iload_n 1, 1) := by decide +kernel
theorem dX1_countConcurrent_14 : decode cX1_countConcurrent 14 = .ok (.if_icmp .eq 39, 3) := by decide +kernel
theorem dX1_countConcurrent_17 : decode cX1_countConcurrent 17 = .ok (.aload_n 0, 1) := by decide +kernel
theorem dX1_countConcurrent_18 : decode cX1_countConcurrent 18 = .ok (.getfield 18, 3) := by decide +kernel
theorem dX1_countConcurrent_21 : decode cX1_countConcurrent 21 = .ok (.iload_n 3, 1) := by decide +kernel
theorem dX1_countConcurrent_22 : decode cX1_countConcurrent 22 = .ok (.iaload, 1) := by decide +kernel
theorem dX1_countConcurrent_23 : decode cX1_countConcurrent 23 = .ok (.aload_n 0, 1) := by decide +kernel
theorem dX1_countConcurrent_24 : decode cX1_countConcurrent 24 = .ok (.getfield 18, 3) := by decide +kernel
theorem dX1_countConcurrent_27 : decode cX1_countConcurrent 27 = .ok (.iload_n 1, 1) := by decide +kernel
theorem dX1_countConcurrent_28 : decode cX1_countConcurrent 28 = .ok (.iaload, 1) := by decide +kernel
theorem dX1_countConcurrent_29 : decode cX1_countConcurrent 29 = .ok (.if_icmp .ne 24, 3) := by decide +kernel
theorem dX1_countConcurrent_32 : decode cX1_countConcurrent 32 = .ok (.aload_n 0, 1) := by decide +kernel
theorem dX1_countConcurrent_33 : decode cX1_countConcurrent 33 = .ok (.iload_n 3, 1) := by decide +kernel
theorem dX1_countConcurrent_34 : decode cX1_countConcurrent 34 = .ok (.iload_n 1, 1) := by decide +kernel
theorem dX1_countConcurrent_35 : decode cX1_countConcurrent 35 = .ok (.invokevirtual 53, 3) := by decide +kernel
theorem dX1_countConcurrent_38 : decode cX1_countConcurrent 38 = .ok (.ifCond .ne 15, 3) := by decide +kernel
theorem dX1_countConcurrent_41 : decode cX1_countConcurrent 41 = .ok (.aload_n 0, 1) := by decide +kernel
theorem dX1_countConcurrent_42 : decode cX1_countConcurrent 42 = .ok (.iload_n 1, 1) := by decide +kernel
theorem dX1_countConcurrent_43 : decode cX1_countConcurrent 43 = .ok (.iload_n 3, 1) := by decide +kernel
theorem dX1_countConcurrent_44 : decode cX1_countConcurrent 44 = .ok (.invokevirtual 53, 3) := by decide +kernel
theorem dX1_countConcurrent_47 : decode cX1_countConcurrent 47 = .ok (.ifCond .ne 6, 3) := by decide +kernel
theorem dX1_countConcurrent_50 : decode cX1_countConcurrent 50 = .ok (.iinc 2 1, 3) := by decide +kernel
theorem dX1_countConcurrent_53 : decode cX1_countConcurrent 53 = .ok (.iinc 3 1, 3) := by decide +kernel
theorem dX1_countConcurrent_56 : decode cX1_countConcurrent 56 = .ok (.goto (-52), 3) := by decide +kernel
theorem dX1_countConcurrent_59 : decode cX1_countConcurrent 59 = .ok (.iload_n 2, 1) := by decide +kernel
theorem dX1_countConcurrent_60 : decode cX1_countConcurrent 60 = .ok (.ireturn, 1) := by decide +kernel
theorem dX1_copyFrom_0 : decode cX1_copyFrom 0 = .ok (.aload_n 1, 1) := by decide +kernel
theorem dX1_copyFrom_1 : decode cX1_copyFrom 1 = .ok (.getfield 9, 3) := by decide +kernel
theorem dX1_copyFrom_4 : decode cX1_copyFrom 4 = .ok (.aload_n 0, 1) := by decide +kernel
theorem dX1_copyFrom_5 : decode cX1_copyFrom 5 = .ok (.getfield 9, 3) := by decide +kernel
theorem dX1_copyFrom_8 : decode cX1_copyFrom 8 = .ok (.invokestatic 62, 3) := by decide +kernel
theorem dX1_copyFrom_11 : decode cX1_copyFrom 11 = .ok (.aload_n 1, 1) := by decide +kernel
theorem dX1_copyFrom_12 : decode cX1_copyFrom 12 = .ok (.getfield 15, 3) := by decide +kernel
theorem dX1_copyFrom_15 : decode cX1_copyFrom 15 = .ok (.aload_n 0, 1) := by decide +kernel
theorem dX1_copyFrom_16 : decode cX1_copyFrom 16 = .ok (.getfield 15, 3) := by decide +kernel
theorem dX1_copyFrom_19 : decode cX1_copyFrom 19 = .ok (.invokestatic 62, 3) := by decide +kernel
theorem dX1_copyFrom_22 : decode cX1_copyFrom 22 = .ok (.aload_n 1, 1) := by decide +kernel
theorem dX1_copyFrom_23 : decode cX1_copyFrom 23 = .ok (.getfield 18, 3) := by decide +kernel
theorem dX1_copyFrom_26 : decode cX1_copyFrom 26 = .ok (.aload_n 0, 1) := by decide +kernel
theorem dX1_copyFrom_27 : decode cX1_copyFrom 27 = .ok (.getfield 18, 3) := by decide +kernel
theorem dX1_copyFrom_30 : decode cX1_copyFrom 30 = .ok (.invokestatic 62, 3) := by decide +kernel
theorem dX1_copyFrom_33 : decode cX1_copyFrom 33 = .ok (.aload_n 1, 1) := by decide +kernel
theorem dX1_copyFrom_34 : decode cX1_copyFrom 34 = .ok (.getfield 21, 3) := by decide +kernel
theorem dX1_copyFrom_37 : decode cX1_copyFrom 37 = .ok (.aload_n 0, 1) := by decide +kernel
theorem dX1_copyFrom_38 : decode cX1_copyFrom 38 = .ok (.getfield 21, 3) := by decide +kernel
theorem dX1_copyFrom_41 : decode cX1_copyFrom 41 = .ok (.invokestatic 62, 3) := by decide +kernel
theorem dX1_copyFrom_44 : decode cX1_copyFrom 44 = .ok (.aload_n 1, 1) := by decide +kernel
theorem dX1_copyFrom_45 : decode cX1_copyFrom 45 = .ok (.getfield 24, 3) := by decide +kernel
theorem dX1_copyFrom_48 : decode cX1_copyFrom 48 = .ok (.aload_n 0, 1) := by decide +kernel
theorem dX1_copyFrom_49 : decode cX1_copyFrom 49 = .ok (.getfield 24, 3) := by decide +kernel
theorem dX1_copyFrom_52 : decode cX1_copyFrom 52 = .ok (.invokestatic 62, 3) := by decide +kernel
theorem dX1_copyFrom_55 : decode cX1_copyFrom 55 = .ok (.aload_n 1, 1) := by decide +kernel
theorem dX1_copyFrom_56 : decode cX1_copyFrom 56 = .ok (.getfield 27, 3) := by decide +kernel
theorem dX1_copyFrom_59 : decode cX1_copyFrom 59 = .ok (.aload_n 0, 1) := by decide +kernel
theorem dX1_copyFrom_60 : decode cX1_copyFrom 60 = .ok (.getfield 27, 3) := by decide +kernel
theorem dX1_copyFrom_63 : decode cX1_copyFrom 63 = .ok (.invokestatic 62, 3) := by decide +kernel
theorem dX1_copyFrom_66 : decode cX1_copyFrom 66 = .ok (.aload_n 0, 1) := by decide +kernel
theorem dX1_copyFrom_67 : decode cX1_copyFrom 67 = .ok (.aload_n 1, 1) := by decide +kernel
theorem dX1_copyFrom_68 : decode cX1_copyFrom 68 = .ok (.getfield 30, 3) := by decide +kernel
theorem dX1_copyFrom_71 : decode cX1_copyFrom 71 = .ok (.putfield 30, 3) := by decide +kernel
theorem dX1_copyFrom_74 : decode cX1_copyFrom 74 = .ok (.return_, 1) := by decide +kernel
theorem dX2_init_0 : decode cX2_init 0 = .ok (.aload_n 0, 1) := by decide +kernel
theorem dX2_init_1 : decode cX2_init 1 = .ok (.invokespecial 3, 3) := by decide +kernel
theorem dX2_init_4 : decode cX2_init 4 = .ok (.aload_n 0, 1) := by decide +kernel
theorem dX2_init_5 : decode cX2_init 5 = .ok (.sipush 150, 3) := by decide +kernel
theorem dX2_init_8 : decode cX2_init 8 = .ok (.newarray .int, 2) := by decide +kernel
theorem dX2_init_10 : decode cX2_init 10 = .ok (.putfield 9, 3) := by decide +kernel
theorem dX2_init_13 : decode cX2_init 13 = .ok (.aload_n 0, 1) := by decide +kernel
theorem dX2_init_14 : decode cX2_init 14 = .ok (.sipush 150, 3) := by decide +kernel
theorem dX2_init_17 : decode cX2_init 17 = .ok (.newarray .int, 2) := by decide +kernel
theorem dX2_init_19 : decode cX2_init 19 = .ok (.putfield 15, 3) := by decide +kernel
theorem dX2_init_22 : decode cX2_init 22 = .ok (.aload_n 0, 1) := by decide +kernel
theorem dX2_init_23 : decode cX2_init 23 = .ok (.bipush 36, 2) := by decide +kernel
theorem dX2_init_25 : decode cX2_init 25 = .ok (.newarray .int, 2) := by decide +kernel
theorem dX2_init_27 : decode cX2_init 27 = .ok (.putfield 18, 3) := by decide +kernel
theorem dX2_init_30 : decode cX2_init 30 = .ok (.aload_n 0, 1) := by decide +kernel
theorem dX2_init_31 : decode cX2_init 31 = .ok (.iconst 0, 1) := by decide +kernel
theorem dX2_init_32 : decode cX2_init 32 = .ok (.putfield 21, 3) := by decide +kernel
theorem dX2_init_35 : decode cX2_init 35 = .ok (.aload_n 0, 1) := by decide +kernel
theorem dX2_init_36 : decode cX2_init 36 = .ok (.iconst 0, 1) := by decide +kernel
theorem dX2_init_37 : decode cX2_init 37 = .ok (.putfield 25, 3) := by decide +kernel
theorem dX2_init_40 : decode cX2_init 40 = .ok (.aload_n 0, 1) := by decide +kernel
theorem dX2_init_41 : decode cX2_init 41 = .ok (.iload_n 1, 1) := by decide +kernel
theorem dX2_init_42 : decode cX2_init 42 = .ok (.putfield 28, 3) := by decide +kernel
theorem dX2_init_45 : decode cX2_init 45 = .ok (.return_, 1) := by decide +kernel
theorem dX2_startAnew_0 : decode cX2_startAnew 0 = .ok (.aload_n 0, 1) := by decide +kernel
theorem dX2_startAnew_1 : decode cX2_startAnew 1 = .ok (.getfield 15, 3) := by decide +kernel
theorem dX2_startAnew_4 : decode cX2_startAnew 4 = .ok (.bipush (-2), 2) := by decide +kernel
theorem dX2_startAnew_6 : decode cX2_startAnew 6 = .ok (.invokestatic 31, 3) := by decide +kernel
theorem dX2_startAnew_9 : decode cX2_startAnew 9 = .ok (.aload_n 0, 1) := by decide +kernel
theorem dX2_startAnew_10 : decode cX2_startAnew 10 = .ok (.iconst 0, 1) := by decide +kernel
theorem dX2_startAnew_11 : decode cX2_startAnew 11 = .ok (.putfield 21, 3) := by decide +kernel
theorem dX2_startAnew_14 : decode cX2_startAnew 14 = .ok (.aload_n 0, 1) := by decide +kernel
theorem dX2_startAnew_15 : decode cX2_startAnew 15 = .ok (.iconst 0, 1) := by decide +kernel
theorem dX2_startAnew_16 : decode cX2_startAnew 16 = .ok (.putfield 25, 3) := by decide +kernel
theorem dX2_startAnew_19 : decode cX2_startAnew 19 = .ok (.aload_n 0, 1) := by decide +kernel
theorem dX2_startAnew_20 : decode cX2_startAnew 20 = .ok (.invokevirtual 37, 3) := by decide +kernel
theorem dX2_startAnew_23 : decode cX2_startAnew 23 = .ok (.return_, 1) := by decide +kernel
theorem dX2_forgetTable_0 : decode cX2_forgetTable 0 = .ok (.aload_n 0, 1) := by decide +kernel
theorem dX2_forgetTable_1 : decode cX2_forgetTable 1 = .ok (.getfield 18, 3) := by decide +kernel
theorem dX2_forgetTable_4 : decode cX2_forgetTable 4 = .ok (.iconst 0, 1) := by decide +kernel
theorem dX2_forgetTable_5 : decode cX2_forgetTable 5 = .ok (.invokestatic 31, 3) := by decide +kernel
theorem dX2_forgetTable_8 : decode cX2_forgetTable 8 = .ok (.return_, 1) := by decide +kernel
theorem dX2_hasLogged_0 : decode cX2_hasLogged 0 = .ok (.aload_n 0, 1) := by decide +kernel
theorem dX2_hasLogged_1 : decode cX2_hasLogged 1 = .ok (.getfield 15, 3) := by decide +kernel
theorem dX2_hasLogged_4 : decode cX2_hasLogged 4 = .ok (.iload_n 1, 1) := by decide +kernel
theorem dX2_hasLogged_5 : decode cX2_hasLogged 5 = .ok (.iaload, 1) := by decide +kernel
theorem dX2_hasLogged_6 : decode cX2_hasLogged 6 = .ok (.ifCond .lt 7, 3) := by decide +kernel
theorem dX2_hasLogged_9 : decode cX2_hasLogged 9 = .ok (.iconst 1, 1) := by decide +kernel
theorem dX2_hasLogged_10 : decode cX2_hasLogged 10 = .ok (.goto 4, 3) := by decide +kernel
theorem dX2_hasLogged_13 : decode cX2_hasLogged 13 = .ok (.iconst 0, 1) := by decide +kernel
theorem dX2_hasLogged_14 : decode cX2_hasLogged 14 = .ok (.ireturn, 1) := by decide +kernel
theorem dX2_heard_0 : decode cX2_heard 0 = .ok (.aload_n 0, 1) := by decide +kernel
theorem dX2_heard_1 : decode cX2_heard 1 = .ok (.getfield 18, 3) := by decide +kernel
theorem dX2_heard_4 : decode cX2_heard 4 = .ok (.iload_n 1, 1) := by decide +kernel
theorem dX2_heard_5 : decode cX2_heard 5 = .ok (.bipush 6, 2) := by decide +kernel
theorem dX2_heard_7 : decode cX2_heard 7 = .ok (.imul, 1) := by decide +kernel
theorem dX2_heard_8 : decode cX2_heard 8 = .ok (.iload_n 2, 1) := by decide +kernel
theorem dX2_heard_9 : decode cX2_heard 9 = .ok (.iadd, 1) := by decide +kernel
theorem dX2_heard_10 : decode cX2_heard 10 = .ok (.iaload, 1) := by decide +kernel
theorem dX2_heard_11 : decode cX2_heard 11 = .ok (.ireturn, 1) := by decide +kernel
theorem dX2_entry_0 : decode cX2_entry 0 = .ok (.aload_n 0, 1) := by decide +kernel
theorem dX2_entry_1 : decode cX2_entry 1 = .ok (.aload_n 0, 1) := by decide +kernel
theorem dX2_entry_2 : decode cX2_entry 2 = .ok (.getfield 28, 3) := by decide +kernel
theorem dX2_entry_5 : decode cX2_entry 5 = .ok (.iload_n 1, 1) := by decide +kernel
theorem dX2_entry_6 : decode cX2_entry 6 = .ok (.invokevirtual 40, 3) := by decide +kernel
theorem dX2_entry_9 : decode cX2_entry 9 = .ok (.ireturn, 1) := by decide +kernel
theorem dX2_deliver_0 : decode cX2_deliver 0 = .ok (.aload_n 0, 1) := by decide +kernel
theorem dX2_deliver_1 : decode cX2_deliver 1 = .ok (.getfield 21, 3) := by decide +kernel
theorem dX2_deliver_4 : decode cX2_deliver 4 = .ok (.sipush 150, 3) := by decide +kernel
theorem dX2_deliver_7 : decode cX2_deliver 7 = .ok (.if_icmp .lt 4, 3) := by decide +kernel
theorem dX2_deliver_10 : decode cX2_deliver 10 = .ok (.return_, 1) := by decide +kernel
theorem dX2_deliver_11 : decode cX2_deliver 11 = .ok (.aload_n 0, 1) := by decide +kernel
theorem dX2_deliver_12 : decode cX2_deliver 12 = .ok (.getfield 9, 3) := by decide +kernel
theorem dX2_deliver_15 : decode cX2_deliver 15 = .ok (.aload_n 0, 1) := by decide +kernel
theorem dX2_deliver_16 : decode cX2_deliver 16 = .ok (.getfield 21, 3) := by decide +kernel
theorem dX2_deliver_19 : decode cX2_deliver 19 = .ok (.iload_n 1, 1) := by decide +kernel
theorem dX2_deliver_20 : decode cX2_deliver 20 = .ok (.iastore, 1) := by decide +kernel
theorem dX2_deliver_21 : decode cX2_deliver 21 = .ok (.aload_n 0, 1) := by decide +kernel
theorem dX2_deliver_22 : decode cX2_deliver 22 = .ok (.getfield 15, 3) := by decide +kernel
theorem dX2_deliver_25 : decode cX2_deliver 25 = .ok (.iload_n 1, 1) := by decide +kernel
theorem dX2_deliver_26 : decode cX2_deliver 26 = .ok (.aload_n 0, 1) := by decide +kernel
theorem dX2_deliver_27 : decode cX2_deliver 27 = .ok (.getfield 21, 3) := by decide +kernel
theorem dX2_deliver_30 : decode cX2_deliver 30 = .ok (.iastore, 1) := by decide +kernel
theorem dX2_deliver_31 : decode cX2_deliver 31 = .ok (.aload_n 0, 1) := by decide +kernel
theorem dX2_deliver_32 : decode cX2_deliver 32 = .ok (.dup, 1) := by decide +kernel
theorem dX2_deliver_33 : decode cX2_deliver 33 = .ok (.getfield 21, 3) := by decide +kernel
theorem dX2_deliver_36 : decode cX2_deliver 36 = .ok (.iconst 1, 1) := by decide +kernel
theorem dX2_deliver_37 : decode cX2_deliver 37 = .ok (.iadd, 1) := by decide +kernel
theorem dX2_deliver_38 : decode cX2_deliver 38 = .ok (.putfield 21, 3) := by decide +kernel
theorem dX2_deliver_41 : decode cX2_deliver 41 = .ok (.aload_n 0, 1) := by decide +kernel
theorem dX2_deliver_42 : decode cX2_deliver 42 = .ok (.bipush 31, 2) := by decide +kernel
theorem dX2_deliver_44 : decode cX2_deliver 44 = .ok (.aload_n 0, 1) := by decide +kernel
theorem dX2_deliver_45 : decode cX2_deliver 45 = .ok (.getfield 25, 3) := by decide +kernel
theorem dX2_deliver_48 : decode cX2_deliver 48 = .ok (.imul, 1) := by decide +kernel
theorem dX2_deliver_49 : decode cX2_deliver 49 = .ok (.iload_n 3, 1) := by decide +kernel
theorem dX2_deliver_50 : decode cX2_deliver 50 = .ok (.iadd, 1) := by decide +kernel
theorem dX2_deliver_51 : decode cX2_deliver 51 = .ok (.putfield 25, 3) := by decide +kernel
theorem dX2_deliver_54 : decode cX2_deliver 54 = .ok (.aload_n 0, 1) := by decide +kernel
theorem dX2_deliver_55 : decode cX2_deliver 55 = .ok (.getfield 18, 3) := by decide +kernel
theorem dX2_deliver_58 : decode cX2_deliver 58 = .ok (.aload_n 0, 1) := by decide +kernel
theorem dX2_deliver_59 : decode cX2_deliver 59 = .ok (.getfield 28, 3) := by decide +kernel
theorem dX2_deliver_62 : decode cX2_deliver 62 = .ok (.bipush 6, 2) := by decide +kernel
theorem dX2_deliver_64 : decode cX2_deliver 64 = .ok (.imul, 1) := by decide +kernel
theorem dX2_deliver_65 : decode cX2_deliver 65 = .ok (.iload_n 2, 1) := by decide +kernel
theorem dX2_deliver_66 : decode cX2_deliver 66 = .ok (.iadd, 1) := by decide +kernel
theorem dX2_deliver_67 : decode cX2_deliver 67 = .ok (.dup2, 1) := by decide +kernel
theorem dX2_deliver_68 : decode cX2_deliver 68 = .ok (.iaload, 1) := by decide +kernel
theorem dX2_deliver_69 : decode cX2_deliver 69 = .ok (.iconst 1, 1) := by decide +kernel
theorem dX2_deliver_70 : decode cX2_deliver 70 = .ok (.iadd, 1) := by decide +kernel
theorem dX2_deliver_71 : decode cX2_deliver 71 = .ok (.iastore, 1) := by decide +kernel
theorem dX2_deliver_72 : decode cX2_deliver 72 = .ok (.return_, 1) := by decide +kernel
theorem dX2_isReadyFor_0 : decode cX2_isReadyFor 0 = .ok (.aload_n 1, 1) := by decide +kernel
theorem dX2_isReadyFor_1 : decode cX2_isReadyFor 1 = .ok (.getfield 44, 3) := by decide +kernel
theorem dX2_isReadyFor_4 : decode cX2_isReadyFor 4 = .ok (.iload_n 2, 1) := by decide +kernel
theorem dX2_isReadyFor_5 : decode cX2_isReadyFor 5 = .ok (.iaload, 1) := by decide +kernel
theorem dX2_isReadyFor_6 : decode cX2_isReadyFor 6 = .ok (.istore_n 3, 1) := by decide +kernel
theorem dX2_isReadyFor_7 : decode cX2_isReadyFor 7 = .ok (.aload_n 0, 1) := by decide +kernel
theorem dX2_isReadyFor_8 : decode cX2_isReadyFor 8 = .ok (.iload_n 2, 1) := by decide +kernel
theorem dX2_isReadyFor_9 : decode cX2_isReadyFor 9 = .ok (.invokevirtual 49, 3) := by decide +kernel
theorem dX2_isReadyFor_12 : decode cX2_isReadyFor 12 = .ok (.ifCond .ne 19, 3) := by decide +kernel
theorem dX2_isReadyFor_15 : decode cX2_isReadyFor 15 = .ok (.aload_n 1, 1) := by decide +kernel
theorem dX2_isReadyFor_16 : decode cX2_isReadyFor 16 = .ok (.getfield 53, 3) := by decide +kernel
theorem dX2_isReadyFor_19 : decode cX2_isReadyFor 19 = .ok (.iload_n 2, 1) := by decide +kernel
theorem dX2_isReadyFor_20 : decode cX2_isReadyFor 20 = .ok (.iaload, 1) := by decide +kernel
theorem dX2_isReadyFor_21 : decode cX2_isReadyFor 21 = .ok (.iconst 1, 1) := by decide +kernel
theorem dX2_isReadyFor_22 : decode cX2_isReadyFor 22 = .ok (.aload_n 0, 1) := by decide +kernel
theorem dX2_isReadyFor_23 : decode cX2_isReadyFor 23 = .ok (.iload_n 3, 1) := by decide +kernel
theorem dX2_isReadyFor_24 : decode cX2_isReadyFor 24 = .ok (.invokevirtual 56, 3) := by decide +kernel
theorem dX2_isReadyFor_27 : decode cX2_isReadyFor 27 = .ok (.iadd, 1) := by decide +kernel
theorem dX2_isReadyFor_28 : decode cX2_isReadyFor 28 = .ok (.if_icmp .eq 5, 3) := by decide +kernel
theorem dX2_isReadyFor_31 : decode cX2_isReadyFor 31 = .ok (.iconst 0, 1) := by decide +kernel
theorem dX2_isReadyFor_32 : decode cX2_isReadyFor 32 = .ok (.ireturn, 1) := by decide +kernel
theorem dX2_isReadyFor_33 : decode cX2_isReadyFor 33 = .ok (.iconst 0, 1) := by decide +kernel
theorem dX2_isReadyFor_34 : decode cX2_isReadyFor 34 = .ok (.istore 4, 2) := by decide +kernel
theorem dX2_isReadyFor_36 : decode cX2_isReadyFor 36 = .ok (.iload 4, 2) := by decide +kernel
theorem dX2_isReadyFor_38 : decode cX2_isReadyFor 38 = .ok (.bipush 6, 2) := by decide +kernel
theorem dX2_isReadyFor_40 : decode cX2_isReadyFor 40 = .ok (.if_icmp .ge 33, 3) := by decide +kernel
theorem dX2_isReadyFor_43 : decode cX2_isReadyFor 43 = .ok (.iload 4, 2) := by decide +kernel
theorem dX2_isReadyFor_45 : decode cX2_isReadyFor 45 = .ok (.iload_n 3, 1) := by decide +kernel
theorem dX2_isReadyFor_46 : decode cX2_isReadyFor 46 = .ok (.if_icmp .eq 21, 3) := by decide +kernel
theorem dX2_isReadyFor_49 : decode cX2_isReadyFor 49 = .ok (.aload_n 1, 1) := by decide +kernel
theorem dX2_isReadyFor_50 : decode cX2_isReadyFor 50 = .ok (.iload_n 2, 1) := by decide +kernel
theorem dX2_isReadyFor_51 : decode cX2_isReadyFor 51 = .ok (.iload 4, 2) := by decide +kernel
theorem dX2_isReadyFor_53 : decode cX2_isReadyFor 53 = .ok (.invokevirtual 60, 3) := by decide +kernel
theorem dX2_isReadyFor_56 : decode cX2_isReadyFor 56 = .ok (.aload_n 0, 1) := by decide +kernel
theorem dX2_isReadyFor_57 : decode cX2_isReadyFor 57 = .ok (.iload 4, 2) := by decide +kernel
theorem dX2_isReadyFor_59 : decode cX2_isReadyFor 59 = .ok (.invokevirtual 56, 3) := by decide +kernel
theorem dX2_isReadyFor_62 : decode cX2_isReadyFor 62 = .ok (.if_icmp .le 5, 3) := by decide +kernel
theorem dX2_isReadyFor_65 : decode cX2_isReadyFor 65 = .ok (.iconst 0, 1) := by decide +kernel
theorem dX2_isReadyFor_66 : decode cX2_isReadyFor 66 = .ok (.ireturn, 1) := by decide +kernel
theorem dX2_isReadyFor_67 : decode cX2_isReadyFor 67 = .ok (.iinc 4 1, 3) := by decide +kernel
theorem dX2_isReadyFor_70 : decode cX2_isReadyFor 70 = .ok (.goto (-34), 3) := by decide +kernel
theorem dX2_isReadyFor_73 : decode cX2_isReadyFor 73 = .ok (.iconst 1, 1) := by decide +kernel
theorem dX2_isReadyFor_74 : decode cX2_isReadyFor 74 = .ok (.ireturn, 1) := by decide +kernel
theorem dX2_learnFromClock_0 : decode cX2_learnFromClock 0 = .ok (.aload_n 1, 1) := by decide +kernel
theorem dX2_learnFromClock_1 : decode cX2_learnFromClock 1 = .ok (.getfield 44, 3) := by decide +kernel
theorem dX2_learnFromClock_4 : decode cX2_learnFromClock 4 = .ok (.iload_n 2, 1) := by decide +kernel
theorem dX2_learnFromClock_5 : decode cX2_learnFromClock 5 = .ok (.iaload, 1) := by decide +kernel
theorem dX2_learnFromClock_6 : decode cX2_learnFromClock 6 = .ok (.bipush 6, 2) := by decide +kernel
theorem dX2_learnFromClock_8 : decode cX2_learnFromClock 8 = .ok (.imul, 1) := by decide +kernel
theorem dX2_learnFromClock_9 : decode cX2_learnFromClock 9 = .ok (.istore_n 3, 1) := by decide +kernel
theorem dX2_learnFromClock_10 : decode cX2_learnFromClock 10 = .ok (.iconst 0, 1) := by decide +kernel
theorem dX2_learnFromClock_11 : decode cX2_learnFromClock 11 = .ok (.istore 4, 2) := by decide +kernel
theorem dX2_learnFromClock_13 : decode cX2_learnFromClock 13 = .ok (.iload 4, 2) := by decide +kernel
theorem dX2_learnFromClock_15 : decode cX2_learnFromClock 15 = .ok (.bipush 6, 2) := by decide +kernel
theorem dX2_learnFromClock_17 : decode cX2_learnFromClock 17 = .ok (.if_icmp .ge 43, 3) := by decide +kernel
theorem dX2_learnFromClock_20 : decode cX2_learnFromClock 20 = .ok (.aload_n 1, 1) := by decide +kernel
theorem dX2_learnFromClock_21 : decode cX2_learnFromClock 21 = .ok (.iload_n 2, 1) := by decide +kernel
theorem dX2_learnFromClock_22 : decode cX2_learnFromClock 22 = .ok (.iload 4, 2) := by decide +kernel
theorem dX2_learnFromClock_24 : decode cX2_learnFromClock 24 = .ok (.invokevirtual 60, 3) := by decide +kernel
theorem dX2_learnFromClock_27 : decode cX2_learnFromClock 27 = .ok (.istore 5, 2) := by decide +kernel
theorem dX2_learnFromClock_29 : decode cX2_learnFromClock 29 = .ok (.iload 5, 2) := by decide +kernel
theorem dX2_learnFromClock_31 : decode cX2_learnFromClock 31 = .ok (.aload_n 0, 1) := by decide +kernel
theorem dX2_learnFromClock_32 : decode cX2_learnFromClock 32 = .ok (.getfield 18, 3) := by decide +kernel
theorem dX2_learnFromClock_35 : decode cX2_learnFromClock 35 = .ok (.iload_n 3, 1) := by decide +kernel
theorem dX2_learnFromClock_36 : decode cX2_learnFromClock 36 = .ok (.iload 4, 2) := by decide +kernel
theorem dX2_learnFromClock_38 : decode cX2_learnFromClock 38 = .ok (.iadd, 1) := by decide +kernel
theorem dX2_learnFromClock_39 : decode cX2_learnFromClock 39 = .ok (.iaload, 1) := by decide +kernel
theorem dX2_learnFromClock_40 : decode cX2_learnFromClock 40 = .ok (.if_icmp .le 14, 3) := by decide +kernel
theorem dX2_learnFromClock_43 : decode cX2_learnFromClock 43 = .ok (.aload_n 0, 1) := by decide +kernel
theorem dX2_learnFromClock_44 : decode cX2_learnFromClock 44 = .ok (.getfield 18, 3) := by decide +kernel
theorem dX2_learnFromClock_47 : decode cX2_learnFromClock 47 = .ok (.iload_n 3, 1) := by decide +kernel
theorem dX2_learnFromClock_48 : decode cX2_learnFromClock 48 = .ok (.iload 4, 2) := by decide +kernel
theorem dX2_learnFromClock_50 : decode cX2_learnFromClock 50 = .ok (.iadd, 1) := by decide +kernel
theorem dX2_learnFromClock_51 : decode cX2_learnFromClock 51 = .ok (.iload 5, 2) := by decide +kernel
theorem dX2_learnFromClock_53 : decode cX2_learnFromClock 53 = .ok (.iastore, 1) := by decide +kernel
theorem dX2_learnFromClock_54 : decode cX2_learnFromClock 54 = .ok (.iinc 4 1, 3) := by decide +kernel
theorem dX2_learnFromClock_57 : decode cX2_learnFromClock 57 = .ok (.goto (-44), 3) := by decide +kernel
theorem dX2_learnFromClock_60 : decode cX2_learnFromClock 60 = .ok (.return_, 1) := by decide +kernel
theorem dX2_learnFromTable_0 : decode cX2_learnFromTable 0 = .ok (.iconst 0, 1) := by decide +kernel
theorem dX2_learnFromTable_1 : decode cX2_learnFromTable 1 = .ok (.istore_n 2, 1) := by decide +kernel
theorem dX2_learnFromTable_2 : decode cX2_learnFromTable 2 = .ok (.iconst 0, 1) := by decide +kernel
theorem dX2_learnFromTable_3 : decode cX2_learnFromTable 3 = .ok (.istore_n 3, 1) := by decide +kernel
theorem dX2_learnFromTable_4 : decode cX2_learnFromTable 4 = .ok (.iload_n 3, 1) := by decide +kernel
theorem dX2_learnFromTable_5 : decode cX2_learnFromTable 5 = .ok (.bipush 36, 2) := by decide +kernel
theorem dX2_learnFromTable_7 : decode cX2_learnFromTable 7 = .ok (.if_icmp .ge 50, 3) := by decide +kernel
theorem dX2_learnFromTable_10 : decode cX2_learnFromTable 10 = .ok (.iload_n 3, 1) := by decide +kernel
theorem dX2_learnFromTable_11 : decode cX2_learnFromTable 11 = .ok (.bipush 6, 2) := by decide +kernel
theorem dX2_learnFromTable_13 : decode cX2_learnFromTable 13 = .ok (.idiv, 1) := by decide +kernel
theorem dX2_learnFromTable_14 : decode cX2_learnFromTable 14 = .ok (.aload_n 0, 1) := by decide +kernel
theorem dX2_learnFromTable_15 : decode cX2_learnFromTable 15 = .ok (.getfield 28, 3) := by decide +kernel
theorem dX2_learnFromTable_18 : decode cX2_learnFromTable 18 = .ok (.if_icmp .eq 33, 3) := by decide +kernel
theorem dX2_learnFromTable_21 : decode cX2_learnFromTable 21 = .ok (.aload_n 1, 1) := by decide +kernel
theorem dX2_learnFromTable_22 : decode cX2_learnFromTable 22 = .ok (.getfield 18, 3) := by decide +kernel
theorem dX2_learnFromTable_25 : decode cX2_learnFromTable 25 = .ok (.iload_n 3, 1) := by decide +kernel
theorem dX2_learnFromTable_26 : decode cX2_learnFromTable 26 = .ok (.iaload, 1) := by decide +kernel
theorem dX2_learnFromTable_27 : decode cX2_learnFromTable 27 = .ok (.aload_n 0, 1) := by decide +kernel
theorem dX2_learnFromTable_28 : decode cX2_learnFromTable 28 = .ok (.getfield 18, 3) := by decide +kernel
theorem dX2_learnFromTable_31 : decode cX2_learnFromTable 31 = .ok (.iload_n 3, 1) := by decide +kernel
theorem dX2_learnFromTable_32 : decode cX2_learnFromTable 32 = .ok (.iaload, 1) := by decide +kernel
theorem dX2_learnFromTable_33 : decode cX2_learnFromTable 33 = .ok (.if_icmp .le 18, 3) := by decide +kernel
theorem dX2_learnFromTable_36 : decode cX2_learnFromTable 36 = .ok (.aload_n 0, 1) := by decide +kernel
theorem dX2_learnFromTable_37 : decode cX2_learnFromTable 37 = .ok (.getfield 18, 3) := by decide +kernel
theorem dX2_learnFromTable_40 : decode cX2_learnFromTable 40 = .ok (.iload_n 3, 1) := by decide +kernel
theorem dX2_learnFromTable_41 : decode cX2_learnFromTable 41 = .ok (.aload_n 1, 1) := by decide +kernel
theorem dX2_learnFromTable_42 : decode cX2_learnFromTable 42 = .ok (.getfield 18, 3) := by decide +kernel
theorem dX2_learnFromTable_45 : decode cX2_learnFromTable 45 = .ok (.iload_n 3, 1) := by decide +kernel
theorem dX2_learnFromTable_46 : decode cX2_learnFromTable 46 = .ok (.iaload, 1) := by decide +kernel
theorem dX2_learnFromTable_47 : decode cX2_learnFromTable 47 = .ok (.iastore, 1) := by decide +kernel
theorem dX2_learnFromTable_48 : decode cX2_learnFromTable 48 = .ok (.iinc 2 1, 3) := by decide +kernel
theorem dX2_learnFromTable_51 : decode cX2_learnFromTable 51 = .ok (.iinc 3 1, 3) := by decide +kernel
theorem dX2_learnFromTable_54 : decode cX2_learnFromTable 54 = .ok (.goto (-50), 3) := by decide +kernel
theorem dX2_learnFromTable_57 : decode cX2_learnFromTable 57 = .ok (.iload_n 2, 1) := by decide +kernel
theorem dX2_learnFromTable_58 : decode cX2_learnFromTable 58 = .ok (.ireturn, 1) := by decide +kernel
theorem dX2_countShared_0 : decode cX2_countShared 0 = .ok (.iconst 0, 1) := by decide +kernel
theorem dX2_countShared_1 : decode cX2_countShared 1 = .ok (.istore_n 2, 1) := by decide +kernel
theorem dX2_countShared_2 : decode cX2_countShared 2 = .ok (.iconst 0, 1) := by decide +kernel
theorem dX2_countShared_3 : decode cX2_countShared 3 = .ok (.istore_n 3, 1) := by decide +kernel
theorem dX2_countShared_4 : decode cX2_countShared 4 = .ok (.iload_n 3, 1) := by decide +kernel
theorem dX2_countShared_5 : decode cX2_countShared 5 = .ok (.aload_n 0, 1) := by decide +kernel
theorem dX2_countShared_6 : decode cX2_countShared 6 = .ok (.getfield 21, 3) := by decide +kernel
theorem dX2_countShared_9 : decode cX2_countShared 9 = .ok (.if_icmp .ge 25, 3) := by decide +kernel
theorem dX2_countShared_12 : decode cX2_countShared 12 = .ok (.aload_n 1, 1) := by decide +kernel
theorem dX2_countShared_13 : decode cX2_countShared 13 = .ok (.aload_n 0, 1) := by decide +kernel
theorem dX2_countShared_14 : decode cX2_countShared 14 = .ok (.getfield 9, 3) := by decide +kernel
theorem dX2_countShared_17 : decode cX2_countShared 17 = .ok (.iload_n 3, 1) := by decide +kernel
theorem dX2_countShared_18 : decode cX2_countShared 18 = .ok (.iaload, 1) := by decide +kernel
theorem dX2_countShared_19 : decode cX2_countShared 19 = .ok (.invokevirtual 49, 3) := by decide +kernel
theorem dX2_countShared_22 : decode cX2_countShared 22 = .ok (.ifCond .eq 6, 3) := by decide +kernel
theorem dX2_countShared_25 : decode cX2_countShared 25 = .ok (.iinc 2 1, 3) := by decide +kernel
theorem dX2_countShared_28 : decode cX2_countShared 28 = .ok (.iinc 3 1, 3) := by decide +kernel
theorem dX2_countShared_31 : decode cX2_countShared 31 = .ok (.goto (-27), 3) := by decide +kernel
theorem dX2_countShared_34 : decode cX2_countShared 34 = .ok (.iload_n 2, 1) := by decide +kernel
theorem dX2_countShared_35 : decode cX2_countShared 35 = .ok (.ireturn, 1) := by decide +kernel
theorem dX2_countSwapped_0 : decode cX2_countSwapped 0 = .ok (.iconst 0, 1) := by decide +kernel
theorem dX2_countSwapped_1 : decode cX2_countSwapped 1 = .ok (.istore_n 2, 1) := by decide +kernel
theorem dX2_countSwapped_2 : decode cX2_countSwapped 2 = .ok (.iconst 0, 1) := by decide +kernel
theorem dX2_countSwapped_3 : decode cX2_countSwapped 3 = .ok (.istore_n 3, 1) := by decide +kernel
theorem dX2_countSwapped_4 : decode cX2_countSwapped 4 = .ok (.iload_n 3, 1) := by decide +kernel
theorem dX2_countSwapped_5 : decode cX2_countSwapped 5 = .ok (.aload_n 0, 1) := by decide +kernel
theorem dX2_countSwapped_6 : decode cX2_countSwapped 6 = .ok (.getfield 21, 3) := by decide +kernel
theorem dX2_countSwapped_9 : decode cX2_countSwapped 9 = .ok (.if_icmp .ge 31, 3) := by decide +kernel
theorem dX2_countSwapped_12 : decode cX2_countSwapped 12 = .ok (.aload_n 1, 1) := by decide +kernel
theorem dX2_countSwapped_13 : decode cX2_countSwapped 13 = .ok (.aload_n 0, 1) := by decide +kernel
theorem dX2_countSwapped_14 : decode cX2_countSwapped 14 = .ok (.getfield 9, 3) := by decide +kernel
theorem dX2_countSwapped_17 : decode cX2_countSwapped 17 = .ok (.iload_n 3, 1) := by decide +kernel
theorem dX2_countSwapped_18 : decode cX2_countSwapped 18 = .ok (.iaload, 1) := by decide +kernel
theorem dX2_countSwapped_19 : decode cX2_countSwapped 19 = .ok (.invokevirtual 49, 3) := by decide +kernel
theorem dX2_countSwapped_22 : decode cX2_countSwapped 22 = .ok (.ifCond .eq 12, 3) := by decide +kernel
theorem dX2_countSwapped_25 : decode cX2_countSwapped 25 = .ok (.iload_n 2, 1) := by decide +kernel
theorem dX2_countSwapped_26 : decode cX2_countSwapped 26 = .ok (.aload_n 0, 1) := by decide +kernel
theorem dX2_countSwapped_27 : decode cX2_countSwapped 27 = .ok (.iload_n 3, 1) := by decide +kernel
theorem dX2_countSwapped_28 : decode cX2_countSwapped 28 = .ok (.aload_n 1, 1) := by decide +kernel
theorem dX2_countSwapped_29 : decode cX2_countSwapped 29 = .ok (.invokevirtual 62, 3) := by decide +kernel
theorem dX2_countSwapped_32 : decode cX2_countSwapped 32 = .ok (.iadd, 1) := by decide +kernel
theorem dX2_countSwapped_33 : decode cX2_countSwapped 33 = .ok (.istore_n 2, 1) := by decide +kernel
theorem dX2_countSwapped_34 : decode cX2_countSwapped 34 = .ok (.iinc 3 1, 3) := by decide +kernel
theorem dX2_countSwapped_37 : decode cX2_countSwapped 37 = .ok (.goto (-33), 3) := by decide +kernel
theorem dX2_countSwapped_40 : decode cX2_countSwapped 40 = .ok (.iload_n 2, 1) := by decide +kernel
theorem dX2_countSwapped_41 : decode cX2_countSwapped 41 = .ok (.ireturn, 1) := by decide +kernel
theorem dX2_countSwappedBehind_0 : decode cX2_countSwappedBehind 0 = .ok (.aload_n 2, 1) := by decide +kernel
theorem dX2_countSwappedBehind_1 : decode cX2_countSwappedBehind 1 = .ok (.getfield 15, 3) := by decide +kernel
theorem dX2_countSwappedBehind_4 : decode cX2_countSwappedBehind 4 = .ok (.aload_n 0, 1) := by decide +kernel
theorem dX2_countSwappedBehind_5 : decode cX2_countSwappedBehind 5 = .ok (.getfield 9, 3) := by decide +kernel
theorem dX2_countSwappedBehind_8 : decode cX2_countSwappedBehind 8 = .ok (.iload_n 1, 1) := by decide +kernel
theorem dX2_countSwappedBehind_9 : decode cX2_countSwappedBehind 9 = .ok (.iaload, 1) := by decide +kernel
theorem dX2_countSwappedBehind_10 : decode cX2_countSwappedBehind 10 = .ok (.iaload, 1) := by decide +kernel
theorem dX2_countSwappedBehind_11 : decode cX2_countSwappedBehind 11 = .ok (.istore_n 3, 1) := by decide +kernel
theorem dX2_countSwappedBehind_12 : decode cX2_countSwappedBehind 12 = .ok (.iconst 0, 1) := by decide +kernel
theorem dX2_countSwappedBehind_13 : decode cX2_countSwappedBehind 13 = .ok (.istore 4, 2) := by decide +kernel
theorem dX2_countSwappedBehind_15 : decode cX2_countSwappedBehind 15 = .ok (.iload_n 1, 1) := by decide +kernel
theorem dX2_countSwappedBehind_16 : decode cX2_countSwappedBehind 16 = .ok (.iconst 1, 1) := by decide +kernel
theorem dX2_countSwappedBehind_17 : decode cX2_countSwappedBehind 17 = .ok (.iadd, 1) := by decide +kernel
theorem dX2_countSwappedBehind_18 : decode cX2_countSwappedBehind 18 = .ok (.istore 5, 2) := by decide +kernel
theorem dX2_countSwappedBehind_20 : decode cX2_countSwappedBehind 20 = .ok (.iload 5, 2) := by decide +kernel
theorem dX2_countSwappedBehind_22 : decode cX2_countSwappedBehind 22 = .ok (.aload_n 0, 1) := by decide +kernel
theorem dX2_countSwappedBehind_23 : decode cX2_countSwappedBehind 23 = .ok (.getfield 21, 3) := by decide +kernel
theorem dX2_countSwappedBehind_26 : decode cX2_countSwappedBehind 26 = .ok (.if_icmp .ge 37, 3) := by decide +kernel
theorem dX2_countSwappedBehind_29 : decode cX2_countSwappedBehind 29 = .ok (.aload_n 2, 1) := by decide +kernel
theorem dX2_countSwappedBehind_30 : decode cX2_countSwappedBehind 30 = .ok (.getfield 15, 3) := by decide +kernel
theorem dX2_countSwappedBehind_33 : decode cX2_countSwappedBehind 33 = .ok (.aload_n 0, 1) := by decide +kernel
theorem dX2_countSwappedBehind_34 : decode cX2_countSwappedBehind 34 = .ok (.getfield 9, 3) := by decide +kernel
theorem dX2_countSwappedBehind_37 : decode cX2_countSwappedBehind 37 = .ok (.iload 5, 2) := by decide +kernel
theorem dX2_countSwappedBehind_39 : decode cX2_countSwappedBehind 39 = .ok (.iaload, 1) := by decide +kernel
theorem dX2_countSwappedBehind_40 : decode cX2_countSwappedBehind 40 = .ok (.iaload, 1) := by decide +kernel
theorem dX2_countSwappedBehind_41 : decode cX2_countSwappedBehind 41 = .ok (.istore 6, 2) := by decide +kernel
theorem dX2_countSwappedBehind_43 : decode cX2_countSwappedBehind 43 = .ok (.iload 6, 2) := by decide +kernel
theorem dX2_countSwappedBehind_45 : decode cX2_countSwappedBehind 45 = .ok (.ifCond .lt 12, 3) := by decide +kernel
theorem dX2_countSwappedBehind_48 : decode cX2_countSwappedBehind 48 = .ok (.iload 6, 2) := by decide +kernel
theorem dX2_countSwappedBehind_50 : decode cX2_countSwappedBehind 50 = .ok (.iload_n 3, 1) := by decide +kernel
theorem dX2_countSwappedBehind_51 : decode cX2_countSwappedBehind 51 = .ok (.if_icmp .ge 6, 3) := by decide +kernel
theorem dX2_countSwappedBehind_54 : decode cX2_countSwappedBehind 54 = .ok (.iinc 4 1, 3) := by decide +kernel
theorem dX2_countSwappedBehind_57 : decode cX2_countSwappedBehind 57 = .ok (.iinc 5 1, 3) := by decide +kernel
theorem dX2_countSwappedBehind_60 : decode cX2_countSwappedBehind 60 = .ok (.goto (-40), 3) := by decide +kernel
theorem dX2_countSwappedBehind_63 : decode cX2_countSwappedBehind 63 = .ok (.iload 4, 2) := by decide +kernel
theorem dX2_countSwappedBehind_65 : decode cX2_countSwappedBehind 65 = .ok (.ireturn, 1) := by decide +kernel
theorem dX2_copyLogAndState_0 : decode cX2_copyLogAndState 0 = .ok (.aload_n 1, 1) := by decide +kernel
theorem dX2_copyLogAndState_1 : decode cX2_copyLogAndState 1 = .ok (.getfield 9, 3) := by decide +kernel
theorem dX2_copyLogAndState_4 : decode cX2_copyLogAndState 4 = .ok (.aload_n 0, 1) := by decide +kernel
theorem dX2_copyLogAndState_5 : decode cX2_copyLogAndState 5 = .ok (.getfield 9, 3) := by decide +kernel
theorem dX2_copyLogAndState_8 : decode cX2_copyLogAndState 8 = .ok (.invokestatic 66, 3) := by decide +kernel
theorem dX2_copyLogAndState_11 : decode cX2_copyLogAndState 11 = .ok (.aload_n 1, 1) := by decide +kernel
theorem dX2_copyLogAndState_12 : decode cX2_copyLogAndState 12 = .ok (.getfield 15, 3) := by decide +kernel
theorem dX2_copyLogAndState_15 : decode cX2_copyLogAndState 15 = .ok (.aload_n 0, 1) := by decide +kernel
theorem dX2_copyLogAndState_16 : decode cX2_copyLogAndState 16 = .ok (.getfield 15, 3) := by decide +kernel
theorem dX2_copyLogAndState_19 : decode cX2_copyLogAndState 19 = .ok (.invokestatic 66, 3) := by decide +kernel
theorem dX2_copyLogAndState_22 : decode cX2_copyLogAndState 22 = .ok (.aload_n 0, 1) := by decide +kernel
theorem dX2_copyLogAndState_23 : decode cX2_copyLogAndState 23 = .ok (.aload_n 1, 1) := by decide +kernel
theorem dX2_copyLogAndState_24 : decode cX2_copyLogAndState 24 = .ok (.getfield 21, 3) := by decide +kernel
theorem dX2_copyLogAndState_27 : decode cX2_copyLogAndState 27 = .ok (.putfield 21, 3) := by decide +kernel
theorem dX2_copyLogAndState_30 : decode cX2_copyLogAndState 30 = .ok (.aload_n 0, 1) := by decide +kernel
theorem dX2_copyLogAndState_31 : decode cX2_copyLogAndState 31 = .ok (.aload_n 1, 1) := by decide +kernel
theorem dX2_copyLogAndState_32 : decode cX2_copyLogAndState 32 = .ok (.getfield 25, 3) := by decide +kernel
theorem dX2_copyLogAndState_35 : decode cX2_copyLogAndState 35 = .ok (.putfield 25, 3) := by decide +kernel
theorem dX2_copyLogAndState_38 : decode cX2_copyLogAndState 38 = .ok (.return_, 1) := by decide +kernel
theorem dX2_copyFrom_0 : decode cX2_copyFrom 0 = .ok (.aload_n 0, 1) := by decide +kernel
theorem dX2_copyFrom_1 : decode cX2_copyFrom 1 = .ok (.aload_n 1, 1) := by decide +kernel
theorem dX2_copyFrom_2 : decode cX2_copyFrom 2 = .ok (.invokevirtual 70, 3) := by decide +kernel
theorem dX2_copyFrom_5 : decode cX2_copyFrom 5 = .ok (.aload_n 1, 1) := by decide +kernel
theorem dX2_copyFrom_6 : decode cX2_copyFrom 6 = .ok (.getfield 18, 3) := by decide +kernel
theorem dX2_copyFrom_9 : decode cX2_copyFrom 9 = .ok (.aload_n 0, 1) := by decide +kernel
theorem dX2_copyFrom_10 : decode cX2_copyFrom 10 = .ok (.getfield 18, 3) := by decide +kernel
theorem dX2_copyFrom_13 : decode cX2_copyFrom 13 = .ok (.invokestatic 66, 3) := by decide +kernel
theorem dX2_copyFrom_16 : decode cX2_copyFrom 16 = .ok (.return_, 1) := by decide +kernel
theorem dX3_init_0 : decode cX3_init 0 = .ok (.aload_n 0, 1) := by decide +kernel
theorem dX3_init_1 : decode cX3_init 1 = .ok (.invokespecial 3, 3) := by decide +kernel
theorem dX3_init_4 : decode cX3_init 4 = .ok (.aload_n 0, 1) := by decide +kernel
theorem dX3_init_5 : decode cX3_init 5 = .ok (.bipush 60, 2) := by decide +kernel
theorem dX3_init_7 : decode cX3_init 7 = .ok (.newarray .char, 2) := by decide +kernel
theorem dX3_init_9 : decode cX3_init 9 = .ok (.putfield 9, 3) := by decide +kernel
theorem dX3_init_12 : decode cX3_init 12 = .ok (.aload_n 0, 1) := by decide +kernel
theorem dX3_init_13 : decode cX3_init 13 = .ok (.iconst 0, 1) := by decide +kernel
theorem dX3_init_14 : decode cX3_init 14 = .ok (.putfield 15, 3) := by decide +kernel
theorem dX3_init_17 : decode cX3_init 17 = .ok (.aload_n 0, 1) := by decide +kernel
theorem dX3_init_18 : decode cX3_init 18 = .ok (.bipush 30, 2) := by decide +kernel
theorem dX3_init_20 : decode cX3_init 20 = .ok (.newarray .char, 2) := by decide +kernel
theorem dX3_init_22 : decode cX3_init 22 = .ok (.putfield 19, 3) := by decide +kernel
theorem dX3_init_25 : decode cX3_init 25 = .ok (.aload_n 0, 1) := by decide +kernel
theorem dX3_init_26 : decode cX3_init 26 = .ok (.bipush 30, 2) := by decide +kernel
theorem dX3_init_28 : decode cX3_init 28 = .ok (.newarray .int, 2) := by decide +kernel
theorem dX3_init_30 : decode cX3_init 30 = .ok (.putfield 22, 3) := by decide +kernel
theorem dX3_init_33 : decode cX3_init 33 = .ok (.aload_n 0, 1) := by decide +kernel
theorem dX3_init_34 : decode cX3_init 34 = .ok (.bipush 30, 2) := by decide +kernel
theorem dX3_init_36 : decode cX3_init 36 = .ok (.newarray .int, 2) := by decide +kernel
theorem dX3_init_38 : decode cX3_init 38 = .ok (.putfield 26, 3) := by decide +kernel
theorem dX3_init_41 : decode cX3_init 41 = .ok (.aload_n 0, 1) := by decide +kernel
theorem dX3_init_42 : decode cX3_init 42 = .ok (.iconst 0, 1) := by decide +kernel
theorem dX3_init_43 : decode cX3_init 43 = .ok (.putfield 29, 3) := by decide +kernel
theorem dX3_init_46 : decode cX3_init 46 = .ok (.aload_n 0, 1) := by decide +kernel
theorem dX3_init_47 : decode cX3_init 47 = .ok (.iconst 0, 1) := by decide +kernel
theorem dX3_init_48 : decode cX3_init 48 = .ok (.putfield 32, 3) := by decide +kernel
theorem dX3_init_51 : decode cX3_init 51 = .ok (.aload_n 0, 1) := by decide +kernel
theorem dX3_init_52 : decode cX3_init 52 = .ok (.iconst 0, 1) := by decide +kernel
theorem dX3_init_53 : decode cX3_init 53 = .ok (.putfield 35, 3) := by decide +kernel
theorem dX3_init_56 : decode cX3_init 56 = .ok (.return_, 1) := by decide +kernel
theorem dX3_isFull_0 : decode cX3_isFull 0 = .ok (.aload_n 0, 1) := by decide +kernel
theorem dX3_isFull_1 : decode cX3_isFull 1 = .ok (.getfield 15, 3) := by decide +kernel
theorem dX3_isFull_4 : decode cX3_isFull 4 = .ok (.bipush 60, 2) := by decide +kernel
theorem dX3_isFull_6 : decode cX3_isFull 6 = .ok (.if_icmp .lt 7, 3) := by decide +kernel
theorem dX3_isFull_9 : decode cX3_isFull 9 = .ok (.iconst 1, 1) := by decide +kernel
theorem dX3_isFull_10 : decode cX3_isFull 10 = .ok (.goto 4, 3) := by decide +kernel
theorem dX3_isFull_13 : decode cX3_isFull 13 = .ok (.iconst 0, 1) := by decide +kernel
theorem dX3_isFull_14 : decode cX3_isFull 14 = .ok (.ireturn, 1) := by decide +kernel
theorem dX3_add_0 : decode cX3_add 0 = .ok (.aload_n 0, 1) := by decide +kernel
theorem dX3_add_1 : decode cX3_add 1 = .ok (.invokevirtual 38, 3) := by decide +kernel
theorem dX3_add_4 : decode cX3_add 4 = .ok (.ifCond .ne 23, 3) := by decide +kernel
theorem dX3_add_7 : decode cX3_add 7 = .ok (.aload_n 0, 1) := by decide +kernel
theorem dX3_add_8 : decode cX3_add 8 = .ok (.getfield 9, 3) := by decide +kernel
theorem dX3_add_11 : decode cX3_add 11 = .ok (.aload_n 0, 1) := by decide +kernel
theorem dX3_add_12 : decode cX3_add 12 = .ok (.getfield 15, 3) := by decide +kernel
theorem dX3_add_15 : decode cX3_add 15 = .ok (.iload_n 1, 1) := by decide +kernel
theorem dX3_add_16 : decode cX3_add 16 = .ok (.castore, 1) := by decide +kernel
theorem dX3_add_17 : decode cX3_add 17 = .ok (.aload_n 0, 1) := by decide +kernel
theorem dX3_add_18 : decode cX3_add 18 = .ok (.dup, 1) := by decide +kernel
theorem dX3_add_19 : decode cX3_add 19 = .ok (.getfield 15, 3) := by decide +kernel
theorem dX3_add_22 : decode cX3_add 22 = .ok (.iconst 1, 1) := by decide +kernel
theorem dX3_add_23 : decode cX3_add 23 = .ok (.iadd, 1) := by decide +kernel
theorem dX3_add_24 : decode cX3_add 24 = .ok (.putfield 15, 3) := by decide +kernel
theorem dX3_add_27 : decode cX3_add 27 = .ok (.aload_n 0, 1) := by decide +kernel
theorem dX3_add_28 : decode cX3_add 28 = .ok (.getfield 15, 3) := by decide +kernel
theorem dX3_add_31 : decode cX3_add 31 = .ok (.ireturn, 1) := by decide +kernel
theorem dX3_clear_0 : decode cX3_clear 0 = .ok (.aload_n 0, 1) := by decide +kernel
theorem dX3_clear_1 : decode cX3_clear 1 = .ok (.iconst 0, 1) := by decide +kernel
theorem dX3_clear_2 : decode cX3_clear 2 = .ok (.putfield 15, 3) := by decide +kernel
theorem dX3_clear_5 : decode cX3_clear 5 = .ok (.return_, 1) := by decide +kernel
theorem dX3_parse_0 : decode cX3_parse 0 = .ok (.aload_n 0, 1) := by decide +kernel
theorem dX3_parse_1 : decode cX3_parse 1 = .ok (.iconst 0, 1) := by decide +kernel
theorem dX3_parse_2 : decode cX3_parse 2 = .ok (.putfield 32, 3) := by decide +kernel
theorem dX3_parse_5 : decode cX3_parse 5 = .ok (.aload_n 0, 1) := by decide +kernel
theorem dX3_parse_6 : decode cX3_parse 6 = .ok (.iconst 0, 1) := by decide +kernel
theorem dX3_parse_7 : decode cX3_parse 7 = .ok (.putfield 29, 3) := by decide +kernel
theorem dX3_parse_10 : decode cX3_parse 10 = .ok (.iconst 0, 1) := by decide +kernel
theorem dX3_parse_11 : decode cX3_parse 11 = .ok (.istore_n 1, 1) := by decide +kernel
theorem dX3_parse_12 : decode cX3_parse 12 = .ok (.iload_n 1, 1) := by decide +kernel
theorem dX3_parse_13 : decode cX3_parse 13 = .ok (.bipush 30, 2) := by decide +kernel
theorem dX3_parse_15 : decode cX3_parse 15 = .ok (.if_icmp .ge 42, 3) := by decide +kernel
theorem dX3_parse_18 : decode cX3_parse 18 = .ok (.aload_n 0, 1) := by decide +kernel
theorem dX3_parse_19 : decode cX3_parse 19 = .ok (.invokevirtual 42, 3) := by decide +kernel
theorem dX3_parse_22 : decode cX3_parse 22 = .ok (.ifCond .ne 5, 3) := by decide +kernel
theorem dX3_parse_25 : decode cX3_parse 25 = .ok (.iconst 0, 1) := by decide +kernel
theorem dX3_parse_26 : decode cX3_parse 26 = .ok (.ireturn, 1) := by decide +kernel
theorem dX3_parse_27 : decode cX3_parse 27 = .ok (.aload_n 0, 1) := by decide +kernel
theorem dX3_parse_28 : decode cX3_parse 28 = .ok (.getfield 32, 3) := by decide +kernel
theorem dX3_parse_31 : decode cX3_parse 31 = .ok (.aload_n 0, 1) := by decide +kernel
theorem dX3_parse_32 : decode cX3_parse 32 = .ok (.getfield 15, 3) := by decide +kernel
theorem dX3_parse_35 : decode cX3_parse 35 = .ok (.if_icmp .lt 5, 3) := by decide +kernel
theorem dX3_parse_38 : decode cX3_parse 38 = .ok (.iconst 1, 1) := by decide +kernel
theorem dX3_parse_39 : decode cX3_parse 39 = .ok (.ireturn, 1) := by decide +kernel
theorem dX3_parse_40 : decode cX3_parse 40 = .ok (.aload_n 0, 1) := by decide +kernel
theorem dX3_parse_41 : decode cX3_parse 41 = .ok (.bipush 59, 2) := by decide +kernel
theorem dX3_parse_43 : decode cX3_parse 43 = .ok (.invokevirtual 45, 3) := by decide +kernel
theorem dX3_parse_46 : decode cX3_parse 46 = .ok (.ifCond .ne 5, 3) := by decide +kernel
theorem dX3_parse_49 : decode cX3_parse 49 = .ok (.iconst 0, 1) := by decide +kernel
theorem dX3_parse_50 : decode cX3_parse 50 = .ok (.ireturn, 1) := by decide +kernel
theorem dX3_parse_51 : decode cX3_parse 51 = .ok (.iinc 1 1, 3) := by decide +kernel
theorem dX3_parse_54 : decode cX3_parse 54 = .ok (.goto (-42), 3) := by decide +kernel
theorem dX3_parse_57 : decode cX3_parse 57 = .ok (.iconst 0, 1) := by decide +kernel
theorem dX3_parse_58 : decode cX3_parse 58 = .ok (.ireturn, 1) := by decide +kernel
theorem dX3_readEvent_0 : decode cX3_readEvent 0 = .ok (.aload_n 0, 1) := by decide +kernel
theorem dX3_readEvent_1 : decode cX3_readEvent 1 = .ok (.bipush 105, 2) := by decide +kernel
theorem dX3_readEvent_3 : decode cX3_readEvent 3 = .ok (.invokevirtual 45, 3) := by decide +kernel
theorem dX3_readEvent_6 : decode cX3_readEvent 6 = .ok (.ifCond .eq 12, 3) := by decide +kernel
theorem dX3_readEvent_9 : decode cX3_readEvent 9 = .ok (.aload_n 0, 1) := by decide +kernel
theorem dX3_readEvent_10 : decode cX3_readEvent 10 = .ok (.bipush 105, 2) := by decide +kernel
theorem dX3_readEvent_12 : decode cX3_readEvent 12 = .ok (.iconst 0, 1) := by decide +kernel
theorem dX3_readEvent_13 : decode cX3_readEvent 13 = .ok (.iconst 0, 1) := by decide +kernel
theorem dX3_readEvent_14 : decode cX3_readEvent 14 = .ok (.invokevirtual 49, 3) := by decide +kernel
theorem dX3_readEvent_17 : decode cX3_readEvent 17 = .ok (.ireturn, 1) := by decide +kernel
theorem dX3_readEvent_18 : decode cX3_readEvent 18 = .ok (.aload_n 0, 1) := by decide +kernel
theorem dX3_readEvent_19 : decode cX3_readEvent 19 = .ok (.getfield 32, 3) := by decide +kernel
theorem dX3_readEvent_22 : decode cX3_readEvent 22 = .ok (.aload_n 0, 1) := by decide +kernel
theorem dX3_readEvent_23 : decode cX3_readEvent 23 = .ok (.getfield 15, 3) := by decide +kernel
theorem dX3_readEvent_26 : decode cX3_readEvent 26 = .ok (.if_icmp .ge 15, 3) := by decide +kernel
theorem dX3_readEvent_29 : decode cX3_readEvent 29 = .ok (.aload_n 0, 1) := by decide +kernel
theorem dX3_readEvent_30 : decode cX3_readEvent 30 = .ok (.getfield 9, 3) := by decide +kernel
theorem dX3_readEvent_33 : decode cX3_readEvent 33 = .ok (.aload_n 0, 1) := by decide +kernel
theorem dX3_readEvent_34 : decode cX3_readEvent 34 = .ok (.getfield 32, 3) := by decide +kernel
theorem dX3_readEvent_37 : decode cX3_readEvent 37 = .ok (.caload, 1) := by decide +kernel
theorem dX3_readEvent_38 : decode cX3_readEvent 38 = .ok (.goto 5, 3) := by decide +kernel
theorem dX3_readEvent_41 : decode cX3_readEvent 41 = .ok (.bipush 32, 2) := by decide +kernel
theorem dX3_readEvent_43 : decode cX3_readEvent 43 = .ok (.istore_n 1, 1) := by decide +kernel
theorem dX3_readEvent_44 : decode cX3_readEvent 44 = .ok (.ldc 53, 2) := by decide +kernel
theorem dX3_readEvent_46 : decode cX3_readEvent 46 = .ok (.iload_n 1, 1) := by decide +kernel
theorem dX3_readEvent_47 : decode cX3_readEvent 47 = .ok (.invokevirtual 55, 3) := by decide +kernel
theorem dX3_readEvent_50 : decode cX3_readEvent 50 = .ok (.ifCond .ge 5, 3) := by decide +kernel
theorem dX3_readEvent_53 : decode cX3_readEvent 53 = .ok (.iconst 0, 1) := by decide +kernel
theorem dX3_readEvent_54 : decode cX3_readEvent 54 = .ok (.ireturn, 1) := by decide +kernel
theorem dX3_readEvent_55 : decode cX3_readEvent 55 = .ok (.aload_n 0, 1) := by decide +kernel
theorem dX3_readEvent_56 : decode cX3_readEvent 56 = .ok (.dup, 1) := by decide +kernel
theorem dX3_readEvent_57 : decode cX3_readEvent 57 = .ok (.getfield 32, 3) := by decide +kernel
theorem dX3_readEvent_60 : decode cX3_readEvent 60 = .ok (.iconst 1, 1) := by decide +kernel
theorem dX3_readEvent_61 : decode cX3_readEvent 61 = .ok (.iadd, 1) := by decide +kernel
theorem dX3_readEvent_62 : decode cX3_readEvent 62 = .ok (.putfield 32, 3) := by decide +kernel
theorem dX3_readEvent_65 : decode cX3_readEvent 65 = .ok (.aload_n 0, 1) := by decide +kernel
theorem dX3_readEvent_66 : decode cX3_readEvent 66 = .ok (.invokevirtual 61, 3) := by decide +kernel
theorem dX3_readEvent_69 : decode cX3_readEvent 69 = .ok (.ifCond .ne 5, 3) := by decide +kernel
theorem dX3_readEvent_72 : decode cX3_readEvent 72 = .ok (.iconst 0, 1) := by decide +kernel
theorem dX3_readEvent_73 : decode cX3_readEvent 73 = .ok (.ireturn, 1) := by decide +kernel
theorem dX3_readEvent_74 : decode cX3_readEvent 74 = .ok (.aload_n 0, 1) := by decide +kernel
theorem dX3_readEvent_75 : decode cX3_readEvent 75 = .ok (.getfield 35, 3) := by decide +kernel
theorem dX3_readEvent_78 : decode cX3_readEvent 78 = .ok (.istore_n 2, 1) := by decide +kernel
theorem dX3_readEvent_79 : decode cX3_readEvent 79 = .ok (.aload_n 0, 1) := by decide +kernel
theorem dX3_readEvent_80 : decode cX3_readEvent 80 = .ok (.iload_n 1, 1) := by decide +kernel
theorem dX3_readEvent_81 : decode cX3_readEvent 81 = .ok (.invokevirtual 64, 3) := by decide +kernel
theorem dX3_readEvent_84 : decode cX3_readEvent 84 = .ok (.ifCond .eq 20, 3) := by decide +kernel
theorem dX3_readEvent_87 : decode cX3_readEvent 87 = .ok (.aload_n 0, 1) := by decide +kernel
theorem dX3_readEvent_88 : decode cX3_readEvent 88 = .ok (.iload_n 1, 1) := by decide +kernel
theorem dX3_readEvent_89 : decode cX3_readEvent 89 = .ok (.iload_n 2, 1) := by decide +kernel
theorem dX3_readEvent_90 : decode cX3_readEvent 90 = .ok (.aload_n 0, 1) := by decide +kernel
theorem dX3_readEvent_91 : decode cX3_readEvent 91 = .ok (.getfield 35, 3) := by decide +kernel
theorem dX3_readEvent_94 : decode cX3_readEvent 94 = .ok (.invokevirtual 49, 3) := by decide +kernel
theorem dX3_readEvent_97 : decode cX3_readEvent 97 = .ok (.ifCond .eq 7, 3) := by decide +kernel
theorem dX3_readEvent_100 : decode cX3_readEvent 100 = .ok (.iconst 1, 1) := by decide +kernel
theorem dX3_readEvent_101 : decode cX3_readEvent 101 = .ok (.goto 4, 3) := by decide +kernel
theorem dX3_readEvent_104 : decode cX3_readEvent 104 = .ok (.iconst 0, 1) := by decide +kernel
theorem dX3_readEvent_105 : decode cX3_readEvent 105 = .ok (.ireturn, 1) := by decide +kernel
theorem dX3_readRest_0 : decode cX3_readRest 0 = .ok (.iload_n 1, 1) := by decide +kernel
theorem dX3_readRest_1 : decode cX3_readRest 1 = .ok (.lookupswitch 101 #[(97, 57), (98, 35), (103, 79)], 35) := by decide +kernel
theorem dX3_readRest_36 : decode cX3_readRest 36 = .ok (.aload_n 0, 1) := by decide +kernel
theorem dX3_readRest_37 : decode cX3_readRest 37 = .ok (.bipush 61, 2) := by decide +kernel
theorem dX3_readRest_39 : decode cX3_readRest 39 = .ok (.invokevirtual 45, 3) := by decide +kernel
theorem dX3_readRest_42 : decode cX3_readRest 42 = .ok (.ifCond .eq 14, 3) := by decide +kernel
theorem dX3_readRest_45 : decode cX3_readRest 45 = .ok (.aload_n 0, 1) := by decide +kernel
theorem dX3_readRest_46 : decode cX3_readRest 46 = .ok (.invokevirtual 67, 3) := by decide +kernel
theorem dX3_readRest_49 : decode cX3_readRest 49 = .ok (.ifCond .eq 7, 3) := by decide +kernel
theorem dX3_readRest_52 : decode cX3_readRest 52 = .ok (.iconst 1, 1) := by decide +kernel
theorem dX3_readRest_53 : decode cX3_readRest 53 = .ok (.goto 4, 3) := by decide +kernel
theorem dX3_readRest_56 : decode cX3_readRest 56 = .ok (.iconst 0, 1) := by decide +kernel
theorem dX3_readRest_57 : decode cX3_readRest 57 = .ok (.ireturn, 1) := by decide +kernel
theorem dX3_readRest_58 : decode cX3_readRest 58 = .ok (.aload_n 0, 1) := by decide +kernel
theorem dX3_readRest_59 : decode cX3_readRest 59 = .ok (.bipush 44, 2) := by decide +kernel
theorem dX3_readRest_61 : decode cX3_readRest 61 = .ok (.invokevirtual 45, 3) := by decide +kernel
theorem dX3_readRest_64 : decode cX3_readRest 64 = .ok (.ifCond .eq 14, 3) := by decide +kernel
theorem dX3_readRest_67 : decode cX3_readRest 67 = .ok (.aload_n 0, 1) := by decide +kernel
theorem dX3_readRest_68 : decode cX3_readRest 68 = .ok (.invokevirtual 70, 3) := by decide +kernel
theorem dX3_readRest_71 : decode cX3_readRest 71 = .ok (.ifCond .eq 7, 3) := by decide +kernel
theorem dX3_readRest_74 : decode cX3_readRest 74 = .ok (.iconst 1, 1) := by decide +kernel
theorem dX3_readRest_75 : decode cX3_readRest 75 = .ok (.goto 4, 3) := by decide +kernel
theorem dX3_readRest_78 : decode cX3_readRest 78 = .ok (.iconst 0, 1) := by decide +kernel
theorem dX3_readRest_79 : decode cX3_readRest 79 = .ok (.ireturn, 1) := by decide +kernel
theorem dX3_readRest_80 : decode cX3_readRest 80 = .ok (.aload_n 0, 1) := by decide +kernel
theorem dX3_readRest_81 : decode cX3_readRest 81 = .ok (.bipush 44, 2) := by decide +kernel
theorem dX3_readRest_83 : decode cX3_readRest 83 = .ok (.invokevirtual 45, 3) := by decide +kernel
theorem dX3_readRest_86 : decode cX3_readRest 86 = .ok (.ifCond .eq 14, 3) := by decide +kernel
theorem dX3_readRest_89 : decode cX3_readRest 89 = .ok (.aload_n 0, 1) := by decide +kernel
theorem dX3_readRest_90 : decode cX3_readRest 90 = .ok (.invokevirtual 61, 3) := by decide +kernel
theorem dX3_readRest_93 : decode cX3_readRest 93 = .ok (.ifCond .eq 7, 3) := by decide +kernel
theorem dX3_readRest_96 : decode cX3_readRest 96 = .ok (.iconst 1, 1) := by decide +kernel
theorem dX3_readRest_97 : decode cX3_readRest 97 = .ok (.goto 4, 3) := by decide +kernel
theorem dX3_readRest_100 : decode cX3_readRest 100 = .ok (.iconst 0, 1) := by decide +kernel
theorem dX3_readRest_101 : decode cX3_readRest 101 = .ok (.ireturn, 1) := by decide +kernel
theorem dX3_readRest_102 : decode cX3_readRest 102 = .ok (.iconst 1, 1) := by decide +kernel
theorem dX3_readRest_103 : decode cX3_readRest 103 = .ok (.ireturn, 1) := by decide +kernel
theorem dX3_keep_0 : decode cX3_keep 0 = .ok (.aload_n 0, 1) := by decide +kernel
theorem dX3_keep_1 : decode cX3_keep 1 = .ok (.getfield 29, 3) := by decide +kernel
theorem dX3_keep_4 : decode cX3_keep 4 = .ok (.bipush 30, 2) := by decide +kernel
theorem dX3_keep_6 : decode cX3_keep 6 = .ok (.if_icmp .lt 5, 3) := by decide +kernel
theorem dX3_keep_9 : decode cX3_keep 9 = .ok (.iconst 0, 1) := by decide +kernel
theorem dX3_keep_10 : decode cX3_keep 10 = .ok (.ireturn, 1) := by decide +kernel
theorem dX3_keep_11 : decode cX3_keep 11 = .ok (.aload_n 0, 1) := by decide +kernel
theorem dX3_keep_12 : decode cX3_keep 12 = .ok (.getfield 19, 3) := by decide +kernel
theorem dX3_keep_15 : decode cX3_keep 15 = .ok (.aload_n 0, 1) := by decide +kernel
theorem dX3_keep_16 : decode cX3_keep 16 = .ok (.getfield 29, 3) := by decide +kernel
theorem dX3_keep_19 : decode cX3_keep 19 = .ok (.iload_n 1, 1) := by decide +kernel
theorem dX3_keep_20 : decode cX3_keep 20 = .ok (.castore, 1) := by decide +kernel
theorem dX3_keep_21 : decode cX3_keep 21 = .ok (.aload_n 0, 1) := by decide +kernel
theorem dX3_keep_22 : decode cX3_keep 22 = .ok (.getfield 22, 3) := by decide +kernel
theorem dX3_keep_25 : decode cX3_keep 25 = .ok (.aload_n 0, 1) := by decide +kernel
theorem dX3_keep_26 : decode cX3_keep 26 = .ok (.getfield 29, 3) := by decide +kernel
theorem dX3_keep_29 : decode cX3_keep 29 = .ok (.iload_n 2, 1) := by decide +kernel
theorem dX3_keep_30 : decode cX3_keep 30 = .ok (.iastore, 1) := by decide +kernel
theorem dX3_keep_31 : decode cX3_keep 31 = .ok (.aload_n 0, 1) := by decide +kernel
theorem dX3_keep_32 : decode cX3_keep 32 = .ok (.getfield 26, 3) := by decide +kernel
theorem dX3_keep_35 : decode cX3_keep 35 = .ok (.aload_n 0, 1) := by decide +kernel
theorem dX3_keep_36 : decode cX3_keep 36 = .ok (.getfield 29, 3) := by decide +kernel
theorem dX3_keep_39 : decode cX3_keep 39 = .ok (.iload_n 3, 1) := by decide +kernel
theorem dX3_keep_40 : decode cX3_keep 40 = .ok (.iastore, 1) := by decide +kernel
theorem dX3_keep_41 : decode cX3_keep 41 = .ok (.aload_n 0, 1) := by decide +kernel
theorem dX3_keep_42 : decode cX3_keep 42 = .ok (.dup, 1) := by decide +kernel
theorem dX3_keep_43 : decode cX3_keep 43 = .ok (.getfield 29, 3) := by decide +kernel
theorem dX3_keep_46 : decode cX3_keep 46 = .ok (.iconst 1, 1) := by decide +kernel
theorem dX3_keep_47 : decode cX3_keep 47 = .ok (.iadd, 1) := by decide +kernel
theorem dX3_keep_48 : decode cX3_keep 48 = .ok (.putfield 29, 3) := by decide +kernel
theorem dX3_keep_51 : decode cX3_keep 51 = .ok (.iconst 1, 1) := by decide +kernel
theorem dX3_keep_52 : decode cX3_keep 52 = .ok (.ireturn, 1) := by decide +kernel
theorem dX3_readSign_0 : decode cX3_readSign 0 = .ok (.aload_n 0, 1) := by decide +kernel
theorem dX3_readSign_1 : decode cX3_readSign 1 = .ok (.getfield 32, 3) := by decide +kernel
theorem dX3_readSign_4 : decode cX3_readSign 4 = .ok (.aload_n 0, 1) := by decide +kernel
theorem dX3_readSign_5 : decode cX3_readSign 5 = .ok (.getfield 15, 3) := by decide +kernel
theorem dX3_readSign_8 : decode cX3_readSign 8 = .ok (.if_icmp .ge 16, 3) := by decide +kernel
theorem dX3_readSign_11 : decode cX3_readSign 11 = .ok (.aload_n 0, 1) := by decide +kernel
theorem dX3_readSign_12 : decode cX3_readSign 12 = .ok (.getfield 9, 3) := by decide +kernel
theorem dX3_readSign_15 : decode cX3_readSign 15 = .ok (.aload_n 0, 1) := by decide +kernel
theorem dX3_readSign_16 : decode cX3_readSign 16 = .ok (.getfield 32, 3) := by decide +kernel
theorem dX3_readSign_19 : decode cX3_readSign 19 = .ok (.caload, 1) := by decide +kernel
theorem dX3_readSign_20 : decode cX3_readSign 20 = .ok (.iload_n 1, 1) := by decide +kernel
theorem dX3_readSign_21 : decode cX3_readSign 21 = .ok (.if_icmp .eq 5, 3) := by decide +kernel
theorem dX3_readSign_24 : decode cX3_readSign 24 = .ok (.iconst 0, 1) := by decide +kernel
theorem dX3_readSign_25 : decode cX3_readSign 25 = .ok (.ireturn, 1) := by decide +kernel
theorem dX3_readSign_26 : decode cX3_readSign 26 = .ok (.aload_n 0, 1) := by decide +kernel
theorem dX3_readSign_27 : decode cX3_readSign 27 = .ok (.dup, 1) := by decide +kernel
theorem dX3_readSign_28 : decode cX3_readSign 28 = .ok (.getfield 32, 3) := by decide +kernel
theorem dX3_readSign_31 : decode cX3_readSign 31 = .ok (.iconst 1, 1) := by decide +kernel
theorem dX3_readSign_32 : decode cX3_readSign 32 = .ok (.iadd, 1) := by decide +kernel
theorem dX3_readSign_33 : decode cX3_readSign 33 = .ok (.putfield 32, 3) := by decide +kernel
theorem dX3_readSign_36 : decode cX3_readSign 36 = .ok (.iconst 1, 1) := by decide +kernel
theorem dX3_readSign_37 : decode cX3_readSign 37 = .ok (.ireturn, 1) := by decide +kernel
theorem dX3_readProcess_0 : decode cX3_readProcess 0 = .ok (.aload_n 0, 1) := by decide +kernel
theorem dX3_readProcess_1 : decode cX3_readProcess 1 = .ok (.invokevirtual 73, 3) := by decide +kernel
theorem dX3_readProcess_4 : decode cX3_readProcess 4 = .ok (.ifCond .eq 21, 3) := by decide +kernel
theorem dX3_readProcess_7 : decode cX3_readProcess 7 = .ok (.aload_n 0, 1) := by decide +kernel
theorem dX3_readProcess_8 : decode cX3_readProcess 8 = .ok (.getfield 9, 3) := by decide +kernel
theorem dX3_readProcess_11 : decode cX3_readProcess 11 = .ok (.aload_n 0, 1) := by decide +kernel
theorem dX3_readProcess_12 : decode cX3_readProcess 12 = .ok (.getfield 32, 3) := by decide +kernel
theorem dX3_readProcess_15 : decode cX3_readProcess 15 = .ok (.caload, 1) := by decide +kernel
theorem dX3_readProcess_16 : decode cX3_readProcess 16 = .ok (.bipush 48, 2) := by decide +kernel
theorem dX3_readProcess_18 : decode cX3_readProcess 18 = .ok (.isub, 1) := by decide +kernel
theorem dX3_readProcess_19 : decode cX3_readProcess 19 = .ok (.invokestatic 76, 3) := by decide +kernel
theorem dX3_readProcess_22 : decode cX3_readProcess 22 = .ok (.ifCond .ne 5, 3) := by decide +kernel
theorem dX3_readProcess_25 : decode cX3_readProcess 25 = .ok (.iconst 0, 1) := by decide +kernel
theorem dX3_readProcess_26 : decode cX3_readProcess 26 = .ok (.ireturn, 1) := by decide +kernel
theorem dX3_readProcess_27 : decode cX3_readProcess 27 = .ok (.aload_n 0, 1) := by decide +kernel
theorem dX3_readProcess_28 : decode cX3_readProcess 28 = .ok (.aload_n 0, 1) := by decide +kernel
theorem dX3_readProcess_29 : decode cX3_readProcess 29 = .ok (.getfield 9, 3) := by decide +kernel
theorem dX3_readProcess_32 : decode cX3_readProcess 32 = .ok (.aload_n 0, 1) := by decide +kernel
theorem dX3_readProcess_33 : decode cX3_readProcess 33 = .ok (.getfield 32, 3) := by decide +kernel
theorem dX3_readProcess_36 : decode cX3_readProcess 36 = .ok (.caload, 1) := by decide +kernel
theorem dX3_readProcess_37 : decode cX3_readProcess 37 = .ok (.bipush 48, 2) := by decide +kernel
theorem dX3_readProcess_39 : decode cX3_readProcess 39 = .ok (.isub, 1) := by decide +kernel
theorem dX3_readProcess_40 : decode cX3_readProcess 40 = .ok (.putfield 35, 3) := by decide +kernel
theorem dX3_readProcess_43 : decode cX3_readProcess 43 = .ok (.aload_n 0, 1) := by decide +kernel
theorem dX3_readProcess_44 : decode cX3_readProcess 44 = .ok (.dup, 1) := by decide +kernel
theorem dX3_readProcess_45 : decode cX3_readProcess 45 = .ok (.getfield 32, 3) := by decide +kernel
theorem dX3_readProcess_48 : decode cX3_readProcess 48 = .ok (.iconst 1, 1) := by decide +kernel
theorem dX3_readProcess_49 : decode cX3_readProcess 49 = .ok (.iadd, 1) := by decide +kernel
theorem dX3_readProcess_50 : decode cX3_readProcess 50 = .ok (.putfield 32, 3) := by decide +kernel
theorem dX3_readProcess_53 : decode cX3_readProcess 53 = .ok (.iconst 1, 1) := by decide +kernel
theorem dX3_readProcess_54 : decode cX3_readProcess 54 = .ok (.ireturn, 1) := by decide +kernel
theorem dX3_readPayload_0 : decode cX3_readPayload 0 = .ok (.aload_n 0, 1) := by decide +kernel
theorem dX3_readPayload_1 : decode cX3_readPayload 1 = .ok (.bipush 45, 2) := by decide +kernel
theorem dX3_readPayload_3 : decode cX3_readPayload 3 = .ok (.invokevirtual 45, 3) := by decide +kernel
theorem dX3_readPayload_6 : decode cX3_readPayload 6 = .ok (.istore_n 1, 1) := by decide +kernel
theorem dX3_readPayload_7 : decode cX3_readPayload 7 = .ok (.aload_n 0, 1) := by decide +kernel
theorem dX3_readPayload_8 : decode cX3_readPayload 8 = .ok (.invokevirtual 70, 3) := by decide +kernel
theorem dX3_readPayload_11 : decode cX3_readPayload 11 = .ok (.ifCond .ne 5, 3) := by decide +kernel
theorem dX3_readPayload_14 : decode cX3_readPayload 14 = .ok (.iconst 0, 1) := by decide +kernel
theorem dX3_readPayload_15 : decode cX3_readPayload 15 = .ok (.ireturn, 1) := by decide +kernel
theorem dX3_readPayload_16 : decode cX3_readPayload 16 = .ok (.aload_n 0, 1) := by decide +kernel
theorem dX3_readPayload_17 : decode cX3_readPayload 17 = .ok (.iload_n 1, 1) := by decide +kernel
theorem dX3_readPayload_18 : decode cX3_readPayload 18 = .ok (.ifCond .eq 11, 3) := by decide +kernel
theorem dX3_readPayload_21 : decode cX3_readPayload 21 = .ok (.aload_n 0, 1) := by decide +kernel
theorem dX3_readPayload_22 : decode cX3_readPayload 22 = .ok (.getfield 35, 3) := by decide +kernel
theorem dX3_readPayload_25 : decode cX3_readPayload 25 = .ok (.ineg, 1) := by decide +kernel
theorem dX3_readPayload_26 : decode cX3_readPayload 26 = .ok (.goto 7, 3) := by decide +kernel
theorem dX3_readPayload_29 : decode cX3_readPayload 29 = .ok (.aload_n 0, 1) := by decide +kernel
theorem dX3_readPayload_30 : decode cX3_readPayload 30 = .ok (.getfield 35, 3) := by decide +kernel
theorem dX3_readPayload_33 : decode cX3_readPayload 33 = .ok (.putfield 35, 3) := by decide +kernel
theorem dX3_readPayload_36 : decode cX3_readPayload 36 = .ok (.iconst 1, 1) := by decide +kernel
theorem dX3_readPayload_37 : decode cX3_readPayload 37 = .ok (.ireturn, 1) := by decide +kernel
theorem dX3_readDigits_0 : decode cX3_readDigits 0 = .ok (.iconst 0, 1) := by decide +kernel
theorem dX3_readDigits_1 : decode cX3_readDigits 1 = .ok (.istore_n 1, 1) := by decide +kernel
theorem dX3_readDigits_2 : decode cX3_readDigits 2 = .ok (.aload_n 0, 1) := by decide +kernel
theorem dX3_readDigits_3 : decode cX3_readDigits 3 = .ok (.iconst 0, 1) := by decide +kernel
theorem dX3_readDigits_4 : decode cX3_readDigits 4 = .ok (.putfield 35, 3) := by decide +kernel
theorem dX3_readDigits_7 : decode cX3_readDigits 7 = .ok (.iload_n 1, 1) := by decide +kernel
theorem dX3_readDigits_8 : decode cX3_readDigits 8 = .ok (.iconst 3, 1) := by decide +kernel
theorem dX3_readDigits_9 : decode cX3_readDigits 9 = .ok (.if_icmp .ge 50, 3) := by decide +kernel
theorem dX3_readDigits_12 : decode cX3_readDigits 12 = .ok (.aload_n 0, 1) := by decide +kernel
theorem dX3_readDigits_13 : decode cX3_readDigits 13 = .ok (.invokevirtual 73, 3) := by decide +kernel
theorem dX3_readDigits_16 : decode cX3_readDigits 16 = .ok (.ifCond .eq 43, 3) := by decide +kernel
theorem dX3_readDigits_19 : decode cX3_readDigits 19 = .ok (.aload_n 0, 1) := by decide +kernel
theorem dX3_readDigits_20 : decode cX3_readDigits 20 = .ok (.bipush 10, 2) := by decide +kernel
theorem dX3_readDigits_22 : decode cX3_readDigits 22 = .ok (.aload_n 0, 1) := by decide +kernel
theorem dX3_readDigits_23 : decode cX3_readDigits 23 = .ok (.getfield 35, 3) := by decide +kernel
theorem dX3_readDigits_26 : decode cX3_readDigits 26 = .ok (.imul, 1) := by decide +kernel
theorem dX3_readDigits_27 : decode cX3_readDigits 27 = .ok (.aload_n 0, 1) := by decide +kernel
theorem dX3_readDigits_28 : decode cX3_readDigits 28 = .ok (.getfield 9, 3) := by decide +kernel
theorem dX3_readDigits_31 : decode cX3_readDigits 31 = .ok (.aload_n 0, 1) := by decide +kernel
theorem dX3_readDigits_32 : decode cX3_readDigits 32 = .ok (.getfield 32, 3) := by decide +kernel
theorem dX3_readDigits_35 : decode cX3_readDigits 35 = .ok (.caload, 1) := by decide +kernel
theorem dX3_readDigits_36 : decode cX3_readDigits 36 = .ok (.bipush 48, 2) := by decide +kernel
theorem dX3_readDigits_38 : decode cX3_readDigits 38 = .ok (.isub, 1) := by decide +kernel
theorem dX3_readDigits_39 : decode cX3_readDigits 39 = .ok (.iadd, 1) := by decide +kernel
theorem dX3_readDigits_40 : decode cX3_readDigits 40 = .ok (.putfield 35, 3) := by decide +kernel
theorem dX3_readDigits_43 : decode cX3_readDigits 43 = .ok (.aload_n 0, 1) := by decide +kernel
theorem dX3_readDigits_44 : decode cX3_readDigits 44 = .ok (.dup, 1) := by decide +kernel
theorem dX3_readDigits_45 : decode cX3_readDigits 45 = .ok (.getfield 32, 3) := by decide +kernel
theorem dX3_readDigits_48 : decode cX3_readDigits 48 = .ok (.iconst 1, 1) := by decide +kernel
theorem dX3_readDigits_49 : decode cX3_readDigits 49 = .ok (.iadd, 1) := by decide +kernel
theorem dX3_readDigits_50 : decode cX3_readDigits 50 = .ok (.putfield 32, 3) := by decide +kernel
theorem dX3_readDigits_53 : decode cX3_readDigits 53 = .ok (.iinc 1 1, 3) := by decide +kernel
theorem dX3_readDigits_56 : decode cX3_readDigits 56 = .ok (.goto (-49), 3) := by decide +kernel
theorem dX3_readDigits_59 : decode cX3_readDigits 59 = .ok (.iload_n 1, 1) := by decide +kernel
theorem dX3_readDigits_60 : decode cX3_readDigits 60 = .ok (.ifCond .le 7, 3) := by decide +kernel
theorem dX3_readDigits_63 : decode cX3_readDigits 63 = .ok (.iconst 1, 1) := by decide +kernel
theorem dX3_readDigits_64 : decode cX3_readDigits 64 = .ok (.goto 4, 3) := by decide +kernel
theorem dX3_readDigits_67 : decode cX3_readDigits 67 = .ok (.iconst 0, 1) := by decide +kernel
theorem dX3_readDigits_68 : decode cX3_readDigits 68 = .ok (.ireturn, 1) := by decide +kernel
theorem dX3_isDigitNext_0 : decode cX3_isDigitNext 0 = .ok (.aload_n 0, 1) := by decide +kernel
theorem dX3_isDigitNext_1 : decode cX3_isDigitNext 1 = .ok (.getfield 32, 3) := by decide +kernel
theorem dX3_isDigitNext_4 : decode cX3_isDigitNext 4 = .ok (.aload_n 0, 1) := by decide +kernel
theorem dX3_isDigitNext_5 : decode cX3_isDigitNext 5 = .ok (.getfield 15, 3) := by decide +kernel
theorem dX3_isDigitNext_8 : decode cX3_isDigitNext 8 = .ok (.if_icmp .ge 35, 3) := by decide +kernel
theorem dX3_isDigitNext_11 : decode cX3_isDigitNext 11 = .ok (.aload_n 0, 1) := by decide +kernel
theorem dX3_isDigitNext_12 : decode cX3_isDigitNext 12 = .ok (.getfield 9, 3) := by decide +kernel
theorem dX3_isDigitNext_15 : decode cX3_isDigitNext 15 = .ok (.aload_n 0, 1) := by decide +kernel
theorem dX3_isDigitNext_16 : decode cX3_isDigitNext 16 = .ok (.getfield 32, 3) := by decide +kernel
theorem dX3_isDigitNext_19 : decode cX3_isDigitNext 19 = .ok (.caload, 1) := by decide +kernel
theorem dX3_isDigitNext_20 : decode cX3_isDigitNext 20 = .ok (.bipush 48, 2) := by decide +kernel
theorem dX3_isDigitNext_22 : decode cX3_isDigitNext 22 = .ok (.if_icmp .lt 21, 3) := by decide +kernel
theorem dX3_isDigitNext_25 : decode cX3_isDigitNext 25 = .ok (.aload_n 0, 1) := by decide +kernel
theorem dX3_isDigitNext_26 : decode cX3_isDigitNext 26 = .ok (.getfield 9, 3) := by decide +kernel
theorem dX3_isDigitNext_29 : decode cX3_isDigitNext 29 = .ok (.aload_n 0, 1) := by decide +kernel
theorem dX3_isDigitNext_30 : decode cX3_isDigitNext 30 = .ok (.getfield 32, 3) := by decide +kernel
theorem dX3_isDigitNext_33 : decode cX3_isDigitNext 33 = .ok (.caload, 1) := by decide +kernel
theorem dX3_isDigitNext_34 : decode cX3_isDigitNext 34 = .ok (.bipush 57, 2) := by decide +kernel
theorem dX3_isDigitNext_36 : decode cX3_isDigitNext 36 = .ok (.if_icmp .gt 7, 3) := by decide +kernel
theorem dX3_isDigitNext_39 : decode cX3_isDigitNext 39 = .ok (.iconst 1, 1) := by decide +kernel
theorem dX3_isDigitNext_40 : decode cX3_isDigitNext 40 = .ok (.goto 4, 3) := by decide +kernel
theorem dX3_isDigitNext_43 : decode cX3_isDigitNext 43 = .ok (.iconst 0, 1) := by decide +kernel
theorem dX3_isDigitNext_44 : decode cX3_isDigitNext 44 = .ok (.ireturn, 1) := by decide +kernel
theorem dX4_init_0 : decode cX4_init 0 = .ok (.aload_n 0, 1) := by decide +kernel
theorem dX4_init_1 : decode cX4_init 1 = .ok (.invokespecial 1, 3) := by decide +kernel
theorem dX4_init_4 : decode cX4_init 4 = .ok (.aload_n 0, 1) := by decide +kernel
theorem dX4_init_5 : decode cX4_init 5 = .ok (.new 7, 3) := by decide +kernel
theorem dX4_init_8 : decode cX4_init 8 = .ok (.dup, 1) := by decide +kernel
theorem dX4_init_9 : decode cX4_init 9 = .ok (.invokespecial 9, 3) := by decide +kernel
theorem dX4_init_12 : decode cX4_init 12 = .ok (.putfield 10, 3) := by decide +kernel
theorem dX4_init_15 : decode cX4_init 15 = .ok (.aload_n 0, 1) := by decide +kernel
theorem dX4_init_16 : decode cX4_init 16 = .ok (.new 16, 3) := by decide +kernel
theorem dX4_init_19 : decode cX4_init 19 = .ok (.dup, 1) := by decide +kernel
theorem dX4_init_20 : decode cX4_init 20 = .ok (.invokespecial 18, 3) := by decide +kernel
theorem dX4_init_23 : decode cX4_init 23 = .ok (.putfield 19, 3) := by decide +kernel
theorem dX4_init_26 : decode cX4_init 26 = .ok (.aload_n 0, 1) := by decide +kernel
theorem dX4_init_27 : decode cX4_init 27 = .ok (.aconst_null, 1) := by decide +kernel
theorem dX4_init_28 : decode cX4_init 28 = .ok (.putfield 23, 3) := by decide +kernel
theorem dX4_init_31 : decode cX4_init 31 = .ok (.aload_n 0, 1) := by decide +kernel
theorem dX4_init_32 : decode cX4_init 32 = .ok (.aconst_null, 1) := by decide +kernel
theorem dX4_init_33 : decode cX4_init 33 = .ok (.putfield 26, 3) := by decide +kernel
theorem dX4_init_36 : decode cX4_init 36 = .ok (.aload_n 0, 1) := by decide +kernel
theorem dX4_init_37 : decode cX4_init 37 = .ok (.iconst (-1), 1) := by decide +kernel
theorem dX4_init_38 : decode cX4_init 38 = .ok (.putfield 29, 3) := by decide +kernel
theorem dX4_init_41 : decode cX4_init 41 = .ok (.return_, 1) := by decide +kernel
theorem dX4_reset_0 : decode cX4_reset 0 = .ok (.iload_n 1, 1) := by decide +kernel
theorem dX4_reset_1 : decode cX4_reset 1 = .ok (.iconst 1, 1) := by decide +kernel
theorem dX4_reset_2 : decode cX4_reset 2 = .ok (.if_icmp .lt 9, 3) := by decide +kernel
theorem dX4_reset_5 : decode cX4_reset 5 = .ok (.iload_n 1, 1) := by decide +kernel
theorem dX4_reset_6 : decode cX4_reset 6 = .ok (.bipush 63, 2) := by decide +kernel
theorem dX4_reset_8 : decode cX4_reset 8 = .ok (.if_icmp .le 13, 3) := by decide +kernel
theorem dX4_reset_11 : decode cX4_reset 11 = .ok (.new 33, 3) := by decide +kernel
theorem dX4_reset_14 : decode cX4_reset 14 = .ok (.dup, 1) := by decide +kernel
theorem dX4_reset_15 : decode cX4_reset 15 = .ok (.ldc 35, 2) := by decide +kernel
theorem dX4_reset_17 : decode cX4_reset 17 = .ok (.invokespecial 37, 3) := by decide +kernel
theorem dX4_reset_20 : decode cX4_reset 20 = .ok (.athrow, 1) := by decide +kernel
theorem dX4_reset_21 : decode cX4_reset 21 = .ok (.aload_n 0, 1) := by decide +kernel
theorem dX4_reset_22 : decode cX4_reset 22 = .ok (.getfield 19, 3) := by decide +kernel
theorem dX4_reset_25 : decode cX4_reset 25 = .ok (.getfield 40, 3) := by decide +kernel
theorem dX4_reset_28 : decode cX4_reset 28 = .ok (.getfield 44, 3) := by decide +kernel
theorem dX4_reset_31 : decode cX4_reset 31 = .ok (.istore_n 2, 1) := by decide +kernel
theorem dX4_reset_32 : decode cX4_reset 32 = .ok (.aload_n 0, 1) := by decide +kernel
theorem dX4_reset_33 : decode cX4_reset 33 = .ok (.getfield 19, 3) := by decide +kernel
theorem dX4_reset_36 : decode cX4_reset 36 = .ok (.iload_n 1, 1) := by decide +kernel
theorem dX4_reset_37 : decode cX4_reset 37 = .ok (.invokevirtual 49, 3) := by decide +kernel
theorem dX4_reset_40 : decode cX4_reset 40 = .ok (.iload_n 2, 1) := by decide +kernel
theorem dX4_reset_41 : decode cX4_reset 41 = .ok (.ireturn, 1) := by decide +kernel
theorem dX4_view_0 : decode cX4_view 0 = .ok (.aload_n 0, 1) := by decide +kernel
theorem dX4_view_1 : decode cX4_view 1 = .ok (.getfield 19, 3) := by decide +kernel
theorem dX4_view_4 : decode cX4_view 4 = .ok (.getfield 53, 3) := by decide +kernel
theorem dX4_view_7 : decode cX4_view 7 = .ok (.ireturn, 1) := by decide +kernel
theorem dX4_membersOf_0 : decode cX4_membersOf 0 = .ok (.aload_n 0, 1) := by decide +kernel
theorem dX4_membersOf_1 : decode cX4_membersOf 1 = .ok (.iload_n 1, 1) := by decide +kernel
theorem dX4_membersOf_2 : decode cX4_membersOf 2 = .ok (.invokevirtual 56, 3) := by decide +kernel
theorem dX4_membersOf_5 : decode cX4_membersOf 5 = .ok (.aload_n 0, 1) := by decide +kernel
theorem dX4_membersOf_6 : decode cX4_membersOf 6 = .ok (.getfield 19, 3) := by decide +kernel
theorem dX4_membersOf_9 : decode cX4_membersOf 9 = .ok (.getfield 59, 3) := by decide +kernel
theorem dX4_membersOf_12 : decode cX4_membersOf 12 = .ok (.iload_n 1, 1) := by decide +kernel
theorem dX4_membersOf_13 : decode cX4_membersOf 13 = .ok (.iaload, 1) := by decide +kernel
theorem dX4_membersOf_14 : decode cX4_membersOf 14 = .ok (.ireturn, 1) := by decide +kernel
theorem dX4_forcedIn_0 : decode cX4_forcedIn 0 = .ok (.aload_n 0, 1) := by decide +kernel
theorem dX4_forcedIn_1 : decode cX4_forcedIn 1 = .ok (.iload_n 1, 1) := by decide +kernel
theorem dX4_forcedIn_2 : decode cX4_forcedIn 2 = .ok (.invokevirtual 56, 3) := by decide +kernel
theorem dX4_forcedIn_5 : decode cX4_forcedIn 5 = .ok (.aload_n 0, 1) := by decide +kernel
theorem dX4_forcedIn_6 : decode cX4_forcedIn 6 = .ok (.getfield 19, 3) := by decide +kernel
theorem dX4_forcedIn_9 : decode cX4_forcedIn 9 = .ok (.getfield 63, 3) := by decide +kernel
theorem dX4_forcedIn_12 : decode cX4_forcedIn 12 = .ok (.iload_n 1, 1) := by decide +kernel
theorem dX4_forcedIn_13 : decode cX4_forcedIn 13 = .ok (.iaload, 1) := by decide +kernel
theorem dX4_forcedIn_14 : decode cX4_forcedIn 14 = .ok (.ireturn, 1) := by decide +kernel
theorem dX4_proposed_0 : decode cX4_proposed 0 = .ok (.aload_n 0, 1) := by decide +kernel
theorem dX4_proposed_1 : decode cX4_proposed 1 = .ok (.getfield 19, 3) := by decide +kernel
theorem dX4_proposed_4 : decode cX4_proposed 4 = .ok (.getfield 66, 3) := by decide +kernel
theorem dX4_proposed_7 : decode cX4_proposed 7 = .ok (.ireturn, 1) := by decide +kernel
theorem dX4_requestJoin_0 : decode cX4_requestJoin 0 = .ok (.iload_n 1, 1) := by decide +kernel
theorem dX4_requestJoin_1 : decode cX4_requestJoin 1 = .ok (.invokestatic 69, 3) := by decide +kernel
theorem dX4_requestJoin_4 : decode cX4_requestJoin 4 = .ok (.aload_n 0, 1) := by decide +kernel
theorem dX4_requestJoin_5 : decode cX4_requestJoin 5 = .ok (.getfield 19, 3) := by decide +kernel
theorem dX4_requestJoin_8 : decode cX4_requestJoin 8 = .ok (.iload_n 1, 1) := by decide +kernel
theorem dX4_requestJoin_9 : decode cX4_requestJoin 9 = .ok (.invokevirtual 72, 3) := by decide +kernel
theorem dX4_requestJoin_12 : decode cX4_requestJoin 12 = .ok (.ifCond .ne 13, 3) := by decide +kernel
theorem dX4_requestJoin_15 : decode cX4_requestJoin 15 = .ok (.new 76, 3) := by decide +kernel
theorem dX4_requestJoin_18 : decode cX4_requestJoin 18 = .ok (.dup, 1) := by decide +kernel
theorem dX4_requestJoin_19 : decode cX4_requestJoin 19 = .ok (.ldc 78, 2) := by decide +kernel
theorem dX4_requestJoin_21 : decode cX4_requestJoin 21 = .ok (.invokespecial 80, 3) := by decide +kernel
theorem dX4_requestJoin_24 : decode cX4_requestJoin 24 = .ok (.athrow, 1) := by decide +kernel
theorem dX4_requestJoin_25 : decode cX4_requestJoin 25 = .ok (.aload_n 0, 1) := by decide +kernel
theorem dX4_requestJoin_26 : decode cX4_requestJoin 26 = .ok (.getfield 19, 3) := by decide +kernel
theorem dX4_requestJoin_29 : decode cX4_requestJoin 29 = .ok (.iload_n 1, 1) := by decide +kernel
theorem dX4_requestJoin_30 : decode cX4_requestJoin 30 = .ok (.invokevirtual 81, 3) := by decide +kernel
theorem dX4_requestJoin_33 : decode cX4_requestJoin 33 = .ok (.ireturn, 1) := by decide +kernel
theorem dX4_requestLeave_0 : decode cX4_requestLeave 0 = .ok (.iload_n 1, 1) := by decide +kernel
theorem dX4_requestLeave_1 : decode cX4_requestLeave 1 = .ok (.invokestatic 69, 3) := by decide +kernel
theorem dX4_requestLeave_4 : decode cX4_requestLeave 4 = .ok (.aload_n 0, 1) := by decide +kernel
theorem dX4_requestLeave_5 : decode cX4_requestLeave 5 = .ok (.getfield 19, 3) := by decide +kernel
theorem dX4_requestLeave_8 : decode cX4_requestLeave 8 = .ok (.iload_n 1, 1) := by decide +kernel
theorem dX4_requestLeave_9 : decode cX4_requestLeave 9 = .ok (.invokevirtual 85, 3) := by decide +kernel
theorem dX4_requestLeave_12 : decode cX4_requestLeave 12 = .ok (.ifCond .ne 13, 3) := by decide +kernel
theorem dX4_requestLeave_15 : decode cX4_requestLeave 15 = .ok (.new 76, 3) := by decide +kernel
theorem dX4_requestLeave_18 : decode cX4_requestLeave 18 = .ok (.dup, 1) := by decide +kernel
theorem dX4_requestLeave_19 : decode cX4_requestLeave 19 = .ok (.ldc 88, 2) := by decide +kernel
theorem dX4_requestLeave_21 : decode cX4_requestLeave 21 = .ok (.invokespecial 80, 3) := by decide +kernel
theorem dX4_requestLeave_24 : decode cX4_requestLeave 24 = .ok (.athrow, 1) := by decide +kernel
theorem dX4_requestLeave_25 : decode cX4_requestLeave 25 = .ok (.aload_n 0, 1) := by decide +kernel
theorem dX4_requestLeave_26 : decode cX4_requestLeave 26 = .ok (.getfield 19, 3) := by decide +kernel
theorem dX4_requestLeave_29 : decode cX4_requestLeave 29 = .ok (.iload_n 1, 1) := by decide +kernel
theorem dX4_requestLeave_30 : decode cX4_requestLeave 30 = .ok (.invokevirtual 90, 3) := by decide +kernel
theorem dX4_requestLeave_33 : decode cX4_requestLeave 33 = .ok (.ireturn, 1) := by decide +kernel
theorem dX4_install_0 : decode cX4_install 0 = .ok (.aload_n 0, 1) := by decide +kernel
theorem dX4_install_1 : decode cX4_install 1 = .ok (.getfield 19, 3) := by decide +kernel
theorem dX4_install_4 : decode cX4_install 4 = .ok (.invokevirtual 93, 3) := by decide +kernel
theorem dX4_install_7 : decode cX4_install 7 = .ok (.ifCond .ne 13, 3) := by decide +kernel
theorem dX4_install_10 : decode cX4_install 10 = .ok (.new 76, 3) := by decide +kernel
theorem dX4_install_13 : decode cX4_install 13 = .ok (.dup, 1) := by decide +kernel
theorem dX4_install_14 : decode cX4_install 14 = .ok (.ldc 97, 2) := by decide +kernel
theorem dX4_install_16 : decode cX4_install 16 = .ok (.invokespecial 80, 3) := by decide +kernel
theorem dX4_install_19 : decode cX4_install 19 = .ok (.athrow, 1) := by decide +kernel
theorem dX4_install_20 : decode cX4_install 20 = .ok (.aload_n 0, 1) := by decide +kernel
theorem dX4_install_21 : decode cX4_install 21 = .ok (.getfield 19, 3) := by decide +kernel
theorem dX4_install_24 : decode cX4_install 24 = .ok (.invokevirtual 99, 3) := by decide +kernel
theorem dX4_install_27 : decode cX4_install 27 = .ok (.ireturn, 1) := by decide +kernel
theorem dX4_broadcast_0 : decode cX4_broadcast 0 = .ok (.iload_n 1, 1) := by decide +kernel
theorem dX4_broadcast_1 : decode cX4_broadcast 1 = .ok (.invokestatic 69, 3) := by decide +kernel
theorem dX4_broadcast_4 : decode cX4_broadcast 4 = .ok (.aload_n 0, 1) := by decide +kernel
theorem dX4_broadcast_5 : decode cX4_broadcast 5 = .ok (.getfield 19, 3) := by decide +kernel
theorem dX4_broadcast_8 : decode cX4_broadcast 8 = .ok (.iload_n 1, 1) := by decide +kernel
theorem dX4_broadcast_9 : decode cX4_broadcast 9 = .ok (.invokevirtual 103, 3) := by decide +kernel
theorem dX4_broadcast_12 : decode cX4_broadcast 12 = .ok (.ifCond .ne 13, 3) := by decide +kernel
theorem dX4_broadcast_15 : decode cX4_broadcast 15 = .ok (.new 76, 3) := by decide +kernel
theorem dX4_broadcast_18 : decode cX4_broadcast 18 = .ok (.dup, 1) := by decide +kernel
theorem dX4_broadcast_19 : decode cX4_broadcast 19 = .ok (.ldc 106, 2) := by decide +kernel
theorem dX4_broadcast_21 : decode cX4_broadcast 21 = .ok (.invokespecial 80, 3) := by decide +kernel
theorem dX4_broadcast_24 : decode cX4_broadcast 24 = .ok (.athrow, 1) := by decide +kernel
theorem dX4_broadcast_25 : decode cX4_broadcast 25 = .ok (.aload_n 0, 1) := by decide +kernel
theorem dX4_broadcast_26 : decode cX4_broadcast 26 = .ok (.getfield 19, 3) := by decide +kernel
theorem dX4_broadcast_29 : decode cX4_broadcast 29 = .ok (.iload_n 1, 1) := by decide +kernel
theorem dX4_broadcast_30 : decode cX4_broadcast 30 = .ok (.iload_n 2, 1) := by decide +kernel
theorem dX4_broadcast_31 : decode cX4_broadcast 31 = .ok (.invokevirtual 108, 3) := by decide +kernel
theorem dX4_broadcast_34 : decode cX4_broadcast 34 = .ok (.ireturn, 1) := by decide +kernel
theorem dX4_arrive_0 : decode cX4_arrive 0 = .ok (.iload_n 1, 1) := by decide +kernel
theorem dX4_arrive_1 : decode cX4_arrive 1 = .ok (.invokestatic 69, 3) := by decide +kernel
theorem dX4_arrive_4 : decode cX4_arrive 4 = .ok (.aload_n 0, 1) := by decide +kernel
theorem dX4_arrive_5 : decode cX4_arrive 5 = .ok (.iload_n 2, 1) := by decide +kernel
theorem dX4_arrive_6 : decode cX4_arrive 6 = .ok (.invokevirtual 112, 3) := by decide +kernel
theorem dX4_arrive_9 : decode cX4_arrive 9 = .ok (.aload_n 0, 1) := by decide +kernel
theorem dX4_arrive_10 : decode cX4_arrive 10 = .ok (.iload_n 1, 1) := by decide +kernel
theorem dX4_arrive_11 : decode cX4_arrive 11 = .ok (.iload_n 2, 1) := by decide +kernel
theorem dX4_arrive_12 : decode cX4_arrive 12 = .ok (.invokevirtual 115, 3) := by decide +kernel
theorem dX4_arrive_15 : decode cX4_arrive 15 = .ok (.aload_n 0, 1) := by decide +kernel
theorem dX4_arrive_16 : decode cX4_arrive 16 = .ok (.getfield 19, 3) := by decide +kernel
theorem dX4_arrive_19 : decode cX4_arrive 19 = .ok (.iload_n 1, 1) := by decide +kernel
theorem dX4_arrive_20 : decode cX4_arrive 20 = .ok (.iload_n 2, 1) := by decide +kernel
theorem dX4_arrive_21 : decode cX4_arrive 21 = .ok (.invokevirtual 119, 3) := by decide +kernel
theorem dX4_arrive_24 : decode cX4_arrive 24 = .ok (.ireturn, 1) := by decide +kernel
theorem dX4_arriveAll_0 : decode cX4_arriveAll 0 = .ok (.iload_n 1, 1) := by decide +kernel
theorem dX4_arriveAll_1 : decode cX4_arriveAll 1 = .ok (.invokestatic 69, 3) := by decide +kernel
theorem dX4_arriveAll_4 : decode cX4_arriveAll 4 = .ok (.aload_n 0, 1) := by decide +kernel
theorem dX4_arriveAll_5 : decode cX4_arriveAll 5 = .ok (.iload_n 1, 1) := by decide +kernel
theorem dX4_arriveAll_6 : decode cX4_arriveAll 6 = .ok (.invokevirtual 122, 3) := by decide +kernel
theorem dX4_arriveAll_9 : decode cX4_arriveAll 9 = .ok (.aload_n 0, 1) := by decide +kernel
theorem dX4_arriveAll_10 : decode cX4_arriveAll 10 = .ok (.getfield 19, 3) := by decide +kernel
theorem dX4_arriveAll_13 : decode cX4_arriveAll 13 = .ok (.iload_n 1, 1) := by decide +kernel
theorem dX4_arriveAll_14 : decode cX4_arriveAll 14 = .ok (.invokevirtual 125, 3) := by decide +kernel
theorem dX4_arriveAll_17 : decode cX4_arriveAll 17 = .ok (.ireturn, 1) := by decide +kernel
theorem dX4_gossip_0 : decode cX4_gossip 0 = .ok (.iload_n 1, 1) := by decide +kernel
theorem dX4_gossip_1 : decode cX4_gossip 1 = .ok (.invokestatic 69, 3) := by decide +kernel
theorem dX4_gossip_4 : decode cX4_gossip 4 = .ok (.iload_n 2, 1) := by decide +kernel
theorem dX4_gossip_5 : decode cX4_gossip 5 = .ok (.invokestatic 69, 3) := by decide +kernel
theorem dX4_gossip_8 : decode cX4_gossip 8 = .ok (.aload_n 0, 1) := by decide +kernel
theorem dX4_gossip_9 : decode cX4_gossip 9 = .ok (.getfield 19, 3) := by decide +kernel
theorem dX4_gossip_12 : decode cX4_gossip 12 = .ok (.iload_n 1, 1) := by decide +kernel
theorem dX4_gossip_13 : decode cX4_gossip 13 = .ok (.iload_n 2, 1) := by decide +kernel
theorem dX4_gossip_14 : decode cX4_gossip 14 = .ok (.invokevirtual 128, 3) := by decide +kernel
theorem dX4_gossip_17 : decode cX4_gossip 17 = .ok (.ifCond .ne 13, 3) := by decide +kernel
theorem dX4_gossip_20 : decode cX4_gossip 20 = .ok (.new 76, 3) := by decide +kernel
theorem dX4_gossip_23 : decode cX4_gossip 23 = .ok (.dup, 1) := by decide +kernel
theorem dX4_gossip_24 : decode cX4_gossip 24 = .ok (.ldc 132, 2) := by decide +kernel
theorem dX4_gossip_26 : decode cX4_gossip 26 = .ok (.invokespecial 80, 3) := by decide +kernel
theorem dX4_gossip_29 : decode cX4_gossip 29 = .ok (.athrow, 1) := by decide +kernel
theorem dX4_gossip_30 : decode cX4_gossip 30 = .ok (.aload_n 0, 1) := by decide +kernel
theorem dX4_gossip_31 : decode cX4_gossip 31 = .ok (.getfield 19, 3) := by decide +kernel
theorem dX4_gossip_34 : decode cX4_gossip 34 = .ok (.iload_n 1, 1) := by decide +kernel
theorem dX4_gossip_35 : decode cX4_gossip 35 = .ok (.iload_n 2, 1) := by decide +kernel
theorem dX4_gossip_36 : decode cX4_gossip 36 = .ok (.invokevirtual 134, 3) := by decide +kernel
theorem dX4_gossip_39 : decode cX4_gossip 39 = .ok (.ireturn, 1) := by decide +kernel
theorem dX4_messageCount_0 : decode cX4_messageCount 0 = .ok (.aload_n 0, 1) := by decide +kernel
theorem dX4_messageCount_1 : decode cX4_messageCount 1 = .ok (.getfield 19, 3) := by decide +kernel
theorem dX4_messageCount_4 : decode cX4_messageCount 4 = .ok (.getfield 40, 3) := by decide +kernel
theorem dX4_messageCount_7 : decode cX4_messageCount 7 = .ok (.getfield 44, 3) := by decide +kernel
theorem dX4_messageCount_10 : decode cX4_messageCount 10 = .ok (.ireturn, 1) := by decide +kernel
theorem dX4_message_0 : decode cX4_message 0 = .ok (.aload_n 0, 1) := by decide +kernel
theorem dX4_message_1 : decode cX4_message 1 = .ok (.iload_n 1, 1) := by decide +kernel
theorem dX4_message_2 : decode cX4_message 2 = .ok (.invokevirtual 112, 3) := by decide +kernel
theorem dX4_message_5 : decode cX4_message 5 = .ok (.iload_n 2, 1) := by decide +kernel
theorem dX4_message_6 : decode cX4_message 6 = .ok (.tableswitch 82 0 3 #[30, 43, 56, 69], 30) := by decide +kernel
theorem dX4_message_36 : decode cX4_message 36 = .ok (.aload_n 0, 1) := by decide +kernel
theorem dX4_message_37 : decode cX4_message 37 = .ok (.getfield 19, 3) := by decide +kernel
theorem dX4_message_40 : decode cX4_message 40 = .ok (.getfield 40, 3) := by decide +kernel
theorem dX4_message_43 : decode cX4_message 43 = .ok (.getfield 137, 3) := by decide +kernel
theorem dX4_message_46 : decode cX4_message 46 = .ok (.iload_n 1, 1) := by decide +kernel
theorem dX4_message_47 : decode cX4_message 47 = .ok (.iaload, 1) := by decide +kernel
theorem dX4_message_48 : decode cX4_message 48 = .ok (.ireturn, 1) := by decide +kernel
theorem dX4_message_49 : decode cX4_message 49 = .ok (.aload_n 0, 1) := by decide +kernel
theorem dX4_message_50 : decode cX4_message 50 = .ok (.getfield 19, 3) := by decide +kernel
theorem dX4_message_53 : decode cX4_message 53 = .ok (.getfield 40, 3) := by decide +kernel
theorem dX4_message_56 : decode cX4_message 56 = .ok (.getfield 140, 3) := by decide +kernel
theorem dX4_message_59 : decode cX4_message 59 = .ok (.iload_n 1, 1) := by decide +kernel
theorem dX4_message_60 : decode cX4_message 60 = .ok (.iaload, 1) := by decide +kernel
theorem dX4_message_61 : decode cX4_message 61 = .ok (.ireturn, 1) := by decide +kernel
theorem dX4_message_62 : decode cX4_message 62 = .ok (.aload_n 0, 1) := by decide +kernel
theorem dX4_message_63 : decode cX4_message 63 = .ok (.getfield 19, 3) := by decide +kernel
theorem dX4_message_66 : decode cX4_message 66 = .ok (.getfield 40, 3) := by decide +kernel
theorem dX4_message_69 : decode cX4_message 69 = .ok (.getfield 143, 3) := by decide +kernel
theorem dX4_message_72 : decode cX4_message 72 = .ok (.iload_n 1, 1) := by decide +kernel
theorem dX4_message_73 : decode cX4_message 73 = .ok (.iaload, 1) := by decide +kernel
theorem dX4_message_74 : decode cX4_message 74 = .ok (.ireturn, 1) := by decide +kernel
theorem dX4_message_75 : decode cX4_message 75 = .ok (.aload_n 0, 1) := by decide +kernel
theorem dX4_message_76 : decode cX4_message 76 = .ok (.getfield 19, 3) := by decide +kernel
theorem dX4_message_79 : decode cX4_message 79 = .ok (.getfield 40, 3) := by decide +kernel
theorem dX4_message_82 : decode cX4_message 82 = .ok (.getfield 146, 3) := by decide +kernel
theorem dX4_message_85 : decode cX4_message 85 = .ok (.iload_n 1, 1) := by decide +kernel
theorem dX4_message_86 : decode cX4_message 86 = .ok (.iaload, 1) := by decide +kernel
theorem dX4_message_87 : decode cX4_message 87 = .ok (.ireturn, 1) := by decide +kernel
theorem dX4_message_88 : decode cX4_message 88 = .ok (.new 33, 3) := by decide +kernel
theorem dX4_message_91 : decode cX4_message 91 = .ok (.dup, 1) := by decide +kernel
theorem dX4_message_92 : decode cX4_message 92 = .ok (.ldc 149, 2) := by decide +kernel
theorem dX4_message_94 : decode cX4_message 94 = .ok (.invokespecial 37, 3) := by decide +kernel
theorem dX4_message_97 : decode cX4_message 97 = .ok (.athrow, 1) := by decide +kernel
theorem dX4_messageClock_0 : decode cX4_messageClock 0 = .ok (.aload_n 0, 1) := by decide +kernel
theorem dX4_messageClock_1 : decode cX4_messageClock 1 = .ok (.iload_n 1, 1) := by decide +kernel
theorem dX4_messageClock_2 : decode cX4_messageClock 2 = .ok (.invokevirtual 112, 3) := by decide +kernel
theorem dX4_messageClock_5 : decode cX4_messageClock 5 = .ok (.iload_n 2, 1) := by decide +kernel
theorem dX4_messageClock_6 : decode cX4_messageClock 6 = .ok (.invokestatic 69, 3) := by decide +kernel
theorem dX4_messageClock_9 : decode cX4_messageClock 9 = .ok (.aload_n 0, 1) := by decide +kernel
theorem dX4_messageClock_10 : decode cX4_messageClock 10 = .ok (.getfield 19, 3) := by decide +kernel
theorem dX4_messageClock_13 : decode cX4_messageClock 13 = .ok (.getfield 40, 3) := by decide +kernel
theorem dX4_messageClock_16 : decode cX4_messageClock 16 = .ok (.iload_n 1, 1) := by decide +kernel
theorem dX4_messageClock_17 : decode cX4_messageClock 17 = .ok (.iload_n 2, 1) := by decide +kernel
theorem dX4_messageClock_18 : decode cX4_messageClock 18 = .ok (.invokevirtual 151, 3) := by decide +kernel
theorem dX4_messageClock_21 : decode cX4_messageClock 21 = .ok (.ireturn, 1) := by decide +kernel
theorem dX4_isCause_0 : decode cX4_isCause 0 = .ok (.aload_n 0, 1) := by decide +kernel
theorem dX4_isCause_1 : decode cX4_isCause 1 = .ok (.iload_n 1, 1) := by decide +kernel
theorem dX4_isCause_2 : decode cX4_isCause 2 = .ok (.invokevirtual 112, 3) := by decide +kernel
theorem dX4_isCause_5 : decode cX4_isCause 5 = .ok (.aload_n 0, 1) := by decide +kernel
theorem dX4_isCause_6 : decode cX4_isCause 6 = .ok (.iload_n 2, 1) := by decide +kernel
theorem dX4_isCause_7 : decode cX4_isCause 7 = .ok (.invokevirtual 112, 3) := by decide +kernel
theorem dX4_isCause_10 : decode cX4_isCause 10 = .ok (.aload_n 0, 1) := by decide +kernel
theorem dX4_isCause_11 : decode cX4_isCause 11 = .ok (.getfield 19, 3) := by decide +kernel
theorem dX4_isCause_14 : decode cX4_isCause 14 = .ok (.getfield 40, 3) := by decide +kernel
theorem dX4_isCause_17 : decode cX4_isCause 17 = .ok (.iload_n 1, 1) := by decide +kernel
theorem dX4_isCause_18 : decode cX4_isCause 18 = .ok (.iload_n 2, 1) := by decide +kernel
theorem dX4_isCause_19 : decode cX4_isCause 19 = .ok (.invokevirtual 154, 3) := by decide +kernel
theorem dX4_isCause_22 : decode cX4_isCause 22 = .ok (.ireturn, 1) := by decide +kernel
theorem dX4_causes_0 : decode cX4_causes 0 = .ok (.aload_n 0, 1) := by decide +kernel
theorem dX4_causes_1 : decode cX4_causes 1 = .ok (.iload_n 1, 1) := by decide +kernel
theorem dX4_causes_2 : decode cX4_causes 2 = .ok (.invokevirtual 112, 3) := by decide +kernel
theorem dX4_causes_5 : decode cX4_causes 5 = .ok (.aload_n 0, 1) := by decide +kernel
theorem dX4_causes_6 : decode cX4_causes 6 = .ok (.getfield 19, 3) := by decide +kernel
theorem dX4_causes_9 : decode cX4_causes 9 = .ok (.getfield 40, 3) := by decide +kernel
theorem dX4_causes_12 : decode cX4_causes 12 = .ok (.iload_n 1, 1) := by decide +kernel
theorem dX4_causes_13 : decode cX4_causes 13 = .ok (.invokevirtual 157, 3) := by decide +kernel
theorem dX4_causes_16 : decode cX4_causes 16 = .ok (.ireturn, 1) := by decide +kernel
theorem dX4_concurrent_0 : decode cX4_concurrent 0 = .ok (.aload_n 0, 1) := by decide +kernel
theorem dX4_concurrent_1 : decode cX4_concurrent 1 = .ok (.iload_n 1, 1) := by decide +kernel
theorem dX4_concurrent_2 : decode cX4_concurrent 2 = .ok (.invokevirtual 112, 3) := by decide +kernel
theorem dX4_concurrent_5 : decode cX4_concurrent 5 = .ok (.aload_n 0, 1) := by decide +kernel
theorem dX4_concurrent_6 : decode cX4_concurrent 6 = .ok (.getfield 19, 3) := by decide +kernel
theorem dX4_concurrent_9 : decode cX4_concurrent 9 = .ok (.getfield 40, 3) := by decide +kernel
theorem dX4_concurrent_12 : decode cX4_concurrent 12 = .ok (.iload_n 1, 1) := by decide +kernel
theorem dX4_concurrent_13 : decode cX4_concurrent 13 = .ok (.invokevirtual 160, 3) := by decide +kernel
theorem dX4_concurrent_16 : decode cX4_concurrent 16 = .ok (.ireturn, 1) := by decide +kernel
theorem dX4_longestChain_0 : decode cX4_longestChain 0 = .ok (.aload_n 0, 1) := by decide +kernel
theorem dX4_longestChain_1 : decode cX4_longestChain 1 = .ok (.iload_n 1, 1) := by decide +kernel
theorem dX4_longestChain_2 : decode cX4_longestChain 2 = .ok (.invokevirtual 56, 3) := by decide +kernel
theorem dX4_longestChain_5 : decode cX4_longestChain 5 = .ok (.aload_n 0, 1) := by decide +kernel
theorem dX4_longestChain_6 : decode cX4_longestChain 6 = .ok (.getfield 19, 3) := by decide +kernel
theorem dX4_longestChain_9 : decode cX4_longestChain 9 = .ok (.getfield 40, 3) := by decide +kernel
theorem dX4_longestChain_12 : decode cX4_longestChain 12 = .ok (.iload_n 1, 1) := by decide +kernel
theorem dX4_longestChain_13 : decode cX4_longestChain 13 = .ok (.invokevirtual 163, 3) := by decide +kernel
theorem dX4_longestChain_16 : decode cX4_longestChain 16 = .ok (.ireturn, 1) := by decide +kernel
theorem dX4_duplicates_0 : decode cX4_duplicates 0 = .ok (.aload_n 0, 1) := by decide +kernel
theorem dX4_duplicates_1 : decode cX4_duplicates 1 = .ok (.getfield 19, 3) := by decide +kernel
theorem dX4_duplicates_4 : decode cX4_duplicates 4 = .ok (.getfield 166, 3) := by decide +kernel
theorem dX4_duplicates_7 : decode cX4_duplicates 7 = .ok (.ireturn, 1) := by decide +kernel
theorem dX4_logLength_0 : decode cX4_logLength 0 = .ok (.iload_n 1, 1) := by decide +kernel
theorem dX4_logLength_1 : decode cX4_logLength 1 = .ok (.invokestatic 69, 3) := by decide +kernel
theorem dX4_logLength_4 : decode cX4_logLength 4 = .ok (.aload_n 0, 1) := by decide +kernel
theorem dX4_logLength_5 : decode cX4_logLength 5 = .ok (.getfield 19, 3) := by decide +kernel
theorem dX4_logLength_8 : decode cX4_logLength 8 = .ok (.getfield 169, 3) := by decide +kernel
theorem dX4_logLength_11 : decode cX4_logLength 11 = .ok (.iload_n 1, 1) := by decide +kernel
theorem dX4_logLength_12 : decode cX4_logLength 12 = .ok (.aaload, 1) := by decide +kernel
theorem dX4_logLength_13 : decode cX4_logLength 13 = .ok (.getfield 173, 3) := by decide +kernel
theorem dX4_logLength_16 : decode cX4_logLength 16 = .ok (.ireturn, 1) := by decide +kernel
theorem dX4_logged_0 : decode cX4_logged 0 = .ok (.iload_n 1, 1) := by decide +kernel
theorem dX4_logged_1 : decode cX4_logged 1 = .ok (.invokestatic 69, 3) := by decide +kernel
theorem dX4_logged_4 : decode cX4_logged 4 = .ok (.iload_n 2, 1) := by decide +kernel
theorem dX4_logged_5 : decode cX4_logged 5 = .ok (.ifCond .lt 19, 3) := by decide +kernel
theorem dX4_logged_8 : decode cX4_logged 8 = .ok (.iload_n 2, 1) := by decide +kernel
theorem dX4_logged_9 : decode cX4_logged 9 = .ok (.aload_n 0, 1) := by decide +kernel
theorem dX4_logged_10 : decode cX4_logged 10 = .ok (.getfield 19, 3) := by decide +kernel
theorem dX4_logged_13 : decode cX4_logged 13 = .ok (.getfield 169, 3) := by decide +kernel
theorem dX4_logged_16 : decode cX4_logged 16 = .ok (.iload_n 1, 1) := by decide +kernel
theorem dX4_logged_17 : decode cX4_logged 17 = .ok (.aaload, 1) := by decide +kernel
theorem dX4_logged_18 : decode cX4_logged 18 = .ok (.getfield 173, 3) := by decide +kernel
theorem dX4_logged_21 : decode cX4_logged 21 = .ok (.if_icmp .lt 13, 3) := by decide +kernel
theorem dX4_logged_24 : decode cX4_logged 24 = .ok (.new 178, 3) := by decide +kernel
theorem dX4_logged_27 : decode cX4_logged 27 = .ok (.dup, 1) := by decide +kernel
theorem dX4_logged_28 : decode cX4_logged 28 = .ok (.ldc 180, 2) := by decide +kernel
theorem dX4_logged_30 : decode cX4_logged 30 = .ok (.invokespecial 182, 3) := by decide +kernel
theorem dX4_logged_33 : decode cX4_logged 33 = .ok (.athrow, 1) := by decide +kernel
theorem dX4_logged_34 : decode cX4_logged 34 = .ok (.aload_n 0, 1) := by decide +kernel
theorem dX4_logged_35 : decode cX4_logged 35 = .ok (.getfield 19, 3) := by decide +kernel
theorem dX4_logged_38 : decode cX4_logged 38 = .ok (.getfield 169, 3) := by decide +kernel
theorem dX4_logged_41 : decode cX4_logged 41 = .ok (.iload_n 1, 1) := by decide +kernel
theorem dX4_logged_42 : decode cX4_logged 42 = .ok (.aaload, 1) := by decide +kernel
theorem dX4_logged_43 : decode cX4_logged 43 = .ok (.getfield 183, 3) := by decide +kernel
theorem dX4_logged_46 : decode cX4_logged 46 = .ok (.iload_n 2, 1) := by decide +kernel
theorem dX4_logged_47 : decode cX4_logged 47 = .ok (.iaload, 1) := by decide +kernel
theorem dX4_logged_48 : decode cX4_logged 48 = .ok (.ireturn, 1) := by decide +kernel
theorem dX4_position_0 : decode cX4_position 0 = .ok (.iload_n 1, 1) := by decide +kernel
theorem dX4_position_1 : decode cX4_position 1 = .ok (.invokestatic 69, 3) := by decide +kernel
theorem dX4_position_4 : decode cX4_position 4 = .ok (.aload_n 0, 1) := by decide +kernel
theorem dX4_position_5 : decode cX4_position 5 = .ok (.iload_n 2, 1) := by decide +kernel
theorem dX4_position_6 : decode cX4_position 6 = .ok (.invokevirtual 112, 3) := by decide +kernel
theorem dX4_position_9 : decode cX4_position 9 = .ok (.aload_n 0, 1) := by decide +kernel
theorem dX4_position_10 : decode cX4_position 10 = .ok (.iload_n 1, 1) := by decide +kernel
theorem dX4_position_11 : decode cX4_position 11 = .ok (.iload_n 2, 1) := by decide +kernel
theorem dX4_position_12 : decode cX4_position 12 = .ok (.invokevirtual 186, 3) := by decide +kernel
theorem dX4_position_15 : decode cX4_position 15 = .ok (.aload_n 0, 1) := by decide +kernel
theorem dX4_position_16 : decode cX4_position 16 = .ok (.getfield 19, 3) := by decide +kernel
theorem dX4_position_19 : decode cX4_position 19 = .ok (.getfield 169, 3) := by decide +kernel
theorem dX4_position_22 : decode cX4_position 22 = .ok (.iload_n 1, 1) := by decide +kernel
theorem dX4_position_23 : decode cX4_position 23 = .ok (.aaload, 1) := by decide +kernel
theorem dX4_position_24 : decode cX4_position 24 = .ok (.getfield 189, 3) := by decide +kernel
theorem dX4_position_27 : decode cX4_position 27 = .ok (.iload_n 2, 1) := by decide +kernel
theorem dX4_position_28 : decode cX4_position 28 = .ok (.iaload, 1) := by decide +kernel
theorem dX4_position_29 : decode cX4_position 29 = .ok (.ireturn, 1) := by decide +kernel
theorem dX4_state_0 : decode cX4_state 0 = .ok (.iload_n 1, 1) := by decide +kernel
theorem dX4_state_1 : decode cX4_state 1 = .ok (.invokestatic 69, 3) := by decide +kernel
theorem dX4_state_4 : decode cX4_state 4 = .ok (.aload_n 0, 1) := by decide +kernel
theorem dX4_state_5 : decode cX4_state 5 = .ok (.getfield 19, 3) := by decide +kernel
theorem dX4_state_8 : decode cX4_state 8 = .ok (.getfield 169, 3) := by decide +kernel
theorem dX4_state_11 : decode cX4_state 11 = .ok (.iload_n 1, 1) := by decide +kernel
theorem dX4_state_12 : decode cX4_state 12 = .ok (.aaload, 1) := by decide +kernel
theorem dX4_state_13 : decode cX4_state 13 = .ok (.getfield 192, 3) := by decide +kernel
theorem dX4_state_16 : decode cX4_state 16 = .ok (.ireturn, 1) := by decide +kernel
theorem dX4_clock_0 : decode cX4_clock 0 = .ok (.iload_n 1, 1) := by decide +kernel
theorem dX4_clock_1 : decode cX4_clock 1 = .ok (.invokestatic 69, 3) := by decide +kernel
theorem dX4_clock_4 : decode cX4_clock 4 = .ok (.iload_n 2, 1) := by decide +kernel
theorem dX4_clock_5 : decode cX4_clock 5 = .ok (.invokestatic 69, 3) := by decide +kernel
theorem dX4_clock_8 : decode cX4_clock 8 = .ok (.aload_n 0, 1) := by decide +kernel
theorem dX4_clock_9 : decode cX4_clock 9 = .ok (.iload_n 1, 1) := by decide +kernel
theorem dX4_clock_10 : decode cX4_clock 10 = .ok (.invokevirtual 122, 3) := by decide +kernel
theorem dX4_clock_13 : decode cX4_clock 13 = .ok (.aload_n 0, 1) := by decide +kernel
theorem dX4_clock_14 : decode cX4_clock 14 = .ok (.getfield 19, 3) := by decide +kernel
theorem dX4_clock_17 : decode cX4_clock 17 = .ok (.getfield 169, 3) := by decide +kernel
theorem dX4_clock_20 : decode cX4_clock 20 = .ok (.iload_n 1, 1) := by decide +kernel
theorem dX4_clock_21 : decode cX4_clock 21 = .ok (.aaload, 1) := by decide +kernel
theorem dX4_clock_22 : decode cX4_clock 22 = .ok (.iload_n 2, 1) := by decide +kernel
theorem dX4_clock_23 : decode cX4_clock 23 = .ok (.invokevirtual 195, 3) := by decide +kernel
theorem dX4_clock_26 : decode cX4_clock 26 = .ok (.ireturn, 1) := by decide +kernel
theorem dX4_buffered_0 : decode cX4_buffered 0 = .ok (.iload_n 1, 1) := by decide +kernel
theorem dX4_buffered_1 : decode cX4_buffered 1 = .ok (.invokestatic 69, 3) := by decide +kernel
theorem dX4_buffered_4 : decode cX4_buffered 4 = .ok (.aload_n 0, 1) := by decide +kernel
theorem dX4_buffered_5 : decode cX4_buffered 5 = .ok (.iload_n 1, 1) := by decide +kernel
theorem dX4_buffered_6 : decode cX4_buffered 6 = .ok (.invokevirtual 122, 3) := by decide +kernel
theorem dX4_buffered_9 : decode cX4_buffered 9 = .ok (.aload_n 0, 1) := by decide +kernel
theorem dX4_buffered_10 : decode cX4_buffered 10 = .ok (.getfield 19, 3) := by decide +kernel
theorem dX4_buffered_13 : decode cX4_buffered 13 = .ok (.iload_n 1, 1) := by decide +kernel
theorem dX4_buffered_14 : decode cX4_buffered 14 = .ok (.iconst (-1), 1) := by decide +kernel
theorem dX4_buffered_15 : decode cX4_buffered 15 = .ok (.invokevirtual 197, 3) := by decide +kernel
theorem dX4_buffered_18 : decode cX4_buffered 18 = .ok (.ireturn, 1) := by decide +kernel
theorem dX4_bufferedMessage_0 : decode cX4_bufferedMessage 0 = .ok (.iload_n 1, 1) := by decide +kernel
theorem dX4_bufferedMessage_1 : decode cX4_bufferedMessage 1 = .ok (.invokestatic 69, 3) := by decide +kernel
theorem dX4_bufferedMessage_4 : decode cX4_bufferedMessage 4 = .ok (.aload_n 0, 1) := by decide +kernel
theorem dX4_bufferedMessage_5 : decode cX4_bufferedMessage 5 = .ok (.iload_n 1, 1) := by decide +kernel
theorem dX4_bufferedMessage_6 : decode cX4_bufferedMessage 6 = .ok (.invokevirtual 122, 3) := by decide +kernel
theorem dX4_bufferedMessage_9 : decode cX4_bufferedMessage 9 = .ok (.aload_n 0, 1) := by decide +kernel
theorem dX4_bufferedMessage_10 : decode cX4_bufferedMessage 10 = .ok (.getfield 19, 3) := by decide +kernel
theorem dX4_bufferedMessage_13 : decode cX4_bufferedMessage 13 = .ok (.iload_n 1, 1) := by decide +kernel
theorem dX4_bufferedMessage_14 : decode cX4_bufferedMessage 14 = .ok (.iload_n 2, 1) := by decide +kernel
theorem dX4_bufferedMessage_15 : decode cX4_bufferedMessage 15 = .ok (.invokevirtual 200, 3) := by decide +kernel
theorem dX4_bufferedMessage_18 : decode cX4_bufferedMessage 18 = .ok (.istore_n 3, 1) := by decide +kernel
theorem dX4_bufferedMessage_19 : decode cX4_bufferedMessage 19 = .ok (.iload_n 3, 1) := by decide +kernel
theorem dX4_bufferedMessage_20 : decode cX4_bufferedMessage 20 = .ok (.iconst (-1), 1) := by decide +kernel
theorem dX4_bufferedMessage_21 : decode cX4_bufferedMessage 21 = .ok (.if_icmp .ne 13, 3) := by decide +kernel
theorem dX4_bufferedMessage_24 : decode cX4_bufferedMessage 24 = .ok (.new 203, 3) := by decide +kernel
theorem dX4_bufferedMessage_27 : decode cX4_bufferedMessage 27 = .ok (.dup, 1) := by decide +kernel
theorem dX4_bufferedMessage_28 : decode cX4_bufferedMessage 28 = .ok (.ldc 205, 2) := by decide +kernel
theorem dX4_bufferedMessage_30 : decode cX4_bufferedMessage 30 = .ok (.invokespecial 207, 3) := by decide +kernel
theorem dX4_bufferedMessage_33 : decode cX4_bufferedMessage 33 = .ok (.athrow, 1) := by decide +kernel
theorem dX4_bufferedMessage_34 : decode cX4_bufferedMessage 34 = .ok (.iload_n 3, 1) := by decide +kernel
theorem dX4_bufferedMessage_35 : decode cX4_bufferedMessage 35 = .ok (.ireturn, 1) := by decide +kernel
theorem dX4_missing_0 : decode cX4_missing 0 = .ok (.iload_n 1, 1) := by decide +kernel
theorem dX4_missing_1 : decode cX4_missing 1 = .ok (.invokestatic 69, 3) := by decide +kernel
theorem dX4_missing_4 : decode cX4_missing 4 = .ok (.aload_n 0, 1) := by decide +kernel
theorem dX4_missing_5 : decode cX4_missing 5 = .ok (.iload_n 2, 1) := by decide +kernel
theorem dX4_missing_6 : decode cX4_missing 6 = .ok (.invokevirtual 112, 3) := by decide +kernel
theorem dX4_missing_9 : decode cX4_missing 9 = .ok (.aload_n 0, 1) := by decide +kernel
theorem dX4_missing_10 : decode cX4_missing 10 = .ok (.iload_n 1, 1) := by decide +kernel
theorem dX4_missing_11 : decode cX4_missing 11 = .ok (.iload_n 2, 1) := by decide +kernel
theorem dX4_missing_12 : decode cX4_missing 12 = .ok (.invokevirtual 115, 3) := by decide +kernel
theorem dX4_missing_15 : decode cX4_missing 15 = .ok (.aload_n 0, 1) := by decide +kernel
theorem dX4_missing_16 : decode cX4_missing 16 = .ok (.getfield 19, 3) := by decide +kernel
theorem dX4_missing_19 : decode cX4_missing 19 = .ok (.iload_n 1, 1) := by decide +kernel
theorem dX4_missing_20 : decode cX4_missing 20 = .ok (.iload_n 2, 1) := by decide +kernel
theorem dX4_missing_21 : decode cX4_missing 21 = .ok (.invokevirtual 208, 3) := by decide +kernel
theorem dX4_missing_24 : decode cX4_missing 24 = .ok (.ireturn, 1) := by decide +kernel
theorem dX4_inTransit_0 : decode cX4_inTransit 0 = .ok (.iload_n 1, 1) := by decide +kernel
theorem dX4_inTransit_1 : decode cX4_inTransit 1 = .ok (.invokestatic 69, 3) := by decide +kernel
theorem dX4_inTransit_4 : decode cX4_inTransit 4 = .ok (.aload_n 0, 1) := by decide +kernel
theorem dX4_inTransit_5 : decode cX4_inTransit 5 = .ok (.iload_n 1, 1) := by decide +kernel
theorem dX4_inTransit_6 : decode cX4_inTransit 6 = .ok (.invokevirtual 122, 3) := by decide +kernel
theorem dX4_inTransit_9 : decode cX4_inTransit 9 = .ok (.aload_n 0, 1) := by decide +kernel
theorem dX4_inTransit_10 : decode cX4_inTransit 10 = .ok (.getfield 19, 3) := by decide +kernel
theorem dX4_inTransit_13 : decode cX4_inTransit 13 = .ok (.iload_n 1, 1) := by decide +kernel
theorem dX4_inTransit_14 : decode cX4_inTransit 14 = .ok (.bipush (-2), 2) := by decide +kernel
theorem dX4_inTransit_16 : decode cX4_inTransit 16 = .ok (.invokevirtual 197, 3) := by decide +kernel
theorem dX4_inTransit_19 : decode cX4_inTransit 19 = .ok (.ireturn, 1) := by decide +kernel
theorem dX4_disagreements_0 : decode cX4_disagreements 0 = .ok (.iload_n 1, 1) := by decide +kernel
theorem dX4_disagreements_1 : decode cX4_disagreements 1 = .ok (.invokestatic 69, 3) := by decide +kernel
theorem dX4_disagreements_4 : decode cX4_disagreements 4 = .ok (.iload_n 2, 1) := by decide +kernel
theorem dX4_disagreements_5 : decode cX4_disagreements 5 = .ok (.invokestatic 69, 3) := by decide +kernel
theorem dX4_disagreements_8 : decode cX4_disagreements 8 = .ok (.aload_n 0, 1) := by decide +kernel
theorem dX4_disagreements_9 : decode cX4_disagreements 9 = .ok (.getfield 19, 3) := by decide +kernel
theorem dX4_disagreements_12 : decode cX4_disagreements 12 = .ok (.getfield 169, 3) := by decide +kernel
theorem dX4_disagreements_15 : decode cX4_disagreements 15 = .ok (.iload_n 1, 1) := by decide +kernel
theorem dX4_disagreements_16 : decode cX4_disagreements 16 = .ok (.aaload, 1) := by decide +kernel
theorem dX4_disagreements_17 : decode cX4_disagreements 17 = .ok (.aload_n 0, 1) := by decide +kernel
theorem dX4_disagreements_18 : decode cX4_disagreements 18 = .ok (.getfield 19, 3) := by decide +kernel
theorem dX4_disagreements_21 : decode cX4_disagreements 21 = .ok (.getfield 169, 3) := by decide +kernel
theorem dX4_disagreements_24 : decode cX4_disagreements 24 = .ok (.iload_n 2, 1) := by decide +kernel
theorem dX4_disagreements_25 : decode cX4_disagreements 25 = .ok (.aaload, 1) := by decide +kernel
theorem dX4_disagreements_26 : decode cX4_disagreements 26 = .ok (.invokevirtual 211, 3) := by decide +kernel
theorem dX4_disagreements_29 : decode cX4_disagreements 29 = .ok (.ireturn, 1) := by decide +kernel
theorem dX4_overlap_0 : decode cX4_overlap 0 = .ok (.iload_n 1, 1) := by decide +kernel
theorem dX4_overlap_1 : decode cX4_overlap 1 = .ok (.invokestatic 69, 3) := by decide +kernel
theorem dX4_overlap_4 : decode cX4_overlap 4 = .ok (.iload_n 2, 1) := by decide +kernel
theorem dX4_overlap_5 : decode cX4_overlap 5 = .ok (.invokestatic 69, 3) := by decide +kernel
theorem dX4_overlap_8 : decode cX4_overlap 8 = .ok (.aload_n 0, 1) := by decide +kernel
theorem dX4_overlap_9 : decode cX4_overlap 9 = .ok (.getfield 19, 3) := by decide +kernel
theorem dX4_overlap_12 : decode cX4_overlap 12 = .ok (.getfield 169, 3) := by decide +kernel
theorem dX4_overlap_15 : decode cX4_overlap 15 = .ok (.iload_n 1, 1) := by decide +kernel
theorem dX4_overlap_16 : decode cX4_overlap 16 = .ok (.aaload, 1) := by decide +kernel
theorem dX4_overlap_17 : decode cX4_overlap 17 = .ok (.getfield 173, 3) := by decide +kernel
theorem dX4_overlap_20 : decode cX4_overlap 20 = .ok (.istore_n 3, 1) := by decide +kernel
theorem dX4_overlap_21 : decode cX4_overlap 21 = .ok (.iload_n 3, 1) := by decide +kernel
theorem dX4_overlap_22 : decode cX4_overlap 22 = .ok (.ifCond .ne 13, 3) := by decide +kernel
theorem dX4_overlap_25 : decode cX4_overlap 25 = .ok (.new 215, 3) := by decide +kernel
theorem dX4_overlap_28 : decode cX4_overlap 28 = .ok (.dup, 1) := by decide +kernel
theorem dX4_overlap_29 : decode cX4_overlap 29 = .ok (.ldc 217, 2) := by decide +kernel
theorem dX4_overlap_31 : decode cX4_overlap 31 = .ok (.invokespecial 219, 3) := by decide +kernel
theorem dX4_overlap_34 : decode cX4_overlap 34 = .ok (.athrow, 1) := by decide +kernel
theorem dX4_overlap_35 : decode cX4_overlap 35 = .ok (.aload_n 0, 1) := by decide +kernel
theorem dX4_overlap_36 : decode cX4_overlap 36 = .ok (.getfield 19, 3) := by decide +kernel
theorem dX4_overlap_39 : decode cX4_overlap 39 = .ok (.getfield 169, 3) := by decide +kernel
theorem dX4_overlap_42 : decode cX4_overlap 42 = .ok (.iload_n 1, 1) := by decide +kernel
theorem dX4_overlap_43 : decode cX4_overlap 43 = .ok (.aaload, 1) := by decide +kernel
theorem dX4_overlap_44 : decode cX4_overlap 44 = .ok (.aload_n 0, 1) := by decide +kernel
theorem dX4_overlap_45 : decode cX4_overlap 45 = .ok (.getfield 19, 3) := by decide +kernel
theorem dX4_overlap_48 : decode cX4_overlap 48 = .ok (.getfield 169, 3) := by decide +kernel
theorem dX4_overlap_51 : decode cX4_overlap 51 = .ok (.iload_n 2, 1) := by decide +kernel
theorem dX4_overlap_52 : decode cX4_overlap 52 = .ok (.aaload, 1) := by decide +kernel
theorem dX4_overlap_53 : decode cX4_overlap 53 = .ok (.invokevirtual 220, 3) := by decide +kernel
theorem dX4_overlap_56 : decode cX4_overlap 56 = .ok (.istore 4, 2) := by decide +kernel
theorem dX4_overlap_58 : decode cX4_overlap 58 = .ok (.iload 4, 2) := by decide +kernel
theorem dX4_overlap_60 : decode cX4_overlap 60 = .ok (.i2d, 1) := by decide +kernel
theorem dX4_overlap_61 : decode cX4_overlap 61 = .ok (.iload_n 3, 1) := by decide +kernel
theorem dX4_overlap_62 : decode cX4_overlap 62 = .ok (.i2d, 1) := by decide +kernel
theorem dX4_overlap_63 : decode cX4_overlap 63 = .ok (.ddiv, 1) := by decide +kernel
theorem dX4_overlap_64 : decode cX4_overlap 64 = .ok (.dreturn, 1) := by decide +kernel
theorem dX4_known_0 : decode cX4_known 0 = .ok (.iload_n 1, 1) := by decide +kernel
theorem dX4_known_1 : decode cX4_known 1 = .ok (.invokestatic 69, 3) := by decide +kernel
theorem dX4_known_4 : decode cX4_known 4 = .ok (.iload_n 2, 1) := by decide +kernel
theorem dX4_known_5 : decode cX4_known 5 = .ok (.invokestatic 69, 3) := by decide +kernel
theorem dX4_known_8 : decode cX4_known 8 = .ok (.iload_n 3, 1) := by decide +kernel
theorem dX4_known_9 : decode cX4_known 9 = .ok (.invokestatic 69, 3) := by decide +kernel
theorem dX4_known_12 : decode cX4_known 12 = .ok (.aload_n 0, 1) := by decide +kernel
theorem dX4_known_13 : decode cX4_known 13 = .ok (.iload_n 1, 1) := by decide +kernel
theorem dX4_known_14 : decode cX4_known 14 = .ok (.invokevirtual 122, 3) := by decide +kernel
theorem dX4_known_17 : decode cX4_known 17 = .ok (.aload_n 0, 1) := by decide +kernel
theorem dX4_known_18 : decode cX4_known 18 = .ok (.getfield 19, 3) := by decide +kernel
theorem dX4_known_21 : decode cX4_known 21 = .ok (.getfield 169, 3) := by decide +kernel
theorem dX4_known_24 : decode cX4_known 24 = .ok (.iload_n 1, 1) := by decide +kernel
theorem dX4_known_25 : decode cX4_known 25 = .ok (.aaload, 1) := by decide +kernel
theorem dX4_known_26 : decode cX4_known 26 = .ok (.iload_n 2, 1) := by decide +kernel
theorem dX4_known_27 : decode cX4_known 27 = .ok (.iload_n 3, 1) := by decide +kernel
theorem dX4_known_28 : decode cX4_known 28 = .ok (.invokevirtual 223, 3) := by decide +kernel
theorem dX4_known_31 : decode cX4_known 31 = .ok (.ireturn, 1) := by decide +kernel
theorem dX4_isStable_0 : decode cX4_isStable 0 = .ok (.iload_n 1, 1) := by decide +kernel
theorem dX4_isStable_1 : decode cX4_isStable 1 = .ok (.invokestatic 69, 3) := by decide +kernel
theorem dX4_isStable_4 : decode cX4_isStable 4 = .ok (.aload_n 0, 1) := by decide +kernel
theorem dX4_isStable_5 : decode cX4_isStable 5 = .ok (.iload_n 2, 1) := by decide +kernel
theorem dX4_isStable_6 : decode cX4_isStable 6 = .ok (.invokevirtual 112, 3) := by decide +kernel
theorem dX4_isStable_9 : decode cX4_isStable 9 = .ok (.aload_n 0, 1) := by decide +kernel
theorem dX4_isStable_10 : decode cX4_isStable 10 = .ok (.iload_n 1, 1) := by decide +kernel
theorem dX4_isStable_11 : decode cX4_isStable 11 = .ok (.invokevirtual 122, 3) := by decide +kernel
theorem dX4_isStable_14 : decode cX4_isStable 14 = .ok (.aload_n 0, 1) := by decide +kernel
theorem dX4_isStable_15 : decode cX4_isStable 15 = .ok (.iload_n 1, 1) := by decide +kernel
theorem dX4_isStable_16 : decode cX4_isStable 16 = .ok (.iload_n 2, 1) := by decide +kernel
theorem dX4_isStable_17 : decode cX4_isStable 17 = .ok (.invokevirtual 186, 3) := by decide +kernel
theorem dX4_isStable_20 : decode cX4_isStable 20 = .ok (.aload_n 0, 1) := by decide +kernel
theorem dX4_isStable_21 : decode cX4_isStable 21 = .ok (.getfield 19, 3) := by decide +kernel
theorem dX4_isStable_24 : decode cX4_isStable 24 = .ok (.iload_n 1, 1) := by decide +kernel
theorem dX4_isStable_25 : decode cX4_isStable 25 = .ok (.iload_n 2, 1) := by decide +kernel
theorem dX4_isStable_26 : decode cX4_isStable 26 = .ok (.invokevirtual 226, 3) := by decide +kernel
theorem dX4_isStable_29 : decode cX4_isStable 29 = .ok (.ireturn, 1) := by decide +kernel
theorem dX4_unstable_0 : decode cX4_unstable 0 = .ok (.iload_n 1, 1) := by decide +kernel
theorem dX4_unstable_1 : decode cX4_unstable 1 = .ok (.invokestatic 69, 3) := by decide +kernel
theorem dX4_unstable_4 : decode cX4_unstable 4 = .ok (.aload_n 0, 1) := by decide +kernel
theorem dX4_unstable_5 : decode cX4_unstable 5 = .ok (.iload_n 1, 1) := by decide +kernel
theorem dX4_unstable_6 : decode cX4_unstable 6 = .ok (.invokevirtual 122, 3) := by decide +kernel
theorem dX4_unstable_9 : decode cX4_unstable 9 = .ok (.aload_n 0, 1) := by decide +kernel
theorem dX4_unstable_10 : decode cX4_unstable 10 = .ok (.getfield 19, 3) := by decide +kernel
theorem dX4_unstable_13 : decode cX4_unstable 13 = .ok (.iload_n 1, 1) := by decide +kernel
theorem dX4_unstable_14 : decode cX4_unstable 14 = .ok (.invokevirtual 229, 3) := by decide +kernel
theorem dX4_unstable_17 : decode cX4_unstable 17 = .ok (.ireturn, 1) := by decide +kernel
theorem dX4_isEverywhere_0 : decode cX4_isEverywhere 0 = .ok (.aload_n 0, 1) := by decide +kernel
theorem dX4_isEverywhere_1 : decode cX4_isEverywhere 1 = .ok (.iload_n 1, 1) := by decide +kernel
theorem dX4_isEverywhere_2 : decode cX4_isEverywhere 2 = .ok (.invokevirtual 112, 3) := by decide +kernel
theorem dX4_isEverywhere_5 : decode cX4_isEverywhere 5 = .ok (.aload_n 0, 1) := by decide +kernel
theorem dX4_isEverywhere_6 : decode cX4_isEverywhere 6 = .ok (.getfield 19, 3) := by decide +kernel
theorem dX4_isEverywhere_9 : decode cX4_isEverywhere 9 = .ok (.iload_n 1, 1) := by decide +kernel
theorem dX4_isEverywhere_10 : decode cX4_isEverywhere 10 = .ok (.invokevirtual 232, 3) := by decide +kernel
theorem dX4_isEverywhere_13 : decode cX4_isEverywhere 13 = .ok (.ireturn, 1) := by decide +kernel
theorem dX4_firstUnaware_0 : decode cX4_firstUnaware 0 = .ok (.aload_n 0, 1) := by decide +kernel
theorem dX4_firstUnaware_1 : decode cX4_firstUnaware 1 = .ok (.iload_n 1, 1) := by decide +kernel
theorem dX4_firstUnaware_2 : decode cX4_firstUnaware 2 = .ok (.invokevirtual 112, 3) := by decide +kernel
theorem dX4_firstUnaware_5 : decode cX4_firstUnaware 5 = .ok (.aload_n 0, 1) := by decide +kernel
theorem dX4_firstUnaware_6 : decode cX4_firstUnaware 6 = .ok (.getfield 19, 3) := by decide +kernel
theorem dX4_firstUnaware_9 : decode cX4_firstUnaware 9 = .ok (.iload_n 1, 1) := by decide +kernel
theorem dX4_firstUnaware_10 : decode cX4_firstUnaware 10 = .ok (.invokevirtual 235, 3) := by decide +kernel
theorem dX4_firstUnaware_13 : decode cX4_firstUnaware 13 = .ok (.istore_n 2, 1) := by decide +kernel
theorem dX4_firstUnaware_14 : decode cX4_firstUnaware 14 = .ok (.iload_n 2, 1) := by decide +kernel
theorem dX4_firstUnaware_15 : decode cX4_firstUnaware 15 = .ok (.iconst (-1), 1) := by decide +kernel
theorem dX4_firstUnaware_16 : decode cX4_firstUnaware 16 = .ok (.if_icmp .ne 13, 3) := by decide +kernel
theorem dX4_firstUnaware_19 : decode cX4_firstUnaware 19 = .ok (.new 203, 3) := by decide +kernel
theorem dX4_firstUnaware_22 : decode cX4_firstUnaware 22 = .ok (.dup, 1) := by decide +kernel
theorem dX4_firstUnaware_23 : decode cX4_firstUnaware 23 = .ok (.ldc 238, 2) := by decide +kernel
theorem dX4_firstUnaware_25 : decode cX4_firstUnaware 25 = .ok (.invokespecial 207, 3) := by decide +kernel
theorem dX4_firstUnaware_28 : decode cX4_firstUnaware 28 = .ok (.athrow, 1) := by decide +kernel
theorem dX4_firstUnaware_29 : decode cX4_firstUnaware 29 = .ok (.iload_n 2, 1) := by decide +kernel
theorem dX4_firstUnaware_30 : decode cX4_firstUnaware 30 = .ok (.ireturn, 1) := by decide +kernel
theorem dX4_append_0 : decode cX4_append 0 = .ok (.iload_n 1, 1) := by decide +kernel
theorem dX4_append_1 : decode cX4_append 1 = .ok (.bipush 32, 2) := by decide +kernel
theorem dX4_append_3 : decode cX4_append 3 = .ok (.if_icmp .lt 9, 3) := by decide +kernel
theorem dX4_append_6 : decode cX4_append 6 = .ok (.iload_n 1, 1) := by decide +kernel
theorem dX4_append_7 : decode cX4_append 7 = .ok (.bipush 126, 2) := by decide +kernel
theorem dX4_append_9 : decode cX4_append 9 = .ok (.if_icmp .le 13, 3) := by decide +kernel
theorem dX4_append_12 : decode cX4_append 12 = .ok (.new 33, 3) := by decide +kernel
theorem dX4_append_15 : decode cX4_append 15 = .ok (.dup, 1) := by decide +kernel
theorem dX4_append_16 : decode cX4_append 16 = .ok (.ldc 240, 2) := by decide +kernel
theorem dX4_append_18 : decode cX4_append 18 = .ok (.invokespecial 37, 3) := by decide +kernel
theorem dX4_append_21 : decode cX4_append 21 = .ok (.athrow, 1) := by decide +kernel
theorem dX4_append_22 : decode cX4_append 22 = .ok (.aload_n 0, 1) := by decide +kernel
theorem dX4_append_23 : decode cX4_append 23 = .ok (.getfield 10, 3) := by decide +kernel
theorem dX4_append_26 : decode cX4_append 26 = .ok (.invokevirtual 242, 3) := by decide +kernel
theorem dX4_append_29 : decode cX4_append 29 = .ok (.ifCond .eq 13, 3) := by decide +kernel
theorem dX4_append_32 : decode cX4_append 32 = .ok (.new 76, 3) := by decide +kernel
theorem dX4_append_35 : decode cX4_append 35 = .ok (.dup, 1) := by decide +kernel
theorem dX4_append_36 : decode cX4_append 36 = .ok (.ldc 245, 2) := by decide +kernel
theorem dX4_append_38 : decode cX4_append 38 = .ok (.invokespecial 80, 3) := by decide +kernel
theorem dX4_append_41 : decode cX4_append 41 = .ok (.athrow, 1) := by decide +kernel
theorem dX4_append_42 : decode cX4_append 42 = .ok (.aload_n 0, 1) := by decide +kernel
theorem dX4_append_43 : decode cX4_append 43 = .ok (.getfield 10, 3) := by decide +kernel
theorem dX4_append_46 : decode cX4_append 46 = .ok (.iload_n 1, 1) := by decide +kernel
theorem dX4_append_47 : decode cX4_append 47 = .ok (.invokevirtual 247, 3) := by decide +kernel
theorem dX4_append_50 : decode cX4_append 50 = .ok (.ireturn, 1) := by decide +kernel
theorem dX4_run_0 : decode cX4_run 0 = .ok (.aload_n 0, 1) := by decide +kernel
theorem dX4_run_1 : decode cX4_run 1 = .ok (.getfield 10, 3) := by decide +kernel
theorem dX4_run_4 : decode cX4_run 4 = .ok (.invokevirtual 251, 3) := by decide +kernel
theorem dX4_run_7 : decode cX4_run 7 = .ok (.istore_n 1, 1) := by decide +kernel
theorem dX4_run_8 : decode cX4_run 8 = .ok (.aload_n 0, 1) := by decide +kernel
theorem dX4_run_9 : decode cX4_run 9 = .ok (.getfield 10, 3) := by decide +kernel
theorem dX4_run_12 : decode cX4_run 12 = .ok (.invokevirtual 254, 3) := by decide +kernel
theorem dX4_run_15 : decode cX4_run 15 = .ok (.iload_n 1, 1) := by decide +kernel
theorem dX4_run_16 : decode cX4_run 16 = .ok (.ifCond .ne 25, 3) := by decide +kernel
theorem dX4_run_19 : decode cX4_run 19 = .ok (.aload_n 0, 1) := by decide +kernel
theorem dX4_run_20 : decode cX4_run 20 = .ok (.aload_n 0, 1) := by decide +kernel
theorem dX4_run_21 : decode cX4_run 21 = .ok (.getfield 10, 3) := by decide +kernel
theorem dX4_run_24 : decode cX4_run 24 = .ok (.getfield 257, 3) := by decide +kernel
theorem dX4_run_27 : decode cX4_run 27 = .ok (.putfield 29, 3) := by decide +kernel
theorem dX4_run_30 : decode cX4_run 30 = .ok (.new 33, 3) := by decide +kernel
theorem dX4_run_33 : decode cX4_run 33 = .ok (.dup, 1) := by decide +kernel
theorem dX4_run_34 : decode cX4_run 34 = .ok (.ldc_w 260, 3) := by decide +kernel
theorem dX4_run_37 : decode cX4_run 37 = .ok (.invokespecial 37, 3) := by decide +kernel
theorem dX4_run_40 : decode cX4_run 40 = .ok (.athrow, 1) := by decide +kernel
theorem dX4_run_41 : decode cX4_run 41 = .ok (.aload_n 0, 1) := by decide +kernel
theorem dX4_run_42 : decode cX4_run 42 = .ok (.invokevirtual 262, 3) := by decide +kernel
theorem dX4_run_45 : decode cX4_run 45 = .ok (.iconst 0, 1) := by decide +kernel
theorem dX4_run_46 : decode cX4_run 46 = .ok (.istore_n 2, 1) := by decide +kernel
theorem dX4_run_47 : decode cX4_run 47 = .ok (.iload_n 2, 1) := by decide +kernel
theorem dX4_run_48 : decode cX4_run 48 = .ok (.aload_n 0, 1) := by decide +kernel
theorem dX4_run_49 : decode cX4_run 49 = .ok (.getfield 10, 3) := by decide +kernel
theorem dX4_run_52 : decode cX4_run 52 = .ok (.getfield 265, 3) := by decide +kernel
theorem dX4_run_55 : decode cX4_run 55 = .ok (.if_icmp .ge 57, 3) := by decide +kernel
theorem dX4_run_58 : decode cX4_run 58 = .ok (.aload_n 0, 1) := by decide +kernel
theorem dX4_run_59 : decode cX4_run 59 = .ok (.getfield 23, 3) := by decide +kernel
theorem dX4_run_62 : decode cX4_run 62 = .ok (.aload_n 0, 1) := by decide +kernel
theorem dX4_run_63 : decode cX4_run 63 = .ok (.getfield 10, 3) := by decide +kernel
theorem dX4_run_66 : decode cX4_run 66 = .ok (.getfield 268, 3) := by decide +kernel
theorem dX4_run_69 : decode cX4_run 69 = .ok (.iload_n 2, 1) := by decide +kernel
theorem dX4_run_70 : decode cX4_run 70 = .ok (.caload, 1) := by decide +kernel
theorem dX4_run_71 : decode cX4_run 71 = .ok (.aload_n 0, 1) := by decide +kernel
theorem dX4_run_72 : decode cX4_run 72 = .ok (.getfield 10, 3) := by decide +kernel
theorem dX4_run_75 : decode cX4_run 75 = .ok (.getfield 272, 3) := by decide +kernel
theorem dX4_run_78 : decode cX4_run 78 = .ok (.iload_n 2, 1) := by decide +kernel
theorem dX4_run_79 : decode cX4_run 79 = .ok (.iaload, 1) := by decide +kernel
theorem dX4_run_80 : decode cX4_run 80 = .ok (.aload_n 0, 1) := by decide +kernel
theorem dX4_run_81 : decode cX4_run 81 = .ok (.getfield 10, 3) := by decide +kernel
theorem dX4_run_84 : decode cX4_run 84 = .ok (.getfield 275, 3) := by decide +kernel
theorem dX4_run_87 : decode cX4_run 87 = .ok (.iload_n 2, 1) := by decide +kernel
theorem dX4_run_88 : decode cX4_run 88 = .ok (.iaload, 1) := by decide +kernel
theorem dX4_run_89 : decode cX4_run 89 = .ok (.invokevirtual 278, 3) := by decide +kernel
theorem dX4_run_92 : decode cX4_run 92 = .ok (.ifCond .ne 14, 3) := by decide +kernel
theorem dX4_run_95 : decode cX4_run 95 = .ok (.new 76, 3) := by decide +kernel
theorem dX4_run_98 : decode cX4_run 98 = .ok (.dup, 1) := by decide +kernel
theorem dX4_run_99 : decode cX4_run 99 = .ok (.ldc_w 282, 3) := by decide +kernel
theorem dX4_run_102 : decode cX4_run 102 = .ok (.invokespecial 80, 3) := by decide +kernel
theorem dX4_run_105 : decode cX4_run 105 = .ok (.athrow, 1) := by decide +kernel
theorem dX4_run_106 : decode cX4_run 106 = .ok (.iinc 2 1, 3) := by decide +kernel
theorem dX4_run_109 : decode cX4_run 109 = .ok (.goto (-62), 3) := by decide +kernel
theorem dX4_run_112 : decode cX4_run 112 = .ok (.aload_n 0, 1) := by decide +kernel
theorem dX4_run_113 : decode cX4_run 113 = .ok (.invokevirtual 284, 3) := by decide +kernel
theorem dX4_run_116 : decode cX4_run 116 = .ok (.aload_n 0, 1) := by decide +kernel
theorem dX4_run_117 : decode cX4_run 117 = .ok (.getfield 10, 3) := by decide +kernel
theorem dX4_run_120 : decode cX4_run 120 = .ok (.getfield 265, 3) := by decide +kernel
theorem dX4_run_123 : decode cX4_run 123 = .ok (.ireturn, 1) := by decide +kernel
theorem dX4_errorPosition_0 : decode cX4_errorPosition 0 = .ok (.aload_n 0, 1) := by decide +kernel
theorem dX4_errorPosition_1 : decode cX4_errorPosition 1 = .ok (.getfield 29, 3) := by decide +kernel
theorem dX4_errorPosition_4 : decode cX4_errorPosition 4 = .ok (.iconst (-1), 1) := by decide +kernel
theorem dX4_errorPosition_5 : decode cX4_errorPosition 5 = .ok (.if_icmp .ne 14, 3) := by decide +kernel
theorem dX4_errorPosition_8 : decode cX4_errorPosition 8 = .ok (.new 203, 3) := by decide +kernel
theorem dX4_errorPosition_11 : decode cX4_errorPosition 11 = .ok (.dup, 1) := by decide +kernel
theorem dX4_errorPosition_12 : decode cX4_errorPosition 12 = .ok (.ldc_w 287, 3) := by decide +kernel
theorem dX4_errorPosition_15 : decode cX4_errorPosition 15 = .ok (.invokespecial 207, 3) := by decide +kernel
theorem dX4_errorPosition_18 : decode cX4_errorPosition 18 = .ok (.athrow, 1) := by decide +kernel
theorem dX4_errorPosition_19 : decode cX4_errorPosition 19 = .ok (.aload_n 0, 1) := by decide +kernel
theorem dX4_errorPosition_20 : decode cX4_errorPosition 20 = .ok (.getfield 29, 3) := by decide +kernel
theorem dX4_errorPosition_23 : decode cX4_errorPosition 23 = .ok (.ireturn, 1) := by decide +kernel
theorem dX4_saveSnapshot_0 : decode cX4_saveSnapshot 0 = .ok (.aload_n 0, 1) := by decide +kernel
theorem dX4_saveSnapshot_1 : decode cX4_saveSnapshot 1 = .ok (.getfield 26, 3) := by decide +kernel
theorem dX4_saveSnapshot_4 : decode cX4_saveSnapshot 4 = .ok (.ifnonnull 14, 3) := by decide +kernel
theorem dX4_saveSnapshot_7 : decode cX4_saveSnapshot 7 = .ok (.aload_n 0, 1) := by decide +kernel
theorem dX4_saveSnapshot_8 : decode cX4_saveSnapshot 8 = .ok (.new 16, 3) := by decide +kernel
theorem dX4_saveSnapshot_11 : decode cX4_saveSnapshot 11 = .ok (.dup, 1) := by decide +kernel
theorem dX4_saveSnapshot_12 : decode cX4_saveSnapshot 12 = .ok (.invokespecial 18, 3) := by decide +kernel
theorem dX4_saveSnapshot_15 : decode cX4_saveSnapshot 15 = .ok (.putfield 26, 3) := by decide +kernel
theorem dX4_saveSnapshot_18 : decode cX4_saveSnapshot 18 = .ok (.aload_n 0, 1) := by decide +kernel
theorem dX4_saveSnapshot_19 : decode cX4_saveSnapshot 19 = .ok (.getfield 26, 3) := by decide +kernel
theorem dX4_saveSnapshot_22 : decode cX4_saveSnapshot 22 = .ok (.aload_n 0, 1) := by decide +kernel
theorem dX4_saveSnapshot_23 : decode cX4_saveSnapshot 23 = .ok (.getfield 19, 3) := by decide +kernel
theorem dX4_saveSnapshot_26 : decode cX4_saveSnapshot 26 = .ok (.invokevirtual 289, 3) := by decide +kernel
theorem dX4_saveSnapshot_29 : decode cX4_saveSnapshot 29 = .ok (.aload_n 0, 1) := by decide +kernel
theorem dX4_saveSnapshot_30 : decode cX4_saveSnapshot 30 = .ok (.getfield 19, 3) := by decide +kernel
theorem dX4_saveSnapshot_33 : decode cX4_saveSnapshot 33 = .ok (.getfield 40, 3) := by decide +kernel
theorem dX4_saveSnapshot_36 : decode cX4_saveSnapshot 36 = .ok (.getfield 44, 3) := by decide +kernel
theorem dX4_saveSnapshot_39 : decode cX4_saveSnapshot 39 = .ok (.ireturn, 1) := by decide +kernel
theorem dX4_restoreSnapshot_0 : decode cX4_restoreSnapshot 0 = .ok (.aload_n 0, 1) := by decide +kernel
theorem dX4_restoreSnapshot_1 : decode cX4_restoreSnapshot 1 = .ok (.getfield 26, 3) := by decide +kernel
theorem dX4_restoreSnapshot_4 : decode cX4_restoreSnapshot 4 = .ok (.ifnonnull 14, 3) := by decide +kernel
theorem dX4_restoreSnapshot_7 : decode cX4_restoreSnapshot 7 = .ok (.new 76, 3) := by decide +kernel
theorem dX4_restoreSnapshot_10 : decode cX4_restoreSnapshot 10 = .ok (.dup, 1) := by decide +kernel
theorem dX4_restoreSnapshot_11 : decode cX4_restoreSnapshot 11 = .ok (.ldc_w 293, 3) := by decide +kernel
theorem dX4_restoreSnapshot_14 : decode cX4_restoreSnapshot 14 = .ok (.invokespecial 80, 3) := by decide +kernel
theorem dX4_restoreSnapshot_17 : decode cX4_restoreSnapshot 17 = .ok (.athrow, 1) := by decide +kernel
theorem dX4_restoreSnapshot_18 : decode cX4_restoreSnapshot 18 = .ok (.aload_n 0, 1) := by decide +kernel
theorem dX4_restoreSnapshot_19 : decode cX4_restoreSnapshot 19 = .ok (.getfield 19, 3) := by decide +kernel
theorem dX4_restoreSnapshot_22 : decode cX4_restoreSnapshot 22 = .ok (.aload_n 0, 1) := by decide +kernel
theorem dX4_restoreSnapshot_23 : decode cX4_restoreSnapshot 23 = .ok (.getfield 26, 3) := by decide +kernel
theorem dX4_restoreSnapshot_26 : decode cX4_restoreSnapshot 26 = .ok (.invokevirtual 289, 3) := by decide +kernel
theorem dX4_restoreSnapshot_29 : decode cX4_restoreSnapshot 29 = .ok (.aload_n 0, 1) := by decide +kernel
theorem dX4_restoreSnapshot_30 : decode cX4_restoreSnapshot 30 = .ok (.getfield 19, 3) := by decide +kernel
theorem dX4_restoreSnapshot_33 : decode cX4_restoreSnapshot 33 = .ok (.getfield 40, 3) := by decide +kernel
theorem dX4_restoreSnapshot_36 : decode cX4_restoreSnapshot 36 = .ok (.getfield 44, 3) := by decide +kernel
theorem dX4_restoreSnapshot_39 : decode cX4_restoreSnapshot 39 = .ok (.ireturn, 1) := by decide +kernel
theorem dX4_requireProcess_0 : decode cX4_requireProcess 0 = .ok (.iload_n 0, 1) := by decide +kernel
theorem dX4_requireProcess_1 : decode cX4_requireProcess 1 = .ok (.invokestatic 295, 3) := by decide +kernel
theorem dX4_requireProcess_4 : decode cX4_requireProcess 4 = .ok (.ifCond .ne 14, 3) := by decide +kernel
theorem dX4_requireProcess_7 : decode cX4_requireProcess 7 = .ok (.new 178, 3) := by decide +kernel
theorem dX4_requireProcess_10 : decode cX4_requireProcess 10 = .ok (.dup, 1) := by decide +kernel
theorem dX4_requireProcess_11 : decode cX4_requireProcess 11 = .ok (.ldc_w 298, 3) := by decide +kernel
theorem dX4_requireProcess_14 : decode cX4_requireProcess 14 = .ok (.invokespecial 182, 3) := by decide +kernel
theorem dX4_requireProcess_17 : decode cX4_requireProcess 17 = .ok (.athrow, 1) := by decide +kernel
theorem dX4_requireProcess_18 : decode cX4_requireProcess 18 = .ok (.return_, 1) := by decide +kernel
theorem dX4_requireMessage_0 : decode cX4_requireMessage 0 = .ok (.aload_n 0, 1) := by decide +kernel
theorem dX4_requireMessage_1 : decode cX4_requireMessage 1 = .ok (.getfield 19, 3) := by decide +kernel
theorem dX4_requireMessage_4 : decode cX4_requireMessage 4 = .ok (.getfield 40, 3) := by decide +kernel
theorem dX4_requireMessage_7 : decode cX4_requireMessage 7 = .ok (.iload_n 1, 1) := by decide +kernel
theorem dX4_requireMessage_8 : decode cX4_requireMessage 8 = .ok (.invokevirtual 300, 3) := by decide +kernel
theorem dX4_requireMessage_11 : decode cX4_requireMessage 11 = .ok (.ifCond .ne 14, 3) := by decide +kernel
theorem dX4_requireMessage_14 : decode cX4_requireMessage 14 = .ok (.new 178, 3) := by decide +kernel
theorem dX4_requireMessage_17 : decode cX4_requireMessage 17 = .ok (.dup, 1) := by decide +kernel
theorem dX4_requireMessage_18 : decode cX4_requireMessage 18 = .ok (.ldc_w 303, 3) := by decide +kernel
theorem dX4_requireMessage_21 : decode cX4_requireMessage 21 = .ok (.invokespecial 182, 3) := by decide +kernel
theorem dX4_requireMessage_24 : decode cX4_requireMessage 24 = .ok (.athrow, 1) := by decide +kernel
theorem dX4_requireMessage_25 : decode cX4_requireMessage 25 = .ok (.return_, 1) := by decide +kernel
theorem dX4_requireView_0 : decode cX4_requireView 0 = .ok (.iload_n 1, 1) := by decide +kernel
theorem dX4_requireView_1 : decode cX4_requireView 1 = .ok (.ifCond .lt 14, 3) := by decide +kernel
theorem dX4_requireView_4 : decode cX4_requireView 4 = .ok (.iload_n 1, 1) := by decide +kernel
theorem dX4_requireView_5 : decode cX4_requireView 5 = .ok (.aload_n 0, 1) := by decide +kernel
theorem dX4_requireView_6 : decode cX4_requireView 6 = .ok (.getfield 19, 3) := by decide +kernel
theorem dX4_requireView_9 : decode cX4_requireView 9 = .ok (.getfield 53, 3) := by decide +kernel
theorem dX4_requireView_12 : decode cX4_requireView 12 = .ok (.if_icmp .le 14, 3) := by decide +kernel
theorem dX4_requireView_15 : decode cX4_requireView 15 = .ok (.new 178, 3) := by decide +kernel
theorem dX4_requireView_18 : decode cX4_requireView 18 = .ok (.dup, 1) := by decide +kernel
theorem dX4_requireView_19 : decode cX4_requireView 19 = .ok (.ldc_w 305, 3) := by decide +kernel
theorem dX4_requireView_22 : decode cX4_requireView 22 = .ok (.invokespecial 182, 3) := by decide +kernel
theorem dX4_requireView_25 : decode cX4_requireView 25 = .ok (.athrow, 1) := by decide +kernel
theorem dX4_requireView_26 : decode cX4_requireView 26 = .ok (.return_, 1) := by decide +kernel
theorem dX4_requireMember_0 : decode cX4_requireMember 0 = .ok (.aload_n 0, 1) := by decide +kernel
theorem dX4_requireMember_1 : decode cX4_requireMember 1 = .ok (.getfield 19, 3) := by decide +kernel
theorem dX4_requireMember_4 : decode cX4_requireMember 4 = .ok (.iload_n 1, 1) := by decide +kernel
theorem dX4_requireMember_5 : decode cX4_requireMember 5 = .ok (.invokevirtual 307, 3) := by decide +kernel
theorem dX4_requireMember_8 : decode cX4_requireMember 8 = .ok (.ifCond .ne 14, 3) := by decide +kernel
theorem dX4_requireMember_11 : decode cX4_requireMember 11 = .ok (.new 76, 3) := by decide +kernel
theorem dX4_requireMember_14 : decode cX4_requireMember 14 = .ok (.dup, 1) := by decide +kernel
theorem dX4_requireMember_15 : decode cX4_requireMember 15 = .ok (.ldc_w 310, 3) := by decide +kernel
theorem dX4_requireMember_18 : decode cX4_requireMember 18 = .ok (.invokespecial 80, 3) := by decide +kernel
theorem dX4_requireMember_21 : decode cX4_requireMember 21 = .ok (.athrow, 1) := by decide +kernel
theorem dX4_requireMember_22 : decode cX4_requireMember 22 = .ok (.return_, 1) := by decide +kernel
theorem dX4_requireReach_0 : decode cX4_requireReach 0 = .ok (.aload_n 0, 1) := by decide +kernel
theorem dX4_requireReach_1 : decode cX4_requireReach 1 = .ok (.getfield 19, 3) := by decide +kernel
theorem dX4_requireReach_4 : decode cX4_requireReach 4 = .ok (.iload_n 1, 1) := by decide +kernel
theorem dX4_requireReach_5 : decode cX4_requireReach 5 = .ok (.iload_n 2, 1) := by decide +kernel
theorem dX4_requireReach_6 : decode cX4_requireReach 6 = .ok (.invokevirtual 312, 3) := by decide +kernel
theorem dX4_requireReach_9 : decode cX4_requireReach 9 = .ok (.ifCond .ne 14, 3) := by decide +kernel
theorem dX4_requireReach_12 : decode cX4_requireReach 12 = .ok (.new 76, 3) := by decide +kernel
theorem dX4_requireReach_15 : decode cX4_requireReach 15 = .ok (.dup, 1) := by decide +kernel
theorem dX4_requireReach_16 : decode cX4_requireReach 16 = .ok (.ldc_w 315, 3) := by decide +kernel
theorem dX4_requireReach_19 : decode cX4_requireReach 19 = .ok (.invokespecial 80, 3) := by decide +kernel
theorem dX4_requireReach_22 : decode cX4_requireReach 22 = .ok (.athrow, 1) := by decide +kernel
theorem dX4_requireReach_23 : decode cX4_requireReach 23 = .ok (.return_, 1) := by decide +kernel
theorem dX4_requireLogged_0 : decode cX4_requireLogged 0 = .ok (.aload_n 0, 1) := by decide +kernel
theorem dX4_requireLogged_1 : decode cX4_requireLogged 1 = .ok (.getfield 19, 3) := by decide +kernel
theorem dX4_requireLogged_4 : decode cX4_requireLogged 4 = .ok (.getfield 169, 3) := by decide +kernel
theorem dX4_requireLogged_7 : decode cX4_requireLogged 7 = .ok (.iload_n 1, 1) := by decide +kernel
theorem dX4_requireLogged_8 : decode cX4_requireLogged 8 = .ok (.aaload, 1) := by decide +kernel
theorem dX4_requireLogged_9 : decode cX4_requireLogged 9 = .ok (.iload_n 2, 1) := by decide +kernel
theorem dX4_requireLogged_10 : decode cX4_requireLogged 10 = .ok (.invokevirtual 317, 3) := by decide +kernel
theorem dX4_requireLogged_13 : decode cX4_requireLogged 13 = .ok (.ifCond .ne 14, 3) := by decide +kernel
theorem dX4_requireLogged_16 : decode cX4_requireLogged 16 = .ok (.new 203, 3) := by decide +kernel
theorem dX4_requireLogged_19 : decode cX4_requireLogged 19 = .ok (.dup, 1) := by decide +kernel
theorem dX4_requireLogged_20 : decode cX4_requireLogged 20 = .ok (.ldc_w 320, 3) := by decide +kernel
theorem dX4_requireLogged_23 : decode cX4_requireLogged 23 = .ok (.invokespecial 207, 3) := by decide +kernel
theorem dX4_requireLogged_26 : decode cX4_requireLogged 26 = .ok (.athrow, 1) := by decide +kernel
theorem dX4_requireLogged_27 : decode cX4_requireLogged 27 = .ok (.return_, 1) := by decide +kernel
theorem dX4_prepareTrial_0 : decode cX4_prepareTrial 0 = .ok (.aload_n 0, 1) := by decide +kernel
theorem dX4_prepareTrial_1 : decode cX4_prepareTrial 1 = .ok (.getfield 23, 3) := by decide +kernel
theorem dX4_prepareTrial_4 : decode cX4_prepareTrial 4 = .ok (.ifnonnull 14, 3) := by decide +kernel
theorem dX4_prepareTrial_7 : decode cX4_prepareTrial 7 = .ok (.aload_n 0, 1) := by decide +kernel
theorem dX4_prepareTrial_8 : decode cX4_prepareTrial 8 = .ok (.new 16, 3) := by decide +kernel
theorem dX4_prepareTrial_11 : decode cX4_prepareTrial 11 = .ok (.dup, 1) := by decide +kernel
theorem dX4_prepareTrial_12 : decode cX4_prepareTrial 12 = .ok (.invokespecial 18, 3) := by decide +kernel
theorem dX4_prepareTrial_15 : decode cX4_prepareTrial 15 = .ok (.putfield 23, 3) := by decide +kernel
theorem dX4_prepareTrial_18 : decode cX4_prepareTrial 18 = .ok (.aload_n 0, 1) := by decide +kernel
theorem dX4_prepareTrial_19 : decode cX4_prepareTrial 19 = .ok (.getfield 23, 3) := by decide +kernel
theorem dX4_prepareTrial_22 : decode cX4_prepareTrial 22 = .ok (.aload_n 0, 1) := by decide +kernel
theorem dX4_prepareTrial_23 : decode cX4_prepareTrial 23 = .ok (.getfield 19, 3) := by decide +kernel
theorem dX4_prepareTrial_26 : decode cX4_prepareTrial 26 = .ok (.invokevirtual 289, 3) := by decide +kernel
theorem dX4_prepareTrial_29 : decode cX4_prepareTrial 29 = .ok (.return_, 1) := by decide +kernel
theorem dX4_swapWithTrial_0 : decode cX4_swapWithTrial 0 = .ok (.aload_n 0, 1) := by decide +kernel
theorem dX4_swapWithTrial_1 : decode cX4_swapWithTrial 1 = .ok (.getfield 19, 3) := by decide +kernel
theorem dX4_swapWithTrial_4 : decode cX4_swapWithTrial 4 = .ok (.astore_n 1, 1) := by decide +kernel
theorem dX4_swapWithTrial_5 : decode cX4_swapWithTrial 5 = .ok (.aload_n 0, 1) := by decide +kernel
theorem dX4_swapWithTrial_6 : decode cX4_swapWithTrial 6 = .ok (.aload_n 0, 1) := by decide +kernel
theorem dX4_swapWithTrial_7 : decode cX4_swapWithTrial 7 = .ok (.getfield 23, 3) := by decide +kernel
theorem dX4_swapWithTrial_10 : decode cX4_swapWithTrial 10 = .ok (.putfield 19, 3) := by decide +kernel
theorem dX4_swapWithTrial_13 : decode cX4_swapWithTrial 13 = .ok (.aload_n 0, 1) := by decide +kernel
theorem dX4_swapWithTrial_14 : decode cX4_swapWithTrial 14 = .ok (.aload_n 1, 1) := by decide +kernel
theorem dX4_swapWithTrial_15 : decode cX4_swapWithTrial 15 = .ok (.putfield 23, 3) := by decide +kernel
theorem dX4_swapWithTrial_18 : decode cX4_swapWithTrial 18 = .ok (.return_, 1) := by decide +kernel
theorem dX4_isProcess_0 : decode cX4_isProcess 0 = .ok (.iload_n 0, 1) := by decide +kernel
theorem dX4_isProcess_1 : decode cX4_isProcess 1 = .ok (.ifCond .lt 13, 3) := by decide +kernel
theorem dX4_isProcess_4 : decode cX4_isProcess 4 = .ok (.iload_n 0, 1) := by decide +kernel
theorem dX4_isProcess_5 : decode cX4_isProcess 5 = .ok (.bipush 6, 2) := by decide +kernel
theorem dX4_isProcess_7 : decode cX4_isProcess 7 = .ok (.if_icmp .ge 7, 3) := by decide +kernel
theorem dX4_isProcess_10 : decode cX4_isProcess 10 = .ok (.iconst 1, 1) := by decide +kernel
theorem dX4_isProcess_11 : decode cX4_isProcess 11 = .ok (.goto 4, 3) := by decide +kernel
theorem dX4_isProcess_14 : decode cX4_isProcess 14 = .ok (.iconst 0, 1) := by decide +kernel
theorem dX4_isProcess_15 : decode cX4_isProcess 15 = .ok (.ireturn, 1) := by decide +kernel
theorem dX4_contains_0 : decode cX4_contains 0 = .ok (.iload_n 0, 1) := by decide +kernel
theorem dX4_contains_1 : decode cX4_contains 1 = .ok (.iload_n 1, 1) := by decide +kernel
theorem dX4_contains_2 : decode cX4_contains 2 = .ok (.ishr, 1) := by decide +kernel
theorem dX4_contains_3 : decode cX4_contains 3 = .ok (.iconst 1, 1) := by decide +kernel
theorem dX4_contains_4 : decode cX4_contains 4 = .ok (.iand, 1) := by decide +kernel
theorem dX4_contains_5 : decode cX4_contains 5 = .ok (.iconst 1, 1) := by decide +kernel
theorem dX4_contains_6 : decode cX4_contains 6 = .ok (.if_icmp .ne 7, 3) := by decide +kernel
theorem dX4_contains_9 : decode cX4_contains 9 = .ok (.iconst 1, 1) := by decide +kernel
theorem dX4_contains_10 : decode cX4_contains 10 = .ok (.goto 4, 3) := by decide +kernel
theorem dX4_contains_13 : decode cX4_contains 13 = .ok (.iconst 0, 1) := by decide +kernel
theorem dX4_contains_14 : decode cX4_contains 14 = .ok (.ireturn, 1) := by decide +kernel
theorem dX4_lowestOf_0 : decode cX4_lowestOf 0 = .ok (.iconst 0, 1) := by decide +kernel
theorem dX4_lowestOf_1 : decode cX4_lowestOf 1 = .ok (.istore_n 1, 1) := by decide +kernel
theorem dX4_lowestOf_2 : decode cX4_lowestOf 2 = .ok (.iload_n 1, 1) := by decide +kernel
theorem dX4_lowestOf_3 : decode cX4_lowestOf 3 = .ok (.iconst 5, 1) := by decide +kernel
theorem dX4_lowestOf_4 : decode cX4_lowestOf 4 = .ok (.if_icmp .ge 17, 3) := by decide +kernel
theorem dX4_lowestOf_7 : decode cX4_lowestOf 7 = .ok (.iload_n 0, 1) := by decide +kernel
theorem dX4_lowestOf_8 : decode cX4_lowestOf 8 = .ok (.iload_n 1, 1) := by decide +kernel
theorem dX4_lowestOf_9 : decode cX4_lowestOf 9 = .ok (.invokestatic 322, 3) := by decide +kernel
theorem dX4_lowestOf_12 : decode cX4_lowestOf 12 = .ok (.ifCond .ne 9, 3) := by decide +kernel
theorem dX4_lowestOf_15 : decode cX4_lowestOf 15 = .ok (.iinc 1 1, 3) := by decide +kernel
theorem dX4_lowestOf_18 : decode cX4_lowestOf 18 = .ok (.goto (-16), 3) := by decide +kernel
theorem dX4_lowestOf_21 : decode cX4_lowestOf 21 = .ok (.iload_n 1, 1) := by decide +kernel
theorem dX4_lowestOf_22 : decode cX4_lowestOf 22 = .ok (.ireturn, 1) := by decide +kernel
theorem dX4_copyRow_0 : decode cX4_copyRow 0 = .ok (.aload_n 0, 1) := by decide +kernel
theorem dX4_copyRow_1 : decode cX4_copyRow 1 = .ok (.iconst 0, 1) := by decide +kernel
theorem dX4_copyRow_2 : decode cX4_copyRow 2 = .ok (.aload_n 1, 1) := by decide +kernel
theorem dX4_copyRow_3 : decode cX4_copyRow 3 = .ok (.iconst 0, 1) := by decide +kernel
theorem dX4_copyRow_4 : decode cX4_copyRow 4 = .ok (.aload_n 0, 1) := by decide +kernel
theorem dX4_copyRow_5 : decode cX4_copyRow 5 = .ok (.arraylength, 1) := by decide +kernel
theorem dX4_copyRow_6 : decode cX4_copyRow 6 = .ok (.aload_n 1, 1) := by decide +kernel
theorem dX4_copyRow_7 : decode cX4_copyRow 7 = .ok (.arraylength, 1) := by decide +kernel
theorem dX4_copyRow_8 : decode cX4_copyRow 8 = .ok (.invokestatic 325, 3) := by decide +kernel
theorem dX4_copyRow_11 : decode cX4_copyRow 11 = .ok (.invokestatic 330, 3) := by decide +kernel
theorem dX4_copyRow_14 : decode cX4_copyRow 14 = .ok (.return_, 1) := by decide +kernel
end
section
theorem dL_reset_0 : decode cL_reset 0 = .ok (.aload_n 2, 1) := by decide +kernel
theorem dL_reset_1 : decode cL_reset 1 = .ok (.iconst 0, 1) := by decide +kernel
theorem dL_reset_2 : decode cL_reset 2 = .ok (.aload_n 0, 1) := by decide +kernel
theorem dL_reset_3 : decode cL_reset 3 = .ok (.iload_n 1, 1) := by decide +kernel
theorem dL_reset_4 : decode cL_reset 4 = .ok (.invokevirtual 7, 3) := by decide +kernel
theorem dL_reset_7 : decode cL_reset 7 = .ok (.i2l, 1) := by decide +kernel
theorem dL_reset_8 : decode cL_reset 8 = .ok (.lastore, 1) := by decide +kernel
theorem dL_reset_9 : decode cL_reset 9 = .ok (.goto 6, 3) := by decide +kernel
theorem dL_reset_12 : decode cL_reset 12 = .ok (.astore_n 3, 1) := by decide +kernel
theorem dL_reset_13 : decode cL_reset 13 = .ok (.iconst 1, 1) := by decide +kernel
theorem dL_reset_14 : decode cL_reset 14 = .ok (.ireturn, 1) := by decide +kernel
theorem dL_reset_15 : decode cL_reset 15 = .ok (.iconst 0, 1) := by decide +kernel
theorem dL_reset_16 : decode cL_reset 16 = .ok (.ireturn, 1) := by decide +kernel
theorem dL_membersOf_0 : decode cL_membersOf 0 = .ok (.aload_n 2, 1) := by decide +kernel
theorem dL_membersOf_1 : decode cL_membersOf 1 = .ok (.iconst 0, 1) := by decide +kernel
theorem dL_membersOf_2 : decode cL_membersOf 2 = .ok (.aload_n 0, 1) := by decide +kernel
theorem dL_membersOf_3 : decode cL_membersOf 3 = .ok (.iload_n 1, 1) := by decide +kernel
theorem dL_membersOf_4 : decode cL_membersOf 4 = .ok (.invokevirtual 15, 3) := by decide +kernel
theorem dL_membersOf_7 : decode cL_membersOf 7 = .ok (.i2l, 1) := by decide +kernel
theorem dL_membersOf_8 : decode cL_membersOf 8 = .ok (.lastore, 1) := by decide +kernel
theorem dL_membersOf_9 : decode cL_membersOf 9 = .ok (.goto 6, 3) := by decide +kernel
theorem dL_membersOf_12 : decode cL_membersOf 12 = .ok (.astore_n 3, 1) := by decide +kernel
theorem dL_membersOf_13 : decode cL_membersOf 13 = .ok (.iconst 1, 1) := by decide +kernel
theorem dL_membersOf_14 : decode cL_membersOf 14 = .ok (.ireturn, 1) := by decide +kernel
theorem dL_membersOf_15 : decode cL_membersOf 15 = .ok (.iconst 0, 1) := by decide +kernel
theorem dL_membersOf_16 : decode cL_membersOf 16 = .ok (.ireturn, 1) := by decide +kernel
theorem dL_forcedIn_0 : decode cL_forcedIn 0 = .ok (.aload_n 2, 1) := by decide +kernel
theorem dL_forcedIn_1 : decode cL_forcedIn 1 = .ok (.iconst 0, 1) := by decide +kernel
theorem dL_forcedIn_2 : decode cL_forcedIn 2 = .ok (.aload_n 0, 1) := by decide +kernel
theorem dL_forcedIn_3 : decode cL_forcedIn 3 = .ok (.iload_n 1, 1) := by decide +kernel
theorem dL_forcedIn_4 : decode cL_forcedIn 4 = .ok (.invokevirtual 20, 3) := by decide +kernel
theorem dL_forcedIn_7 : decode cL_forcedIn 7 = .ok (.i2l, 1) := by decide +kernel
theorem dL_forcedIn_8 : decode cL_forcedIn 8 = .ok (.lastore, 1) := by decide +kernel
theorem dL_forcedIn_9 : decode cL_forcedIn 9 = .ok (.goto 6, 3) := by decide +kernel
theorem dL_forcedIn_12 : decode cL_forcedIn 12 = .ok (.astore_n 3, 1) := by decide +kernel
theorem dL_forcedIn_13 : decode cL_forcedIn 13 = .ok (.iconst 1, 1) := by decide +kernel
theorem dL_forcedIn_14 : decode cL_forcedIn 14 = .ok (.ireturn, 1) := by decide +kernel
theorem dL_forcedIn_15 : decode cL_forcedIn 15 = .ok (.iconst 0, 1) := by decide +kernel
theorem dL_forcedIn_16 : decode cL_forcedIn 16 = .ok (.ireturn, 1) := by decide +kernel
theorem dL_requestJoin_0 : decode cL_requestJoin 0 = .ok (.aload_n 2, 1) := by decide +kernel
theorem dL_requestJoin_1 : decode cL_requestJoin 1 = .ok (.iconst 0, 1) := by decide +kernel
theorem dL_requestJoin_2 : decode cL_requestJoin 2 = .ok (.aload_n 0, 1) := by decide +kernel
theorem dL_requestJoin_3 : decode cL_requestJoin 3 = .ok (.iload_n 1, 1) := by decide +kernel
theorem dL_requestJoin_4 : decode cL_requestJoin 4 = .ok (.invokevirtual 23, 3) := by decide +kernel
theorem dL_requestJoin_7 : decode cL_requestJoin 7 = .ok (.i2l, 1) := by decide +kernel
theorem dL_requestJoin_8 : decode cL_requestJoin 8 = .ok (.lastore, 1) := by decide +kernel
theorem dL_requestJoin_9 : decode cL_requestJoin 9 = .ok (.goto 9, 3) := by decide +kernel
theorem dL_requestJoin_12 : decode cL_requestJoin 12 = .ok (.astore_n 3, 1) := by decide +kernel
theorem dL_requestJoin_13 : decode cL_requestJoin 13 = .ok (.iconst 1, 1) := by decide +kernel
theorem dL_requestJoin_14 : decode cL_requestJoin 14 = .ok (.ireturn, 1) := by decide +kernel
theorem dL_requestJoin_15 : decode cL_requestJoin 15 = .ok (.astore_n 3, 1) := by decide +kernel
theorem dL_requestJoin_16 : decode cL_requestJoin 16 = .ok (.iconst 2, 1) := by decide +kernel
theorem dL_requestJoin_17 : decode cL_requestJoin 17 = .ok (.ireturn, 1) := by decide +kernel
theorem dL_requestJoin_18 : decode cL_requestJoin 18 = .ok (.iconst 0, 1) := by decide +kernel
theorem dL_requestJoin_19 : decode cL_requestJoin 19 = .ok (.ireturn, 1) := by decide +kernel
theorem dL_requestLeave_0 : decode cL_requestLeave 0 = .ok (.aload_n 2, 1) := by decide +kernel
theorem dL_requestLeave_1 : decode cL_requestLeave 1 = .ok (.iconst 0, 1) := by decide +kernel
theorem dL_requestLeave_2 : decode cL_requestLeave 2 = .ok (.aload_n 0, 1) := by decide +kernel
theorem dL_requestLeave_3 : decode cL_requestLeave 3 = .ok (.iload_n 1, 1) := by decide +kernel
theorem dL_requestLeave_4 : decode cL_requestLeave 4 = .ok (.invokevirtual 28, 3) := by decide +kernel
theorem dL_requestLeave_7 : decode cL_requestLeave 7 = .ok (.i2l, 1) := by decide +kernel
theorem dL_requestLeave_8 : decode cL_requestLeave 8 = .ok (.lastore, 1) := by decide +kernel
theorem dL_requestLeave_9 : decode cL_requestLeave 9 = .ok (.goto 9, 3) := by decide +kernel
theorem dL_requestLeave_12 : decode cL_requestLeave 12 = .ok (.astore_n 3, 1) := by decide +kernel
theorem dL_requestLeave_13 : decode cL_requestLeave 13 = .ok (.iconst 1, 1) := by decide +kernel
theorem dL_requestLeave_14 : decode cL_requestLeave 14 = .ok (.ireturn, 1) := by decide +kernel
theorem dL_requestLeave_15 : decode cL_requestLeave 15 = .ok (.astore_n 3, 1) := by decide +kernel
theorem dL_requestLeave_16 : decode cL_requestLeave 16 = .ok (.iconst 2, 1) := by decide +kernel
theorem dL_requestLeave_17 : decode cL_requestLeave 17 = .ok (.ireturn, 1) := by decide +kernel
theorem dL_requestLeave_18 : decode cL_requestLeave 18 = .ok (.iconst 0, 1) := by decide +kernel
theorem dL_requestLeave_19 : decode cL_requestLeave 19 = .ok (.ireturn, 1) := by decide +kernel
theorem dL_install_0 : decode cL_install 0 = .ok (.aload_n 1, 1) := by decide +kernel
theorem dL_install_1 : decode cL_install 1 = .ok (.iconst 0, 1) := by decide +kernel
theorem dL_install_2 : decode cL_install 2 = .ok (.aload_n 0, 1) := by decide +kernel
theorem dL_install_3 : decode cL_install 3 = .ok (.invokevirtual 31, 3) := by decide +kernel
theorem dL_install_6 : decode cL_install 6 = .ok (.i2l, 1) := by decide +kernel
theorem dL_install_7 : decode cL_install 7 = .ok (.lastore, 1) := by decide +kernel
theorem dL_install_8 : decode cL_install 8 = .ok (.goto 6, 3) := by decide +kernel
theorem dL_install_11 : decode cL_install 11 = .ok (.astore_n 2, 1) := by decide +kernel
theorem dL_install_12 : decode cL_install 12 = .ok (.iconst 1, 1) := by decide +kernel
theorem dL_install_13 : decode cL_install 13 = .ok (.ireturn, 1) := by decide +kernel
theorem dL_install_14 : decode cL_install 14 = .ok (.iconst 0, 1) := by decide +kernel
theorem dL_install_15 : decode cL_install 15 = .ok (.ireturn, 1) := by decide +kernel
theorem dL_broadcast_0 : decode cL_broadcast 0 = .ok (.aload_n 3, 1) := by decide +kernel
theorem dL_broadcast_1 : decode cL_broadcast 1 = .ok (.iconst 0, 1) := by decide +kernel
theorem dL_broadcast_2 : decode cL_broadcast 2 = .ok (.aload_n 0, 1) := by decide +kernel
theorem dL_broadcast_3 : decode cL_broadcast 3 = .ok (.iload_n 1, 1) := by decide +kernel
theorem dL_broadcast_4 : decode cL_broadcast 4 = .ok (.iload_n 2, 1) := by decide +kernel
theorem dL_broadcast_5 : decode cL_broadcast 5 = .ok (.invokevirtual 35, 3) := by decide +kernel
theorem dL_broadcast_8 : decode cL_broadcast 8 = .ok (.i2l, 1) := by decide +kernel
theorem dL_broadcast_9 : decode cL_broadcast 9 = .ok (.lastore, 1) := by decide +kernel
theorem dL_broadcast_10 : decode cL_broadcast 10 = .ok (.goto 11, 3) := by decide +kernel
theorem dL_broadcast_13 : decode cL_broadcast 13 = .ok (.astore 4, 2) := by decide +kernel
theorem dL_broadcast_15 : decode cL_broadcast 15 = .ok (.iconst 1, 1) := by decide +kernel
theorem dL_broadcast_16 : decode cL_broadcast 16 = .ok (.ireturn, 1) := by decide +kernel
theorem dL_broadcast_17 : decode cL_broadcast 17 = .ok (.astore 4, 2) := by decide +kernel
theorem dL_broadcast_19 : decode cL_broadcast 19 = .ok (.iconst 2, 1) := by decide +kernel
theorem dL_broadcast_20 : decode cL_broadcast 20 = .ok (.ireturn, 1) := by decide +kernel
theorem dL_broadcast_21 : decode cL_broadcast 21 = .ok (.iconst 0, 1) := by decide +kernel
theorem dL_broadcast_22 : decode cL_broadcast 22 = .ok (.ireturn, 1) := by decide +kernel
theorem dL_arrive_0 : decode cL_arrive 0 = .ok (.aload_n 3, 1) := by decide +kernel
theorem dL_arrive_1 : decode cL_arrive 1 = .ok (.iconst 0, 1) := by decide +kernel
theorem dL_arrive_2 : decode cL_arrive 2 = .ok (.aload_n 0, 1) := by decide +kernel
theorem dL_arrive_3 : decode cL_arrive 3 = .ok (.iload_n 1, 1) := by decide +kernel
theorem dL_arrive_4 : decode cL_arrive 4 = .ok (.iload_n 2, 1) := by decide +kernel
theorem dL_arrive_5 : decode cL_arrive 5 = .ok (.invokevirtual 39, 3) := by decide +kernel
theorem dL_arrive_8 : decode cL_arrive 8 = .ok (.i2l, 1) := by decide +kernel
theorem dL_arrive_9 : decode cL_arrive 9 = .ok (.lastore, 1) := by decide +kernel
theorem dL_arrive_10 : decode cL_arrive 10 = .ok (.goto 11, 3) := by decide +kernel
theorem dL_arrive_13 : decode cL_arrive 13 = .ok (.astore 4, 2) := by decide +kernel
theorem dL_arrive_15 : decode cL_arrive 15 = .ok (.iconst 1, 1) := by decide +kernel
theorem dL_arrive_16 : decode cL_arrive 16 = .ok (.ireturn, 1) := by decide +kernel
theorem dL_arrive_17 : decode cL_arrive 17 = .ok (.astore 4, 2) := by decide +kernel
theorem dL_arrive_19 : decode cL_arrive 19 = .ok (.iconst 2, 1) := by decide +kernel
theorem dL_arrive_20 : decode cL_arrive 20 = .ok (.ireturn, 1) := by decide +kernel
theorem dL_arrive_21 : decode cL_arrive 21 = .ok (.iconst 0, 1) := by decide +kernel
theorem dL_arrive_22 : decode cL_arrive 22 = .ok (.ireturn, 1) := by decide +kernel
theorem dL_arriveAll_0 : decode cL_arriveAll 0 = .ok (.aload_n 2, 1) := by decide +kernel
theorem dL_arriveAll_1 : decode cL_arriveAll 1 = .ok (.iconst 0, 1) := by decide +kernel
theorem dL_arriveAll_2 : decode cL_arriveAll 2 = .ok (.aload_n 0, 1) := by decide +kernel
theorem dL_arriveAll_3 : decode cL_arriveAll 3 = .ok (.iload_n 1, 1) := by decide +kernel
theorem dL_arriveAll_4 : decode cL_arriveAll 4 = .ok (.invokevirtual 42, 3) := by decide +kernel
theorem dL_arriveAll_7 : decode cL_arriveAll 7 = .ok (.i2l, 1) := by decide +kernel
theorem dL_arriveAll_8 : decode cL_arriveAll 8 = .ok (.lastore, 1) := by decide +kernel
theorem dL_arriveAll_9 : decode cL_arriveAll 9 = .ok (.goto 9, 3) := by decide +kernel
theorem dL_arriveAll_12 : decode cL_arriveAll 12 = .ok (.astore_n 3, 1) := by decide +kernel
theorem dL_arriveAll_13 : decode cL_arriveAll 13 = .ok (.iconst 1, 1) := by decide +kernel
theorem dL_arriveAll_14 : decode cL_arriveAll 14 = .ok (.ireturn, 1) := by decide +kernel
theorem dL_arriveAll_15 : decode cL_arriveAll 15 = .ok (.astore_n 3, 1) := by decide +kernel
theorem dL_arriveAll_16 : decode cL_arriveAll 16 = .ok (.iconst 2, 1) := by decide +kernel
theorem dL_arriveAll_17 : decode cL_arriveAll 17 = .ok (.ireturn, 1) := by decide +kernel
theorem dL_arriveAll_18 : decode cL_arriveAll 18 = .ok (.iconst 0, 1) := by decide +kernel
theorem dL_arriveAll_19 : decode cL_arriveAll 19 = .ok (.ireturn, 1) := by decide +kernel
theorem dL_gossip_0 : decode cL_gossip 0 = .ok (.aload_n 3, 1) := by decide +kernel
theorem dL_gossip_1 : decode cL_gossip 1 = .ok (.iconst 0, 1) := by decide +kernel
theorem dL_gossip_2 : decode cL_gossip 2 = .ok (.aload_n 0, 1) := by decide +kernel
theorem dL_gossip_3 : decode cL_gossip 3 = .ok (.iload_n 1, 1) := by decide +kernel
theorem dL_gossip_4 : decode cL_gossip 4 = .ok (.iload_n 2, 1) := by decide +kernel
theorem dL_gossip_5 : decode cL_gossip 5 = .ok (.invokevirtual 45, 3) := by decide +kernel
theorem dL_gossip_8 : decode cL_gossip 8 = .ok (.i2l, 1) := by decide +kernel
theorem dL_gossip_9 : decode cL_gossip 9 = .ok (.lastore, 1) := by decide +kernel
theorem dL_gossip_10 : decode cL_gossip 10 = .ok (.goto 11, 3) := by decide +kernel
theorem dL_gossip_13 : decode cL_gossip 13 = .ok (.astore 4, 2) := by decide +kernel
theorem dL_gossip_15 : decode cL_gossip 15 = .ok (.iconst 1, 1) := by decide +kernel
theorem dL_gossip_16 : decode cL_gossip 16 = .ok (.ireturn, 1) := by decide +kernel
theorem dL_gossip_17 : decode cL_gossip 17 = .ok (.astore 4, 2) := by decide +kernel
theorem dL_gossip_19 : decode cL_gossip 19 = .ok (.iconst 2, 1) := by decide +kernel
theorem dL_gossip_20 : decode cL_gossip 20 = .ok (.ireturn, 1) := by decide +kernel
theorem dL_gossip_21 : decode cL_gossip 21 = .ok (.iconst 0, 1) := by decide +kernel
theorem dL_gossip_22 : decode cL_gossip 22 = .ok (.ireturn, 1) := by decide +kernel
theorem dL_message_0 : decode cL_message 0 = .ok (.aload_n 3, 1) := by decide +kernel
theorem dL_message_1 : decode cL_message 1 = .ok (.iconst 0, 1) := by decide +kernel
theorem dL_message_2 : decode cL_message 2 = .ok (.aload_n 0, 1) := by decide +kernel
theorem dL_message_3 : decode cL_message 3 = .ok (.iload_n 1, 1) := by decide +kernel
theorem dL_message_4 : decode cL_message 4 = .ok (.iload_n 2, 1) := by decide +kernel
theorem dL_message_5 : decode cL_message 5 = .ok (.invokevirtual 48, 3) := by decide +kernel
theorem dL_message_8 : decode cL_message 8 = .ok (.i2l, 1) := by decide +kernel
theorem dL_message_9 : decode cL_message 9 = .ok (.lastore, 1) := by decide +kernel
theorem dL_message_10 : decode cL_message 10 = .ok (.goto 11, 3) := by decide +kernel
theorem dL_message_13 : decode cL_message 13 = .ok (.astore 4, 2) := by decide +kernel
theorem dL_message_15 : decode cL_message 15 = .ok (.iconst 1, 1) := by decide +kernel
theorem dL_message_16 : decode cL_message 16 = .ok (.ireturn, 1) := by decide +kernel
theorem dL_message_17 : decode cL_message 17 = .ok (.astore 4, 2) := by decide +kernel
theorem dL_message_19 : decode cL_message 19 = .ok (.iconst 2, 1) := by decide +kernel
theorem dL_message_20 : decode cL_message 20 = .ok (.ireturn, 1) := by decide +kernel
theorem dL_message_21 : decode cL_message 21 = .ok (.iconst 0, 1) := by decide +kernel
theorem dL_message_22 : decode cL_message 22 = .ok (.ireturn, 1) := by decide +kernel
theorem dL_messageClock_0 : decode cL_messageClock 0 = .ok (.aload_n 3, 1) := by decide +kernel
theorem dL_messageClock_1 : decode cL_messageClock 1 = .ok (.iconst 0, 1) := by decide +kernel
theorem dL_messageClock_2 : decode cL_messageClock 2 = .ok (.aload_n 0, 1) := by decide +kernel
theorem dL_messageClock_3 : decode cL_messageClock 3 = .ok (.iload_n 1, 1) := by decide +kernel
theorem dL_messageClock_4 : decode cL_messageClock 4 = .ok (.iload_n 2, 1) := by decide +kernel
theorem dL_messageClock_5 : decode cL_messageClock 5 = .ok (.invokevirtual 51, 3) := by decide +kernel
theorem dL_messageClock_8 : decode cL_messageClock 8 = .ok (.i2l, 1) := by decide +kernel
theorem dL_messageClock_9 : decode cL_messageClock 9 = .ok (.lastore, 1) := by decide +kernel
theorem dL_messageClock_10 : decode cL_messageClock 10 = .ok (.goto 7, 3) := by decide +kernel
theorem dL_messageClock_13 : decode cL_messageClock 13 = .ok (.astore 4, 2) := by decide +kernel
theorem dL_messageClock_15 : decode cL_messageClock 15 = .ok (.iconst 1, 1) := by decide +kernel
theorem dL_messageClock_16 : decode cL_messageClock 16 = .ok (.ireturn, 1) := by decide +kernel
theorem dL_messageClock_17 : decode cL_messageClock 17 = .ok (.iconst 0, 1) := by decide +kernel
theorem dL_messageClock_18 : decode cL_messageClock 18 = .ok (.ireturn, 1) := by decide +kernel
theorem dL_isCause_0 : decode cL_isCause 0 = .ok (.aload_n 3, 1) := by decide +kernel
theorem dL_isCause_1 : decode cL_isCause 1 = .ok (.iconst 0, 1) := by decide +kernel
theorem dL_isCause_2 : decode cL_isCause 2 = .ok (.aload_n 0, 1) := by decide +kernel
theorem dL_isCause_3 : decode cL_isCause 3 = .ok (.iload_n 1, 1) := by decide +kernel
theorem dL_isCause_4 : decode cL_isCause 4 = .ok (.iload_n 2, 1) := by decide +kernel
theorem dL_isCause_5 : decode cL_isCause 5 = .ok (.invokevirtual 54, 3) := by decide +kernel
theorem dL_isCause_8 : decode cL_isCause 8 = .ok (.ifCond .eq 7, 3) := by decide +kernel
theorem dL_isCause_11 : decode cL_isCause 11 = .ok (.lconst 1, 1) := by decide +kernel
theorem dL_isCause_12 : decode cL_isCause 12 = .ok (.goto 4, 3) := by decide +kernel
theorem dL_isCause_15 : decode cL_isCause 15 = .ok (.lconst 0, 1) := by decide +kernel
theorem dL_isCause_16 : decode cL_isCause 16 = .ok (.lastore, 1) := by decide +kernel
theorem dL_isCause_17 : decode cL_isCause 17 = .ok (.goto 7, 3) := by decide +kernel
theorem dL_isCause_20 : decode cL_isCause 20 = .ok (.astore 4, 2) := by decide +kernel
theorem dL_isCause_22 : decode cL_isCause 22 = .ok (.iconst 1, 1) := by decide +kernel
theorem dL_isCause_23 : decode cL_isCause 23 = .ok (.ireturn, 1) := by decide +kernel
theorem dL_isCause_24 : decode cL_isCause 24 = .ok (.iconst 0, 1) := by decide +kernel
theorem dL_isCause_25 : decode cL_isCause 25 = .ok (.ireturn, 1) := by decide +kernel
theorem dL_causes_0 : decode cL_causes 0 = .ok (.aload_n 2, 1) := by decide +kernel
theorem dL_causes_1 : decode cL_causes 1 = .ok (.iconst 0, 1) := by decide +kernel
theorem dL_causes_2 : decode cL_causes 2 = .ok (.aload_n 0, 1) := by decide +kernel
theorem dL_causes_3 : decode cL_causes 3 = .ok (.iload_n 1, 1) := by decide +kernel
theorem dL_causes_4 : decode cL_causes 4 = .ok (.invokevirtual 58, 3) := by decide +kernel
theorem dL_causes_7 : decode cL_causes 7 = .ok (.i2l, 1) := by decide +kernel
theorem dL_causes_8 : decode cL_causes 8 = .ok (.lastore, 1) := by decide +kernel
theorem dL_causes_9 : decode cL_causes 9 = .ok (.goto 6, 3) := by decide +kernel
theorem dL_causes_12 : decode cL_causes 12 = .ok (.astore_n 3, 1) := by decide +kernel
theorem dL_causes_13 : decode cL_causes 13 = .ok (.iconst 1, 1) := by decide +kernel
theorem dL_causes_14 : decode cL_causes 14 = .ok (.ireturn, 1) := by decide +kernel
theorem dL_causes_15 : decode cL_causes 15 = .ok (.iconst 0, 1) := by decide +kernel
theorem dL_causes_16 : decode cL_causes 16 = .ok (.ireturn, 1) := by decide +kernel
theorem dL_concurrent_0 : decode cL_concurrent 0 = .ok (.aload_n 2, 1) := by decide +kernel
theorem dL_concurrent_1 : decode cL_concurrent 1 = .ok (.iconst 0, 1) := by decide +kernel
theorem dL_concurrent_2 : decode cL_concurrent 2 = .ok (.aload_n 0, 1) := by decide +kernel
theorem dL_concurrent_3 : decode cL_concurrent 3 = .ok (.iload_n 1, 1) := by decide +kernel
theorem dL_concurrent_4 : decode cL_concurrent 4 = .ok (.invokevirtual 61, 3) := by decide +kernel
theorem dL_concurrent_7 : decode cL_concurrent 7 = .ok (.i2l, 1) := by decide +kernel
theorem dL_concurrent_8 : decode cL_concurrent 8 = .ok (.lastore, 1) := by decide +kernel
theorem dL_concurrent_9 : decode cL_concurrent 9 = .ok (.goto 6, 3) := by decide +kernel
theorem dL_concurrent_12 : decode cL_concurrent 12 = .ok (.astore_n 3, 1) := by decide +kernel
theorem dL_concurrent_13 : decode cL_concurrent 13 = .ok (.iconst 1, 1) := by decide +kernel
theorem dL_concurrent_14 : decode cL_concurrent 14 = .ok (.ireturn, 1) := by decide +kernel
theorem dL_concurrent_15 : decode cL_concurrent 15 = .ok (.iconst 0, 1) := by decide +kernel
theorem dL_concurrent_16 : decode cL_concurrent 16 = .ok (.ireturn, 1) := by decide +kernel
theorem dL_longestChain_0 : decode cL_longestChain 0 = .ok (.aload_n 2, 1) := by decide +kernel
theorem dL_longestChain_1 : decode cL_longestChain 1 = .ok (.iconst 0, 1) := by decide +kernel
theorem dL_longestChain_2 : decode cL_longestChain 2 = .ok (.aload_n 0, 1) := by decide +kernel
theorem dL_longestChain_3 : decode cL_longestChain 3 = .ok (.iload_n 1, 1) := by decide +kernel
theorem dL_longestChain_4 : decode cL_longestChain 4 = .ok (.invokevirtual 64, 3) := by decide +kernel
theorem dL_longestChain_7 : decode cL_longestChain 7 = .ok (.i2l, 1) := by decide +kernel
theorem dL_longestChain_8 : decode cL_longestChain 8 = .ok (.lastore, 1) := by decide +kernel
theorem dL_longestChain_9 : decode cL_longestChain 9 = .ok (.goto 6, 3) := by decide +kernel
theorem dL_longestChain_12 : decode cL_longestChain 12 = .ok (.astore_n 3, 1) := by decide +kernel
theorem dL_longestChain_13 : decode cL_longestChain 13 = .ok (.iconst 1, 1) := by decide +kernel
theorem dL_longestChain_14 : decode cL_longestChain 14 = .ok (.ireturn, 1) := by decide +kernel
theorem dL_longestChain_15 : decode cL_longestChain 15 = .ok (.iconst 0, 1) := by decide +kernel
theorem dL_longestChain_16 : decode cL_longestChain 16 = .ok (.ireturn, 1) := by decide +kernel
theorem dL_logLength_0 : decode cL_logLength 0 = .ok (.aload_n 2, 1) := by decide +kernel
theorem dL_logLength_1 : decode cL_logLength 1 = .ok (.iconst 0, 1) := by decide +kernel
theorem dL_logLength_2 : decode cL_logLength 2 = .ok (.aload_n 0, 1) := by decide +kernel
theorem dL_logLength_3 : decode cL_logLength 3 = .ok (.iload_n 1, 1) := by decide +kernel
theorem dL_logLength_4 : decode cL_logLength 4 = .ok (.invokevirtual 67, 3) := by decide +kernel
theorem dL_logLength_7 : decode cL_logLength 7 = .ok (.i2l, 1) := by decide +kernel
theorem dL_logLength_8 : decode cL_logLength 8 = .ok (.lastore, 1) := by decide +kernel
theorem dL_logLength_9 : decode cL_logLength 9 = .ok (.goto 6, 3) := by decide +kernel
theorem dL_logLength_12 : decode cL_logLength 12 = .ok (.astore_n 3, 1) := by decide +kernel
theorem dL_logLength_13 : decode cL_logLength 13 = .ok (.iconst 1, 1) := by decide +kernel
theorem dL_logLength_14 : decode cL_logLength 14 = .ok (.ireturn, 1) := by decide +kernel
theorem dL_logLength_15 : decode cL_logLength 15 = .ok (.iconst 0, 1) := by decide +kernel
theorem dL_logLength_16 : decode cL_logLength 16 = .ok (.ireturn, 1) := by decide +kernel
theorem dL_logged_0 : decode cL_logged 0 = .ok (.aload_n 3, 1) := by decide +kernel
theorem dL_logged_1 : decode cL_logged 1 = .ok (.iconst 0, 1) := by decide +kernel
theorem dL_logged_2 : decode cL_logged 2 = .ok (.aload_n 0, 1) := by decide +kernel
theorem dL_logged_3 : decode cL_logged 3 = .ok (.iload_n 1, 1) := by decide +kernel
theorem dL_logged_4 : decode cL_logged 4 = .ok (.iload_n 2, 1) := by decide +kernel
theorem dL_logged_5 : decode cL_logged 5 = .ok (.invokevirtual 70, 3) := by decide +kernel
theorem dL_logged_8 : decode cL_logged 8 = .ok (.i2l, 1) := by decide +kernel
theorem dL_logged_9 : decode cL_logged 9 = .ok (.lastore, 1) := by decide +kernel
theorem dL_logged_10 : decode cL_logged 10 = .ok (.goto 7, 3) := by decide +kernel
theorem dL_logged_13 : decode cL_logged 13 = .ok (.astore 4, 2) := by decide +kernel
theorem dL_logged_15 : decode cL_logged 15 = .ok (.iconst 1, 1) := by decide +kernel
theorem dL_logged_16 : decode cL_logged 16 = .ok (.ireturn, 1) := by decide +kernel
theorem dL_logged_17 : decode cL_logged 17 = .ok (.iconst 0, 1) := by decide +kernel
theorem dL_logged_18 : decode cL_logged 18 = .ok (.ireturn, 1) := by decide +kernel
theorem dL_position_0 : decode cL_position 0 = .ok (.aload_n 3, 1) := by decide +kernel
theorem dL_position_1 : decode cL_position 1 = .ok (.iconst 0, 1) := by decide +kernel
theorem dL_position_2 : decode cL_position 2 = .ok (.aload_n 0, 1) := by decide +kernel
theorem dL_position_3 : decode cL_position 3 = .ok (.iload_n 1, 1) := by decide +kernel
theorem dL_position_4 : decode cL_position 4 = .ok (.iload_n 2, 1) := by decide +kernel
theorem dL_position_5 : decode cL_position 5 = .ok (.invokevirtual 73, 3) := by decide +kernel
theorem dL_position_8 : decode cL_position 8 = .ok (.i2l, 1) := by decide +kernel
theorem dL_position_9 : decode cL_position 9 = .ok (.lastore, 1) := by decide +kernel
theorem dL_position_10 : decode cL_position 10 = .ok (.goto 11, 3) := by decide +kernel
theorem dL_position_13 : decode cL_position 13 = .ok (.astore 4, 2) := by decide +kernel
theorem dL_position_15 : decode cL_position 15 = .ok (.iconst 1, 1) := by decide +kernel
theorem dL_position_16 : decode cL_position 16 = .ok (.ireturn, 1) := by decide +kernel
theorem dL_position_17 : decode cL_position 17 = .ok (.astore 4, 2) := by decide +kernel
theorem dL_position_19 : decode cL_position 19 = .ok (.iconst 2, 1) := by decide +kernel
theorem dL_position_20 : decode cL_position 20 = .ok (.ireturn, 1) := by decide +kernel
theorem dL_position_21 : decode cL_position 21 = .ok (.iconst 0, 1) := by decide +kernel
theorem dL_position_22 : decode cL_position 22 = .ok (.ireturn, 1) := by decide +kernel
theorem dL_state_0 : decode cL_state 0 = .ok (.aload_n 2, 1) := by decide +kernel
theorem dL_state_1 : decode cL_state 1 = .ok (.iconst 0, 1) := by decide +kernel
theorem dL_state_2 : decode cL_state 2 = .ok (.aload_n 0, 1) := by decide +kernel
theorem dL_state_3 : decode cL_state 3 = .ok (.iload_n 1, 1) := by decide +kernel
theorem dL_state_4 : decode cL_state 4 = .ok (.invokevirtual 78, 3) := by decide +kernel
theorem dL_state_7 : decode cL_state 7 = .ok (.i2l, 1) := by decide +kernel
theorem dL_state_8 : decode cL_state 8 = .ok (.lastore, 1) := by decide +kernel
theorem dL_state_9 : decode cL_state 9 = .ok (.goto 6, 3) := by decide +kernel
theorem dL_state_12 : decode cL_state 12 = .ok (.astore_n 3, 1) := by decide +kernel
theorem dL_state_13 : decode cL_state 13 = .ok (.iconst 1, 1) := by decide +kernel
theorem dL_state_14 : decode cL_state 14 = .ok (.ireturn, 1) := by decide +kernel
theorem dL_state_15 : decode cL_state 15 = .ok (.iconst 0, 1) := by decide +kernel
theorem dL_state_16 : decode cL_state 16 = .ok (.ireturn, 1) := by decide +kernel
theorem dL_clock_0 : decode cL_clock 0 = .ok (.aload_n 3, 1) := by decide +kernel
theorem dL_clock_1 : decode cL_clock 1 = .ok (.iconst 0, 1) := by decide +kernel
theorem dL_clock_2 : decode cL_clock 2 = .ok (.aload_n 0, 1) := by decide +kernel
theorem dL_clock_3 : decode cL_clock 3 = .ok (.iload_n 1, 1) := by decide +kernel
theorem dL_clock_4 : decode cL_clock 4 = .ok (.iload_n 2, 1) := by decide +kernel
theorem dL_clock_5 : decode cL_clock 5 = .ok (.invokevirtual 81, 3) := by decide +kernel
theorem dL_clock_8 : decode cL_clock 8 = .ok (.i2l, 1) := by decide +kernel
theorem dL_clock_9 : decode cL_clock 9 = .ok (.lastore, 1) := by decide +kernel
theorem dL_clock_10 : decode cL_clock 10 = .ok (.goto 11, 3) := by decide +kernel
theorem dL_clock_13 : decode cL_clock 13 = .ok (.astore 4, 2) := by decide +kernel
theorem dL_clock_15 : decode cL_clock 15 = .ok (.iconst 1, 1) := by decide +kernel
theorem dL_clock_16 : decode cL_clock 16 = .ok (.ireturn, 1) := by decide +kernel
theorem dL_clock_17 : decode cL_clock 17 = .ok (.astore 4, 2) := by decide +kernel
theorem dL_clock_19 : decode cL_clock 19 = .ok (.iconst 2, 1) := by decide +kernel
theorem dL_clock_20 : decode cL_clock 20 = .ok (.ireturn, 1) := by decide +kernel
theorem dL_clock_21 : decode cL_clock 21 = .ok (.iconst 0, 1) := by decide +kernel
theorem dL_clock_22 : decode cL_clock 22 = .ok (.ireturn, 1) := by decide +kernel
theorem dL_buffered_0 : decode cL_buffered 0 = .ok (.aload_n 2, 1) := by decide +kernel
theorem dL_buffered_1 : decode cL_buffered 1 = .ok (.iconst 0, 1) := by decide +kernel
theorem dL_buffered_2 : decode cL_buffered 2 = .ok (.aload_n 0, 1) := by decide +kernel
theorem dL_buffered_3 : decode cL_buffered 3 = .ok (.iload_n 1, 1) := by decide +kernel
theorem dL_buffered_4 : decode cL_buffered 4 = .ok (.invokevirtual 84, 3) := by decide +kernel
theorem dL_buffered_7 : decode cL_buffered 7 = .ok (.i2l, 1) := by decide +kernel
theorem dL_buffered_8 : decode cL_buffered 8 = .ok (.lastore, 1) := by decide +kernel
theorem dL_buffered_9 : decode cL_buffered 9 = .ok (.goto 9, 3) := by decide +kernel
theorem dL_buffered_12 : decode cL_buffered 12 = .ok (.astore_n 3, 1) := by decide +kernel
theorem dL_buffered_13 : decode cL_buffered 13 = .ok (.iconst 1, 1) := by decide +kernel
theorem dL_buffered_14 : decode cL_buffered 14 = .ok (.ireturn, 1) := by decide +kernel
theorem dL_buffered_15 : decode cL_buffered 15 = .ok (.astore_n 3, 1) := by decide +kernel
theorem dL_buffered_16 : decode cL_buffered 16 = .ok (.iconst 2, 1) := by decide +kernel
theorem dL_buffered_17 : decode cL_buffered 17 = .ok (.ireturn, 1) := by decide +kernel
theorem dL_buffered_18 : decode cL_buffered 18 = .ok (.iconst 0, 1) := by decide +kernel
theorem dL_buffered_19 : decode cL_buffered 19 = .ok (.ireturn, 1) := by decide +kernel
theorem dL_bufferedMessage_0 : decode cL_bufferedMessage 0 = .ok (.aload_n 3, 1) := by decide +kernel
theorem dL_bufferedMessage_1 : decode cL_bufferedMessage 1 = .ok (.iconst 0, 1) := by decide +kernel
theorem dL_bufferedMessage_2 : decode cL_bufferedMessage 2 = .ok (.aload_n 0, 1) := by decide +kernel
theorem dL_bufferedMessage_3 : decode cL_bufferedMessage 3 = .ok (.iload_n 1, 1) := by decide +kernel
theorem dL_bufferedMessage_4 : decode cL_bufferedMessage 4 = .ok (.iload_n 2, 1) := by decide +kernel
theorem dL_bufferedMessage_5 : decode cL_bufferedMessage 5 = .ok (.invokevirtual 87, 3) := by decide +kernel
theorem dL_bufferedMessage_8 : decode cL_bufferedMessage 8 = .ok (.i2l, 1) := by decide +kernel
theorem dL_bufferedMessage_9 : decode cL_bufferedMessage 9 = .ok (.lastore, 1) := by decide +kernel
theorem dL_bufferedMessage_10 : decode cL_bufferedMessage 10 = .ok (.goto 15, 3) := by decide +kernel
theorem dL_bufferedMessage_13 : decode cL_bufferedMessage 13 = .ok (.astore 4, 2) := by decide +kernel
theorem dL_bufferedMessage_15 : decode cL_bufferedMessage 15 = .ok (.iconst 1, 1) := by decide +kernel
theorem dL_bufferedMessage_16 : decode cL_bufferedMessage 16 = .ok (.ireturn, 1) := by decide +kernel
theorem dL_bufferedMessage_17 : decode cL_bufferedMessage 17 = .ok (.astore 4, 2) := by decide +kernel
theorem dL_bufferedMessage_19 : decode cL_bufferedMessage 19 = .ok (.iconst 2, 1) := by decide +kernel
theorem dL_bufferedMessage_20 : decode cL_bufferedMessage 20 = .ok (.ireturn, 1) := by decide +kernel
theorem dL_bufferedMessage_21 : decode cL_bufferedMessage 21 = .ok (.astore 4, 2) := by decide +kernel
theorem dL_bufferedMessage_23 : decode cL_bufferedMessage 23 = .ok (.iconst 3, 1) := by decide +kernel
theorem dL_bufferedMessage_24 : decode cL_bufferedMessage 24 = .ok (.ireturn, 1) := by decide +kernel
theorem dL_bufferedMessage_25 : decode cL_bufferedMessage 25 = .ok (.iconst 0, 1) := by decide +kernel
theorem dL_bufferedMessage_26 : decode cL_bufferedMessage 26 = .ok (.ireturn, 1) := by decide +kernel
theorem dL_missing_0 : decode cL_missing 0 = .ok (.aload_n 3, 1) := by decide +kernel
theorem dL_missing_1 : decode cL_missing 1 = .ok (.iconst 0, 1) := by decide +kernel
theorem dL_missing_2 : decode cL_missing 2 = .ok (.aload_n 0, 1) := by decide +kernel
theorem dL_missing_3 : decode cL_missing 3 = .ok (.iload_n 1, 1) := by decide +kernel
theorem dL_missing_4 : decode cL_missing 4 = .ok (.iload_n 2, 1) := by decide +kernel
theorem dL_missing_5 : decode cL_missing 5 = .ok (.invokevirtual 90, 3) := by decide +kernel
theorem dL_missing_8 : decode cL_missing 8 = .ok (.i2l, 1) := by decide +kernel
theorem dL_missing_9 : decode cL_missing 9 = .ok (.lastore, 1) := by decide +kernel
theorem dL_missing_10 : decode cL_missing 10 = .ok (.goto 11, 3) := by decide +kernel
theorem dL_missing_13 : decode cL_missing 13 = .ok (.astore 4, 2) := by decide +kernel
theorem dL_missing_15 : decode cL_missing 15 = .ok (.iconst 1, 1) := by decide +kernel
theorem dL_missing_16 : decode cL_missing 16 = .ok (.ireturn, 1) := by decide +kernel
theorem dL_missing_17 : decode cL_missing 17 = .ok (.astore 4, 2) := by decide +kernel
theorem dL_missing_19 : decode cL_missing 19 = .ok (.iconst 2, 1) := by decide +kernel
theorem dL_missing_20 : decode cL_missing 20 = .ok (.ireturn, 1) := by decide +kernel
theorem dL_missing_21 : decode cL_missing 21 = .ok (.iconst 0, 1) := by decide +kernel
theorem dL_missing_22 : decode cL_missing 22 = .ok (.ireturn, 1) := by decide +kernel
theorem dL_inTransit_0 : decode cL_inTransit 0 = .ok (.aload_n 2, 1) := by decide +kernel
theorem dL_inTransit_1 : decode cL_inTransit 1 = .ok (.iconst 0, 1) := by decide +kernel
theorem dL_inTransit_2 : decode cL_inTransit 2 = .ok (.aload_n 0, 1) := by decide +kernel
theorem dL_inTransit_3 : decode cL_inTransit 3 = .ok (.iload_n 1, 1) := by decide +kernel
theorem dL_inTransit_4 : decode cL_inTransit 4 = .ok (.invokevirtual 93, 3) := by decide +kernel
theorem dL_inTransit_7 : decode cL_inTransit 7 = .ok (.i2l, 1) := by decide +kernel
theorem dL_inTransit_8 : decode cL_inTransit 8 = .ok (.lastore, 1) := by decide +kernel
theorem dL_inTransit_9 : decode cL_inTransit 9 = .ok (.goto 9, 3) := by decide +kernel
theorem dL_inTransit_12 : decode cL_inTransit 12 = .ok (.astore_n 3, 1) := by decide +kernel
theorem dL_inTransit_13 : decode cL_inTransit 13 = .ok (.iconst 1, 1) := by decide +kernel
theorem dL_inTransit_14 : decode cL_inTransit 14 = .ok (.ireturn, 1) := by decide +kernel
theorem dL_inTransit_15 : decode cL_inTransit 15 = .ok (.astore_n 3, 1) := by decide +kernel
theorem dL_inTransit_16 : decode cL_inTransit 16 = .ok (.iconst 2, 1) := by decide +kernel
theorem dL_inTransit_17 : decode cL_inTransit 17 = .ok (.ireturn, 1) := by decide +kernel
theorem dL_inTransit_18 : decode cL_inTransit 18 = .ok (.iconst 0, 1) := by decide +kernel
theorem dL_inTransit_19 : decode cL_inTransit 19 = .ok (.ireturn, 1) := by decide +kernel
theorem dL_disagreements_0 : decode cL_disagreements 0 = .ok (.aload_n 3, 1) := by decide +kernel
theorem dL_disagreements_1 : decode cL_disagreements 1 = .ok (.iconst 0, 1) := by decide +kernel
theorem dL_disagreements_2 : decode cL_disagreements 2 = .ok (.aload_n 0, 1) := by decide +kernel
theorem dL_disagreements_3 : decode cL_disagreements 3 = .ok (.iload_n 1, 1) := by decide +kernel
theorem dL_disagreements_4 : decode cL_disagreements 4 = .ok (.iload_n 2, 1) := by decide +kernel
theorem dL_disagreements_5 : decode cL_disagreements 5 = .ok (.invokevirtual 96, 3) := by decide +kernel
theorem dL_disagreements_8 : decode cL_disagreements 8 = .ok (.i2l, 1) := by decide +kernel
theorem dL_disagreements_9 : decode cL_disagreements 9 = .ok (.lastore, 1) := by decide +kernel
theorem dL_disagreements_10 : decode cL_disagreements 10 = .ok (.goto 7, 3) := by decide +kernel
theorem dL_disagreements_13 : decode cL_disagreements 13 = .ok (.astore 4, 2) := by decide +kernel
theorem dL_disagreements_15 : decode cL_disagreements 15 = .ok (.iconst 1, 1) := by decide +kernel
theorem dL_disagreements_16 : decode cL_disagreements 16 = .ok (.ireturn, 1) := by decide +kernel
theorem dL_disagreements_17 : decode cL_disagreements 17 = .ok (.iconst 0, 1) := by decide +kernel
theorem dL_disagreements_18 : decode cL_disagreements 18 = .ok (.ireturn, 1) := by decide +kernel
theorem dL_overlap_0 : decode cL_overlap 0 = .ok (.aload_n 3, 1) := by decide +kernel
theorem dL_overlap_1 : decode cL_overlap 1 = .ok (.iconst 0, 1) := by decide +kernel
theorem dL_overlap_2 : decode cL_overlap 2 = .ok (.aload_n 0, 1) := by decide +kernel
theorem dL_overlap_3 : decode cL_overlap 3 = .ok (.iload_n 1, 1) := by decide +kernel
theorem dL_overlap_4 : decode cL_overlap 4 = .ok (.iload_n 2, 1) := by decide +kernel
theorem dL_overlap_5 : decode cL_overlap 5 = .ok (.invokevirtual 99, 3) := by decide +kernel
theorem dL_overlap_8 : decode cL_overlap 8 = .ok (.dastore, 1) := by decide +kernel
theorem dL_overlap_9 : decode cL_overlap 9 = .ok (.goto 11, 3) := by decide +kernel
theorem dL_overlap_12 : decode cL_overlap 12 = .ok (.astore 4, 2) := by decide +kernel
theorem dL_overlap_14 : decode cL_overlap 14 = .ok (.iconst 1, 1) := by decide +kernel
theorem dL_overlap_15 : decode cL_overlap 15 = .ok (.ireturn, 1) := by decide +kernel
theorem dL_overlap_16 : decode cL_overlap 16 = .ok (.astore 4, 2) := by decide +kernel
theorem dL_overlap_18 : decode cL_overlap 18 = .ok (.iconst 2, 1) := by decide +kernel
theorem dL_overlap_19 : decode cL_overlap 19 = .ok (.ireturn, 1) := by decide +kernel
theorem dL_overlap_20 : decode cL_overlap 20 = .ok (.iconst 0, 1) := by decide +kernel
theorem dL_overlap_21 : decode cL_overlap 21 = .ok (.ireturn, 1) := by decide +kernel
theorem dL_known_0 : decode cL_known 0 = .ok (.aload 4, 2) := by decide +kernel
theorem dL_known_2 : decode cL_known 2 = .ok (.iconst 0, 1) := by decide +kernel
theorem dL_known_3 : decode cL_known 3 = .ok (.aload_n 0, 1) := by decide +kernel
theorem dL_known_4 : decode cL_known 4 = .ok (.iload_n 1, 1) := by decide +kernel
theorem dL_known_5 : decode cL_known 5 = .ok (.iload_n 2, 1) := by decide +kernel
theorem dL_known_6 : decode cL_known 6 = .ok (.iload_n 3, 1) := by decide +kernel
theorem dL_known_7 : decode cL_known 7 = .ok (.invokevirtual 105, 3) := by decide +kernel
theorem dL_known_10 : decode cL_known 10 = .ok (.i2l, 1) := by decide +kernel
theorem dL_known_11 : decode cL_known 11 = .ok (.lastore, 1) := by decide +kernel
theorem dL_known_12 : decode cL_known 12 = .ok (.goto 11, 3) := by decide +kernel
theorem dL_known_15 : decode cL_known 15 = .ok (.astore 5, 2) := by decide +kernel
theorem dL_known_17 : decode cL_known 17 = .ok (.iconst 1, 1) := by decide +kernel
theorem dL_known_18 : decode cL_known 18 = .ok (.ireturn, 1) := by decide +kernel
theorem dL_known_19 : decode cL_known 19 = .ok (.astore 5, 2) := by decide +kernel
theorem dL_known_21 : decode cL_known 21 = .ok (.iconst 2, 1) := by decide +kernel
theorem dL_known_22 : decode cL_known 22 = .ok (.ireturn, 1) := by decide +kernel
theorem dL_known_23 : decode cL_known 23 = .ok (.iconst 0, 1) := by decide +kernel
theorem dL_known_24 : decode cL_known 24 = .ok (.ireturn, 1) := by decide +kernel
theorem dL_isStable_0 : decode cL_isStable 0 = .ok (.aload_n 3, 1) := by decide +kernel
theorem dL_isStable_1 : decode cL_isStable 1 = .ok (.iconst 0, 1) := by decide +kernel
theorem dL_isStable_2 : decode cL_isStable 2 = .ok (.aload_n 0, 1) := by decide +kernel
theorem dL_isStable_3 : decode cL_isStable 3 = .ok (.iload_n 1, 1) := by decide +kernel
theorem dL_isStable_4 : decode cL_isStable 4 = .ok (.iload_n 2, 1) := by decide +kernel
theorem dL_isStable_5 : decode cL_isStable 5 = .ok (.invokevirtual 109, 3) := by decide +kernel
theorem dL_isStable_8 : decode cL_isStable 8 = .ok (.ifCond .eq 7, 3) := by decide +kernel
theorem dL_isStable_11 : decode cL_isStable 11 = .ok (.lconst 1, 1) := by decide +kernel
theorem dL_isStable_12 : decode cL_isStable 12 = .ok (.goto 4, 3) := by decide +kernel
theorem dL_isStable_15 : decode cL_isStable 15 = .ok (.lconst 0, 1) := by decide +kernel
theorem dL_isStable_16 : decode cL_isStable 16 = .ok (.lastore, 1) := by decide +kernel
theorem dL_isStable_17 : decode cL_isStable 17 = .ok (.goto 15, 3) := by decide +kernel
theorem dL_isStable_20 : decode cL_isStable 20 = .ok (.astore 4, 2) := by decide +kernel
theorem dL_isStable_22 : decode cL_isStable 22 = .ok (.iconst 1, 1) := by decide +kernel
theorem dL_isStable_23 : decode cL_isStable 23 = .ok (.ireturn, 1) := by decide +kernel
theorem dL_isStable_24 : decode cL_isStable 24 = .ok (.astore 4, 2) := by decide +kernel
theorem dL_isStable_26 : decode cL_isStable 26 = .ok (.iconst 2, 1) := by decide +kernel
theorem dL_isStable_27 : decode cL_isStable 27 = .ok (.ireturn, 1) := by decide +kernel
theorem dL_isStable_28 : decode cL_isStable 28 = .ok (.astore 4, 2) := by decide +kernel
theorem dL_isStable_30 : decode cL_isStable 30 = .ok (.iconst 3, 1) := by decide +kernel
theorem dL_isStable_31 : decode cL_isStable 31 = .ok (.ireturn, 1) := by decide +kernel
theorem dL_isStable_32 : decode cL_isStable 32 = .ok (.iconst 0, 1) := by decide +kernel
theorem dL_isStable_33 : decode cL_isStable 33 = .ok (.ireturn, 1) := by decide +kernel
theorem dL_unstable_0 : decode cL_unstable 0 = .ok (.aload_n 2, 1) := by decide +kernel
theorem dL_unstable_1 : decode cL_unstable 1 = .ok (.iconst 0, 1) := by decide +kernel
theorem dL_unstable_2 : decode cL_unstable 2 = .ok (.aload_n 0, 1) := by decide +kernel
theorem dL_unstable_3 : decode cL_unstable 3 = .ok (.iload_n 1, 1) := by decide +kernel
theorem dL_unstable_4 : decode cL_unstable 4 = .ok (.invokevirtual 112, 3) := by decide +kernel
theorem dL_unstable_7 : decode cL_unstable 7 = .ok (.i2l, 1) := by decide +kernel
theorem dL_unstable_8 : decode cL_unstable 8 = .ok (.lastore, 1) := by decide +kernel
theorem dL_unstable_9 : decode cL_unstable 9 = .ok (.goto 9, 3) := by decide +kernel
theorem dL_unstable_12 : decode cL_unstable 12 = .ok (.astore_n 3, 1) := by decide +kernel
theorem dL_unstable_13 : decode cL_unstable 13 = .ok (.iconst 1, 1) := by decide +kernel
theorem dL_unstable_14 : decode cL_unstable 14 = .ok (.ireturn, 1) := by decide +kernel
theorem dL_unstable_15 : decode cL_unstable 15 = .ok (.astore_n 3, 1) := by decide +kernel
theorem dL_unstable_16 : decode cL_unstable 16 = .ok (.iconst 2, 1) := by decide +kernel
theorem dL_unstable_17 : decode cL_unstable 17 = .ok (.ireturn, 1) := by decide +kernel
theorem dL_unstable_18 : decode cL_unstable 18 = .ok (.iconst 0, 1) := by decide +kernel
theorem dL_unstable_19 : decode cL_unstable 19 = .ok (.ireturn, 1) := by decide +kernel
theorem dL_isEverywhere_0 : decode cL_isEverywhere 0 = .ok (.aload_n 2, 1) := by decide +kernel
theorem dL_isEverywhere_1 : decode cL_isEverywhere 1 = .ok (.iconst 0, 1) := by decide +kernel
theorem dL_isEverywhere_2 : decode cL_isEverywhere 2 = .ok (.aload_n 0, 1) := by decide +kernel
theorem dL_isEverywhere_3 : decode cL_isEverywhere 3 = .ok (.iload_n 1, 1) := by decide +kernel
theorem dL_isEverywhere_4 : decode cL_isEverywhere 4 = .ok (.invokevirtual 115, 3) := by decide +kernel
theorem dL_isEverywhere_7 : decode cL_isEverywhere 7 = .ok (.ifCond .eq 7, 3) := by decide +kernel
theorem dL_isEverywhere_10 : decode cL_isEverywhere 10 = .ok (.lconst 1, 1) := by decide +kernel
theorem dL_isEverywhere_11 : decode cL_isEverywhere 11 = .ok (.goto 4, 3) := by decide +kernel
theorem dL_isEverywhere_14 : decode cL_isEverywhere 14 = .ok (.lconst 0, 1) := by decide +kernel
theorem dL_isEverywhere_15 : decode cL_isEverywhere 15 = .ok (.lastore, 1) := by decide +kernel
theorem dL_isEverywhere_16 : decode cL_isEverywhere 16 = .ok (.goto 6, 3) := by decide +kernel
theorem dL_isEverywhere_19 : decode cL_isEverywhere 19 = .ok (.astore_n 3, 1) := by decide +kernel
theorem dL_isEverywhere_20 : decode cL_isEverywhere 20 = .ok (.iconst 1, 1) := by decide +kernel
theorem dL_isEverywhere_21 : decode cL_isEverywhere 21 = .ok (.ireturn, 1) := by decide +kernel
theorem dL_isEverywhere_22 : decode cL_isEverywhere 22 = .ok (.iconst 0, 1) := by decide +kernel
theorem dL_isEverywhere_23 : decode cL_isEverywhere 23 = .ok (.ireturn, 1) := by decide +kernel
theorem dL_firstUnaware_0 : decode cL_firstUnaware 0 = .ok (.aload_n 2, 1) := by decide +kernel
theorem dL_firstUnaware_1 : decode cL_firstUnaware 1 = .ok (.iconst 0, 1) := by decide +kernel
theorem dL_firstUnaware_2 : decode cL_firstUnaware 2 = .ok (.aload_n 0, 1) := by decide +kernel
theorem dL_firstUnaware_3 : decode cL_firstUnaware 3 = .ok (.iload_n 1, 1) := by decide +kernel
theorem dL_firstUnaware_4 : decode cL_firstUnaware 4 = .ok (.invokevirtual 119, 3) := by decide +kernel
theorem dL_firstUnaware_7 : decode cL_firstUnaware 7 = .ok (.i2l, 1) := by decide +kernel
theorem dL_firstUnaware_8 : decode cL_firstUnaware 8 = .ok (.lastore, 1) := by decide +kernel
theorem dL_firstUnaware_9 : decode cL_firstUnaware 9 = .ok (.goto 9, 3) := by decide +kernel
theorem dL_firstUnaware_12 : decode cL_firstUnaware 12 = .ok (.astore_n 3, 1) := by decide +kernel
theorem dL_firstUnaware_13 : decode cL_firstUnaware 13 = .ok (.iconst 1, 1) := by decide +kernel
theorem dL_firstUnaware_14 : decode cL_firstUnaware 14 = .ok (.ireturn, 1) := by decide +kernel
theorem dL_firstUnaware_15 : decode cL_firstUnaware 15 = .ok (.astore_n 3, 1) := by decide +kernel
theorem dL_firstUnaware_16 : decode cL_firstUnaware 16 = .ok (.iconst 2, 1) := by decide +kernel
theorem dL_firstUnaware_17 : decode cL_firstUnaware 17 = .ok (.ireturn, 1) := by decide +kernel
theorem dL_firstUnaware_18 : decode cL_firstUnaware 18 = .ok (.iconst 0, 1) := by decide +kernel
theorem dL_firstUnaware_19 : decode cL_firstUnaware 19 = .ok (.ireturn, 1) := by decide +kernel
theorem dL_append_0 : decode cL_append 0 = .ok (.aload_n 2, 1) := by decide +kernel
theorem dL_append_1 : decode cL_append 1 = .ok (.iconst 0, 1) := by decide +kernel
theorem dL_append_2 : decode cL_append 2 = .ok (.aload_n 0, 1) := by decide +kernel
theorem dL_append_3 : decode cL_append 3 = .ok (.iload_n 1, 1) := by decide +kernel
theorem dL_append_4 : decode cL_append 4 = .ok (.invokevirtual 122, 3) := by decide +kernel
theorem dL_append_7 : decode cL_append 7 = .ok (.i2l, 1) := by decide +kernel
theorem dL_append_8 : decode cL_append 8 = .ok (.lastore, 1) := by decide +kernel
theorem dL_append_9 : decode cL_append 9 = .ok (.goto 9, 3) := by decide +kernel
theorem dL_append_12 : decode cL_append 12 = .ok (.astore_n 3, 1) := by decide +kernel
theorem dL_append_13 : decode cL_append 13 = .ok (.iconst 1, 1) := by decide +kernel
theorem dL_append_14 : decode cL_append 14 = .ok (.ireturn, 1) := by decide +kernel
theorem dL_append_15 : decode cL_append 15 = .ok (.astore_n 3, 1) := by decide +kernel
theorem dL_append_16 : decode cL_append 16 = .ok (.iconst 2, 1) := by decide +kernel
theorem dL_append_17 : decode cL_append 17 = .ok (.ireturn, 1) := by decide +kernel
theorem dL_append_18 : decode cL_append 18 = .ok (.iconst 0, 1) := by decide +kernel
theorem dL_append_19 : decode cL_append 19 = .ok (.ireturn, 1) := by decide +kernel
theorem dL_run_0 : decode cL_run 0 = .ok (.aload_n 1, 1) := by decide +kernel
theorem dL_run_1 : decode cL_run 1 = .ok (.iconst 0, 1) := by decide +kernel
theorem dL_run_2 : decode cL_run 2 = .ok (.aload_n 0, 1) := by decide +kernel
theorem dL_run_3 : decode cL_run 3 = .ok (.invokevirtual 126, 3) := by decide +kernel
theorem dL_run_6 : decode cL_run 6 = .ok (.i2l, 1) := by decide +kernel
theorem dL_run_7 : decode cL_run 7 = .ok (.lastore, 1) := by decide +kernel
theorem dL_run_8 : decode cL_run 8 = .ok (.goto 9, 3) := by decide +kernel
theorem dL_run_11 : decode cL_run 11 = .ok (.astore_n 2, 1) := by decide +kernel
theorem dL_run_12 : decode cL_run 12 = .ok (.iconst 1, 1) := by decide +kernel
theorem dL_run_13 : decode cL_run 13 = .ok (.ireturn, 1) := by decide +kernel
theorem dL_run_14 : decode cL_run 14 = .ok (.astore_n 2, 1) := by decide +kernel
theorem dL_run_15 : decode cL_run 15 = .ok (.iconst 2, 1) := by decide +kernel
theorem dL_run_16 : decode cL_run 16 = .ok (.ireturn, 1) := by decide +kernel
theorem dL_run_17 : decode cL_run 17 = .ok (.iconst 0, 1) := by decide +kernel
theorem dL_run_18 : decode cL_run 18 = .ok (.ireturn, 1) := by decide +kernel
theorem dL_errorPosition_0 : decode cL_errorPosition 0 = .ok (.aload_n 1, 1) := by decide +kernel
theorem dL_errorPosition_1 : decode cL_errorPosition 1 = .ok (.iconst 0, 1) := by decide +kernel
theorem dL_errorPosition_2 : decode cL_errorPosition 2 = .ok (.aload_n 0, 1) := by decide +kernel
theorem dL_errorPosition_3 : decode cL_errorPosition 3 = .ok (.invokevirtual 129, 3) := by decide +kernel
theorem dL_errorPosition_6 : decode cL_errorPosition 6 = .ok (.i2l, 1) := by decide +kernel
theorem dL_errorPosition_7 : decode cL_errorPosition 7 = .ok (.lastore, 1) := by decide +kernel
theorem dL_errorPosition_8 : decode cL_errorPosition 8 = .ok (.goto 6, 3) := by decide +kernel
theorem dL_errorPosition_11 : decode cL_errorPosition 11 = .ok (.astore_n 2, 1) := by decide +kernel
theorem dL_errorPosition_12 : decode cL_errorPosition 12 = .ok (.iconst 1, 1) := by decide +kernel
theorem dL_errorPosition_13 : decode cL_errorPosition 13 = .ok (.ireturn, 1) := by decide +kernel
theorem dL_errorPosition_14 : decode cL_errorPosition 14 = .ok (.iconst 0, 1) := by decide +kernel
theorem dL_errorPosition_15 : decode cL_errorPosition 15 = .ok (.ireturn, 1) := by decide +kernel
theorem dL_restoreSnapshot_0 : decode cL_restoreSnapshot 0 = .ok (.aload_n 1, 1) := by decide +kernel
theorem dL_restoreSnapshot_1 : decode cL_restoreSnapshot 1 = .ok (.iconst 0, 1) := by decide +kernel
theorem dL_restoreSnapshot_2 : decode cL_restoreSnapshot 2 = .ok (.aload_n 0, 1) := by decide +kernel
theorem dL_restoreSnapshot_3 : decode cL_restoreSnapshot 3 = .ok (.invokevirtual 132, 3) := by decide +kernel
theorem dL_restoreSnapshot_6 : decode cL_restoreSnapshot 6 = .ok (.i2l, 1) := by decide +kernel
theorem dL_restoreSnapshot_7 : decode cL_restoreSnapshot 7 = .ok (.lastore, 1) := by decide +kernel
theorem dL_restoreSnapshot_8 : decode cL_restoreSnapshot 8 = .ok (.goto 6, 3) := by decide +kernel
theorem dL_restoreSnapshot_11 : decode cL_restoreSnapshot 11 = .ok (.astore_n 2, 1) := by decide +kernel
theorem dL_restoreSnapshot_12 : decode cL_restoreSnapshot 12 = .ok (.iconst 1, 1) := by decide +kernel
theorem dL_restoreSnapshot_13 : decode cL_restoreSnapshot 13 = .ok (.ireturn, 1) := by decide +kernel
theorem dL_restoreSnapshot_14 : decode cL_restoreSnapshot 14 = .ok (.iconst 0, 1) := by decide +kernel
theorem dL_restoreSnapshot_15 : decode cL_restoreSnapshot 15 = .ok (.ireturn, 1) := by decide +kernel
theorem dL_law_0 : decode cL_law 0 = .ok (.new 8, 3) := by decide +kernel
theorem dL_law_3 : decode cL_law 3 = .ok (.dup, 1) := by decide +kernel
theorem dL_law_4 : decode cL_law 4 = .ok (.invokespecial 135, 3) := by decide +kernel
theorem dL_law_7 : decode cL_law 7 = .ok (.astore_n 1, 1) := by decide +kernel
theorem dL_law_8 : decode cL_law 8 = .ok (.new 136, 3) := by decide +kernel
theorem dL_law_11 : decode cL_law 11 = .ok (.dup, 1) := by decide +kernel
theorem dL_law_12 : decode cL_law 12 = .ok (.invokespecial 138, 3) := by decide +kernel
theorem dL_law_15 : decode cL_law 15 = .ok (.astore_n 2, 1) := by decide +kernel
theorem dL_law_16 : decode cL_law 16 = .ok (.iconst 1, 1) := by decide +kernel
theorem dL_law_17 : decode cL_law 17 = .ok (.newarray .long, 2) := by decide +kernel
theorem dL_law_19 : decode cL_law 19 = .ok (.astore_n 3, 1) := by decide +kernel
theorem dL_law_20 : decode cL_law 20 = .ok (.iconst 1, 1) := by decide +kernel
theorem dL_law_21 : decode cL_law 21 = .ok (.newarray .double, 2) := by decide +kernel
theorem dL_law_23 : decode cL_law 23 = .ok (.astore 4, 2) := by decide +kernel
theorem dL_law_25 : decode cL_law 25 = .ok (.iconst 0, 1) := by decide +kernel
theorem dL_law_26 : decode cL_law 26 = .ok (.istore 5, 2) := by decide +kernel
theorem dL_law_28 : decode cL_law 28 = .ok (.iload 5, 2) := by decide +kernel
theorem dL_law_30 : decode cL_law 30 = .ok (.aload_n 0, 1) := by decide +kernel
theorem dL_law_31 : decode cL_law 31 = .ok (.arraylength, 1) := by decide +kernel
theorem dL_law_32 : decode cL_law 32 = .ok (.iconst 4, 1) := by decide +kernel
theorem dL_law_33 : decode cL_law 33 = .ok (.isub, 1) := by decide +kernel
theorem dL_law_34 : decode cL_law 34 = .ok (.if_icmp .gt 2465, 3) := by decide +kernel
theorem dL_law_37 : decode cL_law 37 = .ok (.aload_n 0, 1) := by decide +kernel
theorem dL_law_38 : decode cL_law 38 = .ok (.iload 5, 2) := by decide +kernel
theorem dL_law_40 : decode cL_law 40 = .ok (.iaload, 1) := by decide +kernel
theorem dL_law_41 : decode cL_law 41 = .ok (.bipush 63, 2) := by decide +kernel
theorem dL_law_43 : decode cL_law 43 = .ok (.iand, 1) := by decide +kernel
theorem dL_law_44 : decode cL_law 44 = .ok (.tableswitch 2449 0 40 #[180, 236, 249, 305, 361, 374, 430, 486, 530, 598, 666, 722, 790, 803, 871, 939, 1014, 1070, 1126, 1182, 1195, 1251, 1319, 1387, 1443, 1511, 1567, 1635, 1703, 1759, 1827, 1916, 1996, 2071, 2127, 2190, 2246, 2304, 2348, 2392, 2405], 180) := by decide +kernel
theorem dL_law_224 : decode cL_law 224 = .ok (.aload_n 1, 1) := by decide +kernel
theorem dL_law_225 : decode cL_law 225 = .ok (.aload_n 0, 1) := by decide +kernel
theorem dL_law_226 : decode cL_law 226 = .ok (.iload 5, 2) := by decide +kernel
theorem dL_law_228 : decode cL_law 228 = .ok (.iconst 1, 1) := by decide +kernel
theorem dL_law_229 : decode cL_law 229 = .ok (.iadd, 1) := by decide +kernel
theorem dL_law_230 : decode cL_law 230 = .ok (.iaload, 1) := by decide +kernel
theorem dL_law_231 : decode cL_law 231 = .ok (.aload_n 3, 1) := by decide +kernel
theorem dL_law_232 : decode cL_law 232 = .ok (.invokestatic 139, 3) := by decide +kernel
theorem dL_law_235 : decode cL_law 235 = .ok (.istore 6, 2) := by decide +kernel
theorem dL_law_237 : decode cL_law 237 = .ok (.aload_n 2, 1) := by decide +kernel
theorem dL_law_238 : decode cL_law 238 = .ok (.aload_n 0, 1) := by decide +kernel
theorem dL_law_239 : decode cL_law 239 = .ok (.iload 5, 2) := by decide +kernel
theorem dL_law_241 : decode cL_law 241 = .ok (.iconst 1, 1) := by decide +kernel
theorem dL_law_242 : decode cL_law 242 = .ok (.iadd, 1) := by decide +kernel
theorem dL_law_243 : decode cL_law 243 = .ok (.iaload, 1) := by decide +kernel
theorem dL_law_244 : decode cL_law 244 = .ok (.invokevirtual 144, 3) := by decide +kernel
theorem dL_law_247 : decode cL_law 247 = .ok (.istore 7, 2) := by decide +kernel
theorem dL_law_249 : decode cL_law 249 = .ok (.aload_n 2, 1) := by decide +kernel
theorem dL_law_250 : decode cL_law 250 = .ok (.invokevirtual 145, 3) := by decide +kernel
theorem dL_law_253 : decode cL_law 253 = .ok (.iload 6, 2) := by decide +kernel
theorem dL_law_255 : decode cL_law 255 = .ok (.if_icmp .eq 5, 3) := by decide +kernel
theorem dL_law_258 : decode cL_law 258 = .ok (.iconst 0, 1) := by decide +kernel
theorem dL_law_259 : decode cL_law 259 = .ok (.ireturn, 1) := by decide +kernel
theorem dL_law_260 : decode cL_law 260 = .ok (.iload 6, 2) := by decide +kernel
theorem dL_law_262 : decode cL_law 262 = .ok (.ifCond .ne 15, 3) := by decide +kernel
theorem dL_law_265 : decode cL_law 265 = .ok (.aload_n 3, 1) := by decide +kernel
theorem dL_law_266 : decode cL_law 266 = .ok (.iconst 0, 1) := by decide +kernel
theorem dL_law_267 : decode cL_law 267 = .ok (.laload, 1) := by decide +kernel
theorem dL_law_268 : decode cL_law 268 = .ok (.iload 7, 2) := by decide +kernel
theorem dL_law_270 : decode cL_law 270 = .ok (.i2l, 1) := by decide +kernel
theorem dL_law_271 : decode cL_law 271 = .ok (.lcmp, 1) := by decide +kernel
theorem dL_law_272 : decode cL_law 272 = .ok (.ifCond .eq 5, 3) := by decide +kernel
theorem dL_law_275 : decode cL_law 275 = .ok (.iconst 0, 1) := by decide +kernel
theorem dL_law_276 : decode cL_law 276 = .ok (.ireturn, 1) := by decide +kernel
theorem dL_law_277 : decode cL_law 277 = .ok (.goto 2216, 3) := by decide +kernel
theorem dL_law_280 : decode cL_law 280 = .ok (.aload_n 1, 1) := by decide +kernel
theorem dL_law_281 : decode cL_law 281 = .ok (.invokevirtual 148, 3) := by decide +kernel
theorem dL_law_284 : decode cL_law 284 = .ok (.aload_n 2, 1) := by decide +kernel
theorem dL_law_285 : decode cL_law 285 = .ok (.invokevirtual 151, 3) := by decide +kernel
theorem dL_law_288 : decode cL_law 288 = .ok (.if_icmp .eq 2205, 3) := by decide +kernel
theorem dL_law_291 : decode cL_law 291 = .ok (.iconst 0, 1) := by decide +kernel
theorem dL_law_292 : decode cL_law 292 = .ok (.ireturn, 1) := by decide +kernel
theorem dL_law_293 : decode cL_law 293 = .ok (.aload_n 1, 1) := by decide +kernel
theorem dL_law_294 : decode cL_law 294 = .ok (.aload_n 0, 1) := by decide +kernel
theorem dL_law_295 : decode cL_law 295 = .ok (.iload 5, 2) := by decide +kernel
theorem dL_law_297 : decode cL_law 297 = .ok (.iconst 1, 1) := by decide +kernel
theorem dL_law_298 : decode cL_law 298 = .ok (.iadd, 1) := by decide +kernel
theorem dL_law_299 : decode cL_law 299 = .ok (.iaload, 1) := by decide +kernel
theorem dL_law_300 : decode cL_law 300 = .ok (.aload_n 3, 1) := by decide +kernel
theorem dL_law_301 : decode cL_law 301 = .ok (.invokestatic 152, 3) := by decide +kernel
theorem dL_law_304 : decode cL_law 304 = .ok (.istore 6, 2) := by decide +kernel
theorem dL_law_306 : decode cL_law 306 = .ok (.aload_n 2, 1) := by decide +kernel
theorem dL_law_307 : decode cL_law 307 = .ok (.aload_n 0, 1) := by decide +kernel
theorem dL_law_308 : decode cL_law 308 = .ok (.iload 5, 2) := by decide +kernel
theorem dL_law_310 : decode cL_law 310 = .ok (.iconst 1, 1) := by decide +kernel
theorem dL_law_311 : decode cL_law 311 = .ok (.iadd, 1) := by decide +kernel
theorem dL_law_312 : decode cL_law 312 = .ok (.iaload, 1) := by decide +kernel
theorem dL_law_313 : decode cL_law 313 = .ok (.invokevirtual 154, 3) := by decide +kernel
theorem dL_law_316 : decode cL_law 316 = .ok (.istore 7, 2) := by decide +kernel
theorem dL_law_318 : decode cL_law 318 = .ok (.aload_n 2, 1) := by decide +kernel
theorem dL_law_319 : decode cL_law 319 = .ok (.invokevirtual 145, 3) := by decide +kernel
theorem dL_law_322 : decode cL_law 322 = .ok (.iload 6, 2) := by decide +kernel
theorem dL_law_324 : decode cL_law 324 = .ok (.if_icmp .eq 5, 3) := by decide +kernel
theorem dL_law_327 : decode cL_law 327 = .ok (.iconst 0, 1) := by decide +kernel
theorem dL_law_328 : decode cL_law 328 = .ok (.ireturn, 1) := by decide +kernel
theorem dL_law_329 : decode cL_law 329 = .ok (.iload 6, 2) := by decide +kernel
theorem dL_law_331 : decode cL_law 331 = .ok (.ifCond .ne 15, 3) := by decide +kernel
theorem dL_law_334 : decode cL_law 334 = .ok (.aload_n 3, 1) := by decide +kernel
theorem dL_law_335 : decode cL_law 335 = .ok (.iconst 0, 1) := by decide +kernel
theorem dL_law_336 : decode cL_law 336 = .ok (.laload, 1) := by decide +kernel
theorem dL_law_337 : decode cL_law 337 = .ok (.iload 7, 2) := by decide +kernel
theorem dL_law_339 : decode cL_law 339 = .ok (.i2l, 1) := by decide +kernel
theorem dL_law_340 : decode cL_law 340 = .ok (.lcmp, 1) := by decide +kernel
theorem dL_law_341 : decode cL_law 341 = .ok (.ifCond .eq 5, 3) := by decide +kernel
theorem dL_law_344 : decode cL_law 344 = .ok (.iconst 0, 1) := by decide +kernel
theorem dL_law_345 : decode cL_law 345 = .ok (.ireturn, 1) := by decide +kernel
theorem dL_law_346 : decode cL_law 346 = .ok (.goto 2147, 3) := by decide +kernel
theorem dL_law_349 : decode cL_law 349 = .ok (.aload_n 1, 1) := by decide +kernel
theorem dL_law_350 : decode cL_law 350 = .ok (.aload_n 0, 1) := by decide +kernel
theorem dL_law_351 : decode cL_law 351 = .ok (.iload 5, 2) := by decide +kernel
theorem dL_law_353 : decode cL_law 353 = .ok (.iconst 1, 1) := by decide +kernel
theorem dL_law_354 : decode cL_law 354 = .ok (.iadd, 1) := by decide +kernel
theorem dL_law_355 : decode cL_law 355 = .ok (.iaload, 1) := by decide +kernel
theorem dL_law_356 : decode cL_law 356 = .ok (.aload_n 3, 1) := by decide +kernel
theorem dL_law_357 : decode cL_law 357 = .ok (.invokestatic 155, 3) := by decide +kernel
theorem dL_law_360 : decode cL_law 360 = .ok (.istore 6, 2) := by decide +kernel
theorem dL_law_362 : decode cL_law 362 = .ok (.aload_n 2, 1) := by decide +kernel
theorem dL_law_363 : decode cL_law 363 = .ok (.aload_n 0, 1) := by decide +kernel
theorem dL_law_364 : decode cL_law 364 = .ok (.iload 5, 2) := by decide +kernel
theorem dL_law_366 : decode cL_law 366 = .ok (.iconst 1, 1) := by decide +kernel
theorem dL_law_367 : decode cL_law 367 = .ok (.iadd, 1) := by decide +kernel
theorem dL_law_368 : decode cL_law 368 = .ok (.iaload, 1) := by decide +kernel
theorem dL_law_369 : decode cL_law 369 = .ok (.invokevirtual 157, 3) := by decide +kernel
theorem dL_law_372 : decode cL_law 372 = .ok (.istore 7, 2) := by decide +kernel
theorem dL_law_374 : decode cL_law 374 = .ok (.aload_n 2, 1) := by decide +kernel
theorem dL_law_375 : decode cL_law 375 = .ok (.invokevirtual 145, 3) := by decide +kernel
theorem dL_law_378 : decode cL_law 378 = .ok (.iload 6, 2) := by decide +kernel
theorem dL_law_380 : decode cL_law 380 = .ok (.if_icmp .eq 5, 3) := by decide +kernel
theorem dL_law_383 : decode cL_law 383 = .ok (.iconst 0, 1) := by decide +kernel
theorem dL_law_384 : decode cL_law 384 = .ok (.ireturn, 1) := by decide +kernel
theorem dL_law_385 : decode cL_law 385 = .ok (.iload 6, 2) := by decide +kernel
theorem dL_law_387 : decode cL_law 387 = .ok (.ifCond .ne 15, 3) := by decide +kernel
theorem dL_law_390 : decode cL_law 390 = .ok (.aload_n 3, 1) := by decide +kernel
theorem dL_law_391 : decode cL_law 391 = .ok (.iconst 0, 1) := by decide +kernel
theorem dL_law_392 : decode cL_law 392 = .ok (.laload, 1) := by decide +kernel
theorem dL_law_393 : decode cL_law 393 = .ok (.iload 7, 2) := by decide +kernel
theorem dL_law_395 : decode cL_law 395 = .ok (.i2l, 1) := by decide +kernel
theorem dL_law_396 : decode cL_law 396 = .ok (.lcmp, 1) := by decide +kernel
theorem dL_law_397 : decode cL_law 397 = .ok (.ifCond .eq 5, 3) := by decide +kernel
theorem dL_law_400 : decode cL_law 400 = .ok (.iconst 0, 1) := by decide +kernel
theorem dL_law_401 : decode cL_law 401 = .ok (.ireturn, 1) := by decide +kernel
theorem dL_law_402 : decode cL_law 402 = .ok (.goto 2091, 3) := by decide +kernel
theorem dL_law_405 : decode cL_law 405 = .ok (.aload_n 1, 1) := by decide +kernel
theorem dL_law_406 : decode cL_law 406 = .ok (.invokevirtual 158, 3) := by decide +kernel
theorem dL_law_409 : decode cL_law 409 = .ok (.aload_n 2, 1) := by decide +kernel
theorem dL_law_410 : decode cL_law 410 = .ok (.invokevirtual 161, 3) := by decide +kernel
theorem dL_law_413 : decode cL_law 413 = .ok (.if_icmp .eq 2080, 3) := by decide +kernel
theorem dL_law_416 : decode cL_law 416 = .ok (.iconst 0, 1) := by decide +kernel
theorem dL_law_417 : decode cL_law 417 = .ok (.ireturn, 1) := by decide +kernel
theorem dL_law_418 : decode cL_law 418 = .ok (.aload_n 1, 1) := by decide +kernel
theorem dL_law_419 : decode cL_law 419 = .ok (.aload_n 0, 1) := by decide +kernel
theorem dL_law_420 : decode cL_law 420 = .ok (.iload 5, 2) := by decide +kernel
theorem dL_law_422 : decode cL_law 422 = .ok (.iconst 1, 1) := by decide +kernel
theorem dL_law_423 : decode cL_law 423 = .ok (.iadd, 1) := by decide +kernel
theorem dL_law_424 : decode cL_law 424 = .ok (.iaload, 1) := by decide +kernel
theorem dL_law_425 : decode cL_law 425 = .ok (.aload_n 3, 1) := by decide +kernel
theorem dL_law_426 : decode cL_law 426 = .ok (.invokestatic 162, 3) := by decide +kernel
theorem dL_law_429 : decode cL_law 429 = .ok (.istore 6, 2) := by decide +kernel
theorem dL_law_431 : decode cL_law 431 = .ok (.aload_n 2, 1) := by decide +kernel
theorem dL_law_432 : decode cL_law 432 = .ok (.aload_n 0, 1) := by decide +kernel
theorem dL_law_433 : decode cL_law 433 = .ok (.iload 5, 2) := by decide +kernel
theorem dL_law_435 : decode cL_law 435 = .ok (.iconst 1, 1) := by decide +kernel
theorem dL_law_436 : decode cL_law 436 = .ok (.iadd, 1) := by decide +kernel
theorem dL_law_437 : decode cL_law 437 = .ok (.iaload, 1) := by decide +kernel
theorem dL_law_438 : decode cL_law 438 = .ok (.invokevirtual 164, 3) := by decide +kernel
theorem dL_law_441 : decode cL_law 441 = .ok (.istore 7, 2) := by decide +kernel
theorem dL_law_443 : decode cL_law 443 = .ok (.aload_n 2, 1) := by decide +kernel
theorem dL_law_444 : decode cL_law 444 = .ok (.invokevirtual 145, 3) := by decide +kernel
theorem dL_law_447 : decode cL_law 447 = .ok (.iload 6, 2) := by decide +kernel
theorem dL_law_449 : decode cL_law 449 = .ok (.if_icmp .eq 5, 3) := by decide +kernel
theorem dL_law_452 : decode cL_law 452 = .ok (.iconst 0, 1) := by decide +kernel
theorem dL_law_453 : decode cL_law 453 = .ok (.ireturn, 1) := by decide +kernel
theorem dL_law_454 : decode cL_law 454 = .ok (.iload 6, 2) := by decide +kernel
theorem dL_law_456 : decode cL_law 456 = .ok (.ifCond .ne 15, 3) := by decide +kernel
theorem dL_law_459 : decode cL_law 459 = .ok (.aload_n 3, 1) := by decide +kernel
theorem dL_law_460 : decode cL_law 460 = .ok (.iconst 0, 1) := by decide +kernel
theorem dL_law_461 : decode cL_law 461 = .ok (.laload, 1) := by decide +kernel
theorem dL_law_462 : decode cL_law 462 = .ok (.iload 7, 2) := by decide +kernel
theorem dL_law_464 : decode cL_law 464 = .ok (.i2l, 1) := by decide +kernel
theorem dL_law_465 : decode cL_law 465 = .ok (.lcmp, 1) := by decide +kernel
theorem dL_law_466 : decode cL_law 466 = .ok (.ifCond .eq 5, 3) := by decide +kernel
theorem dL_law_469 : decode cL_law 469 = .ok (.iconst 0, 1) := by decide +kernel
theorem dL_law_470 : decode cL_law 470 = .ok (.ireturn, 1) := by decide +kernel
theorem dL_law_471 : decode cL_law 471 = .ok (.goto 2022, 3) := by decide +kernel
theorem dL_law_474 : decode cL_law 474 = .ok (.aload_n 1, 1) := by decide +kernel
theorem dL_law_475 : decode cL_law 475 = .ok (.aload_n 0, 1) := by decide +kernel
theorem dL_law_476 : decode cL_law 476 = .ok (.iload 5, 2) := by decide +kernel
theorem dL_law_478 : decode cL_law 478 = .ok (.iconst 1, 1) := by decide +kernel
theorem dL_law_479 : decode cL_law 479 = .ok (.iadd, 1) := by decide +kernel
theorem dL_law_480 : decode cL_law 480 = .ok (.iaload, 1) := by decide +kernel
theorem dL_law_481 : decode cL_law 481 = .ok (.aload_n 3, 1) := by decide +kernel
theorem dL_law_482 : decode cL_law 482 = .ok (.invokestatic 165, 3) := by decide +kernel
theorem dL_law_485 : decode cL_law 485 = .ok (.istore 6, 2) := by decide +kernel
theorem dL_law_487 : decode cL_law 487 = .ok (.aload_n 2, 1) := by decide +kernel
theorem dL_law_488 : decode cL_law 488 = .ok (.aload_n 0, 1) := by decide +kernel
theorem dL_law_489 : decode cL_law 489 = .ok (.iload 5, 2) := by decide +kernel
theorem dL_law_491 : decode cL_law 491 = .ok (.iconst 1, 1) := by decide +kernel
theorem dL_law_492 : decode cL_law 492 = .ok (.iadd, 1) := by decide +kernel
theorem dL_law_493 : decode cL_law 493 = .ok (.iaload, 1) := by decide +kernel
theorem dL_law_494 : decode cL_law 494 = .ok (.invokevirtual 167, 3) := by decide +kernel
theorem dL_law_497 : decode cL_law 497 = .ok (.istore 7, 2) := by decide +kernel
theorem dL_law_499 : decode cL_law 499 = .ok (.aload_n 2, 1) := by decide +kernel
theorem dL_law_500 : decode cL_law 500 = .ok (.invokevirtual 145, 3) := by decide +kernel
theorem dL_law_503 : decode cL_law 503 = .ok (.iload 6, 2) := by decide +kernel
theorem dL_law_505 : decode cL_law 505 = .ok (.if_icmp .eq 5, 3) := by decide +kernel
theorem dL_law_508 : decode cL_law 508 = .ok (.iconst 0, 1) := by decide +kernel
theorem dL_law_509 : decode cL_law 509 = .ok (.ireturn, 1) := by decide +kernel
theorem dL_law_510 : decode cL_law 510 = .ok (.iload 6, 2) := by decide +kernel
theorem dL_law_512 : decode cL_law 512 = .ok (.ifCond .ne 15, 3) := by decide +kernel
theorem dL_law_515 : decode cL_law 515 = .ok (.aload_n 3, 1) := by decide +kernel
theorem dL_law_516 : decode cL_law 516 = .ok (.iconst 0, 1) := by decide +kernel
theorem dL_law_517 : decode cL_law 517 = .ok (.laload, 1) := by decide +kernel
theorem dL_law_518 : decode cL_law 518 = .ok (.iload 7, 2) := by decide +kernel
theorem dL_law_520 : decode cL_law 520 = .ok (.i2l, 1) := by decide +kernel
theorem dL_law_521 : decode cL_law 521 = .ok (.lcmp, 1) := by decide +kernel
theorem dL_law_522 : decode cL_law 522 = .ok (.ifCond .eq 5, 3) := by decide +kernel
theorem dL_law_525 : decode cL_law 525 = .ok (.iconst 0, 1) := by decide +kernel
theorem dL_law_526 : decode cL_law 526 = .ok (.ireturn, 1) := by decide +kernel
theorem dL_law_527 : decode cL_law 527 = .ok (.goto 1966, 3) := by decide +kernel
theorem dL_law_530 : decode cL_law 530 = .ok (.aload_n 1, 1) := by decide +kernel
theorem dL_law_531 : decode cL_law 531 = .ok (.aload_n 3, 1) := by decide +kernel
theorem dL_law_532 : decode cL_law 532 = .ok (.invokestatic 168, 3) := by decide +kernel
theorem dL_law_535 : decode cL_law 535 = .ok (.istore 6, 2) := by decide +kernel
theorem dL_law_537 : decode cL_law 537 = .ok (.aload_n 2, 1) := by decide +kernel
theorem dL_law_538 : decode cL_law 538 = .ok (.invokevirtual 171, 3) := by decide +kernel
theorem dL_law_541 : decode cL_law 541 = .ok (.istore 7, 2) := by decide +kernel
theorem dL_law_543 : decode cL_law 543 = .ok (.aload_n 2, 1) := by decide +kernel
theorem dL_law_544 : decode cL_law 544 = .ok (.invokevirtual 145, 3) := by decide +kernel
theorem dL_law_547 : decode cL_law 547 = .ok (.iload 6, 2) := by decide +kernel
theorem dL_law_549 : decode cL_law 549 = .ok (.if_icmp .eq 5, 3) := by decide +kernel
theorem dL_law_552 : decode cL_law 552 = .ok (.iconst 0, 1) := by decide +kernel
theorem dL_law_553 : decode cL_law 553 = .ok (.ireturn, 1) := by decide +kernel
theorem dL_law_554 : decode cL_law 554 = .ok (.iload 6, 2) := by decide +kernel
theorem dL_law_556 : decode cL_law 556 = .ok (.ifCond .ne 15, 3) := by decide +kernel
theorem dL_law_559 : decode cL_law 559 = .ok (.aload_n 3, 1) := by decide +kernel
theorem dL_law_560 : decode cL_law 560 = .ok (.iconst 0, 1) := by decide +kernel
theorem dL_law_561 : decode cL_law 561 = .ok (.laload, 1) := by decide +kernel
theorem dL_law_562 : decode cL_law 562 = .ok (.iload 7, 2) := by decide +kernel
theorem dL_law_564 : decode cL_law 564 = .ok (.i2l, 1) := by decide +kernel
theorem dL_law_565 : decode cL_law 565 = .ok (.lcmp, 1) := by decide +kernel
theorem dL_law_566 : decode cL_law 566 = .ok (.ifCond .eq 5, 3) := by decide +kernel
theorem dL_law_569 : decode cL_law 569 = .ok (.iconst 0, 1) := by decide +kernel
theorem dL_law_570 : decode cL_law 570 = .ok (.ireturn, 1) := by decide +kernel
theorem dL_law_571 : decode cL_law 571 = .ok (.goto 1922, 3) := by decide +kernel
theorem dL_law_574 : decode cL_law 574 = .ok (.aload_n 1, 1) := by decide +kernel
theorem dL_law_575 : decode cL_law 575 = .ok (.aload_n 0, 1) := by decide +kernel
theorem dL_law_576 : decode cL_law 576 = .ok (.iload 5, 2) := by decide +kernel
theorem dL_law_578 : decode cL_law 578 = .ok (.iconst 1, 1) := by decide +kernel
theorem dL_law_579 : decode cL_law 579 = .ok (.iadd, 1) := by decide +kernel
theorem dL_law_580 : decode cL_law 580 = .ok (.iaload, 1) := by decide +kernel
theorem dL_law_581 : decode cL_law 581 = .ok (.aload_n 0, 1) := by decide +kernel
theorem dL_law_582 : decode cL_law 582 = .ok (.iload 5, 2) := by decide +kernel
theorem dL_law_584 : decode cL_law 584 = .ok (.iconst 2, 1) := by decide +kernel
theorem dL_law_585 : decode cL_law 585 = .ok (.iadd, 1) := by decide +kernel
theorem dL_law_586 : decode cL_law 586 = .ok (.iaload, 1) := by decide +kernel
theorem dL_law_587 : decode cL_law 587 = .ok (.aload_n 3, 1) := by decide +kernel
theorem dL_law_588 : decode cL_law 588 = .ok (.invokestatic 172, 3) := by decide +kernel
theorem dL_law_591 : decode cL_law 591 = .ok (.istore 6, 2) := by decide +kernel
theorem dL_law_593 : decode cL_law 593 = .ok (.aload_n 2, 1) := by decide +kernel
theorem dL_law_594 : decode cL_law 594 = .ok (.aload_n 0, 1) := by decide +kernel
theorem dL_law_595 : decode cL_law 595 = .ok (.iload 5, 2) := by decide +kernel
theorem dL_law_597 : decode cL_law 597 = .ok (.iconst 1, 1) := by decide +kernel
theorem dL_law_598 : decode cL_law 598 = .ok (.iadd, 1) := by decide +kernel
theorem dL_law_599 : decode cL_law 599 = .ok (.iaload, 1) := by decide +kernel
theorem dL_law_600 : decode cL_law 600 = .ok (.aload_n 0, 1) := by decide +kernel
theorem dL_law_601 : decode cL_law 601 = .ok (.iload 5, 2) := by decide +kernel
theorem dL_law_603 : decode cL_law 603 = .ok (.iconst 2, 1) := by decide +kernel
theorem dL_law_604 : decode cL_law 604 = .ok (.iadd, 1) := by decide +kernel
theorem dL_law_605 : decode cL_law 605 = .ok (.iaload, 1) := by decide +kernel
theorem dL_law_606 : decode cL_law 606 = .ok (.invokevirtual 175, 3) := by decide +kernel
theorem dL_law_609 : decode cL_law 609 = .ok (.istore 7, 2) := by decide +kernel
theorem dL_law_611 : decode cL_law 611 = .ok (.aload_n 2, 1) := by decide +kernel
theorem dL_law_612 : decode cL_law 612 = .ok (.invokevirtual 145, 3) := by decide +kernel
theorem dL_law_615 : decode cL_law 615 = .ok (.iload 6, 2) := by decide +kernel
theorem dL_law_617 : decode cL_law 617 = .ok (.if_icmp .eq 5, 3) := by decide +kernel
theorem dL_law_620 : decode cL_law 620 = .ok (.iconst 0, 1) := by decide +kernel
theorem dL_law_621 : decode cL_law 621 = .ok (.ireturn, 1) := by decide +kernel
theorem dL_law_622 : decode cL_law 622 = .ok (.iload 6, 2) := by decide +kernel
theorem dL_law_624 : decode cL_law 624 = .ok (.ifCond .ne 15, 3) := by decide +kernel
theorem dL_law_627 : decode cL_law 627 = .ok (.aload_n 3, 1) := by decide +kernel
theorem dL_law_628 : decode cL_law 628 = .ok (.iconst 0, 1) := by decide +kernel
theorem dL_law_629 : decode cL_law 629 = .ok (.laload, 1) := by decide +kernel
theorem dL_law_630 : decode cL_law 630 = .ok (.iload 7, 2) := by decide +kernel
theorem dL_law_632 : decode cL_law 632 = .ok (.i2l, 1) := by decide +kernel
theorem dL_law_633 : decode cL_law 633 = .ok (.lcmp, 1) := by decide +kernel
theorem dL_law_634 : decode cL_law 634 = .ok (.ifCond .eq 5, 3) := by decide +kernel
theorem dL_law_637 : decode cL_law 637 = .ok (.iconst 0, 1) := by decide +kernel
theorem dL_law_638 : decode cL_law 638 = .ok (.ireturn, 1) := by decide +kernel
theorem dL_law_639 : decode cL_law 639 = .ok (.goto 1854, 3) := by decide +kernel
theorem dL_law_642 : decode cL_law 642 = .ok (.aload_n 1, 1) := by decide +kernel
theorem dL_law_643 : decode cL_law 643 = .ok (.aload_n 0, 1) := by decide +kernel
theorem dL_law_644 : decode cL_law 644 = .ok (.iload 5, 2) := by decide +kernel
theorem dL_law_646 : decode cL_law 646 = .ok (.iconst 1, 1) := by decide +kernel
theorem dL_law_647 : decode cL_law 647 = .ok (.iadd, 1) := by decide +kernel
theorem dL_law_648 : decode cL_law 648 = .ok (.iaload, 1) := by decide +kernel
theorem dL_law_649 : decode cL_law 649 = .ok (.aload_n 0, 1) := by decide +kernel
theorem dL_law_650 : decode cL_law 650 = .ok (.iload 5, 2) := by decide +kernel
theorem dL_law_652 : decode cL_law 652 = .ok (.iconst 2, 1) := by decide +kernel
theorem dL_law_653 : decode cL_law 653 = .ok (.iadd, 1) := by decide +kernel
theorem dL_law_654 : decode cL_law 654 = .ok (.iaload, 1) := by decide +kernel
theorem dL_law_655 : decode cL_law 655 = .ok (.aload_n 3, 1) := by decide +kernel
theorem dL_law_656 : decode cL_law 656 = .ok (.invokestatic 176, 3) := by decide +kernel
theorem dL_law_659 : decode cL_law 659 = .ok (.istore 6, 2) := by decide +kernel
theorem dL_law_661 : decode cL_law 661 = .ok (.aload_n 2, 1) := by decide +kernel
theorem dL_law_662 : decode cL_law 662 = .ok (.aload_n 0, 1) := by decide +kernel
theorem dL_law_663 : decode cL_law 663 = .ok (.iload 5, 2) := by decide +kernel
theorem dL_law_665 : decode cL_law 665 = .ok (.iconst 1, 1) := by decide +kernel
theorem dL_law_666 : decode cL_law 666 = .ok (.iadd, 1) := by decide +kernel
theorem dL_law_667 : decode cL_law 667 = .ok (.iaload, 1) := by decide +kernel
theorem dL_law_668 : decode cL_law 668 = .ok (.aload_n 0, 1) := by decide +kernel
theorem dL_law_669 : decode cL_law 669 = .ok (.iload 5, 2) := by decide +kernel
theorem dL_law_671 : decode cL_law 671 = .ok (.iconst 2, 1) := by decide +kernel
theorem dL_law_672 : decode cL_law 672 = .ok (.iadd, 1) := by decide +kernel
theorem dL_law_673 : decode cL_law 673 = .ok (.iaload, 1) := by decide +kernel
theorem dL_law_674 : decode cL_law 674 = .ok (.invokevirtual 178, 3) := by decide +kernel
theorem dL_law_677 : decode cL_law 677 = .ok (.istore 7, 2) := by decide +kernel
theorem dL_law_679 : decode cL_law 679 = .ok (.aload_n 2, 1) := by decide +kernel
theorem dL_law_680 : decode cL_law 680 = .ok (.invokevirtual 145, 3) := by decide +kernel
theorem dL_law_683 : decode cL_law 683 = .ok (.iload 6, 2) := by decide +kernel
theorem dL_law_685 : decode cL_law 685 = .ok (.if_icmp .eq 5, 3) := by decide +kernel
theorem dL_law_688 : decode cL_law 688 = .ok (.iconst 0, 1) := by decide +kernel
theorem dL_law_689 : decode cL_law 689 = .ok (.ireturn, 1) := by decide +kernel
theorem dL_law_690 : decode cL_law 690 = .ok (.iload 6, 2) := by decide +kernel
theorem dL_law_692 : decode cL_law 692 = .ok (.ifCond .ne 15, 3) := by decide +kernel
theorem dL_law_695 : decode cL_law 695 = .ok (.aload_n 3, 1) := by decide +kernel
theorem dL_law_696 : decode cL_law 696 = .ok (.iconst 0, 1) := by decide +kernel
theorem dL_law_697 : decode cL_law 697 = .ok (.laload, 1) := by decide +kernel
theorem dL_law_698 : decode cL_law 698 = .ok (.iload 7, 2) := by decide +kernel
theorem dL_law_700 : decode cL_law 700 = .ok (.i2l, 1) := by decide +kernel
theorem dL_law_701 : decode cL_law 701 = .ok (.lcmp, 1) := by decide +kernel
theorem dL_law_702 : decode cL_law 702 = .ok (.ifCond .eq 5, 3) := by decide +kernel
theorem dL_law_705 : decode cL_law 705 = .ok (.iconst 0, 1) := by decide +kernel
theorem dL_law_706 : decode cL_law 706 = .ok (.ireturn, 1) := by decide +kernel
theorem dL_law_707 : decode cL_law 707 = .ok (.goto 1786, 3) := by decide +kernel
theorem dL_law_710 : decode cL_law 710 = .ok (.aload_n 1, 1) := by decide +kernel
theorem dL_law_711 : decode cL_law 711 = .ok (.aload_n 0, 1) := by decide +kernel
theorem dL_law_712 : decode cL_law 712 = .ok (.iload 5, 2) := by decide +kernel
theorem dL_law_714 : decode cL_law 714 = .ok (.iconst 1, 1) := by decide +kernel
theorem dL_law_715 : decode cL_law 715 = .ok (.iadd, 1) := by decide +kernel
theorem dL_law_716 : decode cL_law 716 = .ok (.iaload, 1) := by decide +kernel
theorem dL_law_717 : decode cL_law 717 = .ok (.aload_n 3, 1) := by decide +kernel
theorem dL_law_718 : decode cL_law 718 = .ok (.invokestatic 179, 3) := by decide +kernel
theorem dL_law_721 : decode cL_law 721 = .ok (.istore 6, 2) := by decide +kernel
theorem dL_law_723 : decode cL_law 723 = .ok (.aload_n 2, 1) := by decide +kernel
theorem dL_law_724 : decode cL_law 724 = .ok (.aload_n 0, 1) := by decide +kernel
theorem dL_law_725 : decode cL_law 725 = .ok (.iload 5, 2) := by decide +kernel
theorem dL_law_727 : decode cL_law 727 = .ok (.iconst 1, 1) := by decide +kernel
theorem dL_law_728 : decode cL_law 728 = .ok (.iadd, 1) := by decide +kernel
theorem dL_law_729 : decode cL_law 729 = .ok (.iaload, 1) := by decide +kernel
theorem dL_law_730 : decode cL_law 730 = .ok (.invokevirtual 181, 3) := by decide +kernel
theorem dL_law_733 : decode cL_law 733 = .ok (.istore 7, 2) := by decide +kernel
theorem dL_law_735 : decode cL_law 735 = .ok (.aload_n 2, 1) := by decide +kernel
theorem dL_law_736 : decode cL_law 736 = .ok (.invokevirtual 145, 3) := by decide +kernel
theorem dL_law_739 : decode cL_law 739 = .ok (.iload 6, 2) := by decide +kernel
theorem dL_law_741 : decode cL_law 741 = .ok (.if_icmp .eq 5, 3) := by decide +kernel
theorem dL_law_744 : decode cL_law 744 = .ok (.iconst 0, 1) := by decide +kernel
theorem dL_law_745 : decode cL_law 745 = .ok (.ireturn, 1) := by decide +kernel
theorem dL_law_746 : decode cL_law 746 = .ok (.iload 6, 2) := by decide +kernel
theorem dL_law_748 : decode cL_law 748 = .ok (.ifCond .ne 15, 3) := by decide +kernel
theorem dL_law_751 : decode cL_law 751 = .ok (.aload_n 3, 1) := by decide +kernel
theorem dL_law_752 : decode cL_law 752 = .ok (.iconst 0, 1) := by decide +kernel
theorem dL_law_753 : decode cL_law 753 = .ok (.laload, 1) := by decide +kernel
theorem dL_law_754 : decode cL_law 754 = .ok (.iload 7, 2) := by decide +kernel
theorem dL_law_756 : decode cL_law 756 = .ok (.i2l, 1) := by decide +kernel
theorem dL_law_757 : decode cL_law 757 = .ok (.lcmp, 1) := by decide +kernel
theorem dL_law_758 : decode cL_law 758 = .ok (.ifCond .eq 5, 3) := by decide +kernel
theorem dL_law_761 : decode cL_law 761 = .ok (.iconst 0, 1) := by decide +kernel
theorem dL_law_762 : decode cL_law 762 = .ok (.ireturn, 1) := by decide +kernel
theorem dL_law_763 : decode cL_law 763 = .ok (.goto 1730, 3) := by decide +kernel
theorem dL_law_766 : decode cL_law 766 = .ok (.aload_n 1, 1) := by decide +kernel
theorem dL_law_767 : decode cL_law 767 = .ok (.aload_n 0, 1) := by decide +kernel
theorem dL_law_768 : decode cL_law 768 = .ok (.iload 5, 2) := by decide +kernel
theorem dL_law_770 : decode cL_law 770 = .ok (.iconst 1, 1) := by decide +kernel
theorem dL_law_771 : decode cL_law 771 = .ok (.iadd, 1) := by decide +kernel
theorem dL_law_772 : decode cL_law 772 = .ok (.iaload, 1) := by decide +kernel
theorem dL_law_773 : decode cL_law 773 = .ok (.aload_n 0, 1) := by decide +kernel
theorem dL_law_774 : decode cL_law 774 = .ok (.iload 5, 2) := by decide +kernel
theorem dL_law_776 : decode cL_law 776 = .ok (.iconst 2, 1) := by decide +kernel
theorem dL_law_777 : decode cL_law 777 = .ok (.iadd, 1) := by decide +kernel
theorem dL_law_778 : decode cL_law 778 = .ok (.iaload, 1) := by decide +kernel
theorem dL_law_779 : decode cL_law 779 = .ok (.aload_n 3, 1) := by decide +kernel
theorem dL_law_780 : decode cL_law 780 = .ok (.invokestatic 182, 3) := by decide +kernel
theorem dL_law_783 : decode cL_law 783 = .ok (.istore 6, 2) := by decide +kernel
theorem dL_law_785 : decode cL_law 785 = .ok (.aload_n 2, 1) := by decide +kernel
theorem dL_law_786 : decode cL_law 786 = .ok (.aload_n 0, 1) := by decide +kernel
theorem dL_law_787 : decode cL_law 787 = .ok (.iload 5, 2) := by decide +kernel
theorem dL_law_789 : decode cL_law 789 = .ok (.iconst 1, 1) := by decide +kernel
theorem dL_law_790 : decode cL_law 790 = .ok (.iadd, 1) := by decide +kernel
theorem dL_law_791 : decode cL_law 791 = .ok (.iaload, 1) := by decide +kernel
theorem dL_law_792 : decode cL_law 792 = .ok (.aload_n 0, 1) := by decide +kernel
theorem dL_law_793 : decode cL_law 793 = .ok (.iload 5, 2) := by decide +kernel
theorem dL_law_795 : decode cL_law 795 = .ok (.iconst 2, 1) := by decide +kernel
theorem dL_law_796 : decode cL_law 796 = .ok (.iadd, 1) := by decide +kernel
theorem dL_law_797 : decode cL_law 797 = .ok (.iaload, 1) := by decide +kernel
theorem dL_law_798 : decode cL_law 798 = .ok (.invokevirtual 184, 3) := by decide +kernel
theorem dL_law_801 : decode cL_law 801 = .ok (.istore 7, 2) := by decide +kernel
theorem dL_law_803 : decode cL_law 803 = .ok (.aload_n 2, 1) := by decide +kernel
theorem dL_law_804 : decode cL_law 804 = .ok (.invokevirtual 145, 3) := by decide +kernel
theorem dL_law_807 : decode cL_law 807 = .ok (.iload 6, 2) := by decide +kernel
theorem dL_law_809 : decode cL_law 809 = .ok (.if_icmp .eq 5, 3) := by decide +kernel
theorem dL_law_812 : decode cL_law 812 = .ok (.iconst 0, 1) := by decide +kernel
theorem dL_law_813 : decode cL_law 813 = .ok (.ireturn, 1) := by decide +kernel
theorem dL_law_814 : decode cL_law 814 = .ok (.iload 6, 2) := by decide +kernel
theorem dL_law_816 : decode cL_law 816 = .ok (.ifCond .ne 15, 3) := by decide +kernel
theorem dL_law_819 : decode cL_law 819 = .ok (.aload_n 3, 1) := by decide +kernel
theorem dL_law_820 : decode cL_law 820 = .ok (.iconst 0, 1) := by decide +kernel
theorem dL_law_821 : decode cL_law 821 = .ok (.laload, 1) := by decide +kernel
theorem dL_law_822 : decode cL_law 822 = .ok (.iload 7, 2) := by decide +kernel
theorem dL_law_824 : decode cL_law 824 = .ok (.i2l, 1) := by decide +kernel
theorem dL_law_825 : decode cL_law 825 = .ok (.lcmp, 1) := by decide +kernel
theorem dL_law_826 : decode cL_law 826 = .ok (.ifCond .eq 5, 3) := by decide +kernel
theorem dL_law_829 : decode cL_law 829 = .ok (.iconst 0, 1) := by decide +kernel
theorem dL_law_830 : decode cL_law 830 = .ok (.ireturn, 1) := by decide +kernel
theorem dL_law_831 : decode cL_law 831 = .ok (.goto 1662, 3) := by decide +kernel
theorem dL_law_834 : decode cL_law 834 = .ok (.aload_n 1, 1) := by decide +kernel
theorem dL_law_835 : decode cL_law 835 = .ok (.invokevirtual 185, 3) := by decide +kernel
theorem dL_law_838 : decode cL_law 838 = .ok (.aload_n 2, 1) := by decide +kernel
theorem dL_law_839 : decode cL_law 839 = .ok (.invokevirtual 188, 3) := by decide +kernel
theorem dL_law_842 : decode cL_law 842 = .ok (.if_icmp .eq 1651, 3) := by decide +kernel
theorem dL_law_845 : decode cL_law 845 = .ok (.iconst 0, 1) := by decide +kernel
theorem dL_law_846 : decode cL_law 846 = .ok (.ireturn, 1) := by decide +kernel
theorem dL_law_847 : decode cL_law 847 = .ok (.aload_n 1, 1) := by decide +kernel
theorem dL_law_848 : decode cL_law 848 = .ok (.aload_n 0, 1) := by decide +kernel
theorem dL_law_849 : decode cL_law 849 = .ok (.iload 5, 2) := by decide +kernel
theorem dL_law_851 : decode cL_law 851 = .ok (.iconst 1, 1) := by decide +kernel
theorem dL_law_852 : decode cL_law 852 = .ok (.iadd, 1) := by decide +kernel
theorem dL_law_853 : decode cL_law 853 = .ok (.iaload, 1) := by decide +kernel
theorem dL_law_854 : decode cL_law 854 = .ok (.aload_n 0, 1) := by decide +kernel
theorem dL_law_855 : decode cL_law 855 = .ok (.iload 5, 2) := by decide +kernel
theorem dL_law_857 : decode cL_law 857 = .ok (.iconst 2, 1) := by decide +kernel
theorem dL_law_858 : decode cL_law 858 = .ok (.iadd, 1) := by decide +kernel
theorem dL_law_859 : decode cL_law 859 = .ok (.iaload, 1) := by decide +kernel
theorem dL_law_860 : decode cL_law 860 = .ok (.aload_n 3, 1) := by decide +kernel
theorem dL_law_861 : decode cL_law 861 = .ok (.invokestatic 189, 3) := by decide +kernel
theorem dL_law_864 : decode cL_law 864 = .ok (.istore 6, 2) := by decide +kernel
theorem dL_law_866 : decode cL_law 866 = .ok (.aload_n 2, 1) := by decide +kernel
theorem dL_law_867 : decode cL_law 867 = .ok (.aload_n 0, 1) := by decide +kernel
theorem dL_law_868 : decode cL_law 868 = .ok (.iload 5, 2) := by decide +kernel
theorem dL_law_870 : decode cL_law 870 = .ok (.iconst 1, 1) := by decide +kernel
theorem dL_law_871 : decode cL_law 871 = .ok (.iadd, 1) := by decide +kernel
theorem dL_law_872 : decode cL_law 872 = .ok (.iaload, 1) := by decide +kernel
theorem dL_law_873 : decode cL_law 873 = .ok (.aload_n 0, 1) := by decide +kernel
theorem dL_law_874 : decode cL_law 874 = .ok (.iload 5, 2) := by decide +kernel
theorem dL_law_876 : decode cL_law 876 = .ok (.iconst 2, 1) := by decide +kernel
theorem dL_law_877 : decode cL_law 877 = .ok (.iadd, 1) := by decide +kernel
theorem dL_law_878 : decode cL_law 878 = .ok (.iaload, 1) := by decide +kernel
theorem dL_law_879 : decode cL_law 879 = .ok (.invokevirtual 191, 3) := by decide +kernel
theorem dL_law_882 : decode cL_law 882 = .ok (.istore 7, 2) := by decide +kernel
theorem dL_law_884 : decode cL_law 884 = .ok (.aload_n 2, 1) := by decide +kernel
theorem dL_law_885 : decode cL_law 885 = .ok (.invokevirtual 145, 3) := by decide +kernel
theorem dL_law_888 : decode cL_law 888 = .ok (.iload 6, 2) := by decide +kernel
theorem dL_law_890 : decode cL_law 890 = .ok (.if_icmp .eq 5, 3) := by decide +kernel
theorem dL_law_893 : decode cL_law 893 = .ok (.iconst 0, 1) := by decide +kernel
theorem dL_law_894 : decode cL_law 894 = .ok (.ireturn, 1) := by decide +kernel
theorem dL_law_895 : decode cL_law 895 = .ok (.iload 6, 2) := by decide +kernel
theorem dL_law_897 : decode cL_law 897 = .ok (.ifCond .ne 15, 3) := by decide +kernel
theorem dL_law_900 : decode cL_law 900 = .ok (.aload_n 3, 1) := by decide +kernel
theorem dL_law_901 : decode cL_law 901 = .ok (.iconst 0, 1) := by decide +kernel
theorem dL_law_902 : decode cL_law 902 = .ok (.laload, 1) := by decide +kernel
theorem dL_law_903 : decode cL_law 903 = .ok (.iload 7, 2) := by decide +kernel
theorem dL_law_905 : decode cL_law 905 = .ok (.i2l, 1) := by decide +kernel
theorem dL_law_906 : decode cL_law 906 = .ok (.lcmp, 1) := by decide +kernel
theorem dL_law_907 : decode cL_law 907 = .ok (.ifCond .eq 5, 3) := by decide +kernel
theorem dL_law_910 : decode cL_law 910 = .ok (.iconst 0, 1) := by decide +kernel
theorem dL_law_911 : decode cL_law 911 = .ok (.ireturn, 1) := by decide +kernel
theorem dL_law_912 : decode cL_law 912 = .ok (.goto 1581, 3) := by decide +kernel
theorem dL_law_915 : decode cL_law 915 = .ok (.aload_n 1, 1) := by decide +kernel
theorem dL_law_916 : decode cL_law 916 = .ok (.aload_n 0, 1) := by decide +kernel
theorem dL_law_917 : decode cL_law 917 = .ok (.iload 5, 2) := by decide +kernel
theorem dL_law_919 : decode cL_law 919 = .ok (.iconst 1, 1) := by decide +kernel
theorem dL_law_920 : decode cL_law 920 = .ok (.iadd, 1) := by decide +kernel
theorem dL_law_921 : decode cL_law 921 = .ok (.iaload, 1) := by decide +kernel
theorem dL_law_922 : decode cL_law 922 = .ok (.aload_n 0, 1) := by decide +kernel
theorem dL_law_923 : decode cL_law 923 = .ok (.iload 5, 2) := by decide +kernel
theorem dL_law_925 : decode cL_law 925 = .ok (.iconst 2, 1) := by decide +kernel
theorem dL_law_926 : decode cL_law 926 = .ok (.iadd, 1) := by decide +kernel
theorem dL_law_927 : decode cL_law 927 = .ok (.iaload, 1) := by decide +kernel
theorem dL_law_928 : decode cL_law 928 = .ok (.aload_n 3, 1) := by decide +kernel
theorem dL_law_929 : decode cL_law 929 = .ok (.invokestatic 192, 3) := by decide +kernel
theorem dL_law_932 : decode cL_law 932 = .ok (.istore 6, 2) := by decide +kernel
theorem dL_law_934 : decode cL_law 934 = .ok (.aload_n 2, 1) := by decide +kernel
theorem dL_law_935 : decode cL_law 935 = .ok (.aload_n 0, 1) := by decide +kernel
theorem dL_law_936 : decode cL_law 936 = .ok (.iload 5, 2) := by decide +kernel
theorem dL_law_938 : decode cL_law 938 = .ok (.iconst 1, 1) := by decide +kernel
theorem dL_law_939 : decode cL_law 939 = .ok (.iadd, 1) := by decide +kernel
theorem dL_law_940 : decode cL_law 940 = .ok (.iaload, 1) := by decide +kernel
theorem dL_law_941 : decode cL_law 941 = .ok (.aload_n 0, 1) := by decide +kernel
theorem dL_law_942 : decode cL_law 942 = .ok (.iload 5, 2) := by decide +kernel
theorem dL_law_944 : decode cL_law 944 = .ok (.iconst 2, 1) := by decide +kernel
theorem dL_law_945 : decode cL_law 945 = .ok (.iadd, 1) := by decide +kernel
theorem dL_law_946 : decode cL_law 946 = .ok (.iaload, 1) := by decide +kernel
theorem dL_law_947 : decode cL_law 947 = .ok (.invokevirtual 194, 3) := by decide +kernel
theorem dL_law_950 : decode cL_law 950 = .ok (.istore 7, 2) := by decide +kernel
theorem dL_law_952 : decode cL_law 952 = .ok (.aload_n 2, 1) := by decide +kernel
theorem dL_law_953 : decode cL_law 953 = .ok (.invokevirtual 145, 3) := by decide +kernel
theorem dL_law_956 : decode cL_law 956 = .ok (.iload 6, 2) := by decide +kernel
theorem dL_law_958 : decode cL_law 958 = .ok (.if_icmp .eq 5, 3) := by decide +kernel
theorem dL_law_961 : decode cL_law 961 = .ok (.iconst 0, 1) := by decide +kernel
theorem dL_law_962 : decode cL_law 962 = .ok (.ireturn, 1) := by decide +kernel
theorem dL_law_963 : decode cL_law 963 = .ok (.iload 6, 2) := by decide +kernel
theorem dL_law_965 : decode cL_law 965 = .ok (.ifCond .ne 15, 3) := by decide +kernel
theorem dL_law_968 : decode cL_law 968 = .ok (.aload_n 3, 1) := by decide +kernel
theorem dL_law_969 : decode cL_law 969 = .ok (.iconst 0, 1) := by decide +kernel
theorem dL_law_970 : decode cL_law 970 = .ok (.laload, 1) := by decide +kernel
theorem dL_law_971 : decode cL_law 971 = .ok (.iload 7, 2) := by decide +kernel
theorem dL_law_973 : decode cL_law 973 = .ok (.i2l, 1) := by decide +kernel
theorem dL_law_974 : decode cL_law 974 = .ok (.lcmp, 1) := by decide +kernel
theorem dL_law_975 : decode cL_law 975 = .ok (.ifCond .eq 5, 3) := by decide +kernel
theorem dL_law_978 : decode cL_law 978 = .ok (.iconst 0, 1) := by decide +kernel
theorem dL_law_979 : decode cL_law 979 = .ok (.ireturn, 1) := by decide +kernel
theorem dL_law_980 : decode cL_law 980 = .ok (.goto 1513, 3) := by decide +kernel
theorem dL_law_983 : decode cL_law 983 = .ok (.aload_n 1, 1) := by decide +kernel
theorem dL_law_984 : decode cL_law 984 = .ok (.aload_n 0, 1) := by decide +kernel
theorem dL_law_985 : decode cL_law 985 = .ok (.iload 5, 2) := by decide +kernel
theorem dL_law_987 : decode cL_law 987 = .ok (.iconst 1, 1) := by decide +kernel
theorem dL_law_988 : decode cL_law 988 = .ok (.iadd, 1) := by decide +kernel
theorem dL_law_989 : decode cL_law 989 = .ok (.iaload, 1) := by decide +kernel
theorem dL_law_990 : decode cL_law 990 = .ok (.aload_n 0, 1) := by decide +kernel
theorem dL_law_991 : decode cL_law 991 = .ok (.iload 5, 2) := by decide +kernel
theorem dL_law_993 : decode cL_law 993 = .ok (.iconst 2, 1) := by decide +kernel
theorem dL_law_994 : decode cL_law 994 = .ok (.iadd, 1) := by decide +kernel
theorem dL_law_995 : decode cL_law 995 = .ok (.iaload, 1) := by decide +kernel
theorem dL_law_996 : decode cL_law 996 = .ok (.aload_n 3, 1) := by decide +kernel
theorem dL_law_997 : decode cL_law 997 = .ok (.invokestatic 195, 3) := by decide +kernel
theorem dL_law_1000 : decode cL_law 1000 = .ok (.istore 6, 2) := by decide +kernel
theorem dL_law_1002 : decode cL_law 1002 = .ok (.aload_n 2, 1) := by decide +kernel
theorem dL_law_1003 : decode cL_law 1003 = .ok (.aload_n 0, 1) := by decide +kernel
theorem dL_law_1004 : decode cL_law 1004 = .ok (.iload 5, 2) := by decide +kernel
theorem dL_law_1006 : decode cL_law 1006 = .ok (.iconst 1, 1) := by decide +kernel
theorem dL_law_1007 : decode cL_law 1007 = .ok (.iadd, 1) := by decide +kernel
theorem dL_law_1008 : decode cL_law 1008 = .ok (.iaload, 1) := by decide +kernel
theorem dL_law_1009 : decode cL_law 1009 = .ok (.aload_n 0, 1) := by decide +kernel
theorem dL_law_1010 : decode cL_law 1010 = .ok (.iload 5, 2) := by decide +kernel
theorem dL_law_1012 : decode cL_law 1012 = .ok (.iconst 2, 1) := by decide +kernel
theorem dL_law_1013 : decode cL_law 1013 = .ok (.iadd, 1) := by decide +kernel
theorem dL_law_1014 : decode cL_law 1014 = .ok (.iaload, 1) := by decide +kernel
theorem dL_law_1015 : decode cL_law 1015 = .ok (.invokevirtual 197, 3) := by decide +kernel
theorem dL_law_1018 : decode cL_law 1018 = .ok (.istore 7, 2) := by decide +kernel
theorem dL_law_1020 : decode cL_law 1020 = .ok (.aload_n 2, 1) := by decide +kernel
theorem dL_law_1021 : decode cL_law 1021 = .ok (.invokevirtual 145, 3) := by decide +kernel
theorem dL_law_1024 : decode cL_law 1024 = .ok (.iload 6, 2) := by decide +kernel
theorem dL_law_1026 : decode cL_law 1026 = .ok (.if_icmp .eq 5, 3) := by decide +kernel
theorem dL_law_1029 : decode cL_law 1029 = .ok (.iconst 0, 1) := by decide +kernel
theorem dL_law_1030 : decode cL_law 1030 = .ok (.ireturn, 1) := by decide +kernel
theorem dL_law_1031 : decode cL_law 1031 = .ok (.iload 6, 2) := by decide +kernel
theorem dL_law_1033 : decode cL_law 1033 = .ok (.ifCond .ne 22, 3) := by decide +kernel
theorem dL_law_1036 : decode cL_law 1036 = .ok (.aload_n 3, 1) := by decide +kernel
theorem dL_law_1037 : decode cL_law 1037 = .ok (.iconst 0, 1) := by decide +kernel
theorem dL_law_1038 : decode cL_law 1038 = .ok (.laload, 1) := by decide +kernel
theorem dL_law_1039 : decode cL_law 1039 = .ok (.iload 7, 2) := by decide +kernel
theorem dL_law_1041 : decode cL_law 1041 = .ok (.ifCond .eq 7, 3) := by decide +kernel
theorem dL_law_1044 : decode cL_law 1044 = .ok (.lconst 1, 1) := by decide +kernel
theorem dL_law_1045 : decode cL_law 1045 = .ok (.goto 4, 3) := by decide +kernel
theorem dL_law_1048 : decode cL_law 1048 = .ok (.lconst 0, 1) := by decide +kernel
theorem dL_law_1049 : decode cL_law 1049 = .ok (.lcmp, 1) := by decide +kernel
theorem dL_law_1050 : decode cL_law 1050 = .ok (.ifCond .eq 5, 3) := by decide +kernel
theorem dL_law_1053 : decode cL_law 1053 = .ok (.iconst 0, 1) := by decide +kernel
theorem dL_law_1054 : decode cL_law 1054 = .ok (.ireturn, 1) := by decide +kernel
theorem dL_law_1055 : decode cL_law 1055 = .ok (.goto 1438, 3) := by decide +kernel
theorem dL_law_1058 : decode cL_law 1058 = .ok (.aload_n 1, 1) := by decide +kernel
theorem dL_law_1059 : decode cL_law 1059 = .ok (.aload_n 0, 1) := by decide +kernel
theorem dL_law_1060 : decode cL_law 1060 = .ok (.iload 5, 2) := by decide +kernel
theorem dL_law_1062 : decode cL_law 1062 = .ok (.iconst 1, 1) := by decide +kernel
theorem dL_law_1063 : decode cL_law 1063 = .ok (.iadd, 1) := by decide +kernel
theorem dL_law_1064 : decode cL_law 1064 = .ok (.iaload, 1) := by decide +kernel
theorem dL_law_1065 : decode cL_law 1065 = .ok (.aload_n 3, 1) := by decide +kernel
theorem dL_law_1066 : decode cL_law 1066 = .ok (.invokestatic 198, 3) := by decide +kernel
theorem dL_law_1069 : decode cL_law 1069 = .ok (.istore 6, 2) := by decide +kernel
theorem dL_law_1071 : decode cL_law 1071 = .ok (.aload_n 2, 1) := by decide +kernel
theorem dL_law_1072 : decode cL_law 1072 = .ok (.aload_n 0, 1) := by decide +kernel
theorem dL_law_1073 : decode cL_law 1073 = .ok (.iload 5, 2) := by decide +kernel
theorem dL_law_1075 : decode cL_law 1075 = .ok (.iconst 1, 1) := by decide +kernel
theorem dL_law_1076 : decode cL_law 1076 = .ok (.iadd, 1) := by decide +kernel
theorem dL_law_1077 : decode cL_law 1077 = .ok (.iaload, 1) := by decide +kernel
theorem dL_law_1078 : decode cL_law 1078 = .ok (.invokevirtual 200, 3) := by decide +kernel
theorem dL_law_1081 : decode cL_law 1081 = .ok (.istore 7, 2) := by decide +kernel
theorem dL_law_1083 : decode cL_law 1083 = .ok (.aload_n 2, 1) := by decide +kernel
theorem dL_law_1084 : decode cL_law 1084 = .ok (.invokevirtual 145, 3) := by decide +kernel
theorem dL_law_1087 : decode cL_law 1087 = .ok (.iload 6, 2) := by decide +kernel
theorem dL_law_1089 : decode cL_law 1089 = .ok (.if_icmp .eq 5, 3) := by decide +kernel
theorem dL_law_1092 : decode cL_law 1092 = .ok (.iconst 0, 1) := by decide +kernel
theorem dL_law_1093 : decode cL_law 1093 = .ok (.ireturn, 1) := by decide +kernel
theorem dL_law_1094 : decode cL_law 1094 = .ok (.iload 6, 2) := by decide +kernel
theorem dL_law_1096 : decode cL_law 1096 = .ok (.ifCond .ne 15, 3) := by decide +kernel
theorem dL_law_1099 : decode cL_law 1099 = .ok (.aload_n 3, 1) := by decide +kernel
theorem dL_law_1100 : decode cL_law 1100 = .ok (.iconst 0, 1) := by decide +kernel
theorem dL_law_1101 : decode cL_law 1101 = .ok (.laload, 1) := by decide +kernel
theorem dL_law_1102 : decode cL_law 1102 = .ok (.iload 7, 2) := by decide +kernel
theorem dL_law_1104 : decode cL_law 1104 = .ok (.i2l, 1) := by decide +kernel
theorem dL_law_1105 : decode cL_law 1105 = .ok (.lcmp, 1) := by decide +kernel
theorem dL_law_1106 : decode cL_law 1106 = .ok (.ifCond .eq 5, 3) := by decide +kernel
theorem dL_law_1109 : decode cL_law 1109 = .ok (.iconst 0, 1) := by decide +kernel
theorem dL_law_1110 : decode cL_law 1110 = .ok (.ireturn, 1) := by decide +kernel
theorem dL_law_1111 : decode cL_law 1111 = .ok (.goto 1382, 3) := by decide +kernel
theorem dL_law_1114 : decode cL_law 1114 = .ok (.aload_n 1, 1) := by decide +kernel
theorem dL_law_1115 : decode cL_law 1115 = .ok (.aload_n 0, 1) := by decide +kernel
theorem dL_law_1116 : decode cL_law 1116 = .ok (.iload 5, 2) := by decide +kernel
theorem dL_law_1118 : decode cL_law 1118 = .ok (.iconst 1, 1) := by decide +kernel
theorem dL_law_1119 : decode cL_law 1119 = .ok (.iadd, 1) := by decide +kernel
theorem dL_law_1120 : decode cL_law 1120 = .ok (.iaload, 1) := by decide +kernel
theorem dL_law_1121 : decode cL_law 1121 = .ok (.aload_n 3, 1) := by decide +kernel
theorem dL_law_1122 : decode cL_law 1122 = .ok (.invokestatic 201, 3) := by decide +kernel
theorem dL_law_1125 : decode cL_law 1125 = .ok (.istore 6, 2) := by decide +kernel
theorem dL_law_1127 : decode cL_law 1127 = .ok (.aload_n 2, 1) := by decide +kernel
theorem dL_law_1128 : decode cL_law 1128 = .ok (.aload_n 0, 1) := by decide +kernel
theorem dL_law_1129 : decode cL_law 1129 = .ok (.iload 5, 2) := by decide +kernel
theorem dL_law_1131 : decode cL_law 1131 = .ok (.iconst 1, 1) := by decide +kernel
theorem dL_law_1132 : decode cL_law 1132 = .ok (.iadd, 1) := by decide +kernel
theorem dL_law_1133 : decode cL_law 1133 = .ok (.iaload, 1) := by decide +kernel
theorem dL_law_1134 : decode cL_law 1134 = .ok (.invokevirtual 203, 3) := by decide +kernel
theorem dL_law_1137 : decode cL_law 1137 = .ok (.istore 7, 2) := by decide +kernel
theorem dL_law_1139 : decode cL_law 1139 = .ok (.aload_n 2, 1) := by decide +kernel
theorem dL_law_1140 : decode cL_law 1140 = .ok (.invokevirtual 145, 3) := by decide +kernel
theorem dL_law_1143 : decode cL_law 1143 = .ok (.iload 6, 2) := by decide +kernel
theorem dL_law_1145 : decode cL_law 1145 = .ok (.if_icmp .eq 5, 3) := by decide +kernel
theorem dL_law_1148 : decode cL_law 1148 = .ok (.iconst 0, 1) := by decide +kernel
theorem dL_law_1149 : decode cL_law 1149 = .ok (.ireturn, 1) := by decide +kernel
theorem dL_law_1150 : decode cL_law 1150 = .ok (.iload 6, 2) := by decide +kernel
theorem dL_law_1152 : decode cL_law 1152 = .ok (.ifCond .ne 15, 3) := by decide +kernel
theorem dL_law_1155 : decode cL_law 1155 = .ok (.aload_n 3, 1) := by decide +kernel
theorem dL_law_1156 : decode cL_law 1156 = .ok (.iconst 0, 1) := by decide +kernel
theorem dL_law_1157 : decode cL_law 1157 = .ok (.laload, 1) := by decide +kernel
theorem dL_law_1158 : decode cL_law 1158 = .ok (.iload 7, 2) := by decide +kernel
theorem dL_law_1160 : decode cL_law 1160 = .ok (.i2l, 1) := by decide +kernel
theorem dL_law_1161 : decode cL_law 1161 = .ok (.lcmp, 1) := by decide +kernel
theorem dL_law_1162 : decode cL_law 1162 = .ok (.ifCond .eq 5, 3) := by decide +kernel
theorem dL_law_1165 : decode cL_law 1165 = .ok (.iconst 0, 1) := by decide +kernel
theorem dL_law_1166 : decode cL_law 1166 = .ok (.ireturn, 1) := by decide +kernel
theorem dL_law_1167 : decode cL_law 1167 = .ok (.goto 1326, 3) := by decide +kernel
theorem dL_law_1170 : decode cL_law 1170 = .ok (.aload_n 1, 1) := by decide +kernel
theorem dL_law_1171 : decode cL_law 1171 = .ok (.aload_n 0, 1) := by decide +kernel
theorem dL_law_1172 : decode cL_law 1172 = .ok (.iload 5, 2) := by decide +kernel
theorem dL_law_1174 : decode cL_law 1174 = .ok (.iconst 1, 1) := by decide +kernel
theorem dL_law_1175 : decode cL_law 1175 = .ok (.iadd, 1) := by decide +kernel
theorem dL_law_1176 : decode cL_law 1176 = .ok (.iaload, 1) := by decide +kernel
theorem dL_law_1177 : decode cL_law 1177 = .ok (.aload_n 3, 1) := by decide +kernel
theorem dL_law_1178 : decode cL_law 1178 = .ok (.invokestatic 204, 3) := by decide +kernel
theorem dL_law_1181 : decode cL_law 1181 = .ok (.istore 6, 2) := by decide +kernel
theorem dL_law_1183 : decode cL_law 1183 = .ok (.aload_n 2, 1) := by decide +kernel
theorem dL_law_1184 : decode cL_law 1184 = .ok (.aload_n 0, 1) := by decide +kernel
theorem dL_law_1185 : decode cL_law 1185 = .ok (.iload 5, 2) := by decide +kernel
theorem dL_law_1187 : decode cL_law 1187 = .ok (.iconst 1, 1) := by decide +kernel
theorem dL_law_1188 : decode cL_law 1188 = .ok (.iadd, 1) := by decide +kernel
theorem dL_law_1189 : decode cL_law 1189 = .ok (.iaload, 1) := by decide +kernel
theorem dL_law_1190 : decode cL_law 1190 = .ok (.invokevirtual 206, 3) := by decide +kernel
theorem dL_law_1193 : decode cL_law 1193 = .ok (.istore 7, 2) := by decide +kernel
theorem dL_law_1195 : decode cL_law 1195 = .ok (.aload_n 2, 1) := by decide +kernel
theorem dL_law_1196 : decode cL_law 1196 = .ok (.invokevirtual 145, 3) := by decide +kernel
theorem dL_law_1199 : decode cL_law 1199 = .ok (.iload 6, 2) := by decide +kernel
theorem dL_law_1201 : decode cL_law 1201 = .ok (.if_icmp .eq 5, 3) := by decide +kernel
theorem dL_law_1204 : decode cL_law 1204 = .ok (.iconst 0, 1) := by decide +kernel
theorem dL_law_1205 : decode cL_law 1205 = .ok (.ireturn, 1) := by decide +kernel
theorem dL_law_1206 : decode cL_law 1206 = .ok (.iload 6, 2) := by decide +kernel
theorem dL_law_1208 : decode cL_law 1208 = .ok (.ifCond .ne 15, 3) := by decide +kernel
theorem dL_law_1211 : decode cL_law 1211 = .ok (.aload_n 3, 1) := by decide +kernel
theorem dL_law_1212 : decode cL_law 1212 = .ok (.iconst 0, 1) := by decide +kernel
theorem dL_law_1213 : decode cL_law 1213 = .ok (.laload, 1) := by decide +kernel
theorem dL_law_1214 : decode cL_law 1214 = .ok (.iload 7, 2) := by decide +kernel
theorem dL_law_1216 : decode cL_law 1216 = .ok (.i2l, 1) := by decide +kernel
theorem dL_law_1217 : decode cL_law 1217 = .ok (.lcmp, 1) := by decide +kernel
theorem dL_law_1218 : decode cL_law 1218 = .ok (.ifCond .eq 5, 3) := by decide +kernel
theorem dL_law_1221 : decode cL_law 1221 = .ok (.iconst 0, 1) := by decide +kernel
theorem dL_law_1222 : decode cL_law 1222 = .ok (.ireturn, 1) := by decide +kernel
theorem dL_law_1223 : decode cL_law 1223 = .ok (.goto 1270, 3) := by decide +kernel
theorem dL_law_1226 : decode cL_law 1226 = .ok (.aload_n 1, 1) := by decide +kernel
theorem dL_law_1227 : decode cL_law 1227 = .ok (.invokevirtual 207, 3) := by decide +kernel
theorem dL_law_1230 : decode cL_law 1230 = .ok (.aload_n 2, 1) := by decide +kernel
theorem dL_law_1231 : decode cL_law 1231 = .ok (.invokevirtual 210, 3) := by decide +kernel
theorem dL_law_1234 : decode cL_law 1234 = .ok (.if_icmp .eq 1259, 3) := by decide +kernel
theorem dL_law_1237 : decode cL_law 1237 = .ok (.iconst 0, 1) := by decide +kernel
theorem dL_law_1238 : decode cL_law 1238 = .ok (.ireturn, 1) := by decide +kernel
theorem dL_law_1239 : decode cL_law 1239 = .ok (.aload_n 1, 1) := by decide +kernel
theorem dL_law_1240 : decode cL_law 1240 = .ok (.aload_n 0, 1) := by decide +kernel
theorem dL_law_1241 : decode cL_law 1241 = .ok (.iload 5, 2) := by decide +kernel
theorem dL_law_1243 : decode cL_law 1243 = .ok (.iconst 1, 1) := by decide +kernel
theorem dL_law_1244 : decode cL_law 1244 = .ok (.iadd, 1) := by decide +kernel
theorem dL_law_1245 : decode cL_law 1245 = .ok (.iaload, 1) := by decide +kernel
theorem dL_law_1246 : decode cL_law 1246 = .ok (.aload_n 3, 1) := by decide +kernel
theorem dL_law_1247 : decode cL_law 1247 = .ok (.invokestatic 211, 3) := by decide +kernel
theorem dL_law_1250 : decode cL_law 1250 = .ok (.istore 6, 2) := by decide +kernel
theorem dL_law_1252 : decode cL_law 1252 = .ok (.aload_n 2, 1) := by decide +kernel
theorem dL_law_1253 : decode cL_law 1253 = .ok (.aload_n 0, 1) := by decide +kernel
theorem dL_law_1254 : decode cL_law 1254 = .ok (.iload 5, 2) := by decide +kernel
theorem dL_law_1256 : decode cL_law 1256 = .ok (.iconst 1, 1) := by decide +kernel
theorem dL_law_1257 : decode cL_law 1257 = .ok (.iadd, 1) := by decide +kernel
theorem dL_law_1258 : decode cL_law 1258 = .ok (.iaload, 1) := by decide +kernel
theorem dL_law_1259 : decode cL_law 1259 = .ok (.invokevirtual 213, 3) := by decide +kernel
theorem dL_law_1262 : decode cL_law 1262 = .ok (.istore 7, 2) := by decide +kernel
theorem dL_law_1264 : decode cL_law 1264 = .ok (.aload_n 2, 1) := by decide +kernel
theorem dL_law_1265 : decode cL_law 1265 = .ok (.invokevirtual 145, 3) := by decide +kernel
theorem dL_law_1268 : decode cL_law 1268 = .ok (.iload 6, 2) := by decide +kernel
theorem dL_law_1270 : decode cL_law 1270 = .ok (.if_icmp .eq 5, 3) := by decide +kernel
theorem dL_law_1273 : decode cL_law 1273 = .ok (.iconst 0, 1) := by decide +kernel
theorem dL_law_1274 : decode cL_law 1274 = .ok (.ireturn, 1) := by decide +kernel
theorem dL_law_1275 : decode cL_law 1275 = .ok (.iload 6, 2) := by decide +kernel
theorem dL_law_1277 : decode cL_law 1277 = .ok (.ifCond .ne 15, 3) := by decide +kernel
theorem dL_law_1280 : decode cL_law 1280 = .ok (.aload_n 3, 1) := by decide +kernel
theorem dL_law_1281 : decode cL_law 1281 = .ok (.iconst 0, 1) := by decide +kernel
theorem dL_law_1282 : decode cL_law 1282 = .ok (.laload, 1) := by decide +kernel
theorem dL_law_1283 : decode cL_law 1283 = .ok (.iload 7, 2) := by decide +kernel
theorem dL_law_1285 : decode cL_law 1285 = .ok (.i2l, 1) := by decide +kernel
theorem dL_law_1286 : decode cL_law 1286 = .ok (.lcmp, 1) := by decide +kernel
theorem dL_law_1287 : decode cL_law 1287 = .ok (.ifCond .eq 5, 3) := by decide +kernel
theorem dL_law_1290 : decode cL_law 1290 = .ok (.iconst 0, 1) := by decide +kernel
theorem dL_law_1291 : decode cL_law 1291 = .ok (.ireturn, 1) := by decide +kernel
theorem dL_law_1292 : decode cL_law 1292 = .ok (.goto 1201, 3) := by decide +kernel
theorem dL_law_1295 : decode cL_law 1295 = .ok (.aload_n 1, 1) := by decide +kernel
theorem dL_law_1296 : decode cL_law 1296 = .ok (.aload_n 0, 1) := by decide +kernel
theorem dL_law_1297 : decode cL_law 1297 = .ok (.iload 5, 2) := by decide +kernel
theorem dL_law_1299 : decode cL_law 1299 = .ok (.iconst 1, 1) := by decide +kernel
theorem dL_law_1300 : decode cL_law 1300 = .ok (.iadd, 1) := by decide +kernel
theorem dL_law_1301 : decode cL_law 1301 = .ok (.iaload, 1) := by decide +kernel
theorem dL_law_1302 : decode cL_law 1302 = .ok (.aload_n 0, 1) := by decide +kernel
theorem dL_law_1303 : decode cL_law 1303 = .ok (.iload 5, 2) := by decide +kernel
theorem dL_law_1305 : decode cL_law 1305 = .ok (.iconst 2, 1) := by decide +kernel
theorem dL_law_1306 : decode cL_law 1306 = .ok (.iadd, 1) := by decide +kernel
theorem dL_law_1307 : decode cL_law 1307 = .ok (.iaload, 1) := by decide +kernel
theorem dL_law_1308 : decode cL_law 1308 = .ok (.aload_n 3, 1) := by decide +kernel
theorem dL_law_1309 : decode cL_law 1309 = .ok (.invokestatic 214, 3) := by decide +kernel
theorem dL_law_1312 : decode cL_law 1312 = .ok (.istore 6, 2) := by decide +kernel
theorem dL_law_1314 : decode cL_law 1314 = .ok (.aload_n 2, 1) := by decide +kernel
theorem dL_law_1315 : decode cL_law 1315 = .ok (.aload_n 0, 1) := by decide +kernel
theorem dL_law_1316 : decode cL_law 1316 = .ok (.iload 5, 2) := by decide +kernel
theorem dL_law_1318 : decode cL_law 1318 = .ok (.iconst 1, 1) := by decide +kernel
theorem dL_law_1319 : decode cL_law 1319 = .ok (.iadd, 1) := by decide +kernel
theorem dL_law_1320 : decode cL_law 1320 = .ok (.iaload, 1) := by decide +kernel
theorem dL_law_1321 : decode cL_law 1321 = .ok (.aload_n 0, 1) := by decide +kernel
theorem dL_law_1322 : decode cL_law 1322 = .ok (.iload 5, 2) := by decide +kernel
theorem dL_law_1324 : decode cL_law 1324 = .ok (.iconst 2, 1) := by decide +kernel
theorem dL_law_1325 : decode cL_law 1325 = .ok (.iadd, 1) := by decide +kernel
theorem dL_law_1326 : decode cL_law 1326 = .ok (.iaload, 1) := by decide +kernel
theorem dL_law_1327 : decode cL_law 1327 = .ok (.invokevirtual 216, 3) := by decide +kernel
theorem dL_law_1330 : decode cL_law 1330 = .ok (.istore 7, 2) := by decide +kernel
theorem dL_law_1332 : decode cL_law 1332 = .ok (.aload_n 2, 1) := by decide +kernel
theorem dL_law_1333 : decode cL_law 1333 = .ok (.invokevirtual 145, 3) := by decide +kernel
theorem dL_law_1336 : decode cL_law 1336 = .ok (.iload 6, 2) := by decide +kernel
theorem dL_law_1338 : decode cL_law 1338 = .ok (.if_icmp .eq 5, 3) := by decide +kernel
theorem dL_law_1341 : decode cL_law 1341 = .ok (.iconst 0, 1) := by decide +kernel
theorem dL_law_1342 : decode cL_law 1342 = .ok (.ireturn, 1) := by decide +kernel
theorem dL_law_1343 : decode cL_law 1343 = .ok (.iload 6, 2) := by decide +kernel
theorem dL_law_1345 : decode cL_law 1345 = .ok (.ifCond .ne 15, 3) := by decide +kernel
theorem dL_law_1348 : decode cL_law 1348 = .ok (.aload_n 3, 1) := by decide +kernel
theorem dL_law_1349 : decode cL_law 1349 = .ok (.iconst 0, 1) := by decide +kernel
theorem dL_law_1350 : decode cL_law 1350 = .ok (.laload, 1) := by decide +kernel
theorem dL_law_1351 : decode cL_law 1351 = .ok (.iload 7, 2) := by decide +kernel
theorem dL_law_1353 : decode cL_law 1353 = .ok (.i2l, 1) := by decide +kernel
theorem dL_law_1354 : decode cL_law 1354 = .ok (.lcmp, 1) := by decide +kernel
theorem dL_law_1355 : decode cL_law 1355 = .ok (.ifCond .eq 5, 3) := by decide +kernel
theorem dL_law_1358 : decode cL_law 1358 = .ok (.iconst 0, 1) := by decide +kernel
theorem dL_law_1359 : decode cL_law 1359 = .ok (.ireturn, 1) := by decide +kernel
theorem dL_law_1360 : decode cL_law 1360 = .ok (.goto 1133, 3) := by decide +kernel
theorem dL_law_1363 : decode cL_law 1363 = .ok (.aload_n 1, 1) := by decide +kernel
theorem dL_law_1364 : decode cL_law 1364 = .ok (.aload_n 0, 1) := by decide +kernel
theorem dL_law_1365 : decode cL_law 1365 = .ok (.iload 5, 2) := by decide +kernel
theorem dL_law_1367 : decode cL_law 1367 = .ok (.iconst 1, 1) := by decide +kernel
theorem dL_law_1368 : decode cL_law 1368 = .ok (.iadd, 1) := by decide +kernel
theorem dL_law_1369 : decode cL_law 1369 = .ok (.iaload, 1) := by decide +kernel
theorem dL_law_1370 : decode cL_law 1370 = .ok (.aload_n 0, 1) := by decide +kernel
theorem dL_law_1371 : decode cL_law 1371 = .ok (.iload 5, 2) := by decide +kernel
theorem dL_law_1373 : decode cL_law 1373 = .ok (.iconst 2, 1) := by decide +kernel
theorem dL_law_1374 : decode cL_law 1374 = .ok (.iadd, 1) := by decide +kernel
theorem dL_law_1375 : decode cL_law 1375 = .ok (.iaload, 1) := by decide +kernel
theorem dL_law_1376 : decode cL_law 1376 = .ok (.aload_n 3, 1) := by decide +kernel
theorem dL_law_1377 : decode cL_law 1377 = .ok (.invokestatic 217, 3) := by decide +kernel
theorem dL_law_1380 : decode cL_law 1380 = .ok (.istore 6, 2) := by decide +kernel
theorem dL_law_1382 : decode cL_law 1382 = .ok (.aload_n 2, 1) := by decide +kernel
theorem dL_law_1383 : decode cL_law 1383 = .ok (.aload_n 0, 1) := by decide +kernel
theorem dL_law_1384 : decode cL_law 1384 = .ok (.iload 5, 2) := by decide +kernel
theorem dL_law_1386 : decode cL_law 1386 = .ok (.iconst 1, 1) := by decide +kernel
theorem dL_law_1387 : decode cL_law 1387 = .ok (.iadd, 1) := by decide +kernel
theorem dL_law_1388 : decode cL_law 1388 = .ok (.iaload, 1) := by decide +kernel
theorem dL_law_1389 : decode cL_law 1389 = .ok (.aload_n 0, 1) := by decide +kernel
theorem dL_law_1390 : decode cL_law 1390 = .ok (.iload 5, 2) := by decide +kernel
theorem dL_law_1392 : decode cL_law 1392 = .ok (.iconst 2, 1) := by decide +kernel
theorem dL_law_1393 : decode cL_law 1393 = .ok (.iadd, 1) := by decide +kernel
theorem dL_law_1394 : decode cL_law 1394 = .ok (.iaload, 1) := by decide +kernel
theorem dL_law_1395 : decode cL_law 1395 = .ok (.invokevirtual 219, 3) := by decide +kernel
theorem dL_law_1398 : decode cL_law 1398 = .ok (.istore 7, 2) := by decide +kernel
theorem dL_law_1400 : decode cL_law 1400 = .ok (.aload_n 2, 1) := by decide +kernel
theorem dL_law_1401 : decode cL_law 1401 = .ok (.invokevirtual 145, 3) := by decide +kernel
theorem dL_law_1404 : decode cL_law 1404 = .ok (.iload 6, 2) := by decide +kernel
theorem dL_law_1406 : decode cL_law 1406 = .ok (.if_icmp .eq 5, 3) := by decide +kernel
theorem dL_law_1409 : decode cL_law 1409 = .ok (.iconst 0, 1) := by decide +kernel
theorem dL_law_1410 : decode cL_law 1410 = .ok (.ireturn, 1) := by decide +kernel
theorem dL_law_1411 : decode cL_law 1411 = .ok (.iload 6, 2) := by decide +kernel
theorem dL_law_1413 : decode cL_law 1413 = .ok (.ifCond .ne 15, 3) := by decide +kernel
theorem dL_law_1416 : decode cL_law 1416 = .ok (.aload_n 3, 1) := by decide +kernel
theorem dL_law_1417 : decode cL_law 1417 = .ok (.iconst 0, 1) := by decide +kernel
theorem dL_law_1418 : decode cL_law 1418 = .ok (.laload, 1) := by decide +kernel
theorem dL_law_1419 : decode cL_law 1419 = .ok (.iload 7, 2) := by decide +kernel
theorem dL_law_1421 : decode cL_law 1421 = .ok (.i2l, 1) := by decide +kernel
theorem dL_law_1422 : decode cL_law 1422 = .ok (.lcmp, 1) := by decide +kernel
theorem dL_law_1423 : decode cL_law 1423 = .ok (.ifCond .eq 5, 3) := by decide +kernel
theorem dL_law_1426 : decode cL_law 1426 = .ok (.iconst 0, 1) := by decide +kernel
theorem dL_law_1427 : decode cL_law 1427 = .ok (.ireturn, 1) := by decide +kernel
theorem dL_law_1428 : decode cL_law 1428 = .ok (.goto 1065, 3) := by decide +kernel
theorem dL_law_1431 : decode cL_law 1431 = .ok (.aload_n 1, 1) := by decide +kernel
theorem dL_law_1432 : decode cL_law 1432 = .ok (.aload_n 0, 1) := by decide +kernel
theorem dL_law_1433 : decode cL_law 1433 = .ok (.iload 5, 2) := by decide +kernel
theorem dL_law_1435 : decode cL_law 1435 = .ok (.iconst 1, 1) := by decide +kernel
theorem dL_law_1436 : decode cL_law 1436 = .ok (.iadd, 1) := by decide +kernel
theorem dL_law_1437 : decode cL_law 1437 = .ok (.iaload, 1) := by decide +kernel
theorem dL_law_1438 : decode cL_law 1438 = .ok (.aload_n 3, 1) := by decide +kernel
theorem dL_law_1439 : decode cL_law 1439 = .ok (.invokestatic 220, 3) := by decide +kernel
theorem dL_law_1442 : decode cL_law 1442 = .ok (.istore 6, 2) := by decide +kernel
theorem dL_law_1444 : decode cL_law 1444 = .ok (.aload_n 2, 1) := by decide +kernel
theorem dL_law_1445 : decode cL_law 1445 = .ok (.aload_n 0, 1) := by decide +kernel
theorem dL_law_1446 : decode cL_law 1446 = .ok (.iload 5, 2) := by decide +kernel
theorem dL_law_1448 : decode cL_law 1448 = .ok (.iconst 1, 1) := by decide +kernel
theorem dL_law_1449 : decode cL_law 1449 = .ok (.iadd, 1) := by decide +kernel
theorem dL_law_1450 : decode cL_law 1450 = .ok (.iaload, 1) := by decide +kernel
theorem dL_law_1451 : decode cL_law 1451 = .ok (.invokevirtual 222, 3) := by decide +kernel
theorem dL_law_1454 : decode cL_law 1454 = .ok (.istore 7, 2) := by decide +kernel
theorem dL_law_1456 : decode cL_law 1456 = .ok (.aload_n 2, 1) := by decide +kernel
theorem dL_law_1457 : decode cL_law 1457 = .ok (.invokevirtual 145, 3) := by decide +kernel
theorem dL_law_1460 : decode cL_law 1460 = .ok (.iload 6, 2) := by decide +kernel
theorem dL_law_1462 : decode cL_law 1462 = .ok (.if_icmp .eq 5, 3) := by decide +kernel
theorem dL_law_1465 : decode cL_law 1465 = .ok (.iconst 0, 1) := by decide +kernel
theorem dL_law_1466 : decode cL_law 1466 = .ok (.ireturn, 1) := by decide +kernel
theorem dL_law_1467 : decode cL_law 1467 = .ok (.iload 6, 2) := by decide +kernel
theorem dL_law_1469 : decode cL_law 1469 = .ok (.ifCond .ne 15, 3) := by decide +kernel
theorem dL_law_1472 : decode cL_law 1472 = .ok (.aload_n 3, 1) := by decide +kernel
theorem dL_law_1473 : decode cL_law 1473 = .ok (.iconst 0, 1) := by decide +kernel
theorem dL_law_1474 : decode cL_law 1474 = .ok (.laload, 1) := by decide +kernel
theorem dL_law_1475 : decode cL_law 1475 = .ok (.iload 7, 2) := by decide +kernel
theorem dL_law_1477 : decode cL_law 1477 = .ok (.i2l, 1) := by decide +kernel
theorem dL_law_1478 : decode cL_law 1478 = .ok (.lcmp, 1) := by decide +kernel
theorem dL_law_1479 : decode cL_law 1479 = .ok (.ifCond .eq 5, 3) := by decide +kernel
theorem dL_law_1482 : decode cL_law 1482 = .ok (.iconst 0, 1) := by decide +kernel
theorem dL_law_1483 : decode cL_law 1483 = .ok (.ireturn, 1) := by decide +kernel
theorem dL_law_1484 : decode cL_law 1484 = .ok (.goto 1009, 3) := by decide +kernel
theorem dL_law_1487 : decode cL_law 1487 = .ok (.aload_n 1, 1) := by decide +kernel
theorem dL_law_1488 : decode cL_law 1488 = .ok (.aload_n 0, 1) := by decide +kernel
theorem dL_law_1489 : decode cL_law 1489 = .ok (.iload 5, 2) := by decide +kernel
theorem dL_law_1491 : decode cL_law 1491 = .ok (.iconst 1, 1) := by decide +kernel
theorem dL_law_1492 : decode cL_law 1492 = .ok (.iadd, 1) := by decide +kernel
theorem dL_law_1493 : decode cL_law 1493 = .ok (.iaload, 1) := by decide +kernel
theorem dL_law_1494 : decode cL_law 1494 = .ok (.aload_n 0, 1) := by decide +kernel
theorem dL_law_1495 : decode cL_law 1495 = .ok (.iload 5, 2) := by decide +kernel
theorem dL_law_1497 : decode cL_law 1497 = .ok (.iconst 2, 1) := by decide +kernel
theorem dL_law_1498 : decode cL_law 1498 = .ok (.iadd, 1) := by decide +kernel
theorem dL_law_1499 : decode cL_law 1499 = .ok (.iaload, 1) := by decide +kernel
theorem dL_law_1500 : decode cL_law 1500 = .ok (.aload_n 3, 1) := by decide +kernel
theorem dL_law_1501 : decode cL_law 1501 = .ok (.invokestatic 223, 3) := by decide +kernel
theorem dL_law_1504 : decode cL_law 1504 = .ok (.istore 6, 2) := by decide +kernel
theorem dL_law_1506 : decode cL_law 1506 = .ok (.aload_n 2, 1) := by decide +kernel
theorem dL_law_1507 : decode cL_law 1507 = .ok (.aload_n 0, 1) := by decide +kernel
theorem dL_law_1508 : decode cL_law 1508 = .ok (.iload 5, 2) := by decide +kernel
theorem dL_law_1510 : decode cL_law 1510 = .ok (.iconst 1, 1) := by decide +kernel
theorem dL_law_1511 : decode cL_law 1511 = .ok (.iadd, 1) := by decide +kernel
theorem dL_law_1512 : decode cL_law 1512 = .ok (.iaload, 1) := by decide +kernel
theorem dL_law_1513 : decode cL_law 1513 = .ok (.aload_n 0, 1) := by decide +kernel
theorem dL_law_1514 : decode cL_law 1514 = .ok (.iload 5, 2) := by decide +kernel
theorem dL_law_1516 : decode cL_law 1516 = .ok (.iconst 2, 1) := by decide +kernel
theorem dL_law_1517 : decode cL_law 1517 = .ok (.iadd, 1) := by decide +kernel
theorem dL_law_1518 : decode cL_law 1518 = .ok (.iaload, 1) := by decide +kernel
theorem dL_law_1519 : decode cL_law 1519 = .ok (.invokevirtual 225, 3) := by decide +kernel
theorem dL_law_1522 : decode cL_law 1522 = .ok (.istore 7, 2) := by decide +kernel
theorem dL_law_1524 : decode cL_law 1524 = .ok (.aload_n 2, 1) := by decide +kernel
theorem dL_law_1525 : decode cL_law 1525 = .ok (.invokevirtual 145, 3) := by decide +kernel
theorem dL_law_1528 : decode cL_law 1528 = .ok (.iload 6, 2) := by decide +kernel
theorem dL_law_1530 : decode cL_law 1530 = .ok (.if_icmp .eq 5, 3) := by decide +kernel
theorem dL_law_1533 : decode cL_law 1533 = .ok (.iconst 0, 1) := by decide +kernel
theorem dL_law_1534 : decode cL_law 1534 = .ok (.ireturn, 1) := by decide +kernel
theorem dL_law_1535 : decode cL_law 1535 = .ok (.iload 6, 2) := by decide +kernel
theorem dL_law_1537 : decode cL_law 1537 = .ok (.ifCond .ne 15, 3) := by decide +kernel
theorem dL_law_1540 : decode cL_law 1540 = .ok (.aload_n 3, 1) := by decide +kernel
theorem dL_law_1541 : decode cL_law 1541 = .ok (.iconst 0, 1) := by decide +kernel
theorem dL_law_1542 : decode cL_law 1542 = .ok (.laload, 1) := by decide +kernel
theorem dL_law_1543 : decode cL_law 1543 = .ok (.iload 7, 2) := by decide +kernel
theorem dL_law_1545 : decode cL_law 1545 = .ok (.i2l, 1) := by decide +kernel
theorem dL_law_1546 : decode cL_law 1546 = .ok (.lcmp, 1) := by decide +kernel
theorem dL_law_1547 : decode cL_law 1547 = .ok (.ifCond .eq 5, 3) := by decide +kernel
theorem dL_law_1550 : decode cL_law 1550 = .ok (.iconst 0, 1) := by decide +kernel
theorem dL_law_1551 : decode cL_law 1551 = .ok (.ireturn, 1) := by decide +kernel
theorem dL_law_1552 : decode cL_law 1552 = .ok (.goto 941, 3) := by decide +kernel
theorem dL_law_1555 : decode cL_law 1555 = .ok (.aload_n 1, 1) := by decide +kernel
theorem dL_law_1556 : decode cL_law 1556 = .ok (.aload_n 0, 1) := by decide +kernel
theorem dL_law_1557 : decode cL_law 1557 = .ok (.iload 5, 2) := by decide +kernel
theorem dL_law_1559 : decode cL_law 1559 = .ok (.iconst 1, 1) := by decide +kernel
theorem dL_law_1560 : decode cL_law 1560 = .ok (.iadd, 1) := by decide +kernel
theorem dL_law_1561 : decode cL_law 1561 = .ok (.iaload, 1) := by decide +kernel
theorem dL_law_1562 : decode cL_law 1562 = .ok (.aload_n 3, 1) := by decide +kernel
theorem dL_law_1563 : decode cL_law 1563 = .ok (.invokestatic 226, 3) := by decide +kernel
theorem dL_law_1566 : decode cL_law 1566 = .ok (.istore 6, 2) := by decide +kernel
theorem dL_law_1568 : decode cL_law 1568 = .ok (.aload_n 2, 1) := by decide +kernel
theorem dL_law_1569 : decode cL_law 1569 = .ok (.aload_n 0, 1) := by decide +kernel
theorem dL_law_1570 : decode cL_law 1570 = .ok (.iload 5, 2) := by decide +kernel
theorem dL_law_1572 : decode cL_law 1572 = .ok (.iconst 1, 1) := by decide +kernel
theorem dL_law_1573 : decode cL_law 1573 = .ok (.iadd, 1) := by decide +kernel
theorem dL_law_1574 : decode cL_law 1574 = .ok (.iaload, 1) := by decide +kernel
theorem dL_law_1575 : decode cL_law 1575 = .ok (.invokevirtual 228, 3) := by decide +kernel
theorem dL_law_1578 : decode cL_law 1578 = .ok (.istore 7, 2) := by decide +kernel
theorem dL_law_1580 : decode cL_law 1580 = .ok (.aload_n 2, 1) := by decide +kernel
theorem dL_law_1581 : decode cL_law 1581 = .ok (.invokevirtual 145, 3) := by decide +kernel
theorem dL_law_1584 : decode cL_law 1584 = .ok (.iload 6, 2) := by decide +kernel
theorem dL_law_1586 : decode cL_law 1586 = .ok (.if_icmp .eq 5, 3) := by decide +kernel
theorem dL_law_1589 : decode cL_law 1589 = .ok (.iconst 0, 1) := by decide +kernel
theorem dL_law_1590 : decode cL_law 1590 = .ok (.ireturn, 1) := by decide +kernel
theorem dL_law_1591 : decode cL_law 1591 = .ok (.iload 6, 2) := by decide +kernel
theorem dL_law_1593 : decode cL_law 1593 = .ok (.ifCond .ne 15, 3) := by decide +kernel
theorem dL_law_1596 : decode cL_law 1596 = .ok (.aload_n 3, 1) := by decide +kernel
theorem dL_law_1597 : decode cL_law 1597 = .ok (.iconst 0, 1) := by decide +kernel
theorem dL_law_1598 : decode cL_law 1598 = .ok (.laload, 1) := by decide +kernel
theorem dL_law_1599 : decode cL_law 1599 = .ok (.iload 7, 2) := by decide +kernel
theorem dL_law_1601 : decode cL_law 1601 = .ok (.i2l, 1) := by decide +kernel
theorem dL_law_1602 : decode cL_law 1602 = .ok (.lcmp, 1) := by decide +kernel
theorem dL_law_1603 : decode cL_law 1603 = .ok (.ifCond .eq 5, 3) := by decide +kernel
theorem dL_law_1606 : decode cL_law 1606 = .ok (.iconst 0, 1) := by decide +kernel
theorem dL_law_1607 : decode cL_law 1607 = .ok (.ireturn, 1) := by decide +kernel
theorem dL_law_1608 : decode cL_law 1608 = .ok (.goto 885, 3) := by decide +kernel
theorem dL_law_1611 : decode cL_law 1611 = .ok (.aload_n 1, 1) := by decide +kernel
theorem dL_law_1612 : decode cL_law 1612 = .ok (.aload_n 0, 1) := by decide +kernel
theorem dL_law_1613 : decode cL_law 1613 = .ok (.iload 5, 2) := by decide +kernel
theorem dL_law_1615 : decode cL_law 1615 = .ok (.iconst 1, 1) := by decide +kernel
theorem dL_law_1616 : decode cL_law 1616 = .ok (.iadd, 1) := by decide +kernel
theorem dL_law_1617 : decode cL_law 1617 = .ok (.iaload, 1) := by decide +kernel
theorem dL_law_1618 : decode cL_law 1618 = .ok (.aload_n 0, 1) := by decide +kernel
theorem dL_law_1619 : decode cL_law 1619 = .ok (.iload 5, 2) := by decide +kernel
theorem dL_law_1621 : decode cL_law 1621 = .ok (.iconst 2, 1) := by decide +kernel
theorem dL_law_1622 : decode cL_law 1622 = .ok (.iadd, 1) := by decide +kernel
theorem dL_law_1623 : decode cL_law 1623 = .ok (.iaload, 1) := by decide +kernel
theorem dL_law_1624 : decode cL_law 1624 = .ok (.aload_n 3, 1) := by decide +kernel
theorem dL_law_1625 : decode cL_law 1625 = .ok (.invokestatic 229, 3) := by decide +kernel
theorem dL_law_1628 : decode cL_law 1628 = .ok (.istore 6, 2) := by decide +kernel
theorem dL_law_1630 : decode cL_law 1630 = .ok (.aload_n 2, 1) := by decide +kernel
theorem dL_law_1631 : decode cL_law 1631 = .ok (.aload_n 0, 1) := by decide +kernel
theorem dL_law_1632 : decode cL_law 1632 = .ok (.iload 5, 2) := by decide +kernel
theorem dL_law_1634 : decode cL_law 1634 = .ok (.iconst 1, 1) := by decide +kernel
theorem dL_law_1635 : decode cL_law 1635 = .ok (.iadd, 1) := by decide +kernel
theorem dL_law_1636 : decode cL_law 1636 = .ok (.iaload, 1) := by decide +kernel
theorem dL_law_1637 : decode cL_law 1637 = .ok (.aload_n 0, 1) := by decide +kernel
theorem dL_law_1638 : decode cL_law 1638 = .ok (.iload 5, 2) := by decide +kernel
theorem dL_law_1640 : decode cL_law 1640 = .ok (.iconst 2, 1) := by decide +kernel
theorem dL_law_1641 : decode cL_law 1641 = .ok (.iadd, 1) := by decide +kernel
theorem dL_law_1642 : decode cL_law 1642 = .ok (.iaload, 1) := by decide +kernel
theorem dL_law_1643 : decode cL_law 1643 = .ok (.invokevirtual 231, 3) := by decide +kernel
theorem dL_law_1646 : decode cL_law 1646 = .ok (.istore 7, 2) := by decide +kernel
theorem dL_law_1648 : decode cL_law 1648 = .ok (.aload_n 2, 1) := by decide +kernel
theorem dL_law_1649 : decode cL_law 1649 = .ok (.invokevirtual 145, 3) := by decide +kernel
theorem dL_law_1652 : decode cL_law 1652 = .ok (.iload 6, 2) := by decide +kernel
theorem dL_law_1654 : decode cL_law 1654 = .ok (.if_icmp .eq 5, 3) := by decide +kernel
theorem dL_law_1657 : decode cL_law 1657 = .ok (.iconst 0, 1) := by decide +kernel
theorem dL_law_1658 : decode cL_law 1658 = .ok (.ireturn, 1) := by decide +kernel
theorem dL_law_1659 : decode cL_law 1659 = .ok (.iload 6, 2) := by decide +kernel
theorem dL_law_1661 : decode cL_law 1661 = .ok (.ifCond .ne 15, 3) := by decide +kernel
theorem dL_law_1664 : decode cL_law 1664 = .ok (.aload_n 3, 1) := by decide +kernel
theorem dL_law_1665 : decode cL_law 1665 = .ok (.iconst 0, 1) := by decide +kernel
theorem dL_law_1666 : decode cL_law 1666 = .ok (.laload, 1) := by decide +kernel
theorem dL_law_1667 : decode cL_law 1667 = .ok (.iload 7, 2) := by decide +kernel
theorem dL_law_1669 : decode cL_law 1669 = .ok (.i2l, 1) := by decide +kernel
theorem dL_law_1670 : decode cL_law 1670 = .ok (.lcmp, 1) := by decide +kernel
theorem dL_law_1671 : decode cL_law 1671 = .ok (.ifCond .eq 5, 3) := by decide +kernel
theorem dL_law_1674 : decode cL_law 1674 = .ok (.iconst 0, 1) := by decide +kernel
theorem dL_law_1675 : decode cL_law 1675 = .ok (.ireturn, 1) := by decide +kernel
theorem dL_law_1676 : decode cL_law 1676 = .ok (.goto 817, 3) := by decide +kernel
theorem dL_law_1679 : decode cL_law 1679 = .ok (.aload_n 1, 1) := by decide +kernel
theorem dL_law_1680 : decode cL_law 1680 = .ok (.aload_n 0, 1) := by decide +kernel
theorem dL_law_1681 : decode cL_law 1681 = .ok (.iload 5, 2) := by decide +kernel
theorem dL_law_1683 : decode cL_law 1683 = .ok (.iconst 1, 1) := by decide +kernel
theorem dL_law_1684 : decode cL_law 1684 = .ok (.iadd, 1) := by decide +kernel
theorem dL_law_1685 : decode cL_law 1685 = .ok (.iaload, 1) := by decide +kernel
theorem dL_law_1686 : decode cL_law 1686 = .ok (.aload_n 0, 1) := by decide +kernel
theorem dL_law_1687 : decode cL_law 1687 = .ok (.iload 5, 2) := by decide +kernel
theorem dL_law_1689 : decode cL_law 1689 = .ok (.iconst 2, 1) := by decide +kernel
theorem dL_law_1690 : decode cL_law 1690 = .ok (.iadd, 1) := by decide +kernel
theorem dL_law_1691 : decode cL_law 1691 = .ok (.iaload, 1) := by decide +kernel
theorem dL_law_1692 : decode cL_law 1692 = .ok (.aload_n 3, 1) := by decide +kernel
theorem dL_law_1693 : decode cL_law 1693 = .ok (.invokestatic 232, 3) := by decide +kernel
theorem dL_law_1696 : decode cL_law 1696 = .ok (.istore 6, 2) := by decide +kernel
theorem dL_law_1698 : decode cL_law 1698 = .ok (.aload_n 2, 1) := by decide +kernel
theorem dL_law_1699 : decode cL_law 1699 = .ok (.aload_n 0, 1) := by decide +kernel
theorem dL_law_1700 : decode cL_law 1700 = .ok (.iload 5, 2) := by decide +kernel
theorem dL_law_1702 : decode cL_law 1702 = .ok (.iconst 1, 1) := by decide +kernel
theorem dL_law_1703 : decode cL_law 1703 = .ok (.iadd, 1) := by decide +kernel
theorem dL_law_1704 : decode cL_law 1704 = .ok (.iaload, 1) := by decide +kernel
theorem dL_law_1705 : decode cL_law 1705 = .ok (.aload_n 0, 1) := by decide +kernel
theorem dL_law_1706 : decode cL_law 1706 = .ok (.iload 5, 2) := by decide +kernel
theorem dL_law_1708 : decode cL_law 1708 = .ok (.iconst 2, 1) := by decide +kernel
theorem dL_law_1709 : decode cL_law 1709 = .ok (.iadd, 1) := by decide +kernel
theorem dL_law_1710 : decode cL_law 1710 = .ok (.iaload, 1) := by decide +kernel
theorem dL_law_1711 : decode cL_law 1711 = .ok (.invokevirtual 234, 3) := by decide +kernel
theorem dL_law_1714 : decode cL_law 1714 = .ok (.istore 7, 2) := by decide +kernel
theorem dL_law_1716 : decode cL_law 1716 = .ok (.aload_n 2, 1) := by decide +kernel
theorem dL_law_1717 : decode cL_law 1717 = .ok (.invokevirtual 145, 3) := by decide +kernel
theorem dL_law_1720 : decode cL_law 1720 = .ok (.iload 6, 2) := by decide +kernel
theorem dL_law_1722 : decode cL_law 1722 = .ok (.if_icmp .eq 5, 3) := by decide +kernel
theorem dL_law_1725 : decode cL_law 1725 = .ok (.iconst 0, 1) := by decide +kernel
theorem dL_law_1726 : decode cL_law 1726 = .ok (.ireturn, 1) := by decide +kernel
theorem dL_law_1727 : decode cL_law 1727 = .ok (.iload 6, 2) := by decide +kernel
theorem dL_law_1729 : decode cL_law 1729 = .ok (.ifCond .ne 15, 3) := by decide +kernel
theorem dL_law_1732 : decode cL_law 1732 = .ok (.aload_n 3, 1) := by decide +kernel
theorem dL_law_1733 : decode cL_law 1733 = .ok (.iconst 0, 1) := by decide +kernel
theorem dL_law_1734 : decode cL_law 1734 = .ok (.laload, 1) := by decide +kernel
theorem dL_law_1735 : decode cL_law 1735 = .ok (.iload 7, 2) := by decide +kernel
theorem dL_law_1737 : decode cL_law 1737 = .ok (.i2l, 1) := by decide +kernel
theorem dL_law_1738 : decode cL_law 1738 = .ok (.lcmp, 1) := by decide +kernel
theorem dL_law_1739 : decode cL_law 1739 = .ok (.ifCond .eq 5, 3) := by decide +kernel
theorem dL_law_1742 : decode cL_law 1742 = .ok (.iconst 0, 1) := by decide +kernel
theorem dL_law_1743 : decode cL_law 1743 = .ok (.ireturn, 1) := by decide +kernel
theorem dL_law_1744 : decode cL_law 1744 = .ok (.goto 749, 3) := by decide +kernel
theorem dL_law_1747 : decode cL_law 1747 = .ok (.aload_n 1, 1) := by decide +kernel
theorem dL_law_1748 : decode cL_law 1748 = .ok (.aload_n 0, 1) := by decide +kernel
theorem dL_law_1749 : decode cL_law 1749 = .ok (.iload 5, 2) := by decide +kernel
theorem dL_law_1751 : decode cL_law 1751 = .ok (.iconst 1, 1) := by decide +kernel
theorem dL_law_1752 : decode cL_law 1752 = .ok (.iadd, 1) := by decide +kernel
theorem dL_law_1753 : decode cL_law 1753 = .ok (.iaload, 1) := by decide +kernel
theorem dL_law_1754 : decode cL_law 1754 = .ok (.aload_n 3, 1) := by decide +kernel
theorem dL_law_1755 : decode cL_law 1755 = .ok (.invokestatic 235, 3) := by decide +kernel
theorem dL_law_1758 : decode cL_law 1758 = .ok (.istore 6, 2) := by decide +kernel
theorem dL_law_1760 : decode cL_law 1760 = .ok (.aload_n 2, 1) := by decide +kernel
theorem dL_law_1761 : decode cL_law 1761 = .ok (.aload_n 0, 1) := by decide +kernel
theorem dL_law_1762 : decode cL_law 1762 = .ok (.iload 5, 2) := by decide +kernel
theorem dL_law_1764 : decode cL_law 1764 = .ok (.iconst 1, 1) := by decide +kernel
theorem dL_law_1765 : decode cL_law 1765 = .ok (.iadd, 1) := by decide +kernel
theorem dL_law_1766 : decode cL_law 1766 = .ok (.iaload, 1) := by decide +kernel
theorem dL_law_1767 : decode cL_law 1767 = .ok (.invokevirtual 237, 3) := by decide +kernel
theorem dL_law_1770 : decode cL_law 1770 = .ok (.istore 7, 2) := by decide +kernel
theorem dL_law_1772 : decode cL_law 1772 = .ok (.aload_n 2, 1) := by decide +kernel
theorem dL_law_1773 : decode cL_law 1773 = .ok (.invokevirtual 145, 3) := by decide +kernel
theorem dL_law_1776 : decode cL_law 1776 = .ok (.iload 6, 2) := by decide +kernel
theorem dL_law_1778 : decode cL_law 1778 = .ok (.if_icmp .eq 5, 3) := by decide +kernel
theorem dL_law_1781 : decode cL_law 1781 = .ok (.iconst 0, 1) := by decide +kernel
theorem dL_law_1782 : decode cL_law 1782 = .ok (.ireturn, 1) := by decide +kernel
theorem dL_law_1783 : decode cL_law 1783 = .ok (.iload 6, 2) := by decide +kernel
theorem dL_law_1785 : decode cL_law 1785 = .ok (.ifCond .ne 15, 3) := by decide +kernel
theorem dL_law_1788 : decode cL_law 1788 = .ok (.aload_n 3, 1) := by decide +kernel
theorem dL_law_1789 : decode cL_law 1789 = .ok (.iconst 0, 1) := by decide +kernel
theorem dL_law_1790 : decode cL_law 1790 = .ok (.laload, 1) := by decide +kernel
theorem dL_law_1791 : decode cL_law 1791 = .ok (.iload 7, 2) := by decide +kernel
theorem dL_law_1793 : decode cL_law 1793 = .ok (.i2l, 1) := by decide +kernel
theorem dL_law_1794 : decode cL_law 1794 = .ok (.lcmp, 1) := by decide +kernel
theorem dL_law_1795 : decode cL_law 1795 = .ok (.ifCond .eq 5, 3) := by decide +kernel
theorem dL_law_1798 : decode cL_law 1798 = .ok (.iconst 0, 1) := by decide +kernel
theorem dL_law_1799 : decode cL_law 1799 = .ok (.ireturn, 1) := by decide +kernel
theorem dL_law_1800 : decode cL_law 1800 = .ok (.goto 693, 3) := by decide +kernel
theorem dL_law_1803 : decode cL_law 1803 = .ok (.aload_n 1, 1) := by decide +kernel
theorem dL_law_1804 : decode cL_law 1804 = .ok (.aload_n 0, 1) := by decide +kernel
theorem dL_law_1805 : decode cL_law 1805 = .ok (.iload 5, 2) := by decide +kernel
theorem dL_law_1807 : decode cL_law 1807 = .ok (.iconst 1, 1) := by decide +kernel
theorem dL_law_1808 : decode cL_law 1808 = .ok (.iadd, 1) := by decide +kernel
theorem dL_law_1809 : decode cL_law 1809 = .ok (.iaload, 1) := by decide +kernel
theorem dL_law_1810 : decode cL_law 1810 = .ok (.aload_n 0, 1) := by decide +kernel
theorem dL_law_1811 : decode cL_law 1811 = .ok (.iload 5, 2) := by decide +kernel
theorem dL_law_1813 : decode cL_law 1813 = .ok (.iconst 2, 1) := by decide +kernel
theorem dL_law_1814 : decode cL_law 1814 = .ok (.iadd, 1) := by decide +kernel
theorem dL_law_1815 : decode cL_law 1815 = .ok (.iaload, 1) := by decide +kernel
theorem dL_law_1816 : decode cL_law 1816 = .ok (.aload_n 3, 1) := by decide +kernel
theorem dL_law_1817 : decode cL_law 1817 = .ok (.invokestatic 238, 3) := by decide +kernel
theorem dL_law_1820 : decode cL_law 1820 = .ok (.istore 6, 2) := by decide +kernel
theorem dL_law_1822 : decode cL_law 1822 = .ok (.aload_n 2, 1) := by decide +kernel
theorem dL_law_1823 : decode cL_law 1823 = .ok (.aload_n 0, 1) := by decide +kernel
theorem dL_law_1824 : decode cL_law 1824 = .ok (.iload 5, 2) := by decide +kernel
theorem dL_law_1826 : decode cL_law 1826 = .ok (.iconst 1, 1) := by decide +kernel
theorem dL_law_1827 : decode cL_law 1827 = .ok (.iadd, 1) := by decide +kernel
theorem dL_law_1828 : decode cL_law 1828 = .ok (.iaload, 1) := by decide +kernel
theorem dL_law_1829 : decode cL_law 1829 = .ok (.aload_n 0, 1) := by decide +kernel
theorem dL_law_1830 : decode cL_law 1830 = .ok (.iload 5, 2) := by decide +kernel
theorem dL_law_1832 : decode cL_law 1832 = .ok (.iconst 2, 1) := by decide +kernel
theorem dL_law_1833 : decode cL_law 1833 = .ok (.iadd, 1) := by decide +kernel
theorem dL_law_1834 : decode cL_law 1834 = .ok (.iaload, 1) := by decide +kernel
theorem dL_law_1835 : decode cL_law 1835 = .ok (.invokevirtual 240, 3) := by decide +kernel
theorem dL_law_1838 : decode cL_law 1838 = .ok (.istore 7, 2) := by decide +kernel
theorem dL_law_1840 : decode cL_law 1840 = .ok (.aload_n 2, 1) := by decide +kernel
theorem dL_law_1841 : decode cL_law 1841 = .ok (.invokevirtual 145, 3) := by decide +kernel
theorem dL_law_1844 : decode cL_law 1844 = .ok (.iload 6, 2) := by decide +kernel
theorem dL_law_1846 : decode cL_law 1846 = .ok (.if_icmp .eq 5, 3) := by decide +kernel
theorem dL_law_1849 : decode cL_law 1849 = .ok (.iconst 0, 1) := by decide +kernel
theorem dL_law_1850 : decode cL_law 1850 = .ok (.ireturn, 1) := by decide +kernel
theorem dL_law_1851 : decode cL_law 1851 = .ok (.iload 6, 2) := by decide +kernel
theorem dL_law_1853 : decode cL_law 1853 = .ok (.ifCond .ne 15, 3) := by decide +kernel
theorem dL_law_1856 : decode cL_law 1856 = .ok (.aload_n 3, 1) := by decide +kernel
theorem dL_law_1857 : decode cL_law 1857 = .ok (.iconst 0, 1) := by decide +kernel
theorem dL_law_1858 : decode cL_law 1858 = .ok (.laload, 1) := by decide +kernel
theorem dL_law_1859 : decode cL_law 1859 = .ok (.iload 7, 2) := by decide +kernel
theorem dL_law_1861 : decode cL_law 1861 = .ok (.i2l, 1) := by decide +kernel
theorem dL_law_1862 : decode cL_law 1862 = .ok (.lcmp, 1) := by decide +kernel
theorem dL_law_1863 : decode cL_law 1863 = .ok (.ifCond .eq 5, 3) := by decide +kernel
theorem dL_law_1866 : decode cL_law 1866 = .ok (.iconst 0, 1) := by decide +kernel
theorem dL_law_1867 : decode cL_law 1867 = .ok (.ireturn, 1) := by decide +kernel
theorem dL_law_1868 : decode cL_law 1868 = .ok (.goto 625, 3) := by decide +kernel
theorem dL_law_1871 : decode cL_law 1871 = .ok (.aload_n 1, 1) := by decide +kernel
theorem dL_law_1872 : decode cL_law 1872 = .ok (.aload_n 0, 1) := by decide +kernel
theorem dL_law_1873 : decode cL_law 1873 = .ok (.iload 5, 2) := by decide +kernel
theorem dL_law_1875 : decode cL_law 1875 = .ok (.iconst 1, 1) := by decide +kernel
theorem dL_law_1876 : decode cL_law 1876 = .ok (.iadd, 1) := by decide +kernel
theorem dL_law_1877 : decode cL_law 1877 = .ok (.iaload, 1) := by decide +kernel
theorem dL_law_1878 : decode cL_law 1878 = .ok (.aload_n 0, 1) := by decide +kernel
theorem dL_law_1879 : decode cL_law 1879 = .ok (.iload 5, 2) := by decide +kernel
theorem dL_law_1881 : decode cL_law 1881 = .ok (.iconst 2, 1) := by decide +kernel
theorem dL_law_1882 : decode cL_law 1882 = .ok (.iadd, 1) := by decide +kernel
theorem dL_law_1883 : decode cL_law 1883 = .ok (.iaload, 1) := by decide +kernel
theorem dL_law_1884 : decode cL_law 1884 = .ok (.aload 4, 2) := by decide +kernel
theorem dL_law_1886 : decode cL_law 1886 = .ok (.invokestatic 241, 3) := by decide +kernel
theorem dL_law_1889 : decode cL_law 1889 = .ok (.istore 6, 2) := by decide +kernel
theorem dL_law_1891 : decode cL_law 1891 = .ok (.aload_n 2, 1) := by decide +kernel
theorem dL_law_1892 : decode cL_law 1892 = .ok (.aload_n 0, 1) := by decide +kernel
theorem dL_law_1893 : decode cL_law 1893 = .ok (.iload 5, 2) := by decide +kernel
theorem dL_law_1895 : decode cL_law 1895 = .ok (.iconst 1, 1) := by decide +kernel
theorem dL_law_1896 : decode cL_law 1896 = .ok (.iadd, 1) := by decide +kernel
theorem dL_law_1897 : decode cL_law 1897 = .ok (.iaload, 1) := by decide +kernel
theorem dL_law_1898 : decode cL_law 1898 = .ok (.aload_n 0, 1) := by decide +kernel
theorem dL_law_1899 : decode cL_law 1899 = .ok (.iload 5, 2) := by decide +kernel
theorem dL_law_1901 : decode cL_law 1901 = .ok (.iconst 2, 1) := by decide +kernel
theorem dL_law_1902 : decode cL_law 1902 = .ok (.iadd, 1) := by decide +kernel
theorem dL_law_1903 : decode cL_law 1903 = .ok (.iaload, 1) := by decide +kernel
theorem dL_law_1904 : decode cL_law 1904 = .ok (.invokevirtual 244, 3) := by decide +kernel
theorem dL_law_1907 : decode cL_law 1907 = .ok (.dstore 7, 2) := by decide +kernel
theorem dL_law_1909 : decode cL_law 1909 = .ok (.aload_n 2, 1) := by decide +kernel
theorem dL_law_1910 : decode cL_law 1910 = .ok (.invokevirtual 145, 3) := by decide +kernel
theorem dL_law_1913 : decode cL_law 1913 = .ok (.iload 6, 2) := by decide +kernel
theorem dL_law_1915 : decode cL_law 1915 = .ok (.if_icmp .eq 5, 3) := by decide +kernel
theorem dL_law_1918 : decode cL_law 1918 = .ok (.iconst 0, 1) := by decide +kernel
theorem dL_law_1919 : decode cL_law 1919 = .ok (.ireturn, 1) := by decide +kernel
theorem dL_law_1920 : decode cL_law 1920 = .ok (.iload 6, 2) := by decide +kernel
theorem dL_law_1922 : decode cL_law 1922 = .ok (.ifCond .ne 35, 3) := by decide +kernel
theorem dL_law_1925 : decode cL_law 1925 = .ok (.aload 4, 2) := by decide +kernel
theorem dL_law_1927 : decode cL_law 1927 = .ok (.iconst 0, 1) := by decide +kernel
theorem dL_law_1928 : decode cL_law 1928 = .ok (.daload, 1) := by decide +kernel
theorem dL_law_1929 : decode cL_law 1929 = .ok (.dload 7, 2) := by decide +kernel
theorem dL_law_1931 : decode cL_law 1931 = .ok (.dcmp .l, 1) := by decide +kernel
theorem dL_law_1932 : decode cL_law 1932 = .ok (.ifCond .eq 25, 3) := by decide +kernel
theorem dL_law_1935 : decode cL_law 1935 = .ok (.aload 4, 2) := by decide +kernel
theorem dL_law_1937 : decode cL_law 1937 = .ok (.iconst 0, 1) := by decide +kernel
theorem dL_law_1938 : decode cL_law 1938 = .ok (.daload, 1) := by decide +kernel
theorem dL_law_1939 : decode cL_law 1939 = .ok (.aload 4, 2) := by decide +kernel
theorem dL_law_1941 : decode cL_law 1941 = .ok (.iconst 0, 1) := by decide +kernel
theorem dL_law_1942 : decode cL_law 1942 = .ok (.daload, 1) := by decide +kernel
theorem dL_law_1943 : decode cL_law 1943 = .ok (.dcmp .l, 1) := by decide +kernel
theorem dL_law_1944 : decode cL_law 1944 = .ok (.ifCond .eq 11, 3) := by decide +kernel
theorem dL_law_1947 : decode cL_law 1947 = .ok (.dload 7, 2) := by decide +kernel
theorem dL_law_1949 : decode cL_law 1949 = .ok (.dload 7, 2) := by decide +kernel
theorem dL_law_1951 : decode cL_law 1951 = .ok (.dcmp .l, 1) := by decide +kernel
theorem dL_law_1952 : decode cL_law 1952 = .ok (.ifCond .ne 5, 3) := by decide +kernel
theorem dL_law_1955 : decode cL_law 1955 = .ok (.iconst 0, 1) := by decide +kernel
theorem dL_law_1956 : decode cL_law 1956 = .ok (.ireturn, 1) := by decide +kernel
theorem dL_law_1957 : decode cL_law 1957 = .ok (.goto 536, 3) := by decide +kernel
theorem dL_law_1960 : decode cL_law 1960 = .ok (.aload_n 1, 1) := by decide +kernel
theorem dL_law_1961 : decode cL_law 1961 = .ok (.aload_n 0, 1) := by decide +kernel
theorem dL_law_1962 : decode cL_law 1962 = .ok (.iload 5, 2) := by decide +kernel
theorem dL_law_1964 : decode cL_law 1964 = .ok (.iconst 1, 1) := by decide +kernel
theorem dL_law_1965 : decode cL_law 1965 = .ok (.iadd, 1) := by decide +kernel
theorem dL_law_1966 : decode cL_law 1966 = .ok (.iaload, 1) := by decide +kernel
theorem dL_law_1967 : decode cL_law 1967 = .ok (.aload_n 0, 1) := by decide +kernel
theorem dL_law_1968 : decode cL_law 1968 = .ok (.iload 5, 2) := by decide +kernel
theorem dL_law_1970 : decode cL_law 1970 = .ok (.iconst 2, 1) := by decide +kernel
theorem dL_law_1971 : decode cL_law 1971 = .ok (.iadd, 1) := by decide +kernel
theorem dL_law_1972 : decode cL_law 1972 = .ok (.iaload, 1) := by decide +kernel
theorem dL_law_1973 : decode cL_law 1973 = .ok (.aload_n 0, 1) := by decide +kernel
theorem dL_law_1974 : decode cL_law 1974 = .ok (.iload 5, 2) := by decide +kernel
theorem dL_law_1976 : decode cL_law 1976 = .ok (.iconst 3, 1) := by decide +kernel
theorem dL_law_1977 : decode cL_law 1977 = .ok (.iadd, 1) := by decide +kernel
theorem dL_law_1978 : decode cL_law 1978 = .ok (.iaload, 1) := by decide +kernel
theorem dL_law_1979 : decode cL_law 1979 = .ok (.aload_n 3, 1) := by decide +kernel
theorem dL_law_1980 : decode cL_law 1980 = .ok (.invokestatic 245, 3) := by decide +kernel
theorem dL_law_1983 : decode cL_law 1983 = .ok (.istore 6, 2) := by decide +kernel
theorem dL_law_1985 : decode cL_law 1985 = .ok (.aload_n 2, 1) := by decide +kernel
theorem dL_law_1986 : decode cL_law 1986 = .ok (.aload_n 0, 1) := by decide +kernel
theorem dL_law_1987 : decode cL_law 1987 = .ok (.iload 5, 2) := by decide +kernel
theorem dL_law_1989 : decode cL_law 1989 = .ok (.iconst 1, 1) := by decide +kernel
theorem dL_law_1990 : decode cL_law 1990 = .ok (.iadd, 1) := by decide +kernel
theorem dL_law_1991 : decode cL_law 1991 = .ok (.iaload, 1) := by decide +kernel
theorem dL_law_1992 : decode cL_law 1992 = .ok (.aload_n 0, 1) := by decide +kernel
theorem dL_law_1993 : decode cL_law 1993 = .ok (.iload 5, 2) := by decide +kernel
theorem dL_law_1995 : decode cL_law 1995 = .ok (.iconst 2, 1) := by decide +kernel
theorem dL_law_1996 : decode cL_law 1996 = .ok (.iadd, 1) := by decide +kernel
theorem dL_law_1997 : decode cL_law 1997 = .ok (.iaload, 1) := by decide +kernel
theorem dL_law_1998 : decode cL_law 1998 = .ok (.aload_n 0, 1) := by decide +kernel
theorem dL_law_1999 : decode cL_law 1999 = .ok (.iload 5, 2) := by decide +kernel
theorem dL_law_2001 : decode cL_law 2001 = .ok (.iconst 3, 1) := by decide +kernel
theorem dL_law_2002 : decode cL_law 2002 = .ok (.iadd, 1) := by decide +kernel
theorem dL_law_2003 : decode cL_law 2003 = .ok (.iaload, 1) := by decide +kernel
theorem dL_law_2004 : decode cL_law 2004 = .ok (.invokevirtual 248, 3) := by decide +kernel
theorem dL_law_2007 : decode cL_law 2007 = .ok (.istore 7, 2) := by decide +kernel
theorem dL_law_2009 : decode cL_law 2009 = .ok (.aload_n 2, 1) := by decide +kernel
theorem dL_law_2010 : decode cL_law 2010 = .ok (.invokevirtual 145, 3) := by decide +kernel
theorem dL_law_2013 : decode cL_law 2013 = .ok (.iload 6, 2) := by decide +kernel
theorem dL_law_2015 : decode cL_law 2015 = .ok (.if_icmp .eq 5, 3) := by decide +kernel
theorem dL_law_2018 : decode cL_law 2018 = .ok (.iconst 0, 1) := by decide +kernel
theorem dL_law_2019 : decode cL_law 2019 = .ok (.ireturn, 1) := by decide +kernel
theorem dL_law_2020 : decode cL_law 2020 = .ok (.iload 6, 2) := by decide +kernel
theorem dL_law_2022 : decode cL_law 2022 = .ok (.ifCond .ne 15, 3) := by decide +kernel
theorem dL_law_2025 : decode cL_law 2025 = .ok (.aload_n 3, 1) := by decide +kernel
theorem dL_law_2026 : decode cL_law 2026 = .ok (.iconst 0, 1) := by decide +kernel
theorem dL_law_2027 : decode cL_law 2027 = .ok (.laload, 1) := by decide +kernel
theorem dL_law_2028 : decode cL_law 2028 = .ok (.iload 7, 2) := by decide +kernel
theorem dL_law_2030 : decode cL_law 2030 = .ok (.i2l, 1) := by decide +kernel
theorem dL_law_2031 : decode cL_law 2031 = .ok (.lcmp, 1) := by decide +kernel
theorem dL_law_2032 : decode cL_law 2032 = .ok (.ifCond .eq 5, 3) := by decide +kernel
theorem dL_law_2035 : decode cL_law 2035 = .ok (.iconst 0, 1) := by decide +kernel
theorem dL_law_2036 : decode cL_law 2036 = .ok (.ireturn, 1) := by decide +kernel
theorem dL_law_2037 : decode cL_law 2037 = .ok (.goto 456, 3) := by decide +kernel
theorem dL_law_2040 : decode cL_law 2040 = .ok (.aload_n 1, 1) := by decide +kernel
theorem dL_law_2041 : decode cL_law 2041 = .ok (.aload_n 0, 1) := by decide +kernel
theorem dL_law_2042 : decode cL_law 2042 = .ok (.iload 5, 2) := by decide +kernel
theorem dL_law_2044 : decode cL_law 2044 = .ok (.iconst 1, 1) := by decide +kernel
theorem dL_law_2045 : decode cL_law 2045 = .ok (.iadd, 1) := by decide +kernel
theorem dL_law_2046 : decode cL_law 2046 = .ok (.iaload, 1) := by decide +kernel
theorem dL_law_2047 : decode cL_law 2047 = .ok (.aload_n 0, 1) := by decide +kernel
theorem dL_law_2048 : decode cL_law 2048 = .ok (.iload 5, 2) := by decide +kernel
theorem dL_law_2050 : decode cL_law 2050 = .ok (.iconst 2, 1) := by decide +kernel
theorem dL_law_2051 : decode cL_law 2051 = .ok (.iadd, 1) := by decide +kernel
theorem dL_law_2052 : decode cL_law 2052 = .ok (.iaload, 1) := by decide +kernel
theorem dL_law_2053 : decode cL_law 2053 = .ok (.aload_n 3, 1) := by decide +kernel
theorem dL_law_2054 : decode cL_law 2054 = .ok (.invokestatic 249, 3) := by decide +kernel
theorem dL_law_2057 : decode cL_law 2057 = .ok (.istore 6, 2) := by decide +kernel
theorem dL_law_2059 : decode cL_law 2059 = .ok (.aload_n 2, 1) := by decide +kernel
theorem dL_law_2060 : decode cL_law 2060 = .ok (.aload_n 0, 1) := by decide +kernel
theorem dL_law_2061 : decode cL_law 2061 = .ok (.iload 5, 2) := by decide +kernel
theorem dL_law_2063 : decode cL_law 2063 = .ok (.iconst 1, 1) := by decide +kernel
theorem dL_law_2064 : decode cL_law 2064 = .ok (.iadd, 1) := by decide +kernel
theorem dL_law_2065 : decode cL_law 2065 = .ok (.iaload, 1) := by decide +kernel
theorem dL_law_2066 : decode cL_law 2066 = .ok (.aload_n 0, 1) := by decide +kernel
theorem dL_law_2067 : decode cL_law 2067 = .ok (.iload 5, 2) := by decide +kernel
theorem dL_law_2069 : decode cL_law 2069 = .ok (.iconst 2, 1) := by decide +kernel
theorem dL_law_2070 : decode cL_law 2070 = .ok (.iadd, 1) := by decide +kernel
theorem dL_law_2071 : decode cL_law 2071 = .ok (.iaload, 1) := by decide +kernel
theorem dL_law_2072 : decode cL_law 2072 = .ok (.invokevirtual 251, 3) := by decide +kernel
theorem dL_law_2075 : decode cL_law 2075 = .ok (.istore 7, 2) := by decide +kernel
theorem dL_law_2077 : decode cL_law 2077 = .ok (.aload_n 2, 1) := by decide +kernel
theorem dL_law_2078 : decode cL_law 2078 = .ok (.invokevirtual 145, 3) := by decide +kernel
theorem dL_law_2081 : decode cL_law 2081 = .ok (.iload 6, 2) := by decide +kernel
theorem dL_law_2083 : decode cL_law 2083 = .ok (.if_icmp .eq 5, 3) := by decide +kernel
theorem dL_law_2086 : decode cL_law 2086 = .ok (.iconst 0, 1) := by decide +kernel
theorem dL_law_2087 : decode cL_law 2087 = .ok (.ireturn, 1) := by decide +kernel
theorem dL_law_2088 : decode cL_law 2088 = .ok (.iload 6, 2) := by decide +kernel
theorem dL_law_2090 : decode cL_law 2090 = .ok (.ifCond .ne 22, 3) := by decide +kernel
theorem dL_law_2093 : decode cL_law 2093 = .ok (.aload_n 3, 1) := by decide +kernel
theorem dL_law_2094 : decode cL_law 2094 = .ok (.iconst 0, 1) := by decide +kernel
theorem dL_law_2095 : decode cL_law 2095 = .ok (.laload, 1) := by decide +kernel
theorem dL_law_2096 : decode cL_law 2096 = .ok (.iload 7, 2) := by decide +kernel
theorem dL_law_2098 : decode cL_law 2098 = .ok (.ifCond .eq 7, 3) := by decide +kernel
theorem dL_law_2101 : decode cL_law 2101 = .ok (.lconst 1, 1) := by decide +kernel
theorem dL_law_2102 : decode cL_law 2102 = .ok (.goto 4, 3) := by decide +kernel
theorem dL_law_2105 : decode cL_law 2105 = .ok (.lconst 0, 1) := by decide +kernel
theorem dL_law_2106 : decode cL_law 2106 = .ok (.lcmp, 1) := by decide +kernel
theorem dL_law_2107 : decode cL_law 2107 = .ok (.ifCond .eq 5, 3) := by decide +kernel
theorem dL_law_2110 : decode cL_law 2110 = .ok (.iconst 0, 1) := by decide +kernel
theorem dL_law_2111 : decode cL_law 2111 = .ok (.ireturn, 1) := by decide +kernel
theorem dL_law_2112 : decode cL_law 2112 = .ok (.goto 381, 3) := by decide +kernel
theorem dL_law_2115 : decode cL_law 2115 = .ok (.aload_n 1, 1) := by decide +kernel
theorem dL_law_2116 : decode cL_law 2116 = .ok (.aload_n 0, 1) := by decide +kernel
theorem dL_law_2117 : decode cL_law 2117 = .ok (.iload 5, 2) := by decide +kernel
theorem dL_law_2119 : decode cL_law 2119 = .ok (.iconst 1, 1) := by decide +kernel
theorem dL_law_2120 : decode cL_law 2120 = .ok (.iadd, 1) := by decide +kernel
theorem dL_law_2121 : decode cL_law 2121 = .ok (.iaload, 1) := by decide +kernel
theorem dL_law_2122 : decode cL_law 2122 = .ok (.aload_n 3, 1) := by decide +kernel
theorem dL_law_2123 : decode cL_law 2123 = .ok (.invokestatic 252, 3) := by decide +kernel
theorem dL_law_2126 : decode cL_law 2126 = .ok (.istore 6, 2) := by decide +kernel
theorem dL_law_2128 : decode cL_law 2128 = .ok (.aload_n 2, 1) := by decide +kernel
theorem dL_law_2129 : decode cL_law 2129 = .ok (.aload_n 0, 1) := by decide +kernel
theorem dL_law_2130 : decode cL_law 2130 = .ok (.iload 5, 2) := by decide +kernel
theorem dL_law_2132 : decode cL_law 2132 = .ok (.iconst 1, 1) := by decide +kernel
theorem dL_law_2133 : decode cL_law 2133 = .ok (.iadd, 1) := by decide +kernel
theorem dL_law_2134 : decode cL_law 2134 = .ok (.iaload, 1) := by decide +kernel
theorem dL_law_2135 : decode cL_law 2135 = .ok (.invokevirtual 254, 3) := by decide +kernel
theorem dL_law_2138 : decode cL_law 2138 = .ok (.istore 7, 2) := by decide +kernel
theorem dL_law_2140 : decode cL_law 2140 = .ok (.aload_n 2, 1) := by decide +kernel
theorem dL_law_2141 : decode cL_law 2141 = .ok (.invokevirtual 145, 3) := by decide +kernel
theorem dL_law_2144 : decode cL_law 2144 = .ok (.iload 6, 2) := by decide +kernel
theorem dL_law_2146 : decode cL_law 2146 = .ok (.if_icmp .eq 5, 3) := by decide +kernel
theorem dL_law_2149 : decode cL_law 2149 = .ok (.iconst 0, 1) := by decide +kernel
theorem dL_law_2150 : decode cL_law 2150 = .ok (.ireturn, 1) := by decide +kernel
theorem dL_law_2151 : decode cL_law 2151 = .ok (.iload 6, 2) := by decide +kernel
theorem dL_law_2153 : decode cL_law 2153 = .ok (.ifCond .ne 15, 3) := by decide +kernel
theorem dL_law_2156 : decode cL_law 2156 = .ok (.aload_n 3, 1) := by decide +kernel
theorem dL_law_2157 : decode cL_law 2157 = .ok (.iconst 0, 1) := by decide +kernel
theorem dL_law_2158 : decode cL_law 2158 = .ok (.laload, 1) := by decide +kernel
theorem dL_law_2159 : decode cL_law 2159 = .ok (.iload 7, 2) := by decide +kernel
theorem dL_law_2161 : decode cL_law 2161 = .ok (.i2l, 1) := by decide +kernel
theorem dL_law_2162 : decode cL_law 2162 = .ok (.lcmp, 1) := by decide +kernel
theorem dL_law_2163 : decode cL_law 2163 = .ok (.ifCond .eq 5, 3) := by decide +kernel
theorem dL_law_2166 : decode cL_law 2166 = .ok (.iconst 0, 1) := by decide +kernel
theorem dL_law_2167 : decode cL_law 2167 = .ok (.ireturn, 1) := by decide +kernel
theorem dL_law_2168 : decode cL_law 2168 = .ok (.goto 325, 3) := by decide +kernel
theorem dL_law_2171 : decode cL_law 2171 = .ok (.aload_n 1, 1) := by decide +kernel
theorem dL_law_2172 : decode cL_law 2172 = .ok (.aload_n 0, 1) := by decide +kernel
theorem dL_law_2173 : decode cL_law 2173 = .ok (.iload 5, 2) := by decide +kernel
theorem dL_law_2175 : decode cL_law 2175 = .ok (.iconst 1, 1) := by decide +kernel
theorem dL_law_2176 : decode cL_law 2176 = .ok (.iadd, 1) := by decide +kernel
theorem dL_law_2177 : decode cL_law 2177 = .ok (.iaload, 1) := by decide +kernel
theorem dL_law_2178 : decode cL_law 2178 = .ok (.aload_n 3, 1) := by decide +kernel
theorem dL_law_2179 : decode cL_law 2179 = .ok (.invokestatic 255, 3) := by decide +kernel
theorem dL_law_2182 : decode cL_law 2182 = .ok (.istore 6, 2) := by decide +kernel
theorem dL_law_2184 : decode cL_law 2184 = .ok (.aload_n 2, 1) := by decide +kernel
theorem dL_law_2185 : decode cL_law 2185 = .ok (.aload_n 0, 1) := by decide +kernel
theorem dL_law_2186 : decode cL_law 2186 = .ok (.iload 5, 2) := by decide +kernel
theorem dL_law_2188 : decode cL_law 2188 = .ok (.iconst 1, 1) := by decide +kernel
theorem dL_law_2189 : decode cL_law 2189 = .ok (.iadd, 1) := by decide +kernel
theorem dL_law_2190 : decode cL_law 2190 = .ok (.iaload, 1) := by decide +kernel
theorem dL_law_2191 : decode cL_law 2191 = .ok (.invokevirtual 257, 3) := by decide +kernel
theorem dL_law_2194 : decode cL_law 2194 = .ok (.istore 7, 2) := by decide +kernel
theorem dL_law_2196 : decode cL_law 2196 = .ok (.aload_n 2, 1) := by decide +kernel
theorem dL_law_2197 : decode cL_law 2197 = .ok (.invokevirtual 145, 3) := by decide +kernel
theorem dL_law_2200 : decode cL_law 2200 = .ok (.iload 6, 2) := by decide +kernel
theorem dL_law_2202 : decode cL_law 2202 = .ok (.if_icmp .eq 5, 3) := by decide +kernel
theorem dL_law_2205 : decode cL_law 2205 = .ok (.iconst 0, 1) := by decide +kernel
theorem dL_law_2206 : decode cL_law 2206 = .ok (.ireturn, 1) := by decide +kernel
theorem dL_law_2207 : decode cL_law 2207 = .ok (.iload 6, 2) := by decide +kernel
theorem dL_law_2209 : decode cL_law 2209 = .ok (.ifCond .ne 22, 3) := by decide +kernel
theorem dL_law_2212 : decode cL_law 2212 = .ok (.aload_n 3, 1) := by decide +kernel
theorem dL_law_2213 : decode cL_law 2213 = .ok (.iconst 0, 1) := by decide +kernel
theorem dL_law_2214 : decode cL_law 2214 = .ok (.laload, 1) := by decide +kernel
theorem dL_law_2215 : decode cL_law 2215 = .ok (.iload 7, 2) := by decide +kernel
theorem dL_law_2217 : decode cL_law 2217 = .ok (.ifCond .eq 7, 3) := by decide +kernel
theorem dL_law_2220 : decode cL_law 2220 = .ok (.lconst 1, 1) := by decide +kernel
theorem dL_law_2221 : decode cL_law 2221 = .ok (.goto 4, 3) := by decide +kernel
theorem dL_law_2224 : decode cL_law 2224 = .ok (.lconst 0, 1) := by decide +kernel
theorem dL_law_2225 : decode cL_law 2225 = .ok (.lcmp, 1) := by decide +kernel
theorem dL_law_2226 : decode cL_law 2226 = .ok (.ifCond .eq 5, 3) := by decide +kernel
theorem dL_law_2229 : decode cL_law 2229 = .ok (.iconst 0, 1) := by decide +kernel
theorem dL_law_2230 : decode cL_law 2230 = .ok (.ireturn, 1) := by decide +kernel
theorem dL_law_2231 : decode cL_law 2231 = .ok (.goto 262, 3) := by decide +kernel
theorem dL_law_2234 : decode cL_law 2234 = .ok (.aload_n 1, 1) := by decide +kernel
theorem dL_law_2235 : decode cL_law 2235 = .ok (.aload_n 0, 1) := by decide +kernel
theorem dL_law_2236 : decode cL_law 2236 = .ok (.iload 5, 2) := by decide +kernel
theorem dL_law_2238 : decode cL_law 2238 = .ok (.iconst 1, 1) := by decide +kernel
theorem dL_law_2239 : decode cL_law 2239 = .ok (.iadd, 1) := by decide +kernel
theorem dL_law_2240 : decode cL_law 2240 = .ok (.iaload, 1) := by decide +kernel
theorem dL_law_2241 : decode cL_law 2241 = .ok (.aload_n 3, 1) := by decide +kernel
theorem dL_law_2242 : decode cL_law 2242 = .ok (.invokestatic 258, 3) := by decide +kernel
theorem dL_law_2245 : decode cL_law 2245 = .ok (.istore 6, 2) := by decide +kernel
theorem dL_law_2247 : decode cL_law 2247 = .ok (.aload_n 2, 1) := by decide +kernel
theorem dL_law_2248 : decode cL_law 2248 = .ok (.aload_n 0, 1) := by decide +kernel
theorem dL_law_2249 : decode cL_law 2249 = .ok (.iload 5, 2) := by decide +kernel
theorem dL_law_2251 : decode cL_law 2251 = .ok (.iconst 1, 1) := by decide +kernel
theorem dL_law_2252 : decode cL_law 2252 = .ok (.iadd, 1) := by decide +kernel
theorem dL_law_2253 : decode cL_law 2253 = .ok (.iaload, 1) := by decide +kernel
theorem dL_law_2254 : decode cL_law 2254 = .ok (.invokevirtual 260, 3) := by decide +kernel
theorem dL_law_2257 : decode cL_law 2257 = .ok (.istore 7, 2) := by decide +kernel
theorem dL_law_2259 : decode cL_law 2259 = .ok (.aload_n 2, 1) := by decide +kernel
theorem dL_law_2260 : decode cL_law 2260 = .ok (.invokevirtual 145, 3) := by decide +kernel
theorem dL_law_2263 : decode cL_law 2263 = .ok (.iload 6, 2) := by decide +kernel
theorem dL_law_2265 : decode cL_law 2265 = .ok (.if_icmp .eq 5, 3) := by decide +kernel
theorem dL_law_2268 : decode cL_law 2268 = .ok (.iconst 0, 1) := by decide +kernel
theorem dL_law_2269 : decode cL_law 2269 = .ok (.ireturn, 1) := by decide +kernel
theorem dL_law_2270 : decode cL_law 2270 = .ok (.iload 6, 2) := by decide +kernel
theorem dL_law_2272 : decode cL_law 2272 = .ok (.ifCond .ne 15, 3) := by decide +kernel
theorem dL_law_2275 : decode cL_law 2275 = .ok (.aload_n 3, 1) := by decide +kernel
theorem dL_law_2276 : decode cL_law 2276 = .ok (.iconst 0, 1) := by decide +kernel
theorem dL_law_2277 : decode cL_law 2277 = .ok (.laload, 1) := by decide +kernel
theorem dL_law_2278 : decode cL_law 2278 = .ok (.iload 7, 2) := by decide +kernel
theorem dL_law_2280 : decode cL_law 2280 = .ok (.i2l, 1) := by decide +kernel
theorem dL_law_2281 : decode cL_law 2281 = .ok (.lcmp, 1) := by decide +kernel
theorem dL_law_2282 : decode cL_law 2282 = .ok (.ifCond .eq 5, 3) := by decide +kernel
theorem dL_law_2285 : decode cL_law 2285 = .ok (.iconst 0, 1) := by decide +kernel
theorem dL_law_2286 : decode cL_law 2286 = .ok (.ireturn, 1) := by decide +kernel
theorem dL_law_2287 : decode cL_law 2287 = .ok (.goto 206, 3) := by decide +kernel
theorem dL_law_2290 : decode cL_law 2290 = .ok (.aload_n 1, 1) := by decide +kernel
theorem dL_law_2291 : decode cL_law 2291 = .ok (.aload_n 0, 1) := by decide +kernel
theorem dL_law_2292 : decode cL_law 2292 = .ok (.iload 5, 2) := by decide +kernel
theorem dL_law_2294 : decode cL_law 2294 = .ok (.iconst 1, 1) := by decide +kernel
theorem dL_law_2295 : decode cL_law 2295 = .ok (.iadd, 1) := by decide +kernel
theorem dL_law_2296 : decode cL_law 2296 = .ok (.iaload, 1) := by decide +kernel
theorem dL_law_2297 : decode cL_law 2297 = .ok (.i2c, 1) := by decide +kernel
theorem dL_law_2298 : decode cL_law 2298 = .ok (.aload_n 3, 1) := by decide +kernel
theorem dL_law_2299 : decode cL_law 2299 = .ok (.invokestatic 261, 3) := by decide +kernel
theorem dL_law_2302 : decode cL_law 2302 = .ok (.istore 6, 2) := by decide +kernel
theorem dL_law_2304 : decode cL_law 2304 = .ok (.aload_n 2, 1) := by decide +kernel
theorem dL_law_2305 : decode cL_law 2305 = .ok (.aload_n 0, 1) := by decide +kernel
theorem dL_law_2306 : decode cL_law 2306 = .ok (.iload 5, 2) := by decide +kernel
theorem dL_law_2308 : decode cL_law 2308 = .ok (.iconst 1, 1) := by decide +kernel
theorem dL_law_2309 : decode cL_law 2309 = .ok (.iadd, 1) := by decide +kernel
theorem dL_law_2310 : decode cL_law 2310 = .ok (.iaload, 1) := by decide +kernel
theorem dL_law_2311 : decode cL_law 2311 = .ok (.i2c, 1) := by decide +kernel
theorem dL_law_2312 : decode cL_law 2312 = .ok (.invokevirtual 264, 3) := by decide +kernel
theorem dL_law_2315 : decode cL_law 2315 = .ok (.istore 7, 2) := by decide +kernel
theorem dL_law_2317 : decode cL_law 2317 = .ok (.aload_n 2, 1) := by decide +kernel
theorem dL_law_2318 : decode cL_law 2318 = .ok (.invokevirtual 145, 3) := by decide +kernel
theorem dL_law_2321 : decode cL_law 2321 = .ok (.iload 6, 2) := by decide +kernel
theorem dL_law_2323 : decode cL_law 2323 = .ok (.if_icmp .eq 5, 3) := by decide +kernel
theorem dL_law_2326 : decode cL_law 2326 = .ok (.iconst 0, 1) := by decide +kernel
theorem dL_law_2327 : decode cL_law 2327 = .ok (.ireturn, 1) := by decide +kernel
theorem dL_law_2328 : decode cL_law 2328 = .ok (.iload 6, 2) := by decide +kernel
theorem dL_law_2330 : decode cL_law 2330 = .ok (.ifCond .ne 15, 3) := by decide +kernel
theorem dL_law_2333 : decode cL_law 2333 = .ok (.aload_n 3, 1) := by decide +kernel
theorem dL_law_2334 : decode cL_law 2334 = .ok (.iconst 0, 1) := by decide +kernel
theorem dL_law_2335 : decode cL_law 2335 = .ok (.laload, 1) := by decide +kernel
theorem dL_law_2336 : decode cL_law 2336 = .ok (.iload 7, 2) := by decide +kernel
theorem dL_law_2338 : decode cL_law 2338 = .ok (.i2l, 1) := by decide +kernel
theorem dL_law_2339 : decode cL_law 2339 = .ok (.lcmp, 1) := by decide +kernel
theorem dL_law_2340 : decode cL_law 2340 = .ok (.ifCond .eq 5, 3) := by decide +kernel
theorem dL_law_2343 : decode cL_law 2343 = .ok (.iconst 0, 1) := by decide +kernel
theorem dL_law_2344 : decode cL_law 2344 = .ok (.ireturn, 1) := by decide +kernel
theorem dL_law_2345 : decode cL_law 2345 = .ok (.goto 148, 3) := by decide +kernel
theorem dL_law_2348 : decode cL_law 2348 = .ok (.aload_n 1, 1) := by decide +kernel
theorem dL_law_2349 : decode cL_law 2349 = .ok (.aload_n 3, 1) := by decide +kernel
theorem dL_law_2350 : decode cL_law 2350 = .ok (.invokestatic 265, 3) := by decide +kernel
theorem dL_law_2353 : decode cL_law 2353 = .ok (.istore 6, 2) := by decide +kernel
theorem dL_law_2355 : decode cL_law 2355 = .ok (.aload_n 2, 1) := by decide +kernel
theorem dL_law_2356 : decode cL_law 2356 = .ok (.invokevirtual 267, 3) := by decide +kernel
theorem dL_law_2359 : decode cL_law 2359 = .ok (.istore 7, 2) := by decide +kernel
theorem dL_law_2361 : decode cL_law 2361 = .ok (.aload_n 2, 1) := by decide +kernel
theorem dL_law_2362 : decode cL_law 2362 = .ok (.invokevirtual 145, 3) := by decide +kernel
theorem dL_law_2365 : decode cL_law 2365 = .ok (.iload 6, 2) := by decide +kernel
theorem dL_law_2367 : decode cL_law 2367 = .ok (.if_icmp .eq 5, 3) := by decide +kernel
theorem dL_law_2370 : decode cL_law 2370 = .ok (.iconst 0, 1) := by decide +kernel
theorem dL_law_2371 : decode cL_law 2371 = .ok (.ireturn, 1) := by decide +kernel
theorem dL_law_2372 : decode cL_law 2372 = .ok (.iload 6, 2) := by decide +kernel
theorem dL_law_2374 : decode cL_law 2374 = .ok (.ifCond .ne 15, 3) := by decide +kernel
theorem dL_law_2377 : decode cL_law 2377 = .ok (.aload_n 3, 1) := by decide +kernel
theorem dL_law_2378 : decode cL_law 2378 = .ok (.iconst 0, 1) := by decide +kernel
theorem dL_law_2379 : decode cL_law 2379 = .ok (.laload, 1) := by decide +kernel
theorem dL_law_2380 : decode cL_law 2380 = .ok (.iload 7, 2) := by decide +kernel
theorem dL_law_2382 : decode cL_law 2382 = .ok (.i2l, 1) := by decide +kernel
theorem dL_law_2383 : decode cL_law 2383 = .ok (.lcmp, 1) := by decide +kernel
theorem dL_law_2384 : decode cL_law 2384 = .ok (.ifCond .eq 5, 3) := by decide +kernel
theorem dL_law_2387 : decode cL_law 2387 = .ok (.iconst 0, 1) := by decide +kernel
theorem dL_law_2388 : decode cL_law 2388 = .ok (.ireturn, 1) := by decide +kernel
theorem dL_law_2389 : decode cL_law 2389 = .ok (.goto 104, 3) := by decide +kernel
theorem dL_law_2392 : decode cL_law 2392 = .ok (.aload_n 1, 1) := by decide +kernel
theorem dL_law_2393 : decode cL_law 2393 = .ok (.aload_n 3, 1) := by decide +kernel
theorem dL_law_2394 : decode cL_law 2394 = .ok (.invokestatic 268, 3) := by decide +kernel
theorem dL_law_2397 : decode cL_law 2397 = .ok (.istore 6, 2) := by decide +kernel
theorem dL_law_2399 : decode cL_law 2399 = .ok (.aload_n 2, 1) := by decide +kernel
theorem dL_law_2400 : decode cL_law 2400 = .ok (.invokevirtual 270, 3) := by decide +kernel
theorem dL_law_2403 : decode cL_law 2403 = .ok (.istore 7, 2) := by decide +kernel
theorem dL_law_2405 : decode cL_law 2405 = .ok (.aload_n 2, 1) := by decide +kernel
theorem dL_law_2406 : decode cL_law 2406 = .ok (.invokevirtual 145, 3) := by decide +kernel
theorem dL_law_2409 : decode cL_law 2409 = .ok (.iload 6, 2) := by decide +kernel
theorem dL_law_2411 : decode cL_law 2411 = .ok (.if_icmp .eq 5, 3) := by decide +kernel
theorem dL_law_2414 : decode cL_law 2414 = .ok (.iconst 0, 1) := by decide +kernel
theorem dL_law_2415 : decode cL_law 2415 = .ok (.ireturn, 1) := by decide +kernel
theorem dL_law_2416 : decode cL_law 2416 = .ok (.iload 6, 2) := by decide +kernel
theorem dL_law_2418 : decode cL_law 2418 = .ok (.ifCond .ne 15, 3) := by decide +kernel
theorem dL_law_2421 : decode cL_law 2421 = .ok (.aload_n 3, 1) := by decide +kernel
theorem dL_law_2422 : decode cL_law 2422 = .ok (.iconst 0, 1) := by decide +kernel
theorem dL_law_2423 : decode cL_law 2423 = .ok (.laload, 1) := by decide +kernel
theorem dL_law_2424 : decode cL_law 2424 = .ok (.iload 7, 2) := by decide +kernel
theorem dL_law_2426 : decode cL_law 2426 = .ok (.i2l, 1) := by decide +kernel
theorem dL_law_2427 : decode cL_law 2427 = .ok (.lcmp, 1) := by decide +kernel
theorem dL_law_2428 : decode cL_law 2428 = .ok (.ifCond .eq 5, 3) := by decide +kernel
theorem dL_law_2431 : decode cL_law 2431 = .ok (.iconst 0, 1) := by decide +kernel
theorem dL_law_2432 : decode cL_law 2432 = .ok (.ireturn, 1) := by decide +kernel
theorem dL_law_2433 : decode cL_law 2433 = .ok (.goto 60, 3) := by decide +kernel
theorem dL_law_2436 : decode cL_law 2436 = .ok (.aload_n 1, 1) := by decide +kernel
theorem dL_law_2437 : decode cL_law 2437 = .ok (.invokevirtual 271, 3) := by decide +kernel
theorem dL_law_2440 : decode cL_law 2440 = .ok (.aload_n 2, 1) := by decide +kernel
theorem dL_law_2441 : decode cL_law 2441 = .ok (.invokevirtual 274, 3) := by decide +kernel
theorem dL_law_2444 : decode cL_law 2444 = .ok (.if_icmp .eq 49, 3) := by decide +kernel
theorem dL_law_2447 : decode cL_law 2447 = .ok (.iconst 0, 1) := by decide +kernel
theorem dL_law_2448 : decode cL_law 2448 = .ok (.ireturn, 1) := by decide +kernel
theorem dL_law_2449 : decode cL_law 2449 = .ok (.aload_n 1, 1) := by decide +kernel
theorem dL_law_2450 : decode cL_law 2450 = .ok (.aload_n 3, 1) := by decide +kernel
theorem dL_law_2451 : decode cL_law 2451 = .ok (.invokestatic 275, 3) := by decide +kernel
theorem dL_law_2454 : decode cL_law 2454 = .ok (.istore 6, 2) := by decide +kernel
theorem dL_law_2456 : decode cL_law 2456 = .ok (.aload_n 2, 1) := by decide +kernel
theorem dL_law_2457 : decode cL_law 2457 = .ok (.invokevirtual 277, 3) := by decide +kernel
theorem dL_law_2460 : decode cL_law 2460 = .ok (.istore 7, 2) := by decide +kernel
theorem dL_law_2462 : decode cL_law 2462 = .ok (.aload_n 2, 1) := by decide +kernel
theorem dL_law_2463 : decode cL_law 2463 = .ok (.invokevirtual 145, 3) := by decide +kernel
theorem dL_law_2466 : decode cL_law 2466 = .ok (.iload 6, 2) := by decide +kernel
theorem dL_law_2468 : decode cL_law 2468 = .ok (.if_icmp .eq 5, 3) := by decide +kernel
theorem dL_law_2471 : decode cL_law 2471 = .ok (.iconst 0, 1) := by decide +kernel
theorem dL_law_2472 : decode cL_law 2472 = .ok (.ireturn, 1) := by decide +kernel
theorem dL_law_2473 : decode cL_law 2473 = .ok (.iload 6, 2) := by decide +kernel
theorem dL_law_2475 : decode cL_law 2475 = .ok (.ifCond .ne 15, 3) := by decide +kernel
theorem dL_law_2478 : decode cL_law 2478 = .ok (.aload_n 3, 1) := by decide +kernel
theorem dL_law_2479 : decode cL_law 2479 = .ok (.iconst 0, 1) := by decide +kernel
theorem dL_law_2480 : decode cL_law 2480 = .ok (.laload, 1) := by decide +kernel
theorem dL_law_2481 : decode cL_law 2481 = .ok (.iload 7, 2) := by decide +kernel
theorem dL_law_2483 : decode cL_law 2483 = .ok (.i2l, 1) := by decide +kernel
theorem dL_law_2484 : decode cL_law 2484 = .ok (.lcmp, 1) := by decide +kernel
theorem dL_law_2485 : decode cL_law 2485 = .ok (.ifCond .eq 5, 3) := by decide +kernel
theorem dL_law_2488 : decode cL_law 2488 = .ok (.iconst 0, 1) := by decide +kernel
theorem dL_law_2489 : decode cL_law 2489 = .ok (.ireturn, 1) := by decide +kernel
theorem dL_law_2490 : decode cL_law 2490 = .ok (.goto 3, 3) := by decide +kernel
theorem dL_law_2493 : decode cL_law 2493 = .ok (.iinc 5 4, 3) := by decide +kernel
theorem dL_law_2496 : decode cL_law 2496 = .ok (.goto (-2468), 3) := by decide +kernel
theorem dL_law_2499 : decode cL_law 2499 = .ok (.iconst 1, 1) := by decide +kernel
theorem dL_law_2500 : decode cL_law 2500 = .ok (.ireturn, 1) := by decide +kernel
end
section
theorem dJx00060_init_a7421_0 : decode cJx00060_init_a7421 0 = .ok (.aload_n 0, 1) := by decide +kernel
theorem dJx00060_init_a7421_1 : decode cJx00060_init_a7421 1 = .ok (.aload_n 1, 1) := by decide +kernel
theorem dJx00060_init_a7421_2 : decode cJx00060_init_a7421 2 = .ok (.invokespecial 7, 3) := by decide +kernel
theorem dJx00060_init_a7421_5 : decode cJx00060_init_a7421 5 = .ok (.return_, 1) := by decide +kernel
theorem dJ11_isValidCodePoint_9a6ad_0 : decode cJ11_isValidCodePoint_9a6ad 0 = .ok (.iload_n 0, 1) := by decide +kernel
theorem dJ11_isValidCodePoint_9a6ad_1 : decode cJ11_isValidCodePoint_9a6ad 1 = .ok (.bipush 16, 2) := by decide +kernel
theorem dJ11_isValidCodePoint_9a6ad_3 : decode cJ11_isValidCodePoint_9a6ad 3 = .ok (.iushr, 1) := by decide +kernel
theorem dJ11_isValidCodePoint_9a6ad_4 : decode cJ11_isValidCodePoint_9a6ad 4 = .ok (.istore_n 1, 1) := by decide +kernel
theorem dJ11_isValidCodePoint_9a6ad_5 : decode cJ11_isValidCodePoint_9a6ad 5 = .ok (.iload_n 1, 1) := by decide +kernel
theorem dJ11_isValidCodePoint_9a6ad_6 : decode cJ11_isValidCodePoint_9a6ad 6 = .ok (.bipush 17, 2) := by decide +kernel
theorem dJ11_isValidCodePoint_9a6ad_8 : decode cJ11_isValidCodePoint_9a6ad 8 = .ok (.if_icmp .ge 7, 3) := by decide +kernel
theorem dJ11_isValidCodePoint_9a6ad_11 : decode cJ11_isValidCodePoint_9a6ad 11 = .ok (.iconst 1, 1) := by decide +kernel
theorem dJ11_isValidCodePoint_9a6ad_12 : decode cJ11_isValidCodePoint_9a6ad 12 = .ok (.goto 4, 3) := by decide +kernel
theorem dJ11_isValidCodePoint_9a6ad_15 : decode cJ11_isValidCodePoint_9a6ad 15 = .ok (.iconst 0, 1) := by decide +kernel
theorem dJ11_isValidCodePoint_9a6ad_16 : decode cJ11_isValidCodePoint_9a6ad 16 = .ok (.ireturn, 1) := by decide +kernel
theorem dJ11_highSurrogate_5068e_0 : decode cJ11_highSurrogate_5068e 0 = .ok (.iload_n 0, 1) := by decide +kernel
theorem dJ11_highSurrogate_5068e_1 : decode cJ11_highSurrogate_5068e 1 = .ok (.bipush 10, 2) := by decide +kernel
theorem dJ11_highSurrogate_5068e_3 : decode cJ11_highSurrogate_5068e 3 = .ok (.iushr, 1) := by decide +kernel
theorem dJ11_highSurrogate_5068e_4 : decode cJ11_highSurrogate_5068e 4 = .ok (.ldc 110, 2) := by decide +kernel
theorem dJ11_highSurrogate_5068e_6 : decode cJ11_highSurrogate_5068e 6 = .ok (.iadd, 1) := by decide +kernel
theorem dJ11_highSurrogate_5068e_7 : decode cJ11_highSurrogate_5068e 7 = .ok (.i2c, 1) := by decide +kernel
theorem dJ11_highSurrogate_5068e_8 : decode cJ11_highSurrogate_5068e 8 = .ok (.ireturn, 1) := by decide +kernel
theorem dJ11_lowSurrogate_5068e_0 : decode cJ11_lowSurrogate_5068e 0 = .ok (.iload_n 0, 1) := by decide +kernel
theorem dJ11_lowSurrogate_5068e_1 : decode cJ11_lowSurrogate_5068e 1 = .ok (.sipush 1023, 3) := by decide +kernel
theorem dJ11_lowSurrogate_5068e_4 : decode cJ11_lowSurrogate_5068e 4 = .ok (.iand, 1) := by decide +kernel
theorem dJ11_lowSurrogate_5068e_5 : decode cJ11_lowSurrogate_5068e 5 = .ok (.ldc 76, 2) := by decide +kernel
theorem dJ11_lowSurrogate_5068e_7 : decode cJ11_lowSurrogate_5068e 7 = .ok (.iadd, 1) := by decide +kernel
theorem dJ11_lowSurrogate_5068e_8 : decode cJ11_lowSurrogate_5068e 8 = .ok (.i2c, 1) := by decide +kernel
theorem dJ11_lowSurrogate_5068e_9 : decode cJ11_lowSurrogate_5068e 9 = .ok (.ireturn, 1) := by decide +kernel
theorem dJ6_bitCount_0f7a4_0 : decode cJ6_bitCount_0f7a4 0 = .ok (.iload_n 0, 1) := by decide +kernel
theorem dJ6_bitCount_0f7a4_1 : decode cJ6_bitCount_0f7a4 1 = .ok (.iload_n 0, 1) := by decide +kernel
theorem dJ6_bitCount_0f7a4_2 : decode cJ6_bitCount_0f7a4 2 = .ok (.iconst 1, 1) := by decide +kernel
theorem dJ6_bitCount_0f7a4_3 : decode cJ6_bitCount_0f7a4 3 = .ok (.iushr, 1) := by decide +kernel
theorem dJ6_bitCount_0f7a4_4 : decode cJ6_bitCount_0f7a4 4 = .ok (.ldc_w 265, 3) := by decide +kernel
theorem dJ6_bitCount_0f7a4_7 : decode cJ6_bitCount_0f7a4 7 = .ok (.iand, 1) := by decide +kernel
theorem dJ6_bitCount_0f7a4_8 : decode cJ6_bitCount_0f7a4 8 = .ok (.isub, 1) := by decide +kernel
theorem dJ6_bitCount_0f7a4_9 : decode cJ6_bitCount_0f7a4 9 = .ok (.istore_n 0, 1) := by decide +kernel
theorem dJ6_bitCount_0f7a4_10 : decode cJ6_bitCount_0f7a4 10 = .ok (.iload_n 0, 1) := by decide +kernel
theorem dJ6_bitCount_0f7a4_11 : decode cJ6_bitCount_0f7a4 11 = .ok (.ldc_w 266, 3) := by decide +kernel
theorem dJ6_bitCount_0f7a4_14 : decode cJ6_bitCount_0f7a4 14 = .ok (.iand, 1) := by decide +kernel
theorem dJ6_bitCount_0f7a4_15 : decode cJ6_bitCount_0f7a4 15 = .ok (.iload_n 0, 1) := by decide +kernel
theorem dJ6_bitCount_0f7a4_16 : decode cJ6_bitCount_0f7a4 16 = .ok (.iconst 2, 1) := by decide +kernel
theorem dJ6_bitCount_0f7a4_17 : decode cJ6_bitCount_0f7a4 17 = .ok (.iushr, 1) := by decide +kernel
theorem dJ6_bitCount_0f7a4_18 : decode cJ6_bitCount_0f7a4 18 = .ok (.ldc_w 266, 3) := by decide +kernel
theorem dJ6_bitCount_0f7a4_21 : decode cJ6_bitCount_0f7a4 21 = .ok (.iand, 1) := by decide +kernel
theorem dJ6_bitCount_0f7a4_22 : decode cJ6_bitCount_0f7a4 22 = .ok (.iadd, 1) := by decide +kernel
theorem dJ6_bitCount_0f7a4_23 : decode cJ6_bitCount_0f7a4 23 = .ok (.istore_n 0, 1) := by decide +kernel
theorem dJ6_bitCount_0f7a4_24 : decode cJ6_bitCount_0f7a4 24 = .ok (.iload_n 0, 1) := by decide +kernel
theorem dJ6_bitCount_0f7a4_25 : decode cJ6_bitCount_0f7a4 25 = .ok (.iload_n 0, 1) := by decide +kernel
theorem dJ6_bitCount_0f7a4_26 : decode cJ6_bitCount_0f7a4 26 = .ok (.iconst 4, 1) := by decide +kernel
theorem dJ6_bitCount_0f7a4_27 : decode cJ6_bitCount_0f7a4 27 = .ok (.iushr, 1) := by decide +kernel
theorem dJ6_bitCount_0f7a4_28 : decode cJ6_bitCount_0f7a4 28 = .ok (.iadd, 1) := by decide +kernel
theorem dJ6_bitCount_0f7a4_29 : decode cJ6_bitCount_0f7a4 29 = .ok (.ldc_w 267, 3) := by decide +kernel
theorem dJ6_bitCount_0f7a4_32 : decode cJ6_bitCount_0f7a4 32 = .ok (.iand, 1) := by decide +kernel
theorem dJ6_bitCount_0f7a4_33 : decode cJ6_bitCount_0f7a4 33 = .ok (.istore_n 0, 1) := by decide +kernel
theorem dJ6_bitCount_0f7a4_34 : decode cJ6_bitCount_0f7a4 34 = .ok (.iload_n 0, 1) := by decide +kernel
theorem dJ6_bitCount_0f7a4_35 : decode cJ6_bitCount_0f7a4 35 = .ok (.iload_n 0, 1) := by decide +kernel
theorem dJ6_bitCount_0f7a4_36 : decode cJ6_bitCount_0f7a4 36 = .ok (.bipush 8, 2) := by decide +kernel
theorem dJ6_bitCount_0f7a4_38 : decode cJ6_bitCount_0f7a4 38 = .ok (.iushr, 1) := by decide +kernel
theorem dJ6_bitCount_0f7a4_39 : decode cJ6_bitCount_0f7a4 39 = .ok (.iadd, 1) := by decide +kernel
theorem dJ6_bitCount_0f7a4_40 : decode cJ6_bitCount_0f7a4 40 = .ok (.istore_n 0, 1) := by decide +kernel
theorem dJ6_bitCount_0f7a4_41 : decode cJ6_bitCount_0f7a4 41 = .ok (.iload_n 0, 1) := by decide +kernel
theorem dJ6_bitCount_0f7a4_42 : decode cJ6_bitCount_0f7a4 42 = .ok (.iload_n 0, 1) := by decide +kernel
theorem dJ6_bitCount_0f7a4_43 : decode cJ6_bitCount_0f7a4 43 = .ok (.bipush 16, 2) := by decide +kernel
theorem dJ6_bitCount_0f7a4_45 : decode cJ6_bitCount_0f7a4 45 = .ok (.iushr, 1) := by decide +kernel
theorem dJ6_bitCount_0f7a4_46 : decode cJ6_bitCount_0f7a4 46 = .ok (.iadd, 1) := by decide +kernel
theorem dJ6_bitCount_0f7a4_47 : decode cJ6_bitCount_0f7a4 47 = .ok (.istore_n 0, 1) := by decide +kernel
theorem dJ6_bitCount_0f7a4_48 : decode cJ6_bitCount_0f7a4 48 = .ok (.iload_n 0, 1) := by decide +kernel
theorem dJ6_bitCount_0f7a4_49 : decode cJ6_bitCount_0f7a4 49 = .ok (.bipush 63, 2) := by decide +kernel
theorem dJ6_bitCount_0f7a4_51 : decode cJ6_bitCount_0f7a4 51 = .ok (.iand, 1) := by decide +kernel
theorem dJ6_bitCount_0f7a4_52 : decode cJ6_bitCount_0f7a4 52 = .ok (.ireturn, 1) := by decide +kernel
theorem dJ9_max_7cf53_0 : decode cJ9_max_7cf53 0 = .ok (.iload_n 0, 1) := by decide +kernel
theorem dJ9_max_7cf53_1 : decode cJ9_max_7cf53 1 = .ok (.iload_n 1, 1) := by decide +kernel
theorem dJ9_max_7cf53_2 : decode cJ9_max_7cf53 2 = .ok (.if_icmp .lt 7, 3) := by decide +kernel
theorem dJ9_max_7cf53_5 : decode cJ9_max_7cf53 5 = .ok (.iload_n 0, 1) := by decide +kernel
theorem dJ9_max_7cf53_6 : decode cJ9_max_7cf53 6 = .ok (.goto 4, 3) := by decide +kernel
theorem dJ9_max_7cf53_9 : decode cJ9_max_7cf53 9 = .ok (.iload_n 1, 1) := by decide +kernel
theorem dJ9_max_7cf53_10 : decode cJ9_max_7cf53 10 = .ok (.ireturn, 1) := by decide +kernel
theorem dJ9_min_7cf53_0 : decode cJ9_min_7cf53 0 = .ok (.iload_n 0, 1) := by decide +kernel
theorem dJ9_min_7cf53_1 : decode cJ9_min_7cf53 1 = .ok (.iload_n 1, 1) := by decide +kernel
theorem dJ9_min_7cf53_2 : decode cJ9_min_7cf53 2 = .ok (.if_icmp .gt 7, 3) := by decide +kernel
theorem dJ9_min_7cf53_5 : decode cJ9_min_7cf53 5 = .ok (.iload_n 0, 1) := by decide +kernel
theorem dJ9_min_7cf53_6 : decode cJ9_min_7cf53 6 = .ok (.goto 4, 3) := by decide +kernel
theorem dJ9_min_7cf53_9 : decode cJ9_min_7cf53 9 = .ok (.iload_n 1, 1) := by decide +kernel
theorem dJ9_min_7cf53_10 : decode cJ9_min_7cf53 10 = .ok (.ireturn, 1) := by decide +kernel
theorem dJ0_length_8abf5_0 : decode cJ0_length_8abf5 0 = .ok (.aload_n 0, 1) := by decide +kernel
theorem dJ0_length_8abf5_1 : decode cJ0_length_8abf5 1 = .ok (.getfield 9, 3) := by decide +kernel
theorem dJ0_length_8abf5_4 : decode cJ0_length_8abf5 4 = .ok (.arraylength, 1) := by decide +kernel
theorem dJ0_length_8abf5_5 : decode cJ0_length_8abf5 5 = .ok (.aload_n 0, 1) := by decide +kernel
theorem dJ0_length_8abf5_6 : decode cJ0_length_8abf5 6 = .ok (.invokevirtual 335, 3) := by decide +kernel
theorem dJ0_length_8abf5_9 : decode cJ0_length_8abf5 9 = .ok (.ishr, 1) := by decide +kernel
theorem dJ0_length_8abf5_10 : decode cJ0_length_8abf5 10 = .ok (.ireturn, 1) := by decide +kernel
theorem dJ0_indexOf_0f7a4_0 : decode cJ0_indexOf_0f7a4 0 = .ok (.aload_n 0, 1) := by decide +kernel
theorem dJ0_indexOf_0f7a4_1 : decode cJ0_indexOf_0f7a4 1 = .ok (.iload_n 1, 1) := by decide +kernel
theorem dJ0_indexOf_0f7a4_2 : decode cJ0_indexOf_0f7a4 2 = .ok (.iconst 0, 1) := by decide +kernel
theorem dJ0_indexOf_0f7a4_3 : decode cJ0_indexOf_0f7a4 3 = .ok (.invokevirtual 633, 3) := by decide +kernel
theorem dJ0_indexOf_0f7a4_6 : decode cJ0_indexOf_0f7a4 6 = .ok (.ireturn, 1) := by decide +kernel
theorem dJ0_indexOf_7cf53_0 : decode cJ0_indexOf_7cf53 0 = .ok (.aload_n 0, 1) := by decide +kernel
theorem dJ0_indexOf_7cf53_1 : decode cJ0_indexOf_7cf53 1 = .ok (.invokevirtual 492, 3) := by decide +kernel
theorem dJ0_indexOf_7cf53_4 : decode cJ0_indexOf_7cf53 4 = .ok (.ifCond .eq 19, 3) := by decide +kernel
theorem dJ0_indexOf_7cf53_7 : decode cJ0_indexOf_7cf53 7 = .ok (.aload_n 0, 1) := by decide +kernel
theorem dJ0_indexOf_7cf53_8 : decode cJ0_indexOf_7cf53 8 = .ok (.getfield 9, 3) := by decide +kernel
theorem dJ0_indexOf_7cf53_11 : decode cJ0_indexOf_7cf53 11 = .ok (.iload_n 1, 1) := by decide +kernel
theorem dJ0_indexOf_7cf53_12 : decode cJ0_indexOf_7cf53 12 = .ok (.iload_n 2, 1) := by decide +kernel
theorem dJ0_indexOf_7cf53_13 : decode cJ0_indexOf_7cf53 13 = .ok (.aload_n 0, 1) := by decide +kernel
theorem dJ0_indexOf_7cf53_14 : decode cJ0_indexOf_7cf53 14 = .ok (.invokevirtual 505, 3) := by decide +kernel
theorem dJ0_indexOf_7cf53_17 : decode cJ0_indexOf_7cf53 17 = .ok (.invokestatic 637, 3) := by decide +kernel
theorem dJ0_indexOf_7cf53_20 : decode cJ0_indexOf_7cf53 20 = .ok (.goto 16, 3) := by decide +kernel
theorem dJ0_indexOf_7cf53_23 : decode cJ0_indexOf_7cf53 23 = .ok (.aload_n 0, 1) := by decide +kernel
theorem dJ0_indexOf_7cf53_24 : decode cJ0_indexOf_7cf53 24 = .ok (.getfield 9, 3) := by decide +kernel
theorem dJ0_indexOf_7cf53_27 : decode cJ0_indexOf_7cf53 27 = .ok (.iload_n 1, 1) := by decide +kernel
theorem dJ0_indexOf_7cf53_28 : decode cJ0_indexOf_7cf53 28 = .ok (.iload_n 2, 1) := by decide +kernel
theorem dJ0_indexOf_7cf53_29 : decode cJ0_indexOf_7cf53 29 = .ok (.aload_n 0, 1) := by decide +kernel
theorem dJ0_indexOf_7cf53_30 : decode cJ0_indexOf_7cf53 30 = .ok (.invokevirtual 505, 3) := by decide +kernel
theorem dJ0_indexOf_7cf53_33 : decode cJ0_indexOf_7cf53 33 = .ok (.invokestatic 640, 3) := by decide +kernel
theorem dJ0_indexOf_7cf53_36 : decode cJ0_indexOf_7cf53 36 = .ok (.ireturn, 1) := by decide +kernel
theorem dJ0_coder_7d493_0 : decode cJ0_coder_7d493 0 = .ok (.getstatic 38, 3) := by decide +kernel
theorem dJ0_coder_7d493_3 : decode cJ0_coder_7d493 3 = .ok (.ifCond .eq 10, 3) := by decide +kernel
theorem dJ0_coder_7d493_6 : decode cJ0_coder_7d493 6 = .ok (.aload_n 0, 1) := by decide +kernel
theorem dJ0_coder_7d493_7 : decode cJ0_coder_7d493 7 = .ok (.getfield 15, 3) := by decide +kernel
theorem dJ0_coder_7d493_10 : decode cJ0_coder_7d493 10 = .ok (.goto 4, 3) := by decide +kernel
theorem dJ0_coder_7d493_13 : decode cJ0_coder_7d493 13 = .ok (.iconst 1, 1) := by decide +kernel
theorem dJ0_coder_7d493_14 : decode cJ0_coder_7d493 14 = .ok (.ireturn, 1) := by decide +kernel
theorem dJ0_isLatin1_aae02_0 : decode cJ0_isLatin1_aae02 0 = .ok (.getstatic 38, 3) := by decide +kernel
theorem dJ0_isLatin1_aae02_3 : decode cJ0_isLatin1_aae02 3 = .ok (.ifCond .eq 14, 3) := by decide +kernel
theorem dJ0_isLatin1_aae02_6 : decode cJ0_isLatin1_aae02 6 = .ok (.aload_n 0, 1) := by decide +kernel
theorem dJ0_isLatin1_aae02_7 : decode cJ0_isLatin1_aae02 7 = .ok (.getfield 15, 3) := by decide +kernel
theorem dJ0_isLatin1_aae02_10 : decode cJ0_isLatin1_aae02 10 = .ok (.ifCond .ne 7, 3) := by decide +kernel
theorem dJ0_isLatin1_aae02_13 : decode cJ0_isLatin1_aae02 13 = .ok (.iconst 1, 1) := by decide +kernel
theorem dJ0_isLatin1_aae02_14 : decode cJ0_isLatin1_aae02 14 = .ok (.goto 4, 3) := by decide +kernel
theorem dJ0_isLatin1_aae02_17 : decode cJ0_isLatin1_aae02 17 = .ok (.iconst 0, 1) := by decide +kernel
theorem dJ0_isLatin1_aae02_18 : decode cJ0_isLatin1_aae02 18 = .ok (.ireturn, 1) := by decide +kernel
theorem dJ0_checkBoundsBeginEnd_23922_0 : decode cJ0_checkBoundsBeginEnd_23922 0 = .ok (.iload_n 0, 1) := by decide +kernel
theorem dJ0_checkBoundsBeginEnd_23922_1 : decode cJ0_checkBoundsBeginEnd_23922 1 = .ok (.iload_n 1, 1) := by decide +kernel
theorem dJ0_checkBoundsBeginEnd_23922_2 : decode cJ0_checkBoundsBeginEnd_23922 2 = .ok (.iload_n 2, 1) := by decide +kernel
theorem dJ0_checkBoundsBeginEnd_23922_3 : decode cJ0_checkBoundsBeginEnd_23922 3 = .ok (.getstatic 1053, 3) := by decide +kernel
theorem dJ0_checkBoundsBeginEnd_23922_6 : decode cJ0_checkBoundsBeginEnd_23922 6 = .ok (.invokestatic 1062, 3) := by decide +kernel
theorem dJ0_checkBoundsBeginEnd_23922_9 : decode cJ0_checkBoundsBeginEnd_23922 9 = .ok (.pop, 1) := by decide +kernel
theorem dJ0_checkBoundsBeginEnd_23922_10 : decode cJ0_checkBoundsBeginEnd_23922 10 = .ok (.return_, 1) := by decide +kernel
theorem dJ1_canEncode_9a6ad_0 : decode cJ1_canEncode_9a6ad 0 = .ok (.iload_n 0, 1) := by decide +kernel
theorem dJ1_canEncode_9a6ad_1 : decode cJ1_canEncode_9a6ad 1 = .ok (.ifCond .lt 14, 3) := by decide +kernel
theorem dJ1_canEncode_9a6ad_4 : decode cJ1_canEncode_9a6ad 4 = .ok (.iload_n 0, 1) := by decide +kernel
theorem dJ1_canEncode_9a6ad_5 : decode cJ1_canEncode_9a6ad 5 = .ok (.sipush 255, 3) := by decide +kernel
theorem dJ1_canEncode_9a6ad_8 : decode cJ1_canEncode_9a6ad 8 = .ok (.if_icmp .gt 7, 3) := by decide +kernel
theorem dJ1_canEncode_9a6ad_11 : decode cJ1_canEncode_9a6ad 11 = .ok (.iconst 1, 1) := by decide +kernel
theorem dJ1_canEncode_9a6ad_12 : decode cJ1_canEncode_9a6ad 12 = .ok (.goto 4, 3) := by decide +kernel
theorem dJ1_canEncode_9a6ad_15 : decode cJ1_canEncode_9a6ad 15 = .ok (.iconst 0, 1) := by decide +kernel
theorem dJ1_canEncode_9a6ad_16 : decode cJ1_canEncode_9a6ad 16 = .ok (.ireturn, 1) := by decide +kernel
theorem dJ1_indexOf_4cfef_0 : decode cJ1_indexOf_4cfef 0 = .ok (.iload_n 1, 1) := by decide +kernel
theorem dJ1_indexOf_4cfef_1 : decode cJ1_indexOf_4cfef 1 = .ok (.invokestatic 88, 3) := by decide +kernel
theorem dJ1_indexOf_4cfef_4 : decode cJ1_indexOf_4cfef 4 = .ok (.ifCond .ne 5, 3) := by decide +kernel
theorem dJ1_indexOf_4cfef_7 : decode cJ1_indexOf_4cfef 7 = .ok (.iconst (-1), 1) := by decide +kernel
theorem dJ1_indexOf_4cfef_8 : decode cJ1_indexOf_4cfef 8 = .ok (.ireturn, 1) := by decide +kernel
theorem dJ1_indexOf_4cfef_9 : decode cJ1_indexOf_4cfef 9 = .ok (.iload_n 2, 1) := by decide +kernel
theorem dJ1_indexOf_4cfef_10 : decode cJ1_indexOf_4cfef 10 = .ok (.iconst 0, 1) := by decide +kernel
theorem dJ1_indexOf_4cfef_11 : decode cJ1_indexOf_4cfef 11 = .ok (.invokestatic 92, 3) := by decide +kernel
theorem dJ1_indexOf_4cfef_14 : decode cJ1_indexOf_4cfef 14 = .ok (.istore_n 2, 1) := by decide +kernel
theorem dJ1_indexOf_4cfef_15 : decode cJ1_indexOf_4cfef 15 = .ok (.iload_n 3, 1) := by decide +kernel
theorem dJ1_indexOf_4cfef_16 : decode cJ1_indexOf_4cfef 16 = .ok (.aload_n 0, 1) := by decide +kernel
theorem dJ1_indexOf_4cfef_17 : decode cJ1_indexOf_4cfef 17 = .ok (.arraylength, 1) := by decide +kernel
theorem dJ1_indexOf_4cfef_18 : decode cJ1_indexOf_4cfef 18 = .ok (.invokestatic 38, 3) := by decide +kernel
theorem dJ1_indexOf_4cfef_21 : decode cJ1_indexOf_4cfef 21 = .ok (.istore_n 3, 1) := by decide +kernel
theorem dJ1_indexOf_4cfef_22 : decode cJ1_indexOf_4cfef 22 = .ok (.iload_n 2, 1) := by decide +kernel
theorem dJ1_indexOf_4cfef_23 : decode cJ1_indexOf_4cfef 23 = .ok (.iload_n 3, 1) := by decide +kernel
theorem dJ1_indexOf_4cfef_24 : decode cJ1_indexOf_4cfef 24 = .ok (.if_icmp .lt 5, 3) := by decide +kernel
theorem dJ1_indexOf_4cfef_27 : decode cJ1_indexOf_4cfef 27 = .ok (.iconst (-1), 1) := by decide +kernel
theorem dJ1_indexOf_4cfef_28 : decode cJ1_indexOf_4cfef 28 = .ok (.ireturn, 1) := by decide +kernel
theorem dJ1_indexOf_4cfef_29 : decode cJ1_indexOf_4cfef 29 = .ok (.aload_n 0, 1) := by decide +kernel
theorem dJ1_indexOf_4cfef_30 : decode cJ1_indexOf_4cfef 30 = .ok (.iload_n 1, 1) := by decide +kernel
theorem dJ1_indexOf_4cfef_31 : decode cJ1_indexOf_4cfef 31 = .ok (.iload_n 2, 1) := by decide +kernel
theorem dJ1_indexOf_4cfef_32 : decode cJ1_indexOf_4cfef 32 = .ok (.iload_n 3, 1) := by decide +kernel
theorem dJ1_indexOf_4cfef_33 : decode cJ1_indexOf_4cfef 33 = .ok (.invokestatic 95, 3) := by decide +kernel
theorem dJ1_indexOf_4cfef_36 : decode cJ1_indexOf_4cfef 36 = .ok (.ireturn, 1) := by decide +kernel
theorem dJ1_indexOfChar_4cfef_0 : decode cJ1_indexOfChar_4cfef 0 = .ok (.iload_n 1, 1) := by decide +kernel
theorem dJ1_indexOfChar_4cfef_1 : decode cJ1_indexOfChar_4cfef 1 = .ok (.i2b, 1) := by decide +kernel
theorem dJ1_indexOfChar_4cfef_2 : decode cJ1_indexOfChar_4cfef 2 = .ok (.istore 4, 2) := by decide +kernel
theorem dJ1_indexOfChar_4cfef_4 : decode cJ1_indexOfChar_4cfef 4 = .ok (.iload_n 2, 1) := by decide +kernel
theorem dJ1_indexOfChar_4cfef_5 : decode cJ1_indexOfChar_4cfef 5 = .ok (.istore 5, 2) := by decide +kernel
theorem dJ1_indexOfChar_4cfef_7 : decode cJ1_indexOfChar_4cfef 7 = .ok (.iload 5, 2) := by decide +kernel
theorem dJ1_indexOfChar_4cfef_9 : decode cJ1_indexOfChar_4cfef 9 = .ok (.iload_n 3, 1) := by decide +kernel
theorem dJ1_indexOfChar_4cfef_10 : decode cJ1_indexOfChar_4cfef 10 = .ok (.if_icmp .ge 21, 3) := by decide +kernel
theorem dJ1_indexOfChar_4cfef_13 : decode cJ1_indexOfChar_4cfef 13 = .ok (.aload_n 0, 1) := by decide +kernel
theorem dJ1_indexOfChar_4cfef_14 : decode cJ1_indexOfChar_4cfef 14 = .ok (.iload 5, 2) := by decide +kernel
theorem dJ1_indexOfChar_4cfef_16 : decode cJ1_indexOfChar_4cfef 16 = .ok (.baload, 1) := by decide +kernel
theorem dJ1_indexOfChar_4cfef_17 : decode cJ1_indexOfChar_4cfef 17 = .ok (.iload 4, 2) := by decide +kernel
theorem dJ1_indexOfChar_4cfef_19 : decode cJ1_indexOfChar_4cfef 19 = .ok (.if_icmp .ne 6, 3) := by decide +kernel
theorem dJ1_indexOfChar_4cfef_22 : decode cJ1_indexOfChar_4cfef 22 = .ok (.iload 5, 2) := by decide +kernel
theorem dJ1_indexOfChar_4cfef_24 : decode cJ1_indexOfChar_4cfef 24 = .ok (.ireturn, 1) := by decide +kernel
theorem dJ1_indexOfChar_4cfef_25 : decode cJ1_indexOfChar_4cfef 25 = .ok (.iinc 5 1, 3) := by decide +kernel
theorem dJ1_indexOfChar_4cfef_28 : decode cJ1_indexOfChar_4cfef 28 = .ok (.goto (-21), 3) := by decide +kernel
theorem dJ1_indexOfChar_4cfef_31 : decode cJ1_indexOfChar_4cfef 31 = .ok (.iconst (-1), 1) := by decide +kernel
theorem dJ1_indexOfChar_4cfef_32 : decode cJ1_indexOfChar_4cfef 32 = .ok (.ireturn, 1) := by decide +kernel
theorem dJ2_getChar_3b067_0 : decode cJ2_getChar_3b067 0 = .ok (.getstatic 44, 3) := by decide +kernel
theorem dJ2_getChar_3b067_3 : decode cJ2_getChar_3b067 3 = .ok (.ifCond .ne 25, 3) := by decide +kernel
theorem dJ2_getChar_3b067_6 : decode cJ2_getChar_3b067 6 = .ok (.iload_n 1, 1) := by decide +kernel
theorem dJ2_getChar_3b067_7 : decode cJ2_getChar_3b067 7 = .ok (.ifCond .lt 11, 3) := by decide +kernel
theorem dJ2_getChar_3b067_10 : decode cJ2_getChar_3b067 10 = .ok (.iload_n 1, 1) := by decide +kernel
theorem dJ2_getChar_3b067_11 : decode cJ2_getChar_3b067 11 = .ok (.aload_n 0, 1) := by decide +kernel
theorem dJ2_getChar_3b067_12 : decode cJ2_getChar_3b067 12 = .ok (.invokestatic 48, 3) := by decide +kernel
theorem dJ2_getChar_3b067_15 : decode cJ2_getChar_3b067 15 = .ok (.if_icmp .lt 13, 3) := by decide +kernel
theorem dJ2_getChar_3b067_18 : decode cJ2_getChar_3b067 18 = .ok (.new 52, 3) := by decide +kernel
theorem dJ2_getChar_3b067_21 : decode cJ2_getChar_3b067 21 = .ok (.dup, 1) := by decide +kernel
theorem dJ2_getChar_3b067_22 : decode cJ2_getChar_3b067 22 = .ok (.ldc 54, 2) := by decide +kernel
theorem dJ2_getChar_3b067_24 : decode cJ2_getChar_3b067 24 = .ok (.invokespecial 56, 3) := by decide +kernel
theorem dJ2_getChar_3b067_27 : decode cJ2_getChar_3b067 27 = .ok (.athrow, 1) := by decide +kernel
theorem dJ2_getChar_3b067_28 : decode cJ2_getChar_3b067 28 = .ok (.iload_n 1, 1) := by decide +kernel
theorem dJ2_getChar_3b067_29 : decode cJ2_getChar_3b067 29 = .ok (.iconst 1, 1) := by decide +kernel
theorem dJ2_getChar_3b067_30 : decode cJ2_getChar_3b067 30 = .ok (.ishl, 1) := by decide +kernel
theorem dJ2_getChar_3b067_31 : decode cJ2_getChar_3b067 31 = .ok (.istore_n 1, 1) := by decide +kernel
theorem dJ2_getChar_3b067_32 : decode cJ2_getChar_3b067 32 = .ok (.aload_n 0, 1) := by decide +kernel
theorem dJ2_getChar_3b067_33 : decode cJ2_getChar_3b067 33 = .ok (.iload_n 1, 1) := by decide +kernel
theorem dJ2_getChar_3b067_34 : decode cJ2_getChar_3b067 34 = .ok (.iinc 1 1, 3) := by decide +kernel
theorem dJ2_getChar_3b067_37 : decode cJ2_getChar_3b067 37 = .ok (.baload, 1) := by decide +kernel
theorem dJ2_getChar_3b067_38 : decode cJ2_getChar_3b067 38 = .ok (.sipush 255, 3) := by decide +kernel
theorem dJ2_getChar_3b067_41 : decode cJ2_getChar_3b067 41 = .ok (.iand, 1) := by decide +kernel
theorem dJ2_getChar_3b067_42 : decode cJ2_getChar_3b067 42 = .ok (.getstatic 59, 3) := by decide +kernel
theorem dJ2_getChar_3b067_45 : decode cJ2_getChar_3b067 45 = .ok (.ishl, 1) := by decide +kernel
theorem dJ2_getChar_3b067_46 : decode cJ2_getChar_3b067 46 = .ok (.aload_n 0, 1) := by decide +kernel
theorem dJ2_getChar_3b067_47 : decode cJ2_getChar_3b067 47 = .ok (.iload_n 1, 1) := by decide +kernel
theorem dJ2_getChar_3b067_48 : decode cJ2_getChar_3b067 48 = .ok (.baload, 1) := by decide +kernel
theorem dJ2_getChar_3b067_49 : decode cJ2_getChar_3b067 49 = .ok (.sipush 255, 3) := by decide +kernel
theorem dJ2_getChar_3b067_52 : decode cJ2_getChar_3b067 52 = .ok (.iand, 1) := by decide +kernel
theorem dJ2_getChar_3b067_53 : decode cJ2_getChar_3b067 53 = .ok (.getstatic 63, 3) := by decide +kernel
theorem dJ2_getChar_3b067_56 : decode cJ2_getChar_3b067 56 = .ok (.ishl, 1) := by decide +kernel
theorem dJ2_getChar_3b067_57 : decode cJ2_getChar_3b067 57 = .ok (.ior, 1) := by decide +kernel
theorem dJ2_getChar_3b067_58 : decode cJ2_getChar_3b067 58 = .ok (.i2c, 1) := by decide +kernel
theorem dJ2_getChar_3b067_59 : decode cJ2_getChar_3b067 59 = .ok (.ireturn, 1) := by decide +kernel
theorem dJ2_length_9d52b_0 : decode cJ2_length_9d52b 0 = .ok (.aload_n 0, 1) := by decide +kernel
theorem dJ2_length_9d52b_1 : decode cJ2_length_9d52b 1 = .ok (.arraylength, 1) := by decide +kernel
theorem dJ2_length_9d52b_2 : decode cJ2_length_9d52b 2 = .ok (.iconst 1, 1) := by decide +kernel
theorem dJ2_length_9d52b_3 : decode cJ2_length_9d52b 3 = .ok (.ishr, 1) := by decide +kernel
theorem dJ2_length_9d52b_4 : decode cJ2_length_9d52b 4 = .ok (.ireturn, 1) := by decide +kernel
theorem dJ2_indexOf_4cfef_0 : decode cJ2_indexOf_4cfef 0 = .ok (.iload_n 2, 1) := by decide +kernel
theorem dJ2_indexOf_4cfef_1 : decode cJ2_indexOf_4cfef 1 = .ok (.iconst 0, 1) := by decide +kernel
theorem dJ2_indexOf_4cfef_2 : decode cJ2_indexOf_4cfef 2 = .ok (.invokestatic 224, 3) := by decide +kernel
theorem dJ2_indexOf_4cfef_5 : decode cJ2_indexOf_4cfef 5 = .ok (.istore_n 2, 1) := by decide +kernel
theorem dJ2_indexOf_4cfef_6 : decode cJ2_indexOf_4cfef 6 = .ok (.iload_n 3, 1) := by decide +kernel
theorem dJ2_indexOf_4cfef_7 : decode cJ2_indexOf_4cfef 7 = .ok (.aload_n 0, 1) := by decide +kernel
theorem dJ2_indexOf_4cfef_8 : decode cJ2_indexOf_4cfef 8 = .ok (.arraylength, 1) := by decide +kernel
theorem dJ2_indexOf_4cfef_9 : decode cJ2_indexOf_4cfef 9 = .ok (.iconst 1, 1) := by decide +kernel
theorem dJ2_indexOf_4cfef_10 : decode cJ2_indexOf_4cfef 10 = .ok (.ishr, 1) := by decide +kernel
theorem dJ2_indexOf_4cfef_11 : decode cJ2_indexOf_4cfef 11 = .ok (.invokestatic 183, 3) := by decide +kernel
theorem dJ2_indexOf_4cfef_14 : decode cJ2_indexOf_4cfef 14 = .ok (.istore_n 3, 1) := by decide +kernel
theorem dJ2_indexOf_4cfef_15 : decode cJ2_indexOf_4cfef 15 = .ok (.iload_n 2, 1) := by decide +kernel
theorem dJ2_indexOf_4cfef_16 : decode cJ2_indexOf_4cfef 16 = .ok (.iload_n 3, 1) := by decide +kernel
theorem dJ2_indexOf_4cfef_17 : decode cJ2_indexOf_4cfef 17 = .ok (.if_icmp .lt 5, 3) := by decide +kernel
theorem dJ2_indexOf_4cfef_20 : decode cJ2_indexOf_4cfef 20 = .ok (.iconst (-1), 1) := by decide +kernel
theorem dJ2_indexOf_4cfef_21 : decode cJ2_indexOf_4cfef 21 = .ok (.ireturn, 1) := by decide +kernel
theorem dJ2_indexOf_4cfef_22 : decode cJ2_indexOf_4cfef 22 = .ok (.iload_n 1, 1) := by decide +kernel
theorem dJ2_indexOf_4cfef_23 : decode cJ2_indexOf_4cfef 23 = .ok (.ldc 227, 2) := by decide +kernel
theorem dJ2_indexOf_4cfef_25 : decode cJ2_indexOf_4cfef 25 = .ok (.if_icmp .ge 11, 3) := by decide +kernel
theorem dJ2_indexOf_4cfef_28 : decode cJ2_indexOf_4cfef 28 = .ok (.aload_n 0, 1) := by decide +kernel
theorem dJ2_indexOf_4cfef_29 : decode cJ2_indexOf_4cfef 29 = .ok (.iload_n 1, 1) := by decide +kernel
theorem dJ2_indexOf_4cfef_30 : decode cJ2_indexOf_4cfef 30 = .ok (.iload_n 2, 1) := by decide +kernel
theorem dJ2_indexOf_4cfef_31 : decode cJ2_indexOf_4cfef 31 = .ok (.iload_n 3, 1) := by decide +kernel
theorem dJ2_indexOf_4cfef_32 : decode cJ2_indexOf_4cfef 32 = .ok (.invokestatic 228, 3) := by decide +kernel
theorem dJ2_indexOf_4cfef_35 : decode cJ2_indexOf_4cfef 35 = .ok (.ireturn, 1) := by decide +kernel
theorem dJ2_indexOf_4cfef_36 : decode cJ2_indexOf_4cfef 36 = .ok (.aload_n 0, 1) := by decide +kernel
theorem dJ2_indexOf_4cfef_37 : decode cJ2_indexOf_4cfef 37 = .ok (.iload_n 1, 1) := by decide +kernel
theorem dJ2_indexOf_4cfef_38 : decode cJ2_indexOf_4cfef 38 = .ok (.iload_n 2, 1) := by decide +kernel
theorem dJ2_indexOf_4cfef_39 : decode cJ2_indexOf_4cfef 39 = .ok (.iload_n 3, 1) := by decide +kernel
theorem dJ2_indexOf_4cfef_40 : decode cJ2_indexOf_4cfef 40 = .ok (.invokestatic 232, 3) := by decide +kernel
theorem dJ2_indexOf_4cfef_43 : decode cJ2_indexOf_4cfef 43 = .ok (.ireturn, 1) := by decide +kernel
theorem dJ2_indexOfChar_4cfef_0 : decode cJ2_indexOfChar_4cfef 0 = .ok (.iload_n 2, 1) := by decide +kernel
theorem dJ2_indexOfChar_4cfef_1 : decode cJ2_indexOfChar_4cfef 1 = .ok (.iload_n 3, 1) := by decide +kernel
theorem dJ2_indexOfChar_4cfef_2 : decode cJ2_indexOfChar_4cfef 2 = .ok (.aload_n 0, 1) := by decide +kernel
theorem dJ2_indexOfChar_4cfef_3 : decode cJ2_indexOfChar_4cfef 3 = .ok (.invokestatic 96, 3) := by decide +kernel
theorem dJ2_indexOfChar_4cfef_6 : decode cJ2_indexOfChar_4cfef 6 = .ok (.aload_n 0, 1) := by decide +kernel
theorem dJ2_indexOfChar_4cfef_7 : decode cJ2_indexOfChar_4cfef 7 = .ok (.iload_n 1, 1) := by decide +kernel
theorem dJ2_indexOfChar_4cfef_8 : decode cJ2_indexOfChar_4cfef 8 = .ok (.iload_n 2, 1) := by decide +kernel
theorem dJ2_indexOfChar_4cfef_9 : decode cJ2_indexOfChar_4cfef 9 = .ok (.iload_n 3, 1) := by decide +kernel
theorem dJ2_indexOfChar_4cfef_10 : decode cJ2_indexOfChar_4cfef 10 = .ok (.invokestatic 244, 3) := by decide +kernel
theorem dJ2_indexOfChar_4cfef_13 : decode cJ2_indexOfChar_4cfef 13 = .ok (.ireturn, 1) := by decide +kernel
theorem dJ2_indexOfCharUnsafe_4cfef_0 : decode cJ2_indexOfCharUnsafe_4cfef 0 = .ok (.iload_n 2, 1) := by decide +kernel
theorem dJ2_indexOfCharUnsafe_4cfef_1 : decode cJ2_indexOfCharUnsafe_4cfef 1 = .ok (.istore 4, 2) := by decide +kernel
theorem dJ2_indexOfCharUnsafe_4cfef_3 : decode cJ2_indexOfCharUnsafe_4cfef 3 = .ok (.iload 4, 2) := by decide +kernel
theorem dJ2_indexOfCharUnsafe_4cfef_5 : decode cJ2_indexOfCharUnsafe_4cfef 5 = .ok (.iload_n 3, 1) := by decide +kernel
theorem dJ2_indexOfCharUnsafe_4cfef_6 : decode cJ2_indexOfCharUnsafe_4cfef 6 = .ok (.if_icmp .ge 22, 3) := by decide +kernel
theorem dJ2_indexOfCharUnsafe_4cfef_9 : decode cJ2_indexOfCharUnsafe_4cfef 9 = .ok (.aload_n 0, 1) := by decide +kernel
theorem dJ2_indexOfCharUnsafe_4cfef_10 : decode cJ2_indexOfCharUnsafe_4cfef 10 = .ok (.iload 4, 2) := by decide +kernel
theorem dJ2_indexOfCharUnsafe_4cfef_12 : decode cJ2_indexOfCharUnsafe_4cfef 12 = .ok (.invokestatic 71, 3) := by decide +kernel
theorem dJ2_indexOfCharUnsafe_4cfef_15 : decode cJ2_indexOfCharUnsafe_4cfef 15 = .ok (.iload_n 1, 1) := by decide +kernel
theorem dJ2_indexOfCharUnsafe_4cfef_16 : decode cJ2_indexOfCharUnsafe_4cfef 16 = .ok (.if_icmp .ne 6, 3) := by decide +kernel
theorem dJ2_indexOfCharUnsafe_4cfef_19 : decode cJ2_indexOfCharUnsafe_4cfef 19 = .ok (.iload 4, 2) := by decide +kernel
theorem dJ2_indexOfCharUnsafe_4cfef_21 : decode cJ2_indexOfCharUnsafe_4cfef 21 = .ok (.ireturn, 1) := by decide +kernel
theorem dJ2_indexOfCharUnsafe_4cfef_22 : decode cJ2_indexOfCharUnsafe_4cfef 22 = .ok (.iinc 4 1, 3) := by decide +kernel
theorem dJ2_indexOfCharUnsafe_4cfef_25 : decode cJ2_indexOfCharUnsafe_4cfef 25 = .ok (.goto (-22), 3) := by decide +kernel
theorem dJ2_indexOfCharUnsafe_4cfef_28 : decode cJ2_indexOfCharUnsafe_4cfef 28 = .ok (.iconst (-1), 1) := by decide +kernel
theorem dJ2_indexOfCharUnsafe_4cfef_29 : decode cJ2_indexOfCharUnsafe_4cfef 29 = .ok (.ireturn, 1) := by decide +kernel
theorem dJ2_indexOfSupplementary_4cfef_0 : decode cJ2_indexOfSupplementary_4cfef 0 = .ok (.iload_n 1, 1) := by decide +kernel
theorem dJ2_indexOfSupplementary_4cfef_1 : decode cJ2_indexOfSupplementary_4cfef 1 = .ok (.invokestatic 164, 3) := by decide +kernel
theorem dJ2_indexOfSupplementary_4cfef_4 : decode cJ2_indexOfSupplementary_4cfef 4 = .ok (.ifCond .eq 65, 3) := by decide +kernel
theorem dJ2_indexOfSupplementary_4cfef_7 : decode cJ2_indexOfSupplementary_4cfef 7 = .ok (.iload_n 1, 1) := by decide +kernel
theorem dJ2_indexOfSupplementary_4cfef_8 : decode cJ2_indexOfSupplementary_4cfef 8 = .ok (.invokestatic 157, 3) := by decide +kernel
theorem dJ2_indexOfSupplementary_4cfef_11 : decode cJ2_indexOfSupplementary_4cfef 11 = .ok (.istore 4, 2) := by decide +kernel
theorem dJ2_indexOfSupplementary_4cfef_13 : decode cJ2_indexOfSupplementary_4cfef 13 = .ok (.iload_n 1, 1) := by decide +kernel
theorem dJ2_indexOfSupplementary_4cfef_14 : decode cJ2_indexOfSupplementary_4cfef 14 = .ok (.invokestatic 161, 3) := by decide +kernel
theorem dJ2_indexOfSupplementary_4cfef_17 : decode cJ2_indexOfSupplementary_4cfef 17 = .ok (.istore 5, 2) := by decide +kernel
theorem dJ2_indexOfSupplementary_4cfef_19 : decode cJ2_indexOfSupplementary_4cfef 19 = .ok (.iload_n 2, 1) := by decide +kernel
theorem dJ2_indexOfSupplementary_4cfef_20 : decode cJ2_indexOfSupplementary_4cfef 20 = .ok (.iload_n 3, 1) := by decide +kernel
theorem dJ2_indexOfSupplementary_4cfef_21 : decode cJ2_indexOfSupplementary_4cfef 21 = .ok (.aload_n 0, 1) := by decide +kernel
theorem dJ2_indexOfSupplementary_4cfef_22 : decode cJ2_indexOfSupplementary_4cfef 22 = .ok (.invokestatic 96, 3) := by decide +kernel
theorem dJ2_indexOfSupplementary_4cfef_25 : decode cJ2_indexOfSupplementary_4cfef 25 = .ok (.iload_n 2, 1) := by decide +kernel
theorem dJ2_indexOfSupplementary_4cfef_26 : decode cJ2_indexOfSupplementary_4cfef 26 = .ok (.istore 6, 2) := by decide +kernel
theorem dJ2_indexOfSupplementary_4cfef_28 : decode cJ2_indexOfSupplementary_4cfef 28 = .ok (.iload 6, 2) := by decide +kernel
theorem dJ2_indexOfSupplementary_4cfef_30 : decode cJ2_indexOfSupplementary_4cfef 30 = .ok (.iload_n 3, 1) := by decide +kernel
theorem dJ2_indexOfSupplementary_4cfef_31 : decode cJ2_indexOfSupplementary_4cfef 31 = .ok (.iconst 1, 1) := by decide +kernel
theorem dJ2_indexOfSupplementary_4cfef_32 : decode cJ2_indexOfSupplementary_4cfef 32 = .ok (.isub, 1) := by decide +kernel
theorem dJ2_indexOfSupplementary_4cfef_33 : decode cJ2_indexOfSupplementary_4cfef 33 = .ok (.if_icmp .ge 36, 3) := by decide +kernel
theorem dJ2_indexOfSupplementary_4cfef_36 : decode cJ2_indexOfSupplementary_4cfef 36 = .ok (.aload_n 0, 1) := by decide +kernel
theorem dJ2_indexOfSupplementary_4cfef_37 : decode cJ2_indexOfSupplementary_4cfef 37 = .ok (.iload 6, 2) := by decide +kernel
theorem dJ2_indexOfSupplementary_4cfef_39 : decode cJ2_indexOfSupplementary_4cfef 39 = .ok (.invokestatic 71, 3) := by decide +kernel
theorem dJ2_indexOfSupplementary_4cfef_42 : decode cJ2_indexOfSupplementary_4cfef 42 = .ok (.iload 4, 2) := by decide +kernel
theorem dJ2_indexOfSupplementary_4cfef_44 : decode cJ2_indexOfSupplementary_4cfef 44 = .ok (.if_icmp .ne 19, 3) := by decide +kernel
theorem dJ2_indexOfSupplementary_4cfef_47 : decode cJ2_indexOfSupplementary_4cfef 47 = .ok (.aload_n 0, 1) := by decide +kernel
theorem dJ2_indexOfSupplementary_4cfef_48 : decode cJ2_indexOfSupplementary_4cfef 48 = .ok (.iload 6, 2) := by decide +kernel
theorem dJ2_indexOfSupplementary_4cfef_50 : decode cJ2_indexOfSupplementary_4cfef 50 = .ok (.iconst 1, 1) := by decide +kernel
theorem dJ2_indexOfSupplementary_4cfef_51 : decode cJ2_indexOfSupplementary_4cfef 51 = .ok (.iadd, 1) := by decide +kernel
theorem dJ2_indexOfSupplementary_4cfef_52 : decode cJ2_indexOfSupplementary_4cfef 52 = .ok (.invokestatic 71, 3) := by decide +kernel
theorem dJ2_indexOfSupplementary_4cfef_55 : decode cJ2_indexOfSupplementary_4cfef 55 = .ok (.iload 5, 2) := by decide +kernel
theorem dJ2_indexOfSupplementary_4cfef_57 : decode cJ2_indexOfSupplementary_4cfef 57 = .ok (.if_icmp .ne 6, 3) := by decide +kernel
theorem dJ2_indexOfSupplementary_4cfef_60 : decode cJ2_indexOfSupplementary_4cfef 60 = .ok (.iload 6, 2) := by decide +kernel
theorem dJ2_indexOfSupplementary_4cfef_62 : decode cJ2_indexOfSupplementary_4cfef 62 = .ok (.ireturn, 1) := by decide +kernel
theorem dJ2_indexOfSupplementary_4cfef_63 : decode cJ2_indexOfSupplementary_4cfef 63 = .ok (.iinc 6 1, 3) := by decide +kernel
theorem dJ2_indexOfSupplementary_4cfef_66 : decode cJ2_indexOfSupplementary_4cfef 66 = .ok (.goto (-38), 3) := by decide +kernel
theorem dJ2_indexOfSupplementary_4cfef_69 : decode cJ2_indexOfSupplementary_4cfef 69 = .ok (.iconst (-1), 1) := by decide +kernel
theorem dJ2_indexOfSupplementary_4cfef_70 : decode cJ2_indexOfSupplementary_4cfef 70 = .ok (.ireturn, 1) := by decide +kernel
theorem dJ2_checkBoundsBeginEnd_d044e_0 : decode cJ2_checkBoundsBeginEnd_d044e 0 = .ok (.iload_n 0, 1) := by decide +kernel
theorem dJ2_checkBoundsBeginEnd_d044e_1 : decode cJ2_checkBoundsBeginEnd_d044e 1 = .ok (.iload_n 1, 1) := by decide +kernel
theorem dJ2_checkBoundsBeginEnd_d044e_2 : decode cJ2_checkBoundsBeginEnd_d044e 2 = .ok (.aload_n 2, 1) := by decide +kernel
theorem dJ2_checkBoundsBeginEnd_d044e_3 : decode cJ2_checkBoundsBeginEnd_d044e 3 = .ok (.invokestatic 48, 3) := by decide +kernel
theorem dJ2_checkBoundsBeginEnd_d044e_6 : decode cJ2_checkBoundsBeginEnd_d044e 6 = .ok (.invokestatic 241, 3) := by decide +kernel
theorem dJ2_checkBoundsBeginEnd_d044e_9 : decode cJ2_checkBoundsBeginEnd_d044e 9 = .ok (.return_, 1) := by decide +kernel
theorem dJ7_fill_53178_0 : decode cJ7_fill_53178 0 = .ok (.iconst 0, 1) := by decide +kernel
theorem dJ7_fill_53178_1 : decode cJ7_fill_53178 1 = .ok (.istore_n 2, 1) := by decide +kernel
theorem dJ7_fill_53178_2 : decode cJ7_fill_53178 2 = .ok (.aload_n 0, 1) := by decide +kernel
theorem dJ7_fill_53178_3 : decode cJ7_fill_53178 3 = .ok (.arraylength, 1) := by decide +kernel
theorem dJ7_fill_53178_4 : decode cJ7_fill_53178 4 = .ok (.istore_n 3, 1) := by decide +kernel
theorem dJ7_fill_53178_5 : decode cJ7_fill_53178 5 = .ok (.iload_n 2, 1) := by decide +kernel
theorem dJ7_fill_53178_6 : decode cJ7_fill_53178 6 = .ok (.iload_n 3, 1) := by decide +kernel
theorem dJ7_fill_53178_7 : decode cJ7_fill_53178 7 = .ok (.if_icmp .ge 13, 3) := by decide +kernel
theorem dJ7_fill_53178_10 : decode cJ7_fill_53178 10 = .ok (.aload_n 0, 1) := by decide +kernel
theorem dJ7_fill_53178_11 : decode cJ7_fill_53178 11 = .ok (.iload_n 2, 1) := by decide +kernel
theorem dJ7_fill_53178_12 : decode cJ7_fill_53178 12 = .ok (.iload_n 1, 1) := by decide +kernel
theorem dJ7_fill_53178_13 : decode cJ7_fill_53178 13 = .ok (.iastore, 1) := by decide +kernel
theorem dJ7_fill_53178_14 : decode cJ7_fill_53178 14 = .ok (.iinc 2 1, 3) := by decide +kernel
theorem dJ7_fill_53178_17 : decode cJ7_fill_53178 17 = .ok (.goto (-12), 3) := by decide +kernel
theorem dJ7_fill_53178_20 : decode cJ7_fill_53178 20 = .ok (.return_, 1) := by decide +kernel
theorem dJ3_checkFromToIndex_8c36e_0 : decode cJ3_checkFromToIndex_8c36e 0 = .ok (.iload_n 0, 1) := by decide +kernel
theorem dJ3_checkFromToIndex_8c36e_1 : decode cJ3_checkFromToIndex_8c36e 1 = .ok (.ifCond .lt 13, 3) := by decide +kernel
theorem dJ3_checkFromToIndex_8c36e_4 : decode cJ3_checkFromToIndex_8c36e 4 = .ok (.iload_n 0, 1) := by decide +kernel
theorem dJ3_checkFromToIndex_8c36e_5 : decode cJ3_checkFromToIndex_8c36e 5 = .ok (.iload_n 1, 1) := by decide +kernel
theorem dJ3_checkFromToIndex_8c36e_6 : decode cJ3_checkFromToIndex_8c36e 6 = .ok (.if_icmp .gt 8, 3) := by decide +kernel
theorem dJ3_checkFromToIndex_8c36e_9 : decode cJ3_checkFromToIndex_8c36e 9 = .ok (.iload_n 1, 1) := by decide +kernel
theorem dJ3_checkFromToIndex_8c36e_10 : decode cJ3_checkFromToIndex_8c36e 10 = .ok (.iload_n 2, 1) := by decide +kernel
theorem dJ3_checkFromToIndex_8c36e_11 : decode cJ3_checkFromToIndex_8c36e 11 = .ok (.if_icmp .le 11, 3) := by decide +kernel
theorem dJ3_checkFromToIndex_8c36e_14 : decode cJ3_checkFromToIndex_8c36e 14 = .ok (.aload_n 3, 1) := by decide +kernel
theorem dJ3_checkFromToIndex_8c36e_15 : decode cJ3_checkFromToIndex_8c36e 15 = .ok (.iload_n 0, 1) := by decide +kernel
theorem dJ3_checkFromToIndex_8c36e_16 : decode cJ3_checkFromToIndex_8c36e 16 = .ok (.iload_n 1, 1) := by decide +kernel
theorem dJ3_checkFromToIndex_8c36e_17 : decode cJ3_checkFromToIndex_8c36e 17 = .ok (.iload_n 2, 1) := by decide +kernel
theorem dJ3_checkFromToIndex_8c36e_18 : decode cJ3_checkFromToIndex_8c36e 18 = .ok (.invokestatic 99, 3) := by decide +kernel
theorem dJ3_checkFromToIndex_8c36e_21 : decode cJ3_checkFromToIndex_8c36e 21 = .ok (.athrow, 1) := by decide +kernel
theorem dJ3_checkFromToIndex_8c36e_22 : decode cJ3_checkFromToIndex_8c36e 22 = .ok (.iload_n 0, 1) := by decide +kernel
theorem dJ3_checkFromToIndex_8c36e_23 : decode cJ3_checkFromToIndex_8c36e 23 = .ok (.ireturn, 1) := by decide +kernel
end
section
theorem zz_look : True := trivial
end
