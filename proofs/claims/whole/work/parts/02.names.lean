-- ===== PART A: goes FIRST, ahead of the names: the tables' words, and 'selects' of the private methods out of them =====
/-- a private method of a class that the tables say can be made, by its rows of tables_1 -/
def lw_okq (q : MethodName × Nat) : Prop := (q.1.cls ≠ "java/lang/invoke/MethodHandle" ∧ q.1.cls ≠ "java/lang/invoke/VarHandle") ∧ Cond.instantiable q.1.cls q.2 ∈ tables_1 ∧ Cond.privateMethod q.1 ∈ tables_1 ∧ Cond.instanceMethod q.1 ∈ tables_1
theorem lw_p0 : lw_okq (⟨"java/lang/Throwable", "fillInStackTrace", "(I)Ljava/lang/Throwable;"⟩, 6) := ⟨⟨by decide +kernel, by decide +kernel⟩, List.mem_of_getElem? (i := 424) (by decide +kernel), List.mem_of_getElem? (i := 422) (by decide +kernel), List.mem_of_getElem? (i := 423) (by decide +kernel)⟩
theorem lw_p1 : lw_okq (⟨"CampsiteBooker", "requirePitch", "(I)V"⟩, 9) := ⟨⟨by decide +kernel, by decide +kernel⟩, List.mem_of_getElem? (i := 24) (by decide +kernel), List.mem_of_getElem? (i := 513) (by decide +kernel), List.mem_of_getElem? (i := 514) (by decide +kernel)⟩
theorem lw_p2 : lw_okq (⟨"CampsiteBooker", "requireSeason", "(I)V"⟩, 9) := ⟨⟨by decide +kernel, by decide +kernel⟩, List.mem_of_getElem? (i := 24) (by decide +kernel), List.mem_of_getElem? (i := 613) (by decide +kernel), List.mem_of_getElem? (i := 614) (by decide +kernel)⟩
theorem lw_p3 : lw_okq (⟨"CampsiteBooker$Planner", "survey", "()V"⟩, 14) := ⟨⟨by decide +kernel, by decide +kernel⟩, List.mem_of_getElem? (i := 32) (by decide +kernel), List.mem_of_getElem? (i := 666) (by decide +kernel), List.mem_of_getElem? (i := 667) (by decide +kernel)⟩
theorem lw_p4 : lw_okq (⟨"CampsiteBooker$Planner", "addLoad", "(ILCampsiteBooker$Party;)V"⟩, 14) := ⟨⟨by decide +kernel, by decide +kernel⟩, List.mem_of_getElem? (i := 32) (by decide +kernel), List.mem_of_getElem? (i := 676) (by decide +kernel), List.mem_of_getElem? (i := 677) (by decide +kernel)⟩
theorem lw_p5 : lw_okq (⟨"CampsiteBooker$Planner", "sortPitches", "()V"⟩, 14) := ⟨⟨by decide +kernel, by decide +kernel⟩, List.mem_of_getElem? (i := 32) (by decide +kernel), List.mem_of_getElem? (i := 680) (by decide +kernel), List.mem_of_getElem? (i := 681) (by decide +kernel)⟩
theorem lw_p6 : lw_okq (⟨"CampsiteBooker$Planner", "chooseGoal", "(I)Z"⟩, 14) := ⟨⟨by decide +kernel, by decide +kernel⟩, List.mem_of_getElem? (i := 32) (by decide +kernel), List.mem_of_getElem? (i := 689) (by decide +kernel), List.mem_of_getElem? (i := 690) (by decide +kernel)⟩
theorem lw_p7 : lw_okq (⟨"CampsiteBooker$Planner", "isInTheWay", "(LCampsiteBooker$Party;)Z"⟩, 14) := ⟨⟨by decide +kernel, by decide +kernel⟩, List.mem_of_getElem? (i := 32) (by decide +kernel), List.mem_of_getElem? (i := 693) (by decide +kernel), List.mem_of_getElem? (i := 694) (by decide +kernel)⟩
theorem lw_p8 : lw_okq (⟨"CampsiteBooker$Planner", "findMoves", "()Z"⟩, 14) := ⟨⟨by decide +kernel, by decide +kernel⟩, List.mem_of_getElem? (i := 32) (by decide +kernel), List.mem_of_getElem? (i := 706) (by decide +kernel), List.mem_of_getElem? (i := 707) (by decide +kernel)⟩
theorem lw_p9 : lw_okq (⟨"CampsiteBooker$Planner", "isRight", "()Z"⟩, 14) := ⟨⟨by decide +kernel, by decide +kernel⟩, List.mem_of_getElem? (i := 32) (by decide +kernel), List.mem_of_getElem? (i := 710) (by decide +kernel), List.mem_of_getElem? (i := 711) (by decide +kernel)⟩
theorem lw_p10 : lw_okq (⟨"CampsiteBooker$Planner", "seatAll", "()Z"⟩, 14) := ⟨⟨by decide +kernel, by decide +kernel⟩, List.mem_of_getElem? (i := 32) (by decide +kernel), List.mem_of_getElem? (i := 714) (by decide +kernel), List.mem_of_getElem? (i := 715) (by decide +kernel)⟩
theorem lw_p11 : lw_okq (⟨"CampsiteBooker$Planner", "hasPower", "()Z"⟩, 14) := ⟨⟨by decide +kernel, by decide +kernel⟩, List.mem_of_getElem? (i := 32) (by decide +kernel), List.mem_of_getElem? (i := 727) (by decide +kernel), List.mem_of_getElem? (i := 728) (by decide +kernel)⟩
theorem lw_p12 : lw_okq (⟨"CampsiteBooker$Planner", "plannedLoad", "(II)I"⟩, 14) := ⟨⟨by decide +kernel, by decide +kernel⟩, List.mem_of_getElem? (i := 32) (by decide +kernel), List.mem_of_getElem? (i := 731) (by decide +kernel), List.mem_of_getElem? (i := 732) (by decide +kernel)⟩
theorem lw_p13 : lw_okq (⟨"CampsiteBooker$Planner", "makesGaps", "()Z"⟩, 14) := ⟨⟨by decide +kernel, by decide +kernel⟩, List.mem_of_getElem? (i := 32) (by decide +kernel), List.mem_of_getElem? (i := 735) (by decide +kernel), List.mem_of_getElem? (i := 736) (by decide +kernel)⟩
theorem lw_p14 : lw_okq (⟨"CampsiteBooker$Planner", "chooseMove", "(III)Z"⟩, 14) := ⟨⟨by decide +kernel, by decide +kernel⟩, List.mem_of_getElem? (i := 32) (by decide +kernel), List.mem_of_getElem? (i := 741) (by decide +kernel), List.mem_of_getElem? (i := 742) (by decide +kernel)⟩
theorem lw_p15 : lw_okq (⟨"CampsiteBooker$Camp", "isPowerShort", "(LCampsiteBooker$Party;II)Z"⟩, 9) := ⟨⟨by decide +kernel, by decide +kernel⟩, List.mem_of_getElem? (i := 38) (by decide +kernel), List.mem_of_getElem? (i := 761) (by decide +kernel), List.mem_of_getElem? (i := 762) (by decide +kernel)⟩
def lw_privs_1 : List (MethodName × Nat) := [(⟨"java/lang/Throwable", "fillInStackTrace", "(I)Ljava/lang/Throwable;"⟩, 6), (⟨"CampsiteBooker", "requirePitch", "(I)V"⟩, 9), (⟨"CampsiteBooker", "requireSeason", "(I)V"⟩, 9), (⟨"CampsiteBooker$Planner", "survey", "()V"⟩, 14), (⟨"CampsiteBooker$Planner", "addLoad", "(ILCampsiteBooker$Party;)V"⟩, 14), (⟨"CampsiteBooker$Planner", "sortPitches", "()V"⟩, 14), (⟨"CampsiteBooker$Planner", "chooseGoal", "(I)Z"⟩, 14), (⟨"CampsiteBooker$Planner", "isInTheWay", "(LCampsiteBooker$Party;)Z"⟩, 14), (⟨"CampsiteBooker$Planner", "findMoves", "()Z"⟩, 14), (⟨"CampsiteBooker$Planner", "isRight", "()Z"⟩, 14), (⟨"CampsiteBooker$Planner", "seatAll", "()Z"⟩, 14), (⟨"CampsiteBooker$Planner", "hasPower", "()Z"⟩, 14), (⟨"CampsiteBooker$Planner", "plannedLoad", "(II)I"⟩, 14), (⟨"CampsiteBooker$Planner", "makesGaps", "()Z"⟩, 14), (⟨"CampsiteBooker$Planner", "chooseMove", "(III)Z"⟩, 14), (⟨"CampsiteBooker$Camp", "isPowerShort", "(LCampsiteBooker$Party;II)Z"⟩, 9)]
theorem lw_r1 : ∀ q ∈ lw_privs_1, lw_okq q := List.forall_mem_cons.mpr ⟨lw_p0, List.forall_mem_cons.mpr ⟨lw_p1, List.forall_mem_cons.mpr ⟨lw_p2, List.forall_mem_cons.mpr ⟨lw_p3, List.forall_mem_cons.mpr ⟨lw_p4, List.forall_mem_cons.mpr ⟨lw_p5, List.forall_mem_cons.mpr ⟨lw_p6, List.forall_mem_cons.mpr ⟨lw_p7, List.forall_mem_cons.mpr ⟨lw_p8, List.forall_mem_cons.mpr ⟨lw_p9, List.forall_mem_cons.mpr ⟨lw_p10, List.forall_mem_cons.mpr ⟨lw_p11, List.forall_mem_cons.mpr ⟨lw_p12, List.forall_mem_cons.mpr ⟨lw_p13, List.forall_mem_cons.mpr ⟨lw_p14, List.forall_mem_cons.mpr ⟨lw_p15, fun _ h => absurd h List.not_mem_nil⟩⟩⟩⟩⟩⟩⟩⟩⟩⟩⟩⟩⟩⟩⟩⟩
theorem lw_p16 : lw_okq (⟨"CampsiteBooker$BookingText", "readAll", "()Z"⟩, 6) := ⟨⟨by decide +kernel, by decide +kernel⟩, List.mem_of_getElem? (i := 281) (by decide +kernel), List.mem_of_getElem? (i := 830) (by decide +kernel), List.mem_of_getElem? (i := 831) (by decide +kernel)⟩
theorem lw_p17 : lw_okq (⟨"CampsiteBooker$BookingText", "readKind", "()Z"⟩, 6) := ⟨⟨by decide +kernel, by decide +kernel⟩, List.mem_of_getElem? (i := 281) (by decide +kernel), List.mem_of_getElem? (i := 834) (by decide +kernel), List.mem_of_getElem? (i := 835) (by decide +kernel)⟩
theorem lw_p18 : lw_okq (⟨"CampsiteBooker$BookingText", "readSign", "(C)Z"⟩, 6) := ⟨⟨by decide +kernel, by decide +kernel⟩, List.mem_of_getElem? (i := 281) (by decide +kernel), List.mem_of_getElem? (i := 838) (by decide +kernel), List.mem_of_getElem? (i := 839) (by decide +kernel)⟩
theorem lw_p19 : lw_okq (⟨"CampsiteBooker$BookingText", "readNumber", "(I)Z"⟩, 6) := ⟨⟨by decide +kernel, by decide +kernel⟩, List.mem_of_getElem? (i := 281) (by decide +kernel), List.mem_of_getElem? (i := 842) (by decide +kernel), List.mem_of_getElem? (i := 843) (by decide +kernel)⟩
theorem lw_p20 : lw_okq (⟨"CampsiteBooker$BookingText", "readDigit", "()I"⟩, 6) := ⟨⟨by decide +kernel, by decide +kernel⟩, List.mem_of_getElem? (i := 281) (by decide +kernel), List.mem_of_getElem? (i := 846) (by decide +kernel), List.mem_of_getElem? (i := 847) (by decide +kernel)⟩
theorem lw_p21 : lw_okq (⟨"CampsiteBooker$BookingText", "readPower", "()Z"⟩, 6) := ⟨⟨by decide +kernel, by decide +kernel⟩, List.mem_of_getElem? (i := 281) (by decide +kernel), List.mem_of_getElem? (i := 850) (by decide +kernel), List.mem_of_getElem? (i := 851) (by decide +kernel)⟩
theorem lw_p22 : lw_okq (⟨"CampsiteBooker", "requireParty", "(I)V"⟩, 9) := ⟨⟨by decide +kernel, by decide +kernel⟩, List.mem_of_getElem? (i := 24) (by decide +kernel), List.mem_of_getElem? (i := 887) (by decide +kernel), List.mem_of_getElem? (i := 888) (by decide +kernel)⟩
theorem lw_p23 : lw_okq (⟨"CampsiteBookerModel", "keeps", "()V"⟩, 22) := ⟨⟨by decide +kernel, by decide +kernel⟩, List.mem_of_getElem? (i := 1082) (by decide +kernel), List.mem_of_getElem? (i := 1166) (by decide +kernel), List.mem_of_getElem? (i := 1167) (by decide +kernel)⟩
theorem lw_p24 : lw_okq (⟨"CampsiteBookerModel", "copies", "(II)V"⟩, 22) := ⟨⟨by decide +kernel, by decide +kernel⟩, List.mem_of_getElem? (i := 1082) (by decide +kernel), List.mem_of_getElem? (i := 1170) (by decide +kernel), List.mem_of_getElem? (i := 1171) (by decide +kernel)⟩
theorem lw_p25 : lw_okq (⟨"CampsiteBookerModel", "isPitch", "(I)Z"⟩, 22) := ⟨⟨by decide +kernel, by decide +kernel⟩, List.mem_of_getElem? (i := 1082) (by decide +kernel), List.mem_of_getElem? (i := 1178) (by decide +kernel), List.mem_of_getElem? (i := 1179) (by decide +kernel)⟩
theorem lw_p26 : lw_okq (⟨"CampsiteBookerModel", "ofPitch", "(II)I"⟩, 22) := ⟨⟨by decide +kernel, by decide +kernel⟩, List.mem_of_getElem? (i := 1082) (by decide +kernel), List.mem_of_getElem? (i := 1182) (by decide +kernel), List.mem_of_getElem? (i := 1183) (by decide +kernel)⟩
theorem lw_p27 : lw_okq (⟨"CampsiteBookerModel", "loads", "(I)V"⟩, 22) := ⟨⟨by decide +kernel, by decide +kernel⟩, List.mem_of_getElem? (i := 1082) (by decide +kernel), List.mem_of_getElem? (i := 1186) (by decide +kernel), List.mem_of_getElem? (i := 1187) (by decide +kernel)⟩
theorem lw_p28 : lw_okq (⟨"CampsiteBookerModel", "isParty", "(I)Z"⟩, 22) := ⟨⟨by decide +kernel, by decide +kernel⟩, List.mem_of_getElem? (i := 1082) (by decide +kernel), List.mem_of_getElem? (i := 1190) (by decide +kernel), List.mem_of_getElem? (i := 1191) (by decide +kernel)⟩
theorem lw_p29 : lw_okq (⟨"CampsiteBookerModel", "of", "(II)I"⟩, 22) := ⟨⟨by decide +kernel, by decide +kernel⟩, List.mem_of_getElem? (i := 1082) (by decide +kernel), List.mem_of_getElem? (i := 1194) (by decide +kernel), List.mem_of_getElem? (i := 1195) (by decide +kernel)⟩
theorem lw_p30 : lw_okq (⟨"CampsiteBookerModel", "maskOf", "(I)J"⟩, 22) := ⟨⟨by decide +kernel, by decide +kernel⟩, List.mem_of_getElem? (i := 1082) (by decide +kernel), List.mem_of_getElem? (i := 1198) (by decide +kernel), List.mem_of_getElem? (i := 1199) (by decide +kernel)⟩
theorem lw_p31 : lw_okq (⟨"CampsiteBookerModel", "maskOf", "(II)J"⟩, 22) := ⟨⟨by decide +kernel, by decide +kernel⟩, List.mem_of_getElem? (i := 1082) (by decide +kernel), List.mem_of_getElem? (i := 1202) (by decide +kernel), List.mem_of_getElem? (i := 1203) (by decide +kernel)⟩
def lw_privs_2 : List (MethodName × Nat) := [(⟨"CampsiteBooker$BookingText", "readAll", "()Z"⟩, 6), (⟨"CampsiteBooker$BookingText", "readKind", "()Z"⟩, 6), (⟨"CampsiteBooker$BookingText", "readSign", "(C)Z"⟩, 6), (⟨"CampsiteBooker$BookingText", "readNumber", "(I)Z"⟩, 6), (⟨"CampsiteBooker$BookingText", "readDigit", "()I"⟩, 6), (⟨"CampsiteBooker$BookingText", "readPower", "()Z"⟩, 6), (⟨"CampsiteBooker", "requireParty", "(I)V"⟩, 9), (⟨"CampsiteBookerModel", "keeps", "()V"⟩, 22), (⟨"CampsiteBookerModel", "copies", "(II)V"⟩, 22), (⟨"CampsiteBookerModel", "isPitch", "(I)Z"⟩, 22), (⟨"CampsiteBookerModel", "ofPitch", "(II)I"⟩, 22), (⟨"CampsiteBookerModel", "loads", "(I)V"⟩, 22), (⟨"CampsiteBookerModel", "isParty", "(I)Z"⟩, 22), (⟨"CampsiteBookerModel", "of", "(II)I"⟩, 22), (⟨"CampsiteBookerModel", "maskOf", "(I)J"⟩, 22), (⟨"CampsiteBookerModel", "maskOf", "(II)J"⟩, 22)]
theorem lw_r2 : ∀ q ∈ lw_privs_2, lw_okq q := List.forall_mem_cons.mpr ⟨lw_p16, List.forall_mem_cons.mpr ⟨lw_p17, List.forall_mem_cons.mpr ⟨lw_p18, List.forall_mem_cons.mpr ⟨lw_p19, List.forall_mem_cons.mpr ⟨lw_p20, List.forall_mem_cons.mpr ⟨lw_p21, List.forall_mem_cons.mpr ⟨lw_p22, List.forall_mem_cons.mpr ⟨lw_p23, List.forall_mem_cons.mpr ⟨lw_p24, List.forall_mem_cons.mpr ⟨lw_p25, List.forall_mem_cons.mpr ⟨lw_p26, List.forall_mem_cons.mpr ⟨lw_p27, List.forall_mem_cons.mpr ⟨lw_p28, List.forall_mem_cons.mpr ⟨lw_p29, List.forall_mem_cons.mpr ⟨lw_p30, List.forall_mem_cons.mpr ⟨lw_p31, fun _ h => absurd h List.not_mem_nil⟩⟩⟩⟩⟩⟩⟩⟩⟩⟩⟩⟩⟩⟩⟩⟩
theorem lw_p32 : lw_okq (⟨"CampsiteBookerModel", "gapsOf", "(J)I"⟩, 22) := ⟨⟨by decide +kernel, by decide +kernel⟩, List.mem_of_getElem? (i := 1082) (by decide +kernel), List.mem_of_getElem? (i := 1212) (by decide +kernel), List.mem_of_getElem? (i := 1213) (by decide +kernel)⟩
theorem lw_p33 : lw_okq (⟨"CampsiteBookerModel", "gaps", "(JI)I"⟩, 22) := ⟨⟨by decide +kernel, by decide +kernel⟩, List.mem_of_getElem? (i := 1082) (by decide +kernel), List.mem_of_getElem? (i := 1216) (by decide +kernel), List.mem_of_getElem? (i := 1217) (by decide +kernel)⟩
theorem lw_p34 : lw_okq (⟨"CampsiteBookerModel", "sets", "(II)I"⟩, 22) := ⟨⟨by decide +kernel, by decide +kernel⟩, List.mem_of_getElem? (i := 1082) (by decide +kernel), List.mem_of_getElem? (i := 1227) (by decide +kernel), List.mem_of_getElem? (i := 1228) (by decide +kernel)⟩
theorem lw_p35 : lw_okq (⟨"CampsiteBookerModel", "asked", "(II)I"⟩, 22) := ⟨⟨by decide +kernel, by decide +kernel⟩, List.mem_of_getElem? (i := 1082) (by decide +kernel), List.mem_of_getElem? (i := 1258) (by decide +kernel), List.mem_of_getElem? (i := 1259) (by decide +kernel)⟩
theorem lw_p36 : lw_okq (⟨"CampsiteBookerModel", "comes", "(III)V"⟩, 22) := ⟨⟨by decide +kernel, by decide +kernel⟩, List.mem_of_getElem? (i := 1082) (by decide +kernel), List.mem_of_getElem? (i := 1266) (by decide +kernel), List.mem_of_getElem? (i := 1267) (by decide +kernel)⟩
theorem lw_p37 : lw_okq (⟨"CampsiteBookerModel", "finds", "(III)Z"⟩, 22) := ⟨⟨by decide +kernel, by decide +kernel⟩, List.mem_of_getElem? (i := 1082) (by decide +kernel), List.mem_of_getElem? (i := 1270) (by decide +kernel), List.mem_of_getElem? (i := 1271) (by decide +kernel)⟩
theorem lw_p38 : lw_okq (⟨"CampsiteBookerModel", "gapsOfAll", "()I"⟩, 22) := ⟨⟨by decide +kernel, by decide +kernel⟩, List.mem_of_getElem? (i := 1082) (by decide +kernel), List.mem_of_getElem? (i := 1274) (by decide +kernel), List.mem_of_getElem? (i := 1275) (by decide +kernel)⟩
theorem lw_p39 : lw_okq (⟨"CampsiteBookerModel", "fitting", "(III)I"⟩, 22) := ⟨⟨by decide +kernel, by decide +kernel⟩, List.mem_of_getElem? (i := 1082) (by decide +kernel), List.mem_of_getElem? (i := 1278) (by decide +kernel), List.mem_of_getElem? (i := 1279) (by decide +kernel)⟩
theorem lw_p40 : lw_okq (⟨"CampsiteBookerModel", "fits", "(IIIII)Z"⟩, 22) := ⟨⟨by decide +kernel, by decide +kernel⟩, List.mem_of_getElem? (i := 1082) (by decide +kernel), List.mem_of_getElem? (i := 1282) (by decide +kernel), List.mem_of_getElem? (i := 1283) (by decide +kernel)⟩
theorem lw_p41 : lw_okq (⟨"CampsiteBookerModel", "plans", "(II)Z"⟩, 22) := ⟨⟨by decide +kernel, by decide +kernel⟩, List.mem_of_getElem? (i := 1082) (by decide +kernel), List.mem_of_getElem? (i := 1286) (by decide +kernel), List.mem_of_getElem? (i := 1287) (by decide +kernel)⟩
theorem lw_p42 : lw_okq (⟨"CampsiteBookerModel", "isRight", "()Z"⟩, 22) := ⟨⟨by decide +kernel, by decide +kernel⟩, List.mem_of_getElem? (i := 1082) (by decide +kernel), List.mem_of_getElem? (i := 1290) (by decide +kernel), List.mem_of_getElem? (i := 1291) (by decide +kernel)⟩
theorem lw_p43 : lw_okq (⟨"CampsiteBookerModel", "isAlone", "(I)Z"⟩, 22) := ⟨⟨by decide +kernel, by decide +kernel⟩, List.mem_of_getElem? (i := 1082) (by decide +kernel), List.mem_of_getElem? (i := 1294) (by decide +kernel), List.mem_of_getElem? (i := 1295) (by decide +kernel)⟩
theorem lw_p44 : lw_okq (⟨"CampsiteBookerModel", "hasPower", "(I)Z"⟩, 22) := ⟨⟨by decide +kernel, by decide +kernel⟩, List.mem_of_getElem? (i := 1082) (by decide +kernel), List.mem_of_getElem? (i := 1298) (by decide +kernel), List.mem_of_getElem? (i := 1299) (by decide +kernel)⟩
theorem lw_p45 : lw_okq (⟨"CampsiteBookerModel", "powerAt", "(II)I"⟩, 22) := ⟨⟨by decide +kernel, by decide +kernel⟩, List.mem_of_getElem? (i := 1082) (by decide +kernel), List.mem_of_getElem? (i := 1302) (by decide +kernel), List.mem_of_getElem? (i := 1303) (by decide +kernel)⟩
theorem lw_p46 : lw_okq (⟨"CampsiteBookerModel", "staysLong", "()Z"⟩, 22) := ⟨⟨by decide +kernel, by decide +kernel⟩, List.mem_of_getElem? (i := 1082) (by decide +kernel), List.mem_of_getElem? (i := 1306) (by decide +kernel), List.mem_of_getElem? (i := 1307) (by decide +kernel)⟩
theorem lw_p47 : lw_okq (⟨"CampsiteBookerModel", "canMove", "(I)Z"⟩, 22) := ⟨⟨by decide +kernel, by decide +kernel⟩, List.mem_of_getElem? (i := 1082) (by decide +kernel), List.mem_of_getElem? (i := 1310) (by decide +kernel), List.mem_of_getElem? (i := 1311) (by decide +kernel)⟩
def lw_privs_3 : List (MethodName × Nat) := [(⟨"CampsiteBookerModel", "gapsOf", "(J)I"⟩, 22), (⟨"CampsiteBookerModel", "gaps", "(JI)I"⟩, 22), (⟨"CampsiteBookerModel", "sets", "(II)I"⟩, 22), (⟨"CampsiteBookerModel", "asked", "(II)I"⟩, 22), (⟨"CampsiteBookerModel", "comes", "(III)V"⟩, 22), (⟨"CampsiteBookerModel", "finds", "(III)Z"⟩, 22), (⟨"CampsiteBookerModel", "gapsOfAll", "()I"⟩, 22), (⟨"CampsiteBookerModel", "fitting", "(III)I"⟩, 22), (⟨"CampsiteBookerModel", "fits", "(IIIII)Z"⟩, 22), (⟨"CampsiteBookerModel", "plans", "(II)Z"⟩, 22), (⟨"CampsiteBookerModel", "isRight", "()Z"⟩, 22), (⟨"CampsiteBookerModel", "isAlone", "(I)Z"⟩, 22), (⟨"CampsiteBookerModel", "hasPower", "(I)Z"⟩, 22), (⟨"CampsiteBookerModel", "powerAt", "(II)I"⟩, 22), (⟨"CampsiteBookerModel", "staysLong", "()Z"⟩, 22), (⟨"CampsiteBookerModel", "canMove", "(I)Z"⟩, 22)]
theorem lw_r3 : ∀ q ∈ lw_privs_3, lw_okq q := List.forall_mem_cons.mpr ⟨lw_p32, List.forall_mem_cons.mpr ⟨lw_p33, List.forall_mem_cons.mpr ⟨lw_p34, List.forall_mem_cons.mpr ⟨lw_p35, List.forall_mem_cons.mpr ⟨lw_p36, List.forall_mem_cons.mpr ⟨lw_p37, List.forall_mem_cons.mpr ⟨lw_p38, List.forall_mem_cons.mpr ⟨lw_p39, List.forall_mem_cons.mpr ⟨lw_p40, List.forall_mem_cons.mpr ⟨lw_p41, List.forall_mem_cons.mpr ⟨lw_p42, List.forall_mem_cons.mpr ⟨lw_p43, List.forall_mem_cons.mpr ⟨lw_p44, List.forall_mem_cons.mpr ⟨lw_p45, List.forall_mem_cons.mpr ⟨lw_p46, List.forall_mem_cons.mpr ⟨lw_p47, fun _ h => absurd h List.not_mem_nil⟩⟩⟩⟩⟩⟩⟩⟩⟩⟩⟩⟩⟩⟩⟩⟩
theorem lw_p48 : lw_okq (⟨"CampsiteBookerModel", "obstacleOf", "(IIII)I"⟩, 22) := ⟨⟨by decide +kernel, by decide +kernel⟩, List.mem_of_getElem? (i := 1082) (by decide +kernel), List.mem_of_getElem? (i := 1314) (by decide +kernel), List.mem_of_getElem? (i := 1315) (by decide +kernel)⟩
theorem lw_p49 : lw_okq (⟨"CampsiteBookerModel", "lays", "(III)V"⟩, 22) := ⟨⟨by decide +kernel, by decide +kernel⟩, List.mem_of_getElem? (i := 1082) (by decide +kernel), List.mem_of_getElem? (i := 1318) (by decide +kernel), List.mem_of_getElem? (i := 1319) (by decide +kernel)⟩
theorem lw_p50 : lw_okq (⟨"CampsiteBookerModel", "here", "()C"⟩, 22) := ⟨⟨by decide +kernel, by decide +kernel⟩, List.mem_of_getElem? (i := 1082) (by decide +kernel), List.mem_of_getElem? (i := 1330) (by decide +kernel), List.mem_of_getElem? (i := 1331) (by decide +kernel)⟩
theorem lw_p51 : lw_okq (⟨"CampsiteBookerModel", "number", "()I"⟩, 22) := ⟨⟨by decide +kernel, by decide +kernel⟩, List.mem_of_getElem? (i := 1082) (by decide +kernel), List.mem_of_getElem? (i := 1334) (by decide +kernel), List.mem_of_getElem? (i := 1335) (by decide +kernel)⟩
theorem lw_p52 : lw_okq (⟨"CampsiteBookerModel", "isDigit", "()Z"⟩, 22) := ⟨⟨by decide +kernel, by decide +kernel⟩, List.mem_of_getElem? (i := 1082) (by decide +kernel), List.mem_of_getElem? (i := 1338) (by decide +kernel), List.mem_of_getElem? (i := 1339) (by decide +kernel)⟩
theorem lw_p53 : lw_okq (⟨"CampsiteBookerModel", "wants", "(C)V"⟩, 22) := ⟨⟨by decide +kernel, by decide +kernel⟩, List.mem_of_getElem? (i := 1082) (by decide +kernel), List.mem_of_getElem? (i := 1342) (by decide +kernel), List.mem_of_getElem? (i := 1343) (by decide +kernel)⟩
theorem lw_p54 : lw_okq (⟨"CampsiteBookerModel", "isAhead", "(I)Z"⟩, 22) := ⟨⟨by decide +kernel, by decide +kernel⟩, List.mem_of_getElem? (i := 1082) (by decide +kernel), List.mem_of_getElem? (i := 1371) (by decide +kernel), List.mem_of_getElem? (i := 1372) (by decide +kernel)⟩
theorem lw_p55 : lw_okq (⟨"CampsiteBookerModel", "comesAs", "(I)V"⟩, 22) := ⟨⟨by decide +kernel, by decide +kernel⟩, List.mem_of_getElem? (i := 1082) (by decide +kernel), List.mem_of_getElem? (i := 1375) (by decide +kernel), List.mem_of_getElem? (i := 1376) (by decide +kernel)⟩
theorem lw_p56 : lw_okq (⟨"CampsiteBookerModel", "sum", "(II)I"⟩, 22) := ⟨⟨by decide +kernel, by decide +kernel⟩, List.mem_of_getElem? (i := 1082) (by decide +kernel), List.mem_of_getElem? (i := 1423) (by decide +kernel), List.mem_of_getElem? (i := 1424) (by decide +kernel)⟩
theorem lw_p57 : lw_okq (⟨"CampsiteBookerModel", "busyNights", "()I"⟩, 22) := ⟨⟨by decide +kernel, by decide +kernel⟩, List.mem_of_getElem? (i := 1082) (by decide +kernel), List.mem_of_getElem? (i := 1427) (by decide +kernel), List.mem_of_getElem? (i := 1428) (by decide +kernel)⟩
def lw_privs_4 : List (MethodName × Nat) := [(⟨"CampsiteBookerModel", "obstacleOf", "(IIII)I"⟩, 22), (⟨"CampsiteBookerModel", "lays", "(III)V"⟩, 22), (⟨"CampsiteBookerModel", "here", "()C"⟩, 22), (⟨"CampsiteBookerModel", "number", "()I"⟩, 22), (⟨"CampsiteBookerModel", "isDigit", "()Z"⟩, 22), (⟨"CampsiteBookerModel", "wants", "(C)V"⟩, 22), (⟨"CampsiteBookerModel", "isAhead", "(I)Z"⟩, 22), (⟨"CampsiteBookerModel", "comesAs", "(I)V"⟩, 22), (⟨"CampsiteBookerModel", "sum", "(II)I"⟩, 22), (⟨"CampsiteBookerModel", "busyNights", "()I"⟩, 22)]
theorem lw_r4 : ∀ q ∈ lw_privs_4, lw_okq q := List.forall_mem_cons.mpr ⟨lw_p48, List.forall_mem_cons.mpr ⟨lw_p49, List.forall_mem_cons.mpr ⟨lw_p50, List.forall_mem_cons.mpr ⟨lw_p51, List.forall_mem_cons.mpr ⟨lw_p52, List.forall_mem_cons.mpr ⟨lw_p53, List.forall_mem_cons.mpr ⟨lw_p54, List.forall_mem_cons.mpr ⟨lw_p55, List.forall_mem_cons.mpr ⟨lw_p56, List.forall_mem_cons.mpr ⟨lw_p57, fun _ h => absurd h List.not_mem_nil⟩⟩⟩⟩⟩⟩⟩⟩⟩⟩
def lw_privs : List (MethodName × Nat) := lw_privs_1 ++ (lw_privs_2 ++ (lw_privs_3 ++ (lw_privs_4)))
def lw_tbl : List Cond := k2_sels lw_privs ++ tables_1
theorem lw_privs_ok : ∀ q ∈ lw_privs, lw_okq q := by
  show ∀ q ∈ lw_privs_1 ++ (lw_privs_2 ++ (lw_privs_3 ++ (lw_privs_4))), lw_okq q
  exact List.forall_mem_append.mpr ⟨lw_r1, List.forall_mem_append.mpr ⟨lw_r2, List.forall_mem_append.mpr ⟨lw_r3, lw_r4⟩⟩⟩
/-- the streams that the claim lets the run draw from -/
abbrev lw_cs : List Choice := [Jvm.Choice.named "NaN.bits"]
theorem lw_bits : nanBits ∈ lw_cs := by first | decide | exact List.mem_cons_self | simp [lw_cs, nanBits]
-- ===== end of PART A; then your names; then what follows =====
def RX0 : String := "CampsiteBooker$BookingText"
def TX0 : u_T := fun k => match k with
  | 0 => ("CampsiteBooker$BookingText", "buffer", "[C", true)
  | 1 => ("CampsiteBooker$BookingText", "size", "I", false)
  | 2 => ("CampsiteBooker$BookingText", "at", "I", false)
  | 3 => ("CampsiteBooker$BookingText", "fault", "I", false)
  | 4 => ("CampsiteBooker$BookingText", "kind", "I", false)
  | _ => ("CampsiteBooker$BookingText", "numbers", "[I", true)
def tyX0 : Nat → FieldType := fun k => match k with
  | 0 => .array .char
  | 1 => .int
  | 2 => .int
  | 3 => .int
  | 4 => .int
  | _ => .array .int
abbrev wsX00 : List Cond := u_ws RX0 TX0 6
theorem nmX0 : ∀ a, a < 6 → ∀ b, b < 6 → a ≠ b → (TX0 a).2.1 ≠ (TX0 b).2.1 := by decide +kernel
theorem tyX0_ok : ∀ k, k < 6 → parseFieldDescriptor (TX0 k).2.2.1 = some (tyX0 k) := by decide +kernel
abbrev cX0_init : ByteArray := prog_2_method_1_code
def yX0_init : MethodName := ⟨RX0, "<init>", "()V"⟩
abbrev cX0_add : ByteArray := prog_2_method_2_code
def yX0_add : MethodName := ⟨RX0, "add", "(C)Z"⟩
abbrev cX0_parse : ByteArray := prog_2_method_3_code
def yX0_parse : MethodName := ⟨RX0, "parse", "()Z"⟩
abbrev cX0_readAll : ByteArray := prog_2_method_4_code
def yX0_readAll : MethodName := ⟨RX0, "readAll", "()Z"⟩
abbrev cX0_readKind : ByteArray := prog_2_method_5_code
def yX0_readKind : MethodName := ⟨RX0, "readKind", "()Z"⟩
abbrev cX0_readPower : ByteArray := prog_2_method_6_code
def yX0_readPower : MethodName := ⟨RX0, "readPower", "()Z"⟩
abbrev cX0_readSign : ByteArray := prog_2_method_7_code
def yX0_readSign : MethodName := ⟨RX0, "readSign", "(C)Z"⟩
abbrev cX0_readNumber : ByteArray := prog_2_method_8_code
def yX0_readNumber : MethodName := ⟨RX0, "readNumber", "(I)Z"⟩
abbrev cX0_readDigit : ByteArray := prog_2_method_9_code
def yX0_readDigit : MethodName := ⟨RX0, "readDigit", "()I"⟩
def RX1 : String := "CampsiteBooker$Camp"
def TX1 : u_T := fun k => match k with
  | 0 => ("CampsiteBooker$Camp", "pitches", "[LCampsiteBooker$Pitch;", true)
  | 1 => ("CampsiteBooker$Camp", "pitchCount", "I", false)
  | 2 => ("CampsiteBooker$Camp", "parties", "[LCampsiteBooker$Party;", true)
  | 3 => ("CampsiteBooker$Camp", "partyCount", "I", false)
  | 4 => ("CampsiteBooker$Camp", "seasons", "[LCampsiteBooker$Season;", true)
  | 5 => ("CampsiteBooker$Camp", "seasonCount", "I", false)
  | 6 => ("CampsiteBooker$Camp", "limits", "[I", true)
  | 7 => ("CampsiteBooker$Camp", "gapLimit", "I", false)
  | _ => ("CampsiteBooker$Camp", "tonight", "I", false)
def tyX1 : Nat → FieldType := fun k => match k with
  | 0 => .array (.object "CampsiteBooker$Pitch")
  | 1 => .int
  | 2 => .array (.object "CampsiteBooker$Party")
  | 3 => .int
  | 4 => .array (.object "CampsiteBooker$Season")
  | 5 => .int
  | 6 => .array .int
  | 7 => .int
  | _ => .int
abbrev wsX10 : List Cond := u_ws RX1 TX1 9
theorem nmX1 : ∀ a, a < 9 → ∀ b, b < 9 → a ≠ b → (TX1 a).2.1 ≠ (TX1 b).2.1 := by decide +kernel
theorem tyX1_ok : ∀ k, k < 9 → parseFieldDescriptor (TX1 k).2.2.1 = some (tyX1 k) := by decide +kernel
abbrev cX1_init : ByteArray := prog_3_method_1_code
def yX1_init : MethodName := ⟨RX1, "<init>", "()V"⟩
abbrev cX1_copyFrom : ByteArray := prog_3_method_2_code
def yX1_copyFrom : MethodName := ⟨RX1, "copyFrom", "(LCampsiteBooker$Camp;)V"⟩
abbrev cX1_hasPitch : ByteArray := prog_3_method_3_code
def yX1_hasPitch : MethodName := ⟨RX1, "hasPitch", "(I)Z"⟩
abbrev cX1_circuitOf : ByteArray := prog_3_method_4_code
def yX1_circuitOf : MethodName := ⟨RX1, "circuitOf", "(I)I"⟩
abbrev cX1_rateOf : ByteArray := prog_3_method_5_code
def yX1_rateOf : MethodName := ⟨RX1, "rateOf", "(I)I"⟩
abbrev cX1_areaOf : ByteArray := prog_3_method_6_code
def yX1_areaOf : MethodName := ⟨RX1, "areaOf", "(I)I"⟩
abbrev cX1_hasFit : ByteArray := prog_3_method_7_code
def yX1_hasFit : MethodName := ⟨RX1, "hasFit", "(LCampsiteBooker$Party;I)Z"⟩
abbrev cX1_isStillToCome : ByteArray := prog_3_method_8_code
def yX1_isStillToCome : MethodName := ⟨RX1, "isStillToCome", "(LCampsiteBooker$Party;)Z"⟩
abbrev cX1_makePitch : ByteArray := prog_3_method_9_code
def yX1_makePitch : MethodName := ⟨RX1, "makePitch", "(IIII)I"⟩
abbrev cX1_makeSeason : ByteArray := prog_3_method_10_code
def yX1_makeSeason : MethodName := ⟨RX1, "makeSeason", "(III)I"⟩
abbrev cX1_removeSeason : ByteArray := prog_3_method_11_code
def yX1_removeSeason : MethodName := ⟨RX1, "removeSeason", "(I)V"⟩
abbrev cX1_makeParty : ByteArray := prog_3_method_12_code
def yX1_makeParty : MethodName := ⟨RX1, "makeParty", "(LCampsiteBooker$Party;I)I"⟩
abbrev cX1_busyNights : ByteArray := prog_3_method_13_code
def yX1_busyNights : MethodName := ⟨RX1, "busyNights", "(II)J"⟩
abbrev cX1_partyAt : ByteArray := prog_3_method_14_code
def yX1_partyAt : MethodName := ⟨RX1, "partyAt", "(II)I"⟩
abbrev cX1_powerUsed : ByteArray := prog_3_method_15_code
def yX1_powerUsed : MethodName := ⟨RX1, "powerUsed", "(III)I"⟩
abbrev cX1_stayAsked : ByteArray := prog_3_method_16_code
def yX1_stayAsked : MethodName := ⟨RX1, "stayAsked", "(II)I"⟩
abbrev cX1_isTooShort : ByteArray := prog_3_method_17_code
def yX1_isTooShort : MethodName := ⟨RX1, "isTooShort", "(LCampsiteBooker$Party;J)Z"⟩
abbrev cX1_gapEdges : ByteArray := prog_3_method_18_code
def yX1_gapEdges : MethodName := ⟨RX1, "gapEdges", "(J)J"⟩
abbrev cX1_countGaps : ByteArray := prog_3_method_19_code
def yX1_countGaps : MethodName := ⟨RX1, "countGaps", "(J)I"⟩
abbrev cX1_obstacleOf : ByteArray := prog_3_method_20_code
def yX1_obstacleOf : MethodName := ⟨RX1, "obstacleOf", "(LCampsiteBooker$Party;II)I"⟩
abbrev cX1_isPowerShort : ByteArray := prog_3_method_21_code
def yX1_isPowerShort : MethodName := ⟨RX1, "isPowerShort", "(LCampsiteBooker$Party;II)Z"⟩
abbrev cX1_greatestObstacle : ByteArray := prog_3_method_22_code
def yX1_greatestObstacle : MethodName := ⟨RX1, "greatestObstacle", "(LCampsiteBooker$Party;)I"⟩
abbrev cX1_countArrivals : ByteArray := prog_3_method_23_code
def yX1_countArrivals : MethodName := ⟨RX1, "countArrivals", "(II)I"⟩
abbrev cX1_countBooked : ByteArray := prog_3_method_24_code
def yX1_countBooked : MethodName := ⟨RX1, "countBooked", "()I"⟩
abbrev cX1_sumPrices : ByteArray := prog_3_method_25_code
def yX1_sumPrices : MethodName := ⟨RX1, "sumPrices", "()I"⟩
abbrev cX1_sumFees : ByteArray := prog_3_method_26_code
def yX1_sumFees : MethodName := ⟨RX1, "sumFees", "()I"⟩
abbrev cX1_countAllGaps : ByteArray := prog_3_method_27_code
def yX1_countAllGaps : MethodName := ⟨RX1, "countAllGaps", "()I"⟩
abbrev cX1_countAllBusyNights : ByteArray := prog_3_method_28_code
def yX1_countAllBusyNights : MethodName := ⟨RX1, "countAllBusyNights", "()I"⟩
def RX2 : String := "CampsiteBooker$History"
def TX2 : u_T := fun k => match k with
  | 0 => ("CampsiteBooker$History", "kept", "[LCampsiteBooker$Camp;", true)
  | 1 => ("CampsiteBooker$History", "next", "I", false)
  | _ => ("CampsiteBooker$History", "count", "I", false)
def tyX2 : Nat → FieldType := fun k => match k with
  | 0 => .array (.object "CampsiteBooker$Camp")
  | 1 => .int
  | _ => .int
abbrev wsX20 : List Cond := u_ws RX2 TX2 3
theorem nmX2 : ∀ a, a < 3 → ∀ b, b < 3 → a ≠ b → (TX2 a).2.1 ≠ (TX2 b).2.1 := by decide +kernel
theorem tyX2_ok : ∀ k, k < 3 → parseFieldDescriptor (TX2 k).2.2.1 = some (tyX2 k) := by decide +kernel
abbrev cX2_init : ByteArray := prog_4_method_1_code
def yX2_init : MethodName := ⟨RX2, "<init>", "()V"⟩
abbrev cX2_keep : ByteArray := prog_4_method_2_code
def yX2_keep : MethodName := ⟨RX2, "keep", "(LCampsiteBooker$Camp;)V"⟩
abbrev cX2_takeBack : ByteArray := prog_4_method_3_code
def yX2_takeBack : MethodName := ⟨RX2, "takeBack", "(LCampsiteBooker$Camp;)V"⟩
def RX3 : String := "CampsiteBooker$Party"
def TX3 : u_T := fun k => match k with
  | 0 => ("CampsiteBooker$Party", "kind", "I", false)
  | 1 => ("CampsiteBooker$Party", "length", "I", false)
  | 2 => ("CampsiteBooker$Party", "breadth", "I", false)
  | 3 => ("CampsiteBooker$Party", "power", "I", false)
  | 4 => ("CampsiteBooker$Party", "first", "I", false)
  | 5 => ("CampsiteBooker$Party", "nights", "I", false)
  | 6 => ("CampsiteBooker$Party", "stay", "J", false)
  | 7 => ("CampsiteBooker$Party", "pitch", "I", false)
  | 8 => ("CampsiteBooker$Party", "price", "I", false)
  | 9 => ("CampsiteBooker$Party", "fee", "I", false)
  | _ => ("CampsiteBooker$Party", "isBooked", "Z", false)
def tyX3 : Nat → FieldType := fun k => match k with
  | 0 => .int
  | 1 => .int
  | 2 => .int
  | 3 => .int
  | 4 => .int
  | 5 => .int
  | 6 => .long
  | 7 => .int
  | 8 => .int
  | 9 => .int
  | _ => .boolean
abbrev wsX30 : List Cond := u_ws RX3 TX3 11
theorem nmX3 : ∀ a, a < 11 → ∀ b, b < 11 → a ≠ b → (TX3 a).2.1 ≠ (TX3 b).2.1 := by decide +kernel
theorem tyX3_ok : ∀ k, k < 11 → parseFieldDescriptor (TX3 k).2.2.1 = some (tyX3 k) := by decide +kernel
abbrev cX3_init : ByteArray := prog_5_method_1_code
def yX3_init : MethodName := ⟨RX3, "<init>", "()V"⟩
abbrev cX3_describe : ByteArray := prog_5_method_2_code
def yX3_describe : MethodName := ⟨RX3, "describe", "(IIIIII)V"⟩
abbrev cX3_copyFrom : ByteArray := prog_5_method_3_code
def yX3_copyFrom : MethodName := ⟨RX3, "copyFrom", "(LCampsiteBooker$Party;)V"⟩
abbrev cX3_isOn : ByteArray := prog_5_method_4_code
def yX3_isOn : MethodName := ⟨RX3, "isOn", "(I)Z"⟩
abbrev cX3_feeAt : ByteArray := prog_5_method_5_code
def yX3_feeAt : MethodName := ⟨RX3, "feeAt", "(I)I"⟩
def RX4 : String := "CampsiteBooker$Pitch"
def TX4 : u_T := fun k => match k with
  | 0 => ("CampsiteBooker$Pitch", "kind", "I", false)
  | 1 => ("CampsiteBooker$Pitch", "length", "I", false)
  | 2 => ("CampsiteBooker$Pitch", "breadth", "I", false)
  | 3 => ("CampsiteBooker$Pitch", "circuit", "I", false)
  | _ => ("CampsiteBooker$Pitch", "rate", "I", false)
def tyX4 : Nat → FieldType := fun k => match k with
  | 0 => .int
  | 1 => .int
  | 2 => .int
  | 3 => .int
  | _ => .int
abbrev wsX40 : List Cond := u_ws RX4 TX4 5
theorem nmX4 : ∀ a, a < 5 → ∀ b, b < 5 → a ≠ b → (TX4 a).2.1 ≠ (TX4 b).2.1 := by decide +kernel
theorem tyX4_ok : ∀ k, k < 5 → parseFieldDescriptor (TX4 k).2.2.1 = some (tyX4 k) := by decide +kernel
abbrev cX4_init : ByteArray := prog_6_method_1_code
def yX4_init : MethodName := ⟨RX4, "<init>", "()V"⟩
abbrev cX4_copyFrom : ByteArray := prog_6_method_2_code
def yX4_copyFrom : MethodName := ⟨RX4, "copyFrom", "(LCampsiteBooker$Pitch;)V"⟩
abbrev cX4_takes : ByteArray := prog_6_method_3_code
def yX4_takes : MethodName := ⟨RX4, "takes", "(LCampsiteBooker$Party;)Z"⟩
def RX5 : String := "CampsiteBooker$Planner"
def TX5 : u_T := fun k => match k with
  | 0 => ("CampsiteBooker$Planner", "camp", "LCampsiteBooker$Camp;", true)
  | 1 => ("CampsiteBooker$Planner", "newcomer", "LCampsiteBooker$Party;", true)
  | 2 => ("CampsiteBooker$Planner", "moveCount", "I", false)
  | 3 => ("CampsiteBooker$Planner", "who", "[LCampsiteBooker$Party;", true)
  | 4 => ("CampsiteBooker$Planner", "number", "[I", true)
  | 5 => ("CampsiteBooker$Planner", "from", "[I", true)
  | 6 => ("CampsiteBooker$Planner", "to", "[I", true)
  | 7 => ("CampsiteBooker$Planner", "oldCircuit", "[I", true)
  | 8 => ("CampsiteBooker$Planner", "newCircuit", "[I", true)
  | 9 => ("CampsiteBooker$Planner", "inTheWay", "[I", true)
  | 10 => ("CampsiteBooker$Planner", "busy", "[J", true)
  | 11 => ("CampsiteBooker$Planner", "planned", "[J", true)
  | 12 => ("CampsiteBooker$Planner", "load", "[I", true)
  | _ => ("CampsiteBooker$Planner", "bySize", "[I", true)
def tyX5 : Nat → FieldType := fun k => match k with
  | 0 => .object "CampsiteBooker$Camp"
  | 1 => .object "CampsiteBooker$Party"
  | 2 => .int
  | 3 => .array (.object "CampsiteBooker$Party")
  | 4 => .array .int
  | 5 => .array .int
  | 6 => .array .int
  | 7 => .array .int
  | 8 => .array .int
  | 9 => .array .int
  | 10 => .array .long
  | 11 => .array .long
  | 12 => .array .int
  | _ => .array .int
abbrev wsX50 : List Cond := u_ws RX5 TX5 14
theorem nmX5 : ∀ a, a < 14 → ∀ b, b < 14 → a ≠ b → (TX5 a).2.1 ≠ (TX5 b).2.1 := by decide +kernel
theorem tyX5_ok : ∀ k, k < 14 → parseFieldDescriptor (TX5 k).2.2.1 = some (tyX5 k) := by decide +kernel
abbrev cX5_init : ByteArray := prog_7_method_1_code
def yX5_init : MethodName := ⟨RX5, "<init>", "()V"⟩
abbrev cX5_findBestPlan : ByteArray := prog_7_method_2_code
def yX5_findBestPlan : MethodName := ⟨RX5, "findBestPlan", "()Z"⟩
abbrev cX5_writeMoves : ByteArray := prog_7_method_3_code
def yX5_writeMoves : MethodName := ⟨RX5, "writeMoves", "([I)I"⟩
abbrev cX5_carryOut : ByteArray := prog_7_method_4_code
def yX5_carryOut : MethodName := ⟨RX5, "carryOut", "()I"⟩
abbrev cX5_survey : ByteArray := prog_7_method_5_code
def yX5_survey : MethodName := ⟨RX5, "survey", "()V"⟩
abbrev cX5_addLoad : ByteArray := prog_7_method_6_code
def yX5_addLoad : MethodName := ⟨RX5, "addLoad", "(ILCampsiteBooker$Party;)V"⟩
abbrev cX5_sortPitches : ByteArray := prog_7_method_7_code
def yX5_sortPitches : MethodName := ⟨RX5, "sortPitches", "()V"⟩
abbrev cX5_chooseGoal : ByteArray := prog_7_method_8_code
def yX5_chooseGoal : MethodName := ⟨RX5, "chooseGoal", "(I)Z"⟩
abbrev cX5_isInTheWay : ByteArray := prog_7_method_9_code
def yX5_isInTheWay : MethodName := ⟨RX5, "isInTheWay", "(LCampsiteBooker$Party;)Z"⟩
abbrev cX5_findMoves : ByteArray := prog_7_method_10_code
def yX5_findMoves : MethodName := ⟨RX5, "findMoves", "()Z"⟩
abbrev cX5_chooseMove : ByteArray := prog_7_method_11_code
def yX5_chooseMove : MethodName := ⟨RX5, "chooseMove", "(III)Z"⟩
abbrev cX5_isRight : ByteArray := prog_7_method_12_code
def yX5_isRight : MethodName := ⟨RX5, "isRight", "()Z"⟩
abbrev cX5_seatAll : ByteArray := prog_7_method_13_code
def yX5_seatAll : MethodName := ⟨RX5, "seatAll", "()Z"⟩
abbrev cX5_hasPower : ByteArray := prog_7_method_14_code
def yX5_hasPower : MethodName := ⟨RX5, "hasPower", "()Z"⟩
abbrev cX5_plannedLoad : ByteArray := prog_7_method_15_code
def yX5_plannedLoad : MethodName := ⟨RX5, "plannedLoad", "(II)I"⟩
abbrev cX5_makesGaps : ByteArray := prog_7_method_16_code
def yX5_makesGaps : MethodName := ⟨RX5, "makesGaps", "()Z"⟩
def RX6 : String := "CampsiteBooker$Season"
def TX6 : u_T := fun k => match k with
  | 0 => ("CampsiteBooker$Season", "first", "I", false)
  | 1 => ("CampsiteBooker$Season", "last", "I", false)
  | _ => ("CampsiteBooker$Season", "stay", "I", false)
def tyX6 : Nat → FieldType := fun k => match k with
  | 0 => .int
  | 1 => .int
  | _ => .int
abbrev wsX60 : List Cond := u_ws RX6 TX6 3
theorem nmX6 : ∀ a, a < 3 → ∀ b, b < 3 → a ≠ b → (TX6 a).2.1 ≠ (TX6 b).2.1 := by decide +kernel
theorem tyX6_ok : ∀ k, k < 3 → parseFieldDescriptor (TX6 k).2.2.1 = some (tyX6 k) := by decide +kernel
abbrev cX6_init : ByteArray := prog_8_method_1_code
def yX6_init : MethodName := ⟨RX6, "<init>", "()V"⟩
abbrev cX6_copyFrom : ByteArray := prog_8_method_2_code
def yX6_copyFrom : MethodName := ⟨RX6, "copyFrom", "(LCampsiteBooker$Season;)V"⟩
def RX7 : String := "CampsiteBooker"
def TX7 : u_T := fun k => match k with
  | 0 => ("CampsiteBooker", "planner", "LCampsiteBooker$Planner;", true)
  | 1 => ("CampsiteBooker", "camp", "LCampsiteBooker$Camp;", true)
  | 2 => ("CampsiteBooker", "snapshot", "LCampsiteBooker$Camp;", true)
  | 3 => ("CampsiteBooker", "hasSnapshot", "Z", false)
  | 4 => ("CampsiteBooker", "history", "LCampsiteBooker$History;", true)
  | 5 => ("CampsiteBooker", "text", "LCampsiteBooker$BookingText;", true)
  | 6 => ("CampsiteBooker", "reason", "I", false)
  | 7 => ("CampsiteBooker", "latestMoveCount", "I", false)
  | _ => ("CampsiteBooker", "latestMoves", "[I", true)
def tyX7 : Nat → FieldType := fun k => match k with
  | 0 => .object "CampsiteBooker$Planner"
  | 1 => .object "CampsiteBooker$Camp"
  | 2 => .object "CampsiteBooker$Camp"
  | 3 => .boolean
  | 4 => .object "CampsiteBooker$History"
  | 5 => .object "CampsiteBooker$BookingText"
  | 6 => .int
  | 7 => .int
  | _ => .array .int
abbrev wsX70 : List Cond := u_ws RX7 TX7 9
theorem nmX7 : ∀ a, a < 9 → ∀ b, b < 9 → a ≠ b → (TX7 a).2.1 ≠ (TX7 b).2.1 := by decide +kernel
theorem tyX7_ok : ∀ k, k < 9 → parseFieldDescriptor (TX7 k).2.2.1 = some (tyX7 k) := by decide +kernel
abbrev cX7_init : ByteArray := prog_1_method_1_code
def yX7_init : MethodName := ⟨RX7, "<init>", "()V"⟩
abbrev cX7_addPitch : ByteArray := prog_1_method_2_code
def yX7_addPitch : MethodName := ⟨RX7, "addPitch", "(IIII)I"⟩
abbrev cX7_pitch : ByteArray := prog_1_method_3_code
def yX7_pitch : MethodName := ⟨RX7, "pitch", "(II)I"⟩
abbrev cX7_setLimit : ByteArray := prog_1_method_4_code
def yX7_setLimit : MethodName := ⟨RX7, "setLimit", "(II)I"⟩
abbrev cX7_setRate : ByteArray := prog_1_method_5_code
def yX7_setRate : MethodName := ⟨RX7, "setRate", "(II)I"⟩
abbrev cX7_setGap : ByteArray := prog_1_method_6_code
def yX7_setGap : MethodName := ⟨RX7, "setGap", "(I)I"⟩
abbrev cX7_addSeason : ByteArray := prog_1_method_7_code
def yX7_addSeason : MethodName := ⟨RX7, "addSeason", "(III)I"⟩
abbrev cX7_dropSeason : ByteArray := prog_1_method_8_code
def yX7_dropSeason : MethodName := ⟨RX7, "dropSeason", "(I)I"⟩
abbrev cX7_season : ByteArray := prog_1_method_9_code
def yX7_season : MethodName := ⟨RX7, "season", "(II)I"⟩
abbrev cX7_leastStay : ByteArray := prog_1_method_10_code
def yX7_leastStay : MethodName := ⟨RX7, "leastStay", "(II)I"⟩
abbrev cX7_book : ByteArray := prog_1_method_11_code
def yX7_book : MethodName := ⟨RX7, "book", "(IIIIII)I"⟩
abbrev cX7_append : ByteArray := prog_1_method_12_code
def yX7_append : MethodName := ⟨RX7, "append", "(C)V"⟩
abbrev cX7_readBooking : ByteArray := prog_1_method_13_code
def yX7_readBooking : MethodName := ⟨RX7, "readBooking", "()I"⟩
abbrev cX7_faultPosition : ByteArray := prog_1_method_14_code
def yX7_faultPosition : MethodName := ⟨RX7, "faultPosition", "()I"⟩
abbrev cX7_refusal : ByteArray := prog_1_method_15_code
def yX7_refusal : MethodName := ⟨RX7, "refusal", "()I"⟩
abbrev cX7_party : ByteArray := prog_1_method_16_code
def yX7_party : MethodName := ⟨RX7, "party", "(II)I"⟩
abbrev cX7_moves : ByteArray := prog_1_method_17_code
def yX7_moves : MethodName := ⟨RX7, "moves", "()I"⟩
abbrev cX7_moveOf : ByteArray := prog_1_method_18_code
def yX7_moveOf : MethodName := ⟨RX7, "moveOf", "(II)I"⟩
abbrev cX7_move : ByteArray := prog_1_method_19_code
def yX7_move : MethodName := ⟨RX7, "move", "(II)I"⟩
abbrev cX7_cancel : ByteArray := prog_1_method_20_code
def yX7_cancel : MethodName := ⟨RX7, "cancel", "(I)I"⟩
abbrev cX7_advance : ByteArray := prog_1_method_21_code
def yX7_advance : MethodName := ⟨RX7, "advance", "(I)I"⟩
abbrev cX7_tonight : ByteArray := prog_1_method_22_code
def yX7_tonight : MethodName := ⟨RX7, "tonight", "()I"⟩
abbrev cX7_obstacle : ByteArray := prog_1_method_23_code
def yX7_obstacle : MethodName := ⟨RX7, "obstacle", "(II)I"⟩
abbrev cX7_occupant : ByteArray := prog_1_method_24_code
def yX7_occupant : MethodName := ⟨RX7, "occupant", "(II)I"⟩
abbrev cX7_busyNight : ByteArray := prog_1_method_25_code
def yX7_busyNight : MethodName := ⟨RX7, "busyNight", "(II)I"⟩
abbrev cX7_firstFree : ByteArray := prog_1_method_26_code
def yX7_firstFree : MethodName := ⟨RX7, "firstFree", "(III)I"⟩
abbrev cX7_power : ByteArray := prog_1_method_27_code
def yX7_power : MethodName := ⟨RX7, "power", "(II)I"⟩
abbrev cX7_peak : ByteArray := prog_1_method_28_code
def yX7_peak : MethodName := ⟨RX7, "peak", "(I)I"⟩
abbrev cX7_gap : ByteArray := prog_1_method_29_code
def yX7_gap : MethodName := ⟨RX7, "gap", "(IIZ)I"⟩
abbrev cX7_account : ByteArray := prog_1_method_30_code
def yX7_account : MethodName := ⟨RX7, "account", "(I)I"⟩
abbrev cX7_share : ByteArray := prog_1_method_31_code
def yX7_share : MethodName := ⟨RX7, "share", "()D"⟩
abbrev cX7_undo : ByteArray := prog_1_method_32_code
def yX7_undo : MethodName := ⟨RX7, "undo", "()I"⟩
abbrev cX7_save : ByteArray := prog_1_method_33_code
def yX7_save : MethodName := ⟨RX7, "save", "()V"⟩
abbrev cX7_restore : ByteArray := prog_1_method_34_code
def yX7_restore : MethodName := ⟨RX7, "restore", "()V"⟩
abbrev cX7_requirePitch : ByteArray := prog_1_method_35_code
def yX7_requirePitch : MethodName := ⟨RX7, "requirePitch", "(I)V"⟩
abbrev cX7_requireParty : ByteArray := prog_1_method_36_code
def yX7_requireParty : MethodName := ⟨RX7, "requireParty", "(I)V"⟩
abbrev cX7_requireSeason : ByteArray := prog_1_method_37_code
def yX7_requireSeason : MethodName := ⟨RX7, "requireSeason", "(I)V"⟩
abbrev cX7_requireCircuit : ByteArray := prog_1_method_38_code
def yX7_requireCircuit : MethodName := ⟨RX7, "requireCircuit", "(I)V"⟩
abbrev cX7_requireNight : ByteArray := prog_1_method_39_code
def yX7_requireNight : MethodName := ⟨RX7, "requireNight", "(I)V"⟩
abbrev cX7_isWithin : ByteArray := prog_1_method_40_code
def yX7_isWithin : MethodName := ⟨RX7, "isWithin", "(III)Z"⟩
abbrev cX7_isNight : ByteArray := prog_1_method_41_code
def yX7_isNight : MethodName := ⟨RX7, "isNight", "(I)Z"⟩
abbrev cX7_isCircuit : ByteArray := prog_1_method_42_code
def yX7_isCircuit : MethodName := ⟨RX7, "isCircuit", "(I)Z"⟩
abbrev cX7_isStay : ByteArray := prog_1_method_43_code
def yX7_isStay : MethodName := ⟨RX7, "isStay", "(II)Z"⟩
abbrev cX7_stayOf : ByteArray := prog_1_method_44_code
def yX7_stayOf : MethodName := ⟨RX7, "stayOf", "(II)J"⟩
abbrev cX7_holds : ByteArray := prog_1_method_45_code
def yX7_holds : MethodName := ⟨RX7, "holds", "(JI)Z"⟩
abbrev cX7_nightAt : ByteArray := prog_1_method_46_code
def yX7_nightAt : MethodName := ⟨RX7, "nightAt", "(JI)I"⟩
abbrev cX7_nextBusy : ByteArray := prog_1_method_47_code
def yX7_nextBusy : MethodName := ⟨RX7, "nextBusy", "(JI)I"⟩
abbrev cX7_freeFrom : ByteArray := prog_1_method_48_code
def yX7_freeFrom : MethodName := ⟨RX7, "freeFrom", "(JII)I"⟩
def RX8 : String := "CampsiteBookerModel"
def TX8 : u_T := fun k => match k with
  | 0 => ("CampsiteBookerModel", "thrown", "I", false)
  | 1 => ("CampsiteBookerModel", "all", "[I", true)
  | 2 => ("CampsiteBookerModel", "changes", "I", false)
  | 3 => ("CampsiteBookerModel", "isSaved", "Z", false)
  | 4 => ("CampsiteBookerModel", "at", "[I", true)
  | 5 => ("CampsiteBookerModel", "firsts", "[I", true)
  | 6 => ("CampsiteBookerModel", "stays", "[I", true)
  | 7 => ("CampsiteBookerModel", "powers", "[I", true)
  | 8 => ("CampsiteBookerModel", "gapFirst", "I", false)
  | 9 => ("CampsiteBookerModel", "gapLast", "I", false)
  | 10 => ("CampsiteBookerModel", "gapsBefore", "I", false)
  | 11 => ("CampsiteBookerModel", "movesPlanned", "I", false)
  | 12 => ("CampsiteBookerModel", "movers", "[I", true)
  | 13 => ("CampsiteBookerModel", "order", "[I", true)
  | 14 => ("CampsiteBookerModel", "reason", "I", false)
  | 15 => ("CampsiteBookerModel", "latestMoves", "I", false)
  | 16 => ("CampsiteBookerModel", "latest", "[I", true)
  | 17 => ("CampsiteBookerModel", "text", "[C", true)
  | 18 => ("CampsiteBookerModel", "texted", "I", false)
  | 19 => ("CampsiteBookerModel", "place", "I", false)
  | 20 => ("CampsiteBookerModel", "fault", "I", false)
  | _ => ("CampsiteBookerModel", "faultAt", "I", false)
def tyX8 : Nat → FieldType := fun k => match k with
  | 0 => .int
  | 1 => .array .int
  | 2 => .int
  | 3 => .boolean
  | 4 => .array .int
  | 5 => .array .int
  | 6 => .array .int
  | 7 => .array .int
  | 8 => .int
  | 9 => .int
  | 10 => .int
  | 11 => .int
  | 12 => .array .int
  | 13 => .array .int
  | 14 => .int
  | 15 => .int
  | 16 => .array .int
  | 17 => .array .char
  | 18 => .int
  | 19 => .int
  | 20 => .int
  | _ => .int
abbrev wsX80 : List Cond := u_ws RX8 TX8 22
theorem nmX8 : ∀ a, a < 22 → ∀ b, b < 22 → a ≠ b → (TX8 a).2.1 ≠ (TX8 b).2.1 := by decide +kernel
theorem tyX8_ok : ∀ k, k < 22 → parseFieldDescriptor (TX8 k).2.2.1 = some (tyX8 k) := by decide +kernel
abbrev cX8_init : ByteArray := prog_10_method_1_code
def yX8_init : MethodName := ⟨RX8, "<init>", "()V"⟩
abbrev cX8_thrown : ByteArray := prog_10_method_2_code
def yX8_thrown : MethodName := ⟨RX8, "thrown", "()I"⟩
abbrev cX8_in : ByteArray := prog_10_method_3_code
def yX8_in : MethodName := ⟨RX8, "in", "(III)Z"⟩
abbrev cX8_copies : ByteArray := prog_10_method_4_code
def yX8_copies : MethodName := ⟨RX8, "copies", "(II)V"⟩
abbrev cX8_keeps : ByteArray := prog_10_method_5_code
def yX8_keeps : MethodName := ⟨RX8, "keeps", "()V"⟩
abbrev cX8_isPitch : ByteArray := prog_10_method_6_code
def yX8_isPitch : MethodName := ⟨RX8, "isPitch", "(I)Z"⟩
abbrev cX8_isParty : ByteArray := prog_10_method_7_code
def yX8_isParty : MethodName := ⟨RX8, "isParty", "(I)Z"⟩
abbrev cX8_isNight : ByteArray := prog_10_method_8_code
def yX8_isNight : MethodName := ⟨RX8, "isNight", "(I)Z"⟩
abbrev cX8_isCircuit : ByteArray := prog_10_method_9_code
def yX8_isCircuit : MethodName := ⟨RX8, "isCircuit", "(I)Z"⟩
abbrev cX8_ofPitch : ByteArray := prog_10_method_10_code
def yX8_ofPitch : MethodName := ⟨RX8, "ofPitch", "(II)I"⟩
abbrev cX8_of : ByteArray := prog_10_method_11_code
def yX8_of : MethodName := ⟨RX8, "of", "(II)I"⟩
abbrev cX8_lays : ByteArray := prog_10_method_12_code
def yX8_lays : MethodName := ⟨RX8, "lays", "(III)V"⟩
abbrev cX8_addPitch : ByteArray := prog_10_method_13_code
def yX8_addPitch : MethodName := ⟨RX8, "addPitch", "(IIII)I"⟩
abbrev cX8_pitch : ByteArray := prog_10_method_14_code
def yX8_pitch : MethodName := ⟨RX8, "pitch", "(II)I"⟩
abbrev cX8_setLimit : ByteArray := prog_10_method_15_code
def yX8_setLimit : MethodName := ⟨RX8, "setLimit", "(II)I"⟩
abbrev cX8_setRate : ByteArray := prog_10_method_16_code
def yX8_setRate : MethodName := ⟨RX8, "setRate", "(II)I"⟩
abbrev cX8_setGap : ByteArray := prog_10_method_17_code
def yX8_setGap : MethodName := ⟨RX8, "setGap", "(I)I"⟩
abbrev cX8_sets : ByteArray := prog_10_method_18_code
def yX8_sets : MethodName := ⟨RX8, "sets", "(II)I"⟩
abbrev cX8_addSeason : ByteArray := prog_10_method_19_code
def yX8_addSeason : MethodName := ⟨RX8, "addSeason", "(III)I"⟩
abbrev cX8_dropSeason : ByteArray := prog_10_method_20_code
def yX8_dropSeason : MethodName := ⟨RX8, "dropSeason", "(I)I"⟩
abbrev cX8_season : ByteArray := prog_10_method_21_code
def yX8_season : MethodName := ⟨RX8, "season", "(II)I"⟩
abbrev cX8_asked : ByteArray := prog_10_method_22_code
def yX8_asked : MethodName := ⟨RX8, "asked", "(II)I"⟩
abbrev cX8_leastStay : ByteArray := prog_10_method_23_code
def yX8_leastStay : MethodName := ⟨RX8, "leastStay", "(II)I"⟩
abbrev cX8_loads : ByteArray := prog_10_method_24_code
def yX8_loads : MethodName := ⟨RX8, "loads", "(I)V"⟩
abbrev cX8_comes : ByteArray := prog_10_method_25_code
def yX8_comes : MethodName := ⟨RX8, "comes", "(III)V"⟩
abbrev cX8_mask : ByteArray := prog_10_method_26_code
def yX8_mask : MethodName := ⟨RX8, "mask", "(II)J"⟩
abbrev cX8_maskOf : ByteArray := prog_10_method_27_code
def yX8_maskOf : MethodName := ⟨RX8, "maskOf", "(I)J"⟩
abbrev cX8_maskOf_ : ByteArray := prog_10_method_28_code
def yX8_maskOf_ : MethodName := ⟨RX8, "maskOf", "(II)J"⟩
abbrev cX8_bits : ByteArray := prog_10_method_29_code
def yX8_bits : MethodName := ⟨RX8, "bits", "(J)I"⟩
abbrev cX8_gaps : ByteArray := prog_10_method_30_code
def yX8_gaps : MethodName := ⟨RX8, "gaps", "(JI)I"⟩
abbrev cX8_gapsOf : ByteArray := prog_10_method_31_code
def yX8_gapsOf : MethodName := ⟨RX8, "gapsOf", "(J)I"⟩
abbrev cX8_gapsOfAll : ByteArray := prog_10_method_32_code
def yX8_gapsOfAll : MethodName := ⟨RX8, "gapsOfAll", "()I"⟩
abbrev cX8_powerAt : ByteArray := prog_10_method_33_code
def yX8_powerAt : MethodName := ⟨RX8, "powerAt", "(II)I"⟩
abbrev cX8_fits : ByteArray := prog_10_method_34_code
def yX8_fits : MethodName := ⟨RX8, "fits", "(IIIII)Z"⟩
abbrev cX8_isAlone : ByteArray := prog_10_method_35_code
def yX8_isAlone : MethodName := ⟨RX8, "isAlone", "(I)Z"⟩
abbrev cX8_hasPower : ByteArray := prog_10_method_36_code
def yX8_hasPower : MethodName := ⟨RX8, "hasPower", "(I)Z"⟩
abbrev cX8_staysLong : ByteArray := prog_10_method_37_code
def yX8_staysLong : MethodName := ⟨RX8, "staysLong", "()Z"⟩
abbrev cX8_obstacleOf : ByteArray := prog_10_method_38_code
def yX8_obstacleOf : MethodName := ⟨RX8, "obstacleOf", "(IIII)I"⟩
abbrev cX8_isRight : ByteArray := prog_10_method_39_code
def yX8_isRight : MethodName := ⟨RX8, "isRight", "()Z"⟩
abbrev cX8_canMove : ByteArray := prog_10_method_40_code
def yX8_canMove : MethodName := ⟨RX8, "canMove", "(I)Z"⟩
abbrev cX8_plans : ByteArray := prog_10_method_41_code
def yX8_plans : MethodName := ⟨RX8, "plans", "(II)Z"⟩
abbrev cX8_fitting : ByteArray := prog_10_method_42_code
def yX8_fitting : MethodName := ⟨RX8, "fitting", "(III)I"⟩
abbrev cX8_finds : ByteArray := prog_10_method_43_code
def yX8_finds : MethodName := ⟨RX8, "finds", "(III)Z"⟩
abbrev cX8_book : ByteArray := prog_10_method_44_code
def yX8_book : MethodName := ⟨RX8, "book", "(IIIIII)I"⟩
abbrev cX8_append : ByteArray := prog_10_method_45_code
def yX8_append : MethodName := ⟨RX8, "append", "(C)V"⟩
abbrev cX8_here : ByteArray := prog_10_method_46_code
def yX8_here : MethodName := ⟨RX8, "here", "()C"⟩
abbrev cX8_isDigit : ByteArray := prog_10_method_47_code
def yX8_isDigit : MethodName := ⟨RX8, "isDigit", "()Z"⟩
abbrev cX8_wants : ByteArray := prog_10_method_48_code
def yX8_wants : MethodName := ⟨RX8, "wants", "(C)V"⟩
abbrev cX8_number : ByteArray := prog_10_method_49_code
def yX8_number : MethodName := ⟨RX8, "number", "()I"⟩
abbrev cX8_readBooking : ByteArray := prog_10_method_50_code
def yX8_readBooking : MethodName := ⟨RX8, "readBooking", "()I"⟩
abbrev cX8_faultPosition : ByteArray := prog_10_method_51_code
def yX8_faultPosition : MethodName := ⟨RX8, "faultPosition", "()I"⟩
abbrev cX8_refusal : ByteArray := prog_10_method_52_code
def yX8_refusal : MethodName := ⟨RX8, "refusal", "()I"⟩
abbrev cX8_party : ByteArray := prog_10_method_53_code
def yX8_party : MethodName := ⟨RX8, "party", "(II)I"⟩
abbrev cX8_moves : ByteArray := prog_10_method_54_code
def yX8_moves : MethodName := ⟨RX8, "moves", "()I"⟩
abbrev cX8_moveOf : ByteArray := prog_10_method_55_code
def yX8_moveOf : MethodName := ⟨RX8, "moveOf", "(II)I"⟩
abbrev cX8_isAhead : ByteArray := prog_10_method_56_code
def yX8_isAhead : MethodName := ⟨RX8, "isAhead", "(I)Z"⟩
abbrev cX8_comesAs : ByteArray := prog_10_method_57_code
def yX8_comesAs : MethodName := ⟨RX8, "comesAs", "(I)V"⟩
abbrev cX8_move : ByteArray := prog_10_method_58_code
def yX8_move : MethodName := ⟨RX8, "move", "(II)I"⟩
abbrev cX8_cancel : ByteArray := prog_10_method_59_code
def yX8_cancel : MethodName := ⟨RX8, "cancel", "(I)I"⟩
abbrev cX8_advance : ByteArray := prog_10_method_60_code
def yX8_advance : MethodName := ⟨RX8, "advance", "(I)I"⟩
abbrev cX8_tonight : ByteArray := prog_10_method_61_code
def yX8_tonight : MethodName := ⟨RX8, "tonight", "()I"⟩
abbrev cX8_obstacle : ByteArray := prog_10_method_62_code
def yX8_obstacle : MethodName := ⟨RX8, "obstacle", "(II)I"⟩
abbrev cX8_occupant : ByteArray := prog_10_method_63_code
def yX8_occupant : MethodName := ⟨RX8, "occupant", "(II)I"⟩
abbrev cX8_busyNight : ByteArray := prog_10_method_64_code
def yX8_busyNight : MethodName := ⟨RX8, "busyNight", "(II)I"⟩
abbrev cX8_firstFree : ByteArray := prog_10_method_65_code
def yX8_firstFree : MethodName := ⟨RX8, "firstFree", "(III)I"⟩
abbrev cX8_power : ByteArray := prog_10_method_66_code
def yX8_power : MethodName := ⟨RX8, "power", "(II)I"⟩
abbrev cX8_peak : ByteArray := prog_10_method_67_code
def yX8_peak : MethodName := ⟨RX8, "peak", "(I)I"⟩
abbrev cX8_gap : ByteArray := prog_10_method_68_code
def yX8_gap : MethodName := ⟨RX8, "gap", "(IIZ)I"⟩
abbrev cX8_sum : ByteArray := prog_10_method_69_code
def yX8_sum : MethodName := ⟨RX8, "sum", "(II)I"⟩
abbrev cX8_busyNights : ByteArray := prog_10_method_70_code
def yX8_busyNights : MethodName := ⟨RX8, "busyNights", "()I"⟩
abbrev cX8_account : ByteArray := prog_10_method_71_code
def yX8_account : MethodName := ⟨RX8, "account", "(I)I"⟩
abbrev cX8_share : ByteArray := prog_10_method_72_code
def yX8_share : MethodName := ⟨RX8, "share", "()D"⟩
abbrev cX8_undo : ByteArray := prog_10_method_73_code
def yX8_undo : MethodName := ⟨RX8, "undo", "()I"⟩
abbrev cX8_save : ByteArray := prog_10_method_74_code
def yX8_save : MethodName := ⟨RX8, "save", "()V"⟩
abbrev cX8_restore : ByteArray := prog_10_method_75_code
def yX8_restore : MethodName := ⟨RX8, "restore", "()V"⟩
def RJx145de : String := "java/io/Serializable"
def TJx145de : u_T := fun k => match k with
  | _ => ("", "", "", false)
def tyJx145de : Nat → FieldType := fun k => match k with
  | _ => .int
abbrev wsJx145de0 : List Cond := u_ws RJx145de TJx145de 0
theorem nmJx145de : ∀ a, a < 0 → ∀ b, b < 0 → a ≠ b → (TJx145de a).2.1 ≠ (TJx145de b).2.1 := by decide +kernel
theorem tyJx145de_ok : ∀ k, k < 0 → parseFieldDescriptor (TJx145de k).2.2.1 = some (tyJx145de k) := by decide +kernel
def RJx00060 : String := "java/lang/ArrayIndexOutOfBoundsException"
def TJx00060 : u_T := fun k => match k with
  | 0 => ("java/lang/Throwable", "backtrace", "Ljava/lang/Object;", false)
  | 1 => ("java/lang/Throwable", "detailMessage", "Ljava/lang/String;", false)
  | 2 => ("java/lang/Throwable", "cause", "Ljava/lang/Throwable;", false)
  | 3 => ("java/lang/Throwable", "stackTrace", "[Ljava/lang/StackTraceElement;", false)
  | 4 => ("java/lang/Throwable", "depth", "I", false)
  | _ => ("java/lang/Throwable", "suppressedExceptions", "Ljava/util/List;", false)
def tyJx00060 : Nat → FieldType := fun k => match k with
  | 0 => .object "java/lang/Object"
  | 1 => .object "java/lang/String"
  | 2 => .object "java/lang/Throwable"
  | 3 => .array (.object "java/lang/StackTraceElement")
  | 4 => .int
  | _ => .object "java/util/List"
abbrev wsJx000600 : List Cond := u_ws RJx00060 TJx00060 6
theorem nmJx00060 : ∀ a, a < 6 → ∀ b, b < 6 → a ≠ b → (TJx00060 a).2.1 ≠ (TJx00060 b).2.1 := by decide +kernel
theorem tyJx00060_ok : ∀ k, k < 6 → parseFieldDescriptor (TJx00060 k).2.2.1 = some (tyJx00060 k) := by decide +kernel
abbrev cJx00060_init_a7421 : ByteArray := prog_13_method_2_code
def yJx00060_init_a7421 : MethodName := ⟨RJx00060, "<init>", "(Ljava/lang/String;)V"⟩
def RJ13 : String := "java/lang/Long"
def TJ13 : u_T := fun k => match k with
  | _ => ("", "", "", false)
def tyJ13 : Nat → FieldType := fun k => match k with
  | _ => .int
abbrev wsJ130 : List Cond := u_ws RJ13 TJ13 0
theorem nmJ13 : ∀ a, a < 0 → ∀ b, b < 0 → a ≠ b → (TJ13 a).2.1 ≠ (TJ13 b).2.1 := by decide +kernel
theorem tyJ13_ok : ∀ k, k < 0 → parseFieldDescriptor (TJ13 k).2.2.1 = some (tyJ13 k) := by decide +kernel
abbrev cJ13_bitCount_95d88 : ByteArray := prog_18_method_50_code
def yJ13_bitCount_95d88 : MethodName := ⟨RJ13, "bitCount", "(J)I"⟩
def RJ9 : String := "java/lang/Math"
def TJ9 : u_T := fun k => match k with
  | _ => ("", "", "", false)
def tyJ9 : Nat → FieldType := fun k => match k with
  | _ => .int
abbrev wsJ90 : List Cond := u_ws RJ9 TJ9 0
theorem nmJ9 : ∀ a, a < 0 → ∀ b, b < 0 → a ≠ b → (TJ9 a).2.1 ≠ (TJ9 b).2.1 := by decide +kernel
theorem tyJ9_ok : ∀ k, k < 0 → parseFieldDescriptor (TJ9 k).2.2.1 = some (tyJ9 k) := by decide +kernel
abbrev cJ9_max_7cf53 : ByteArray := prog_19_method_65_code
def yJ9_max_7cf53 : MethodName := ⟨RJ9, "max", "(II)I"⟩
abbrev cJ9_min_7cf53 : ByteArray := prog_19_method_69_code
def yJ9_min_7cf53 : MethodName := ⟨RJ9, "min", "(II)I"⟩
def RJ0 : String := "java/lang/String"
def TJ0 : u_T := fun k => match k with
  | 0 => ("java/lang/String", "value", "[B", true)
  | _ => ("java/lang/String", "coder", "B", true)
def tyJ0 : Nat → FieldType := fun k => match k with
  | 0 => .array .byte
  | _ => .byte
abbrev wsJ00 : List Cond := u_ws RJ0 TJ0 2
theorem nmJ0 : ∀ a, a < 2 → ∀ b, b < 2 → a ≠ b → (TJ0 a).2.1 ≠ (TJ0 b).2.1 := by decide +kernel
theorem tyJ0_ok : ∀ k, k < 2 → parseFieldDescriptor (TJ0 k).2.2.1 = some (tyJ0 k) := by decide +kernel
def RL : String := "CampsiteBookerLaw"
abbrev cL_addPitch : ByteArray := method_3_code
def yL_addPitch : MethodName := ⟨RL, "addPitch", "(LCampsiteBooker;IIII[J)I"⟩
abbrev cL_pitch : ByteArray := method_4_code
def yL_pitch : MethodName := ⟨RL, "pitch", "(LCampsiteBooker;II[J)I"⟩
abbrev cL_setLimit : ByteArray := method_5_code
def yL_setLimit : MethodName := ⟨RL, "setLimit", "(LCampsiteBooker;II[J)I"⟩
abbrev cL_setRate : ByteArray := method_6_code
def yL_setRate : MethodName := ⟨RL, "setRate", "(LCampsiteBooker;II[J)I"⟩
abbrev cL_setGap : ByteArray := method_7_code
def yL_setGap : MethodName := ⟨RL, "setGap", "(LCampsiteBooker;I[J)I"⟩
abbrev cL_addSeason : ByteArray := method_8_code
def yL_addSeason : MethodName := ⟨RL, "addSeason", "(LCampsiteBooker;III[J)I"⟩
abbrev cL_dropSeason : ByteArray := method_9_code
def yL_dropSeason : MethodName := ⟨RL, "dropSeason", "(LCampsiteBooker;I[J)I"⟩
abbrev cL_season : ByteArray := method_10_code
def yL_season : MethodName := ⟨RL, "season", "(LCampsiteBooker;II[J)I"⟩
abbrev cL_leastStay : ByteArray := method_11_code
def yL_leastStay : MethodName := ⟨RL, "leastStay", "(LCampsiteBooker;II[J)I"⟩
abbrev cL_book : ByteArray := method_12_code
def yL_book : MethodName := ⟨RL, "book", "(LCampsiteBooker;IIIIII[J)I"⟩
abbrev cL_append : ByteArray := method_13_code
def yL_append : MethodName := ⟨RL, "append", "(LCampsiteBooker;C)I"⟩
abbrev cL_readBooking : ByteArray := method_14_code
def yL_readBooking : MethodName := ⟨RL, "readBooking", "(LCampsiteBooker;[J)I"⟩
abbrev cL_refusal : ByteArray := method_15_code
def yL_refusal : MethodName := ⟨RL, "refusal", "(LCampsiteBooker;[J)I"⟩
abbrev cL_party : ByteArray := method_16_code
def yL_party : MethodName := ⟨RL, "party", "(LCampsiteBooker;II[J)I"⟩
abbrev cL_moveOf : ByteArray := method_17_code
def yL_moveOf : MethodName := ⟨RL, "moveOf", "(LCampsiteBooker;II[J)I"⟩
abbrev cL_move : ByteArray := method_18_code
def yL_move : MethodName := ⟨RL, "move", "(LCampsiteBooker;II[J)I"⟩
abbrev cL_cancel : ByteArray := method_19_code
def yL_cancel : MethodName := ⟨RL, "cancel", "(LCampsiteBooker;I[J)I"⟩
abbrev cL_advance : ByteArray := method_20_code
def yL_advance : MethodName := ⟨RL, "advance", "(LCampsiteBooker;I[J)I"⟩
abbrev cL_obstacle : ByteArray := method_21_code
def yL_obstacle : MethodName := ⟨RL, "obstacle", "(LCampsiteBooker;II[J)I"⟩
abbrev cL_occupant : ByteArray := method_22_code
def yL_occupant : MethodName := ⟨RL, "occupant", "(LCampsiteBooker;II[J)I"⟩
abbrev cL_busyNight : ByteArray := method_23_code
def yL_busyNight : MethodName := ⟨RL, "busyNight", "(LCampsiteBooker;II[J)I"⟩
abbrev cL_firstFree : ByteArray := method_24_code
def yL_firstFree : MethodName := ⟨RL, "firstFree", "(LCampsiteBooker;III[J)I"⟩
abbrev cL_power : ByteArray := method_25_code
def yL_power : MethodName := ⟨RL, "power", "(LCampsiteBooker;II[J)I"⟩
abbrev cL_peak : ByteArray := method_26_code
def yL_peak : MethodName := ⟨RL, "peak", "(LCampsiteBooker;I[J)I"⟩
abbrev cL_gap : ByteArray := method_27_code
def yL_gap : MethodName := ⟨RL, "gap", "(LCampsiteBooker;IIZ[J)I"⟩
abbrev cL_account : ByteArray := method_28_code
def yL_account : MethodName := ⟨RL, "account", "(LCampsiteBooker;I[J)I"⟩
abbrev cL_share : ByteArray := method_29_code
def yL_share : MethodName := ⟨RL, "share", "(LCampsiteBooker;[D)I"⟩
abbrev cL_undo : ByteArray := method_30_code
def yL_undo : MethodName := ⟨RL, "undo", "(LCampsiteBooker;[J)I"⟩
abbrev cL_restore : ByteArray := method_31_code
def yL_restore : MethodName := ⟨RL, "restore", "(LCampsiteBooker;)I"⟩
abbrev cL_law : ByteArray := code
def yL_law : MethodName := ⟨RL, "law", "([I)Z"⟩
abbrev vwCl : List vw_C := [(RJ0, TJ0, 2), (RJx00060, TJx00060, 6), (RX0, TX0, 6), (RX1, TX1, 9), (RX2, TX2, 3), (RX3, TX3, 11), (RX4, TX4, 5), (RX5, TX5, 14), (RX6, TX6, 3), (RX7, TX7, 9), (RX8, TX8, 22)]
