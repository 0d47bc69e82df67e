section
-- ===== PART A: goes FIRST, ahead of the names: the tables' words, and 'selects' of the private methods out of them =====
/-- a private method of a class that the tables say can be made, by its rows of tables_1 -/
def lw_okq (q : MethodName × Nat) : Prop := (q.1.cls ≠ "java/lang/invoke/MethodHandle" ∧ q.1.cls ≠ "java/lang/invoke/VarHandle") ∧ Cond.instantiable q.1.cls q.2 ∈ tables_1 ∧ Cond.privateMethod q.1 ∈ tables_1 ∧ Cond.instanceMethod q.1 ∈ tables_1
theorem lw_p0 : lw_okq (⟨"BellTelegraph", "changeBySingle", "()I"⟩, 11) := ⟨⟨by decide +kernel, by decide +kernel⟩, List.mem_of_getElem? (i := 25) (by decide +kernel), List.mem_of_getElem? (i := 376) (by decide +kernel), List.mem_of_getElem? (i := 377) (by decide +kernel)⟩
theorem lw_p1 : lw_okq (⟨"java/lang/Throwable", "fillInStackTrace", "(I)Ljava/lang/Throwable;"⟩, 6) := ⟨⟨by decide +kernel, by decide +kernel⟩, List.mem_of_getElem? (i := 562) (by decide +kernel), List.mem_of_getElem? (i := 560) (by decide +kernel), List.mem_of_getElem? (i := 561) (by decide +kernel)⟩
theorem lw_p2 : lw_okq (⟨"BellTelegraph", "askedConvent", "(I)LBellTelegraph$Convent;"⟩, 11) := ⟨⟨by decide +kernel, by decide +kernel⟩, List.mem_of_getElem? (i := 25) (by decide +kernel), List.mem_of_getElem? (i := 682) (by decide +kernel), List.mem_of_getElem? (i := 683) (by decide +kernel)⟩
theorem lw_p3 : lw_okq (⟨"BellTelegraph", "askedRidge", "(I)LBellTelegraph$Ridge;"⟩, 11) := ⟨⟨by decide +kernel, by decide +kernel⟩, List.mem_of_getElem? (i := 25) (by decide +kernel), List.mem_of_getElem? (i := 726) (by decide +kernel), List.mem_of_getElem? (i := 727) (by decide +kernel)⟩
theorem lw_p4 : lw_okq (⟨"BellTelegraph", "askedMessage", "(I)LBellTelegraph$Message;"⟩, 11) := ⟨⟨by decide +kernel, by decide +kernel⟩, List.mem_of_getElem? (i := 25) (by decide +kernel), List.mem_of_getElem? (i := 745) (by decide +kernel), List.mem_of_getElem? (i := 746) (by decide +kernel)⟩
theorem lw_p5 : lw_okq (⟨"BellTelegraph", "askedNeighbour", "(IZ)I"⟩, 11) := ⟨⟨by decide +kernel, by decide +kernel⟩, List.mem_of_getElem? (i := 25) (by decide +kernel), List.mem_of_getElem? (i := 801) (by decide +kernel), List.mem_of_getElem? (i := 802) (by decide +kernel)⟩
theorem lw_p6 : lw_okq (⟨"BellTelegraph", "hoursUntilArrived", "(LBellTelegraph$Message;I)I"⟩, 11) := ⟨⟨by decide +kernel, by decide +kernel⟩, List.mem_of_getElem? (i := 25) (by decide +kernel), List.mem_of_getElem? (i := 829) (by decide +kernel), List.mem_of_getElem? (i := 830) (by decide +kernel)⟩
theorem lw_p7 : lw_okq (⟨"BellTelegraph", "writeDigit", "(I)V"⟩, 11) := ⟨⟨by decide +kernel, by decide +kernel⟩, List.mem_of_getElem? (i := 25) (by decide +kernel), List.mem_of_getElem? (i := 950) (by decide +kernel), List.mem_of_getElem? (i := 951) (by decide +kernel)⟩
theorem lw_p8 : lw_okq (⟨"BellTelegraph", "write", "(C)V"⟩, 11) := ⟨⟨by decide +kernel, by decide +kernel⟩, List.mem_of_getElem? (i := 25) (by decide +kernel), List.mem_of_getElem? (i := 954) (by decide +kernel), List.mem_of_getElem? (i := 955) (by decide +kernel)⟩
theorem lw_p9 : lw_okq (⟨"BellTelegraphModel", "tries", "()V"⟩, 21) := ⟨⟨by decide +kernel, by decide +kernel⟩, List.mem_of_getElem? (i := 1040) (by decide +kernel), List.mem_of_getElem? (i := 1118) (by decide +kernel), List.mem_of_getElem? (i := 1119) (by decide +kernel)⟩
theorem lw_p10 : lw_okq (⟨"BellTelegraphModel", "refuses", "(II)Z"⟩, 21) := ⟨⟨by decide +kernel, by decide +kernel⟩, List.mem_of_getElem? (i := 1040) (by decide +kernel), List.mem_of_getElem? (i := 1125) (by decide +kernel), List.mem_of_getElem? (i := 1126) (by decide +kernel)⟩
theorem lw_p11 : lw_okq (⟨"BellTelegraphModel", "ends", "(Z)I"⟩, 21) := ⟨⟨by decide +kernel, by decide +kernel⟩, List.mem_of_getElem? (i := 1040) (by decide +kernel), List.mem_of_getElem? (i := 1129) (by decide +kernel), List.mem_of_getElem? (i := 1130) (by decide +kernel)⟩
theorem lw_p12 : lw_okq (⟨"BellTelegraphModel", "keeps", "(I)I"⟩, 21) := ⟨⟨by decide +kernel, by decide +kernel⟩, List.mem_of_getElem? (i := 1040) (by decide +kernel), List.mem_of_getElem? (i := 1133) (by decide +kernel), List.mem_of_getElem? (i := 1134) (by decide +kernel)⟩
theorem lw_p13 : lw_okq (⟨"BellTelegraphModel", "raises", "(I)I"⟩, 21) := ⟨⟨by decide +kernel, by decide +kernel⟩, List.mem_of_getElem? (i := 1040) (by decide +kernel), List.mem_of_getElem? (i := 1137) (by decide +kernel), List.mem_of_getElem? (i := 1138) (by decide +kernel)⟩
theorem lw_p14 : lw_okq (⟨"BellTelegraphModel", "silences", "(III)Z"⟩, 21) := ⟨⟨by decide +kernel, by decide +kernel⟩, List.mem_of_getElem? (i := 1040) (by decide +kernel), List.mem_of_getElem? (i := 1149) (by decide +kernel), List.mem_of_getElem? (i := 1150) (by decide +kernel)⟩
theorem lw_p15 : lw_okq (⟨"BellTelegraphModel", "isConvent", "(I)Z"⟩, 21) := ⟨⟨by decide +kernel, by decide +kernel⟩, List.mem_of_getElem? (i := 1040) (by decide +kernel), List.mem_of_getElem? (i := 1153) (by decide +kernel), List.mem_of_getElem? (i := 1154) (by decide +kernel)⟩
def lw_privs_1 : List (MethodName × Nat) := [(⟨"BellTelegraph", "changeBySingle", "()I"⟩, 11), (⟨"java/lang/Throwable", "fillInStackTrace", "(I)Ljava/lang/Throwable;"⟩, 6), (⟨"BellTelegraph", "askedConvent", "(I)LBellTelegraph$Convent;"⟩, 11), (⟨"BellTelegraph", "askedRidge", "(I)LBellTelegraph$Ridge;"⟩, 11), (⟨"BellTelegraph", "askedMessage", "(I)LBellTelegraph$Message;"⟩, 11), (⟨"BellTelegraph", "askedNeighbour", "(IZ)I"⟩, 11), (⟨"BellTelegraph", "hoursUntilArrived", "(LBellTelegraph$Message;I)I"⟩, 11), (⟨"BellTelegraph", "writeDigit", "(I)V"⟩, 11), (⟨"BellTelegraph", "write", "(C)V"⟩, 11), (⟨"BellTelegraphModel", "tries", "()V"⟩, 21), (⟨"BellTelegraphModel", "refuses", "(II)Z"⟩, 21), (⟨"BellTelegraphModel", "ends", "(Z)I"⟩, 21), (⟨"BellTelegraphModel", "keeps", "(I)I"⟩, 21), (⟨"BellTelegraphModel", "raises", "(I)I"⟩, 21), (⟨"BellTelegraphModel", "silences", "(III)Z"⟩, 21), (⟨"BellTelegraphModel", "isConvent", "(I)Z"⟩, 21)]
theorem lw_r1 : ∀ q ∈ lw_privs_1, lw_okq q := List.forall_mem_cons.mpr ⟨lw_p0, List.forall_mem_cons.mpr ⟨lw_p1, List.forall_mem_cons.mpr ⟨lw_p2, List.forall_mem_cons.mpr ⟨lw_p3, List.forall_mem_cons.mpr ⟨lw_p4, List.forall_mem_cons.mpr ⟨lw_p5, List.forall_mem_cons.mpr ⟨lw_p6, List.forall_mem_cons.mpr ⟨lw_p7, List.forall_mem_cons.mpr ⟨lw_p8, List.forall_mem_cons.mpr ⟨lw_p9, List.forall_mem_cons.mpr ⟨lw_p10, List.forall_mem_cons.mpr ⟨lw_p11, List.forall_mem_cons.mpr ⟨lw_p12, List.forall_mem_cons.mpr ⟨lw_p13, List.forall_mem_cons.mpr ⟨lw_p14, List.forall_mem_cons.mpr ⟨lw_p15, fun _ h => absurd h List.not_mem_nil⟩⟩⟩⟩⟩⟩⟩⟩⟩⟩⟩⟩⟩⟩⟩⟩
theorem lw_p16 : lw_okq (⟨"BellTelegraphModel", "does", "(I)Z"⟩, 21) := ⟨⟨by decide +kernel, by decide +kernel⟩, List.mem_of_getElem? (i := 1040) (by decide +kernel), List.mem_of_getElem? (i := 1157) (by decide +kernel), List.mem_of_getElem? (i := 1158) (by decide +kernel)⟩
theorem lw_p17 : lw_okq (⟨"BellTelegraphModel", "winds", "(II)Z"⟩, 21) := ⟨⟨by decide +kernel, by decide +kernel⟩, List.mem_of_getElem? (i := 1040) (by decide +kernel), List.mem_of_getElem? (i := 1165) (by decide +kernel), List.mem_of_getElem? (i := 1166) (by decide +kernel)⟩
theorem lw_p18 : lw_okq (⟨"BellTelegraphModel", "isRidge", "(I)Z"⟩, 21) := ⟨⟨by decide +kernel, by decide +kernel⟩, List.mem_of_getElem? (i := 1040) (by decide +kernel), List.mem_of_getElem? (i := 1169) (by decide +kernel), List.mem_of_getElem? (i := 1170) (by decide +kernel)⟩
theorem lw_p19 : lw_okq (⟨"BellTelegraphModel", "wind", "(I)I"⟩, 21) := ⟨⟨by decide +kernel, by decide +kernel⟩, List.mem_of_getElem? (i := 1040) (by decide +kernel), List.mem_of_getElem? (i := 1173) (by decide +kernel), List.mem_of_getElem? (i := 1174) (by decide +kernel)⟩
theorem lw_p20 : lw_okq (⟨"BellTelegraphModel", "ears", "(II)Z"⟩, 21) := ⟨⟨by decide +kernel, by decide +kernel⟩, List.mem_of_getElem? (i := 1040) (by decide +kernel), List.mem_of_getElem? (i := 1181) (by decide +kernel), List.mem_of_getElem? (i := 1182) (by decide +kernel)⟩
theorem lw_p21 : lw_okq (⟨"BellTelegraphModel", "ofConvent", "(II)I"⟩, 21) := ⟨⟨by decide +kernel, by decide +kernel⟩, List.mem_of_getElem? (i := 1040) (by decide +kernel), List.mem_of_getElem? (i := 1185) (by decide +kernel), List.mem_of_getElem? (i := 1186) (by decide +kernel)⟩
theorem lw_p22 : lw_okq (⟨"BellTelegraphModel", "sends", "(III)Z"⟩, 21) := ⟨⟨by decide +kernel, by decide +kernel⟩, List.mem_of_getElem? (i := 1040) (by decide +kernel), List.mem_of_getElem? (i := 1193) (by decide +kernel), List.mem_of_getElem? (i := 1194) (by decide +kernel)⟩
theorem lw_p23 : lw_okq (⟨"BellTelegraphModel", "sets", "(III)V"⟩, 21) := ⟨⟨by decide +kernel, by decide +kernel⟩, List.mem_of_getElem? (i := 1040) (by decide +kernel), List.mem_of_getElem? (i := 1198) (by decide +kernel), List.mem_of_getElem? (i := 1199) (by decide +kernel)⟩
theorem lw_p24 : lw_okq (⟨"BellTelegraphModel", "drops", "(I)Z"⟩, 21) := ⟨⟨by decide +kernel, by decide +kernel⟩, List.mem_of_getElem? (i := 1040) (by decide +kernel), List.mem_of_getElem? (i := 1206) (by decide +kernel), List.mem_of_getElem? (i := 1207) (by decide +kernel)⟩
theorem lw_p25 : lw_okq (⟨"BellTelegraphModel", "isMessage", "(I)Z"⟩, 21) := ⟨⟨by decide +kernel, by decide +kernel⟩, List.mem_of_getElem? (i := 1040) (by decide +kernel), List.mem_of_getElem? (i := 1210) (by decide +kernel), List.mem_of_getElem? (i := 1211) (by decide +kernel)⟩
theorem lw_p26 : lw_okq (⟨"BellTelegraphModel", "of", "(II)I"⟩, 21) := ⟨⟨by decide +kernel, by decide +kernel⟩, List.mem_of_getElem? (i := 1040) (by decide +kernel), List.mem_of_getElem? (i := 1214) (by decide +kernel), List.mem_of_getElem? (i := 1215) (by decide +kernel)⟩
theorem lw_p27 : lw_okq (⟨"BellTelegraphModel", "passes", "(I)Z"⟩, 21) := ⟨⟨by decide +kernel, by decide +kernel⟩, List.mem_of_getElem? (i := 1040) (by decide +kernel), List.mem_of_getElem? (i := 1222) (by decide +kernel), List.mem_of_getElem? (i := 1223) (by decide +kernel)⟩
theorem lw_p28 : lw_okq (⟨"BellTelegraphModel", "goes", "()I"⟩, 21) := ⟨⟨by decide +kernel, by decide +kernel⟩, List.mem_of_getElem? (i := 1040) (by decide +kernel), List.mem_of_getElem? (i := 1226) (by decide +kernel), List.mem_of_getElem? (i := 1227) (by decide +kernel)⟩
theorem lw_p29 : lw_okq (⟨"BellTelegraphModel", "isSilent", "(I)Z"⟩, 21) := ⟨⟨by decide +kernel, by decide +kernel⟩, List.mem_of_getElem? (i := 1040) (by decide +kernel), List.mem_of_getElem? (i := 1230) (by decide +kernel), List.mem_of_getElem? (i := 1231) (by decide +kernel)⟩
theorem lw_p30 : lw_okq (⟨"BellTelegraphModel", "waitingAt", "(II)I"⟩, 21) := ⟨⟨by decide +kernel, by decide +kernel⟩, List.mem_of_getElem? (i := 1040) (by decide +kernel), List.mem_of_getElem? (i := 1234) (by decide +kernel), List.mem_of_getElem? (i := 1235) (by decide +kernel)⟩
theorem lw_p31 : lw_okq (⟨"BellTelegraphModel", "waitsAt", "(II)Z"⟩, 21) := ⟨⟨by decide +kernel, by decide +kernel⟩, List.mem_of_getElem? (i := 1040) (by decide +kernel), List.mem_of_getElem? (i := 1238) (by decide +kernel), List.mem_of_getElem? (i := 1239) (by decide +kernel)⟩
def lw_privs_2 : List (MethodName × Nat) := [(⟨"BellTelegraphModel", "does", "(I)Z"⟩, 21), (⟨"BellTelegraphModel", "winds", "(II)Z"⟩, 21), (⟨"BellTelegraphModel", "isRidge", "(I)Z"⟩, 21), (⟨"BellTelegraphModel", "wind", "(I)I"⟩, 21), (⟨"BellTelegraphModel", "ears", "(II)Z"⟩, 21), (⟨"BellTelegraphModel", "ofConvent", "(II)I"⟩, 21), (⟨"BellTelegraphModel", "sends", "(III)Z"⟩, 21), (⟨"BellTelegraphModel", "sets", "(III)V"⟩, 21), (⟨"BellTelegraphModel", "drops", "(I)Z"⟩, 21), (⟨"BellTelegraphModel", "isMessage", "(I)Z"⟩, 21), (⟨"BellTelegraphModel", "of", "(II)I"⟩, 21), (⟨"BellTelegraphModel", "passes", "(I)Z"⟩, 21), (⟨"BellTelegraphModel", "goes", "()I"⟩, 21), (⟨"BellTelegraphModel", "isSilent", "(I)Z"⟩, 21), (⟨"BellTelegraphModel", "waitingAt", "(II)I"⟩, 21), (⟨"BellTelegraphModel", "waitsAt", "(II)Z"⟩, 21)]
theorem lw_r2 : ∀ q ∈ lw_privs_2, lw_okq q := List.forall_mem_cons.mpr ⟨lw_p16, List.forall_mem_cons.mpr ⟨lw_p17, List.forall_mem_cons.mpr ⟨lw_p18, List.forall_mem_cons.mpr ⟨lw_p19, List.forall_mem_cons.mpr ⟨lw_p20, List.forall_mem_cons.mpr ⟨lw_p21, List.forall_mem_cons.mpr ⟨lw_p22, List.forall_mem_cons.mpr ⟨lw_p23, List.forall_mem_cons.mpr ⟨lw_p24, List.forall_mem_cons.mpr ⟨lw_p25, List.forall_mem_cons.mpr ⟨lw_p26, List.forall_mem_cons.mpr ⟨lw_p27, List.forall_mem_cons.mpr ⟨lw_p28, List.forall_mem_cons.mpr ⟨lw_p29, List.forall_mem_cons.mpr ⟨lw_p30, List.forall_mem_cons.mpr ⟨lw_p31, fun _ h => absurd h List.not_mem_nil⟩⟩⟩⟩⟩⟩⟩⟩⟩⟩⟩⟩⟩⟩⟩⟩
theorem lw_p32 : lw_okq (⟨"BellTelegraphModel", "nextOf", "(I)I"⟩, 21) := ⟨⟨by decide +kernel, by decide +kernel⟩, List.mem_of_getElem? (i := 1040) (by decide +kernel), List.mem_of_getElem? (i := 1242) (by decide +kernel), List.mem_of_getElem? (i := 1243) (by decide +kernel)⟩
theorem lw_p33 : lw_okq (⟨"BellTelegraphModel", "rings", "(IZ)V"⟩, 21) := ⟨⟨by decide +kernel, by decide +kernel⟩, List.mem_of_getElem? (i := 1040) (by decide +kernel), List.mem_of_getElem? (i := 1246) (by decide +kernel), List.mem_of_getElem? (i := 1247) (by decide +kernel)⟩
theorem lw_p34 : lw_okq (⟨"BellTelegraphModel", "isHeard", "(II)Z"⟩, 21) := ⟨⟨by decide +kernel, by decide +kernel⟩, List.mem_of_getElem? (i := 1040) (by decide +kernel), List.mem_of_getElem? (i := 1250) (by decide +kernel), List.mem_of_getElem? (i := 1251) (by decide +kernel)⟩
theorem lw_p35 : lw_okq (⟨"BellTelegraphModel", "strengthAt", "(II)I"⟩, 21) := ⟨⟨by decide +kernel, by decide +kernel⟩, List.mem_of_getElem? (i := 1040) (by decide +kernel), List.mem_of_getElem? (i := 1254) (by decide +kernel), List.mem_of_getElem? (i := 1255) (by decide +kernel)⟩
theorem lw_p36 : lw_okq (⟨"BellTelegraphModel", "lostOf", "(I)I"⟩, 21) := ⟨⟨by decide +kernel, by decide +kernel⟩, List.mem_of_getElem? (i := 1040) (by decide +kernel), List.mem_of_getElem? (i := 1280) (by decide +kernel), List.mem_of_getElem? (i := 1281) (by decide +kernel)⟩
theorem lw_p37 : lw_okq (⟨"BellTelegraphModel", "would", "(II)I"⟩, 21) := ⟨⟨by decide +kernel, by decide +kernel⟩, List.mem_of_getElem? (i := 1040) (by decide +kernel), List.mem_of_getElem? (i := 1316) (by decide +kernel), List.mem_of_getElem? (i := 1317) (by decide +kernel)⟩
theorem lw_p38 : lw_okq (⟨"BellTelegraphModel", "thinks", "()V"⟩, 21) := ⟨⟨by decide +kernel, by decide +kernel⟩, List.mem_of_getElem? (i := 1040) (by decide +kernel), List.mem_of_getElem? (i := 1320) (by decide +kernel), List.mem_of_getElem? (i := 1321) (by decide +kernel)⟩
theorem lw_p39 : lw_okq (⟨"BellTelegraphModel", "thinksNoMore", "()V"⟩, 21) := ⟨⟨by decide +kernel, by decide +kernel⟩, List.mem_of_getElem? (i := 1040) (by decide +kernel), List.mem_of_getElem? (i := 1324) (by decide +kernel), List.mem_of_getElem? (i := 1325) (by decide +kernel)⟩
theorem lw_p40 : lw_okq (⟨"BellTelegraphModel", "isAhead", "(II)Z"⟩, 21) := ⟨⟨by decide +kernel, by decide +kernel⟩, List.mem_of_getElem? (i := 1040) (by decide +kernel), List.mem_of_getElem? (i := 1336) (by decide +kernel), List.mem_of_getElem? (i := 1337) (by decide +kernel)⟩
theorem lw_p41 : lw_okq (⟨"BellTelegraphModel", "allLost", "()I"⟩, 21) := ⟨⟨by decide +kernel, by decide +kernel⟩, List.mem_of_getElem? (i := 1040) (by decide +kernel), List.mem_of_getElem? (i := 1348) (by decide +kernel), List.mem_of_getElem? (i := 1349) (by decide +kernel)⟩
theorem lw_p42 : lw_okq (⟨"BellTelegraphModel", "isCommand", "()Z"⟩, 21) := ⟨⟨by decide +kernel, by decide +kernel⟩, List.mem_of_getElem? (i := 1040) (by decide +kernel), List.mem_of_getElem? (i := 1360) (by decide +kernel), List.mem_of_getElem? (i := 1361) (by decide +kernel)⟩
theorem lw_p43 : lw_okq (⟨"BellTelegraphModel", "digit", "(I)Z"⟩, 21) := ⟨⟨by decide +kernel, by decide +kernel⟩, List.mem_of_getElem? (i := 1040) (by decide +kernel), List.mem_of_getElem? (i := 1364) (by decide +kernel), List.mem_of_getElem? (i := 1365) (by decide +kernel)⟩
theorem lw_p44 : lw_okq (⟨"BellTelegraphModel", "digits", "(IICC)Z"⟩, 21) := ⟨⟨by decide +kernel, by decide +kernel⟩, List.mem_of_getElem? (i := 1040) (by decide +kernel), List.mem_of_getElem? (i := 1368) (by decide +kernel), List.mem_of_getElem? (i := 1369) (by decide +kernel)⟩
theorem lw_p45 : lw_okq (⟨"BellTelegraphModel", "isNext", "(C)Z"⟩, 21) := ⟨⟨by decide +kernel, by decide +kernel⟩, List.mem_of_getElem? (i := 1040) (by decide +kernel), List.mem_of_getElem? (i := 1372) (by decide +kernel), List.mem_of_getElem? (i := 1373) (by decide +kernel)⟩
theorem lw_p46 : lw_okq (⟨"BellTelegraphModel", "number", "(I)Z"⟩, 21) := ⟨⟨by decide +kernel, by decide +kernel⟩, List.mem_of_getElem? (i := 1040) (by decide +kernel), List.mem_of_getElem? (i := 1376) (by decide +kernel), List.mem_of_getElem? (i := 1377) (by decide +kernel)⟩
theorem lw_p47 : lw_okq (⟨"BellTelegraphModel", "carries", "()Z"⟩, 21) := ⟨⟨by decide +kernel, by decide +kernel⟩, List.mem_of_getElem? (i := 1040) (by decide +kernel), List.mem_of_getElem? (i := 1380) (by decide +kernel), List.mem_of_getElem? (i := 1381) (by decide +kernel)⟩
def lw_privs_3 : List (MethodName × Nat) := [(⟨"BellTelegraphModel", "nextOf", "(I)I"⟩, 21), (⟨"BellTelegraphModel", "rings", "(IZ)V"⟩, 21), (⟨"BellTelegraphModel", "isHeard", "(II)Z"⟩, 21), (⟨"BellTelegraphModel", "strengthAt", "(II)I"⟩, 21), (⟨"BellTelegraphModel", "lostOf", "(I)I"⟩, 21), (⟨"BellTelegraphModel", "would", "(II)I"⟩, 21), (⟨"BellTelegraphModel", "thinks", "()V"⟩, 21), (⟨"BellTelegraphModel", "thinksNoMore", "()V"⟩, 21), (⟨"BellTelegraphModel", "isAhead", "(II)Z"⟩, 21), (⟨"BellTelegraphModel", "allLost", "()I"⟩, 21), (⟨"BellTelegraphModel", "isCommand", "()Z"⟩, 21), (⟨"BellTelegraphModel", "digit", "(I)Z"⟩, 21), (⟨"BellTelegraphModel", "digits", "(IICC)Z"⟩, 21), (⟨"BellTelegraphModel", "isNext", "(C)Z"⟩, 21), (⟨"BellTelegraphModel", "number", "(I)Z"⟩, 21), (⟨"BellTelegraphModel", "carries", "()Z"⟩, 21)]
theorem lw_r3 : ∀ q ∈ lw_privs_3, lw_okq q := List.forall_mem_cons.mpr ⟨lw_p32, List.forall_mem_cons.mpr ⟨lw_p33, List.forall_mem_cons.mpr ⟨lw_p34, List.forall_mem_cons.mpr ⟨lw_p35, List.forall_mem_cons.mpr ⟨lw_p36, List.forall_mem_cons.mpr ⟨lw_p37, List.forall_mem_cons.mpr ⟨lw_p38, List.forall_mem_cons.mpr ⟨lw_p39, List.forall_mem_cons.mpr ⟨lw_p40, List.forall_mem_cons.mpr ⟨lw_p41, List.forall_mem_cons.mpr ⟨lw_p42, List.forall_mem_cons.mpr ⟨lw_p43, List.forall_mem_cons.mpr ⟨lw_p44, List.forall_mem_cons.mpr ⟨lw_p45, List.forall_mem_cons.mpr ⟨lw_p46, List.forall_mem_cons.mpr ⟨lw_p47, fun _ h => absurd h List.not_mem_nil⟩⟩⟩⟩⟩⟩⟩⟩⟩⟩⟩⟩⟩⟩⟩⟩
theorem lw_p48 : lw_okq (⟨"BellTelegraphModel", "comesBack", "()V"⟩, 21) := ⟨⟨by decide +kernel, by decide +kernel⟩, List.mem_of_getElem? (i := 1040) (by decide +kernel), List.mem_of_getElem? (i := 1384) (by decide +kernel), List.mem_of_getElem? (i := 1385) (by decide +kernel)⟩
theorem lw_p49 : lw_okq (⟨"BellTelegraphModel", "writes", "(C)V"⟩, 21) := ⟨⟨by decide +kernel, by decide +kernel⟩, List.mem_of_getElem? (i := 1040) (by decide +kernel), List.mem_of_getElem? (i := 1400) (by decide +kernel), List.mem_of_getElem? (i := 1401) (by decide +kernel)⟩
theorem lw_p50 : lw_okq (⟨"BellTelegraphModel", "countIn", "(I)I"⟩, 21) := ⟨⟨by decide +kernel, by decide +kernel⟩, List.mem_of_getElem? (i := 1040) (by decide +kernel), List.mem_of_getElem? (i := 1420) (by decide +kernel), List.mem_of_getElem? (i := 1421) (by decide +kernel)⟩
def lw_privs_4 : List (MethodName × Nat) := [(⟨"BellTelegraphModel", "comesBack", "()V"⟩, 21), (⟨"BellTelegraphModel", "writes", "(C)V"⟩, 21), (⟨"BellTelegraphModel", "countIn", "(I)I"⟩, 21)]
theorem lw_r4 : ∀ q ∈ lw_privs_4, lw_okq q := List.forall_mem_cons.mpr ⟨lw_p48, List.forall_mem_cons.mpr ⟨lw_p49, List.forall_mem_cons.mpr ⟨lw_p50, fun _ h => absurd h List.not_mem_nil⟩⟩⟩
def lw_privs : List (MethodName × Nat) := lw_privs_1 ++ (lw_privs_2 ++ (lw_privs_3 ++ (lw_privs_4)))
def lw_tbl : List Cond := k2_sels lw_privs ++ tables_1
theorem lw_privs_ok : ∀ q ∈ lw_privs, lw_okq q := by
  show ∀ q ∈ lw_privs_1 ++ (lw_privs_2 ++ (lw_privs_3 ++ (lw_privs_4))), lw_okq q
  exact List.forall_mem_append.mpr ⟨lw_r1, List.forall_mem_append.mpr ⟨lw_r2, List.forall_mem_append.mpr ⟨lw_r3, lw_r4⟩⟩⟩
/-- the streams that the claim lets the run draw from -/
abbrev lw_cs : List Choice := [Jvm.Choice.named "NaN.bits"]
theorem lw_bits : nanBits ∈ lw_cs := by first | decide | exact List.mem_cons_self | simp [lw_cs, nanBits]
end
section
/-! ===== BEGIN words of one list among another's, by their places ===== -/
theorem goodIn_r {big : List Cond} (ws : List Cond) (ps : List Nat) (hp : ws = ps.filterMap (fun i => big[i]?)) (h : ws.all goodWord = true) : GoodIn big ws := by
  intro w hw
  have h1 := List.all_eq_true.mp h w hw
  rw [hp] at hw
  obtain ⟨i, -, hi⟩ := List.mem_filterMap.mp hw
  have hm : w ∈ big := by first | exact List.mem_of_getElem? hi | exact List.getElem?_mem hi
  exact ⟨hm, good_of_word h1⟩
theorem goodIn_app {big a b : List Cond} (ha : GoodIn big a) (hb : GoodIn big b) : GoodIn big (a ++ b) := fun w h => (List.mem_append.mp h).elim (ha w) (hb w)
theorem goodIn_ca {big a b : List Cond} {c : Cond} (ha : GoodIn big (c :: a)) (hb : GoodIn big b) : GoodIn big (c :: (a ++ b)) := fun w h => (List.mem_cons.mp h).elim (fun e => ha w (List.mem_cons.mpr (Or.inl e))) (fun h => (List.mem_append.mp h).elim (fun h => ha w (List.mem_cons.mpr (Or.inr h))) (hb w))
theorem goodIn_sub {big ws : List Cond} (hm : ∀ w ∈ ws, w ∈ big) (h : ws.all goodWord = true) : GoodIn big ws := fun w hw => ⟨hm w hw, good_of_word (List.all_eq_true.mp h w hw)⟩
/-! ===== END ===== -/

/-! ===== BEGIN exceptions that leave a method, and their catching by the caller (launches without stack traces) ===== -/
section VXA
/-! The laws vx_back, vx_callV, vx_callS, vx_callSW, vx_throw0, vx_throwS follow proofs of the library, with one case more: JvmDerived/Free/Laws.lean (Back.of_free), Shelf42/LK1.lean (callV, callS), Shelf/KitTraced.lean (throwNew0V, throwNewS). -/
/-- where a method has thrown q: the class by its name, the cell, what was written, the world -/
def vx_T (XC : String → State → State → Prop) (st : State) (q : Addr) (t : State) (mc ms : Nat) (free : Addr → Prop) : Prop :=
  ∃ (E : String) (ce : Cell) (L : List Loc), XC E st t ∧ t.heap[q]? = some ce ∧ ce.vm = .none ∧ st.vm.findClass E = some ce.cls ∧ st.WarmedH t.vm ∧ st.sameButNew ({ t with vm := st.vm } : State) L mc ms ∧ ∀ z ∈ L, free z.base
def vx_Q (Qc : Array Value → State → Outcome → State → Prop) (XC : String → State → State → Prop) (mc ms : Nat) (free : Addr → Prop) : Array Value → State → Outcome → State → Prop := fun a st o t =>
  (Qc a st o t ∧ ∃ L, FrameEnd st o t L mc ms ∧ ∀ q ∈ L, free q.base) ∨ ∃ q, o = .threw q ∧ vx_T XC st q t mc ms free
/-- a callee that returns or throws -/
def vx_Met (l : Launch) (y : MethodName) (ws : List Cond) (rm : Room) (Pc : Array Value → State → Prop) (Qc : Array Value → State → Outcome → State → Prop) (XC : String → State → State → Prop) (mc ms : Nat) (free : Addr → Prop) : Prop :=
  MetFree l y (headSpec ws rm) Pc (fun _ _ _ _ _ => True) (vx_Q Qc XC mc ms free)
def vx_Post (XC : String → State → State → Prop) (mc ms : Nat) (free : Addr → Prop) : Pt → Array Value → Addr → Pt → Prop := fun A a q B =>
  ∃ (g : JFrame) (mk : MethodId) (t : State) (L : List Loc) (E : String) (ce : Cell), B.U.heap = t.heap ∧ B.U.vm = t.vm ∧ XC E (A.U.calling g mk a) t ∧ t.heap[q]? = some ce ∧ ce.vm = .none ∧ A.U.vm.findClass E = some ce.cls ∧ B.locs = A.locs ++ L ∧ (∀ z ∈ L, free z.base) ∧ B.cells = A.cells + mc ∧ B.slots = A.slots + ms
def vx_Back (l : Launch) (R : Room) (p : Program) (e : Env) (below : List Frame) (s : State) (sargs : Array Value) (y : MethodName) (len W9 : Nat)
    (Pre : Pt → Array Value → Prop) (Post : Pt → Array Value → Option Value → Pt → Prop) (PostX : Pt → Array Value → Addr → Pt → Prop) : Prop :=
  ∀ (m : MethodId) (meth : Method) (c : Code) (A : Pt) (g : JFrame) (ig : Instr) (mk : MethodId) (a : Array Value),
    Stand p l e R s m sargs below meth c A.U A.locs A.cells A.slots → g.method = m → g.locals.size = c.maxLocals → decode c.code g.pc = .ok (ig, len) →
    2 * g.monitorRoom + (g.stack.map fun v => v.category).sum ≤ W9 → A.U.methodNamed? y = some mk → Pre A a →
    (∃ (v : Option Value) (B : Pt), Stand p l e R s m sargs below meth c B.U B.locs B.cells B.slots ∧ Post A a v B ∧
      Steps p.tables e below (doInvoke e (A.U.setTop g) [] mk a).1 (B.U.setTop { g with pc := g.pc + len, stack := v.toList ++ g.stack })) ∨
    (∃ (q : Addr) (B : Pt), Stand p l e R s m sargs below meth c B.U B.locs B.cells B.slots ∧ PostX A a q B ∧
      Steps p.tables e below (doInvoke e (A.U.setTop g) [] mk a).1 ((B.U.setTop g).pushFrame (.throwing q)))
section Payer
variable {l : Launch} {R : Room} {p : Program} {e : Env} {below : List Frame} {s : State} {sargs : Array Value} {y : MethodName} {len W9 : Nat}
theorem vx_back {ws : List Cond} {rm : Room} {Pc : Array Value → State → Prop} {Qc : Array Value → State → Outcome → State → Prop} {XC : String → State → State → Prop} {mc ms : Nat} {free : Addr → Prop} {bytes : ByteArray} {maxL : Nat} {ret : Option FieldType}
    (hM : vx_Met l y ws rm Pc Qc XC mc ms free) (hblind : FrameBlind Pc) (hrc : rm.cells = mc) (hrs : rm.slots = ms)
    (hframes : rm.frames + 1 ≤ R.frames) (hlocals : W9 + (maxL + 11) + rm.locals ≤ R.locals)
    (hws : ∀ w ∈ ws, ∀ a' U, s.WarmedH U.vm → w.before a' U = true) (hcode : Cond.code y bytes maxL ret ∈ ws) (hinit : ∀ a' U, s.WarmedH U.vm → (Cond.initialized y.cls).before a' U = true) :
    vx_Back l R p e below s sargs y len W9 (PreOf R mc ms Pc) (PostOf Qc mc ms free) (vx_Post XC mc ms free) := by
  intro m meth c A g ig mk a X hg hsize hdg hW hn hp
  have h1 : (headSpec ws rm).pre.before a A.U = true := atoms_intro fun w hw => hws w hw _ _ X.warmed
  have h2 : (Cond.code y bytes maxL ret).before a A.U = true := hws _ hcode _ _ X.warmed
  have h3 : (Cond.initialized y.cls).before a A.U = true := hinit _ _ X.warmed
  have h4 : A.cells + (headSpec ws rm).room.cells ≤ R.cells := by rw [show (headSpec ws rm).room.cells = mc from hrc]; exact hp.1
  have h5 : A.slots + (headSpec ws rm).room.slots ≤ R.slots := by rw [show (headSpec ws rm).room.slots = ms from hrs]; exact hp.2.1
  have hPc : Pc a (A.U.calling g mk a) := hblind _ _ _ _ hp.2.2
  obtain ⟨U, Ls, c0, s0⟩ := A
  dsimp only [Pt.U, Pt.locs, Pt.cells, Pt.slots] at h1 h2 h3 h4 h5 X hn hPc ⊢
  obtain ⟨methY, cY, hmY, hcY, -, hlY, -, -, -, -⟩ := Cond.code_spec hn h2
  obtain ⟨kY, hkY, -⟩ := className_of_methodNamed hn
  have hinitY : kY.init = .initialized := Cond.initialized_spec (findClass_of_methodNamed hn) hkY h3
  have h : At U g.method c below := by rw [hg]; exact X.here
  have hlocals9 : W9 + (maxL + 11) + (headSpec ws rm).room.locals ≤ R.locals := hlocals
  have happ : (headSpec ws rm).appliesLoose y e.platform (U.calling g mk a) = true :=
    Spec.appliesLoose_calling (g := g) h hdg hn hkY hinitY
      (X.room_calling (g := g) (R' := (headSpec ws rm).room) hsize hmY hcY hframes (by rw [hlY]; omega) h4 h5) h1
  obtain ⟨mid, hmid⟩ := h.above
  have hfr : (U.setTop g).frames = (.java g :: mid) ++ below := by rw [State.frames_setTop' g h.top, hmid]; rfl
  obtain ⟨o, s₂, hsteps, -, hend, hq⟩ := Steps.callFree hM p X.admits X.cas X.clock (acts := []) hfr happ hPc trivial
  have hq' : vx_Q Qc XC mc ms free a (U.calling g mk a) o s₂ := hq
  rw [State.frames_setTop' g h.top] at hend
  obtain ⟨g₀, hg0⟩ := Option.isSome_iff_exists.mp h.top
  obtain ⟨r, hr⟩ := State.topJava?_eq_some.mp hg0
  have hr' : (({ U with heap := s₂.heap, slotsUsed := s₂.slotsUsed } : State).setVm s₂.vm).frames = .java g₀ :: r := hr
  rcases hq' with ⟨hqc, L, hfe, hL⟩ | ⟨q, rfl, E, ce, L, hx, hce, hcv, hcl, hW₂, hsm, hL⟩
  · obtain ⟨⟨v, rfl⟩, hW₂, e2, q2, q3, q4, q5, q6⟩ := id hfe
    have e3 : s₂ = ({ (U.calling g mk a).setFrames s₂.frames with heap := s₂.heap, slotsUsed := s₂.slotsUsed } : State).setVm s₂.vm := by
      have : s₂ = ({ s₂ with vm := (U.calling g mk a).vm } : State).setVm s₂.vm := rfl
      rw [e2] at this
      exact this
    obtain ⟨c₂, i₂, len₂, hc₂, hd₂, hf₂⟩ := hend
    have hW' : U.WarmedH s₂.vm := hW₂
    have hcc : c₂ = c := by
      have h1 : s₂.code? g.method = U.code? g.method := by
        rw [State.code?_eq, State.code?_eq, hW'.alike.method?]
      exact Option.some.inj (hc₂.symm.trans (h1.trans h.code))
    subst hcc
    have hlen : len₂ = len := by rw [hdg] at hd₂; cases hd₂; rfl
    subst hlen
    have hs₂ : s₂ = (({ U with heap := s₂.heap, slotsUsed := s₂.slotsUsed } : State).setVm s₂.vm).setTop { g with pc := g.pc + len₂, stack := v.toList ++ g.stack } := by
      refine e3.trans ?_
      rw [hf₂, State.calling_eq h.top, State.setFrames_setFrames, State.setTop_of_frames _ hr', hr]
      rfl
    have hsame : U.sameButNew ({ U with heap := s₂.heap, slotsUsed := s₂.slotsUsed } : State) L mc ms := by
      refine ⟨?_, q2, q3, q4, q5, q6⟩
      obtain ⟨t, ht, -⟩ := State.frames_cons hr
      show ({ U with heap := s₂.heap, slotsUsed := s₂.slotsUsed } : State) = { U.setFrames U.frames with heap := s₂.heap, slotsUsed := s₂.slotsUsed }
      rw [State.setFrames_self ht]
    subst hg
    refine Or.inl ⟨v, ⟨(({ U with heap := s₂.heap, slotsUsed := s₂.slotsUsed } : State).setVm s₂.vm), Ls ++ L, c0 + mc, s0 + ms⟩,
      ⟨X.admits, X.cas, X.clock, X.frames, X.room, X.hears, X.method, X.code, (X.here.setHeapUsed s₂.heap s₂.slotsUsed).setVm hW'.alike, X.tail, State.WarmedH.trans X.warmed hW', X.limits, X.bytes, X.same.trans (hsame.setVm s.vm)⟩,
      ⟨g, mk, s₂, L, rfl, rfl, hqc, rfl, hL, rfl, rfl⟩, ?_⟩
    show Steps p.tables e below _ ((({ U with heap := s₂.heap, slotsUsed := s₂.slotsUsed } : State).setVm s₂.vm).setTop { g with pc := g.pc + len₂, stack := v.toList ++ g.stack })
    rw [← hs₂]
    exact hsteps
  · obtain ⟨e2, q2, q3, q4, q5, q6⟩ := id hsm
    have e3 : s₂ = ({ (U.calling g mk a).setFrames s₂.frames with heap := s₂.heap, slotsUsed := s₂.slotsUsed } : State).setVm s₂.vm := by
      have : s₂ = ({ s₂ with vm := (U.calling g mk a).vm } : State).setVm s₂.vm := rfl
      rw [e2] at this
      exact this
    have hf₂ : s₂.frames = .throwing q :: .java g :: U.frames.tail := hend
    have hW' : U.WarmedH s₂.vm := hW₂
    have hs₂ : s₂ = ((({ U with heap := s₂.heap, slotsUsed := s₂.slotsUsed } : State).setVm s₂.vm).setTop g).pushFrame (.throwing q) := by
      refine e3.trans ?_
      rw [hf₂, State.calling_eq h.top, State.setFrames_setFrames, State.pushFrame, State.frames_setTop _ hr', State.setTop_of_frames _ hr', State.setFrames_setFrames, hr]
      rfl
    have hsame : U.sameButNew ({ U with heap := s₂.heap, slotsUsed := s₂.slotsUsed } : State) L mc ms := by
      refine ⟨?_, q2, q3, q4, q5, q6⟩
      obtain ⟨t, ht, -⟩ := State.frames_cons hr
      show ({ U with heap := s₂.heap, slotsUsed := s₂.slotsUsed } : State) = { U.setFrames U.frames with heap := s₂.heap, slotsUsed := s₂.slotsUsed }
      rw [State.setFrames_self ht]
    subst hg
    refine Or.inr ⟨q, ⟨(({ U with heap := s₂.heap, slotsUsed := s₂.slotsUsed } : State).setVm s₂.vm), Ls ++ L, c0 + mc, s0 + ms⟩,
      ⟨X.admits, X.cas, X.clock, X.frames, X.room, X.hears, X.method, X.code, (X.here.setHeapUsed s₂.heap s₂.slotsUsed).setVm hW'.alike, X.tail, State.WarmedH.trans X.warmed hW', X.limits, X.bytes, X.same.trans (hsame.setVm s.vm)⟩,
      ⟨g, mk, s₂, L, E, ce, rfl, rfl, hx, hce, hcv, hcl, rfl, hL, rfl, rfl⟩, ?_⟩
    show Steps p.tables e below _ (((({ U with heap := s₂.heap, slotsUsed := s₂.slotsUsed } : State).setVm s₂.vm).setTop g).pushFrame (.throwing q))
    rw [← hs₂]
    exact hsteps
end Payer
section Calls
variable {p : Program} {l : Launch} {e : Env} {R : Room} {s : State} {m : MethodId} {args : Array Value} {below : List Frame} {meth : Method} {c : Code} {T : State} {locs : List Loc} {cells slots : Nat}
theorem vx_callV (X : Stand p l e R s m args below meth c T locs cells slots) (hexec : p.tables.exec = Jvm.exec) {own C : String} {index : Nat} {y : MethodName} {bytes : ByteArray} {maxL : Nat} {ret : Option FieldType}
    (hown : s.vm.findClass own = some m.cls) (hlink : (Cond.methodLink own index y).before args s = true) (hinst : (Cond.instanceMethod y).before args s = true) (hsel : (Cond.selects C y y).before args s = true)
    (hcode : (Cond.code y bytes maxL ret).before args s = true) (hy : y.cls ≠ "java/lang/invoke/MethodHandle" ∧ y.cls ≠ "java/lang/invoke/VarHandle")
    {W9 : Nat} {Pre : Pt → Array Value → Prop} {Post : Pt → Array Value → Option Value → Pt → Prop} {PostX : Pt → Array Value → Addr → Pt → Prop} (hK : vx_Back l R p e below s args y 3 W9 Pre Post PostX)
    {b : Addr} {cellB : Cell} (hcell : T.heap[b]? = some cellB) (hobj : cellB.vm.isStatics = false) (hcls : s.vm.findClass C = some cellB.cls)
    {g : JFrame} (hg : g.method = m) (hsize : g.locals.size = c.maxLocals) {argsL rest : List Value} (hlen : ∀ sig, parseMethodDescriptor y.desc = some sig → argsL.length = sig.parameters.length)
    (hstack : g.stack = argsL.reverse ++ .ref b :: rest) (hW : 2 * g.monitorRoom + (rest.map fun v => v.category).sum ≤ W9) (hdg : decode c.code g.pc = .ok (.invokevirtual index, 3))
    (hpre : ∀ vm₁, s.WarmedH vm₁ → Pre ⟨T.setVm vm₁, locs, cells, slots⟩ (Value.ref b :: argsL).toArray) :
    (∃ (v : Option Value) (vm₁ : Vm) (B : Pt), s.WarmedH vm₁ ∧ Stand p l e R s m args below meth c B.U B.locs B.cells B.slots ∧ Post ⟨T.setVm vm₁, locs, cells, slots⟩ (Value.ref b :: argsL).toArray v B ∧
      ∀ target, Steps p.tables e below (B.U.setTop { g with pc := g.pc + 3, stack := v.toList ++ rest }) target → Steps p.tables e below (T.setTop g) target) ∨
    (∃ (q : Addr) (vm₁ : Vm) (B : Pt), s.WarmedH vm₁ ∧ Stand p l e R s m args below meth c B.U B.locs B.cells B.slots ∧ PostX ⟨T.setVm vm₁, locs, cells, slots⟩ (Value.ref b :: argsL).toArray q B ∧
      Steps p.tables e below (T.setTop g) ((B.U.setTop { g with stack := rest }).pushFrame (.throwing q))) := by
  obtain ⟨mk, methM, hnamed, hmethM, hstM, habM⟩ := Cond.instanceMethod_spec hinst
  obtain ⟨methM', cM, hmethM', -, -, -, -, -, -, hsigM⟩ := Cond.code_spec hnamed hcode
  cases hmethM.symm.trans hmethM'
  obtain ⟨c2, r2, m2, q1, q2, q3, q4, kP, hkP, hkPi⟩ := Cond.selects_spec hsel
  cases hcls.symm.trans q1
  cases (State.methodFound?_of_named hnamed hy).symm.trans q2
  cases hnamed.symm.trans q3
  have hselP : selectMethod e.platform s.vm cellB.cls mk = .method mk := by rw [Launch.admits_selectMethod X.admits]; exact q4
  obtain ⟨vm₁, X₁, hstep₁⟩ := X.invokevirtual hexec hown hlink hnamed hmethM hstM hkP hkPi hy (a := b) (cell := cellB) hcell
    (fun z h => by rw [h] at hobj; cases hobj) hselP hmethM habM hkP hkPi (g := g) hg (argsL := argsL) (rest := rest) (hlen _ hsigM) hstack hdg
  rcases hK m meth c ⟨T.setVm vm₁, locs, cells, slots⟩ { g with stack := rest } (.invokevirtual index) mk (Value.ref b :: argsL).toArray X₁ hg hsize hdg hW (X₁.named hnamed) (hpre vm₁ X₁.warmed) with ⟨v, B, X', hpost, hsteps⟩ | ⟨q, B, X', hpost, hsteps⟩
  · exact Or.inl ⟨v, vm₁, B, X₁.warmed, X', hpost, fun target h => hstep₁ _ fun acts => by rw [doInvoke_state]; exact hsteps.trans h⟩
  · exact Or.inr ⟨q, vm₁, B, X₁.warmed, X', hpost, hstep₁ _ fun acts => by rw [doInvoke_state]; exact hsteps⟩
theorem vx_callS (X : Stand p l e R s m args below meth c T locs cells slots) (hexec : p.tables.exec = Jvm.exec) {own : String} {index : Nat} {y : MethodName} {bytes : ByteArray} {maxL : Nat} {ret : Option FieldType}
    (hown : s.vm.findClass own = some m.cls) (hlink : (Cond.methodLink own index y).before args s = true) (hstat : (Cond.static y).before args s = true) (hinit : (Cond.initialized y.cls).before args s = true)
    (hcode : (Cond.code y bytes maxL ret).before args s = true) (hy : y.cls ≠ "java/lang/invoke/MethodHandle" ∧ y.cls ≠ "java/lang/invoke/VarHandle")
    {W9 : Nat} {Pre : Pt → Array Value → Prop} {Post : Pt → Array Value → Option Value → Pt → Prop} {PostX : Pt → Array Value → Addr → Pt → Prop} (hK : vx_Back l R p e below s args y 3 W9 Pre Post PostX)
    {g : JFrame} (hg : g.method = m) (hsize : g.locals.size = c.maxLocals) {argsL rest : List Value} (hlen : ∀ sig, parseMethodDescriptor y.desc = some sig → argsL.length = sig.parameters.length)
    (hstack : g.stack = argsL.reverse ++ rest) (hW : 2 * g.monitorRoom + (rest.map fun v => v.category).sum ≤ W9) (hdg : decode c.code g.pc = .ok (.invokestatic index, 3))
    (hpre : ∀ vm₁, s.WarmedH vm₁ → Pre ⟨T.setVm vm₁, locs, cells, slots⟩ argsL.toArray) :
    (∃ (v : Option Value) (vm₁ : Vm) (B : Pt), s.WarmedH vm₁ ∧ Stand p l e R s m args below meth c B.U B.locs B.cells B.slots ∧ Post ⟨T.setVm vm₁, locs, cells, slots⟩ argsL.toArray v B ∧
      ∀ target, Steps p.tables e below (B.U.setTop { g with pc := g.pc + 3, stack := v.toList ++ rest }) target → Steps p.tables e below (T.setTop g) target) ∨
    (∃ (q : Addr) (vm₁ : Vm) (B : Pt), s.WarmedH vm₁ ∧ Stand p l e R s m args below meth c B.U B.locs B.cells B.slots ∧ PostX ⟨T.setVm vm₁, locs, cells, slots⟩ argsL.toArray q B ∧
      Steps p.tables e below (T.setTop g) ((B.U.setTop { g with stack := rest }).pushFrame (.throwing q))) := by
  obtain ⟨mk, hnamed⟩ := Cond.code_named hcode
  obtain ⟨methM, cM, hmethM, -, -, -, -, -, -, hsigM⟩ := Cond.code_spec hnamed hcode
  have hstatic : methM.isStatic = true := Cond.static_spec hnamed hmethM hstat
  obtain ⟨kP, hkP, -⟩ := className_of_methodNamed hnamed
  have hinitP : kP.init = .initialized := Cond.initialized_spec (findClass_of_methodNamed hnamed) hkP hinit
  obtain ⟨vm₁, X₁, hstep₁⟩ := X.invokestatic hexec hown hlink hnamed hmethM hstatic hkP hinitP hy (g := g) hg (argsL := argsL) (rest := rest) (hlen _ hsigM) hstack hdg
  rcases hK m meth c ⟨T.setVm vm₁, locs, cells, slots⟩ { g with stack := rest } (.invokestatic index) mk argsL.toArray X₁ hg hsize hdg hW (X₁.named hnamed) (hpre vm₁ X₁.warmed) with ⟨v, B, X', hpost, hsteps⟩ | ⟨q, B, X', hpost, hsteps⟩
  · exact Or.inl ⟨v, vm₁, B, X₁.warmed, X', hpost, fun target h => hstep₁ _ fun acts => by rw [doInvoke_state]; exact hsteps.trans h⟩
  · exact Or.inr ⟨q, vm₁, B, X₁.warmed, X', hpost, hstep₁ _ fun acts => by rw [doInvoke_state]; exact hsteps⟩
end Calls
theorem vx_cls {s : State} {T : State} {vm₁ : Vm} {E : String} {k : ClassId} (hW : s.WarmedH vm₁) (h : (T.setVm vm₁).vm.findClass E = some k) : s.vm.findClass E = some k := by
  have h1 : vm₁.findClass E = some k := h
  rw [hW.alike.findClass] at h1
  exact h1
/-- the method's frame g, with q thrown over it -/
def vx_W (p : Program) (l : Launch) (e : Env) (R : Room) (s : State) (m : MethodId) (args : Array Value) (below : List Frame) (meth : Method) (c : Code) (H : Heap) (locs : List Loc) (cells slots : Nat) (Q : State → Prop) (g : JFrame) (q : Addr) : Prop :=
  ∀ T : State, T.heap = H → Stand p l e R s m args below meth c T locs cells slots → ∃ t, Steps p.tables e below ((T.setTop g).pushFrame (.throwing q)) t ∧ Q t
def vx_Run (p : Program) (l : Launch) (e : Env) (R : Room) (s : State) (m : MethodId) (args : Array Value) (below : List Frame) (meth : Method) (c : Code) (H : Heap) (locs : List Loc) (cells slots mc ms : Nat) (g : JFrame) (rest : List Value) (Qa : State → Outcome → State → Prop) (XC : String → State → State → Prop) (free : Addr → Prop) : Prop :=
  ∀ T : State, T.heap = H → Stand p l e R s m args below meth c T locs cells slots →
    (∃ (v : Option Value) (st₀ t T' : State) (L : List Loc), st₀.heap = H ∧ Stand p l e R s m args below meth c T' (locs ++ L) (cells + mc) (slots + ms) ∧ (∀ q ∈ L, free q.base) ∧ T'.heap = t.heap ∧ T'.vm = t.vm ∧ Qa st₀ (.returned v) t ∧
      Goes p e below T g T' { g with pc := g.pc + 3, stack := v.toList ++ rest }) ∨
    (∃ (q : Addr) (st₀ t T' : State) (L : List Loc) (E : String) (ce : Cell), st₀.heap = H ∧ Stand p l e R s m args below meth c T' (locs ++ L) (cells + mc) (slots + ms) ∧ (∀ z ∈ L, free z.base) ∧ T'.heap = t.heap ∧ T'.vm = t.vm ∧ XC E st₀ t ∧ t.heap[q]? = some ce ∧ ce.vm = .none ∧ s.vm.findClass E = some ce.cls ∧
      Steps p.tables e below (T.setTop g) ((T'.setTop { g with stack := rest }).pushFrame (.throwing q)))
def vx_X {S : Type} (px : S → Prop) (B : String → S → State → Prop) (A : Nat → Prop) : String → State → State → Prop := fun E st t => ∃ u : S, px u ∧ B E u t ∧ va_F A st t
section Runs
variable {p : Program} {l : Launch} {e : Env} {R : Room} {s : State} {m : MethodId} {args : Array Value} {below : List Frame} {meth : Method} {c : Code} {H : Heap} {locs : List Loc} {cells slots : Nat}
variable {y : MethodName} {bytes cc : ByteArray} {maxL nL mc ms n index : Nat} {ret : Option FieldType} {ws : List Cond} {rm : Room} {Pc : Array Value → State → Prop} {Qc : Array Value → State → Outcome → State → Prop} {XC : String → State → State → Prop} {free : Addr → Prop} {Ts : List Cond} {own C : String} {b : Addr} {As rest : List Value} {g : JFrame}
theorem vx_callBack (cb : CallB R s args own index y bytes maxL ret ws rm mc ms n) (hM : vx_Met l y ws rm Pc Qc XC mc ms free) (hbl : FrameBlind Pc) : vx_Back l R p e below s args y 3 8 (PreOf R mc ms Pc) (PostOf Qc mc ms free) (vx_Post XC mc ms free) := by
  obtain ⟨hrc, hrs, hfr, hlo, hws, hcw, -, hini, -⟩ := cb
  exact vx_back (bytes := bytes) (maxL := maxL) (ret := ret) hM hbl hrc hrs hfr hlo hws hcw (fun a' U hW => word_at hW (Or.inl (by first | rfl | simp [Cond.onTables, Cond.keeps, Cond.steady])) hini)
theorem vx_runV (S : CallFix p m c cc nL s args Ts own) (hM : vx_Met l y ws rm Pc Qc XC mc ms free) (cw : CallW R s args own C index y bytes maxL ret ws rm mc ms n) (hp : PreV s H C b Pc As)
    (hg : g.method = m) (hn : As.length = n) (hsize : g.locals.size = nL) (hstack : g.stack = As.reverse ++ .ref b :: rest) (hW : 2 * g.monitorRoom + (rest.map fun v => v.category).sum ≤ 8) (hdg : decode cc g.pc = .ok (.invokevirtual index, 3)) (hf : cells + mc ≤ R.cells ∧ slots + ms ≤ R.slots) :
    vx_Run p l e R s m args below meth c H locs cells slots mc ms g rest (Qc (Value.ref b :: As).toArray) XC free := by
  have hK : vx_Back l R p e below s args y 3 8 (PreOf R mc ms Pc) (PostOf Qc mc ms free) (vx_Post XC mc ms free) := vx_callBack cw.1 hM hp.1
  obtain ⟨⟨-, -, -, -, -, -, hcode, -, hy, hlen, hl⟩, hin, hse⟩ := cw
  obtain ⟨hx, hb, hml, ho, -⟩ := S
  obtain ⟨-, ⟨cellB, hcB, hoB, hclB⟩, hPc⟩ := hp
  intro T hT X
  rcases vx_callV X hx (C := C) (bytes := bytes) (maxL := maxL) (ret := ret) ho hl hin hse hcode hy hK (by rw [hT]; exact hcB) hoB hclB hg (hsize.trans hml.symm) (argsL := As) (rest := rest) (fun sig h => hn.trans (hlen sig h)) hstack hW (by rw [hb]; exact hdg)
    (fun vm₁ hW₁ => ⟨hf.1, hf.2, hPc (T.setVm vm₁) hT hW₁⟩) with ⟨v, vm₁, ⟨U', l2, c2, s2⟩, hW₁, X', ⟨g', mk, t, L, e1, e2, hq, h1, hL, h2, h3⟩, st⟩ | ⟨q, vm₁, ⟨U', l2, c2, s2⟩, hW₁, X', ⟨g', mk, t, L, E, ce, e1, e2, hq, hce, hcv, hcl, h1, hL, h2, h3⟩, st⟩
  · dsimp only [Pt.U, Pt.locs, Pt.cells, Pt.slots] at X' e1 e2 h1 h2 h3 st
    subst h1; subst h2; subst h3
    exact Or.inl ⟨v, (T.setVm vm₁).calling g' mk (Value.ref b :: As).toArray, t, U', L, hT, X', hL, e1, e2, hq, st⟩
  · dsimp only [Pt.U, Pt.locs, Pt.cells, Pt.slots] at X' e1 e2 h1 h2 h3 st hcl
    subst h1; subst h2; subst h3
    exact Or.inr ⟨q, (T.setVm vm₁).calling g' mk (Value.ref b :: As).toArray, t, U', L, E, ce, hT, X', hL, e1, e2, hq, hce, hcv, vx_cls hW₁ hcl, st⟩
theorem vx_runS (S : CallFix p m c cc nL s args Ts own) (hM : vx_Met l y ws rm Pc Qc XC mc ms free) (cw : CallB R s args own index y bytes maxL ret ws rm mc ms n ∧ (Cond.static y).before args s = true) (hp : PreS s H Pc As)
    (hg : g.method = m) (hn : As.length = n) (hsize : g.locals.size = nL) (hstack : g.stack = As.reverse ++ rest) (hW : 2 * g.monitorRoom + (rest.map fun v => v.category).sum ≤ 8) (hdg : decode cc g.pc = .ok (.invokestatic index, 3)) (hf : cells + mc ≤ R.cells ∧ slots + ms ≤ R.slots) :
    vx_Run p l e R s m args below meth c H locs cells slots mc ms g rest (Qc As.toArray) XC free := by
  have hK : vx_Back l R p e below s args y 3 8 (PreOf R mc ms Pc) (PostOf Qc mc ms free) (vx_Post XC mc ms free) := vx_callBack cw.1 hM hp.1
  obtain ⟨⟨-, -, -, -, -, -, hcode, hini, hy, hlen, hl⟩, hstt⟩ := cw
  obtain ⟨hx, hb, hml, ho, -⟩ := S
  intro T hT X
  rcases vx_callS X hx (bytes := bytes) (maxL := maxL) (ret := ret) ho hl hstt hini hcode hy hK hg (hsize.trans hml.symm) (argsL := As) (rest := rest) (fun sig h => hn.trans (hlen sig h)) hstack hW (by rw [hb]; exact hdg)
    (fun vm₁ hW₁ => ⟨hf.1, hf.2, hp.2 (T.setVm vm₁) hT hW₁⟩) with ⟨v, vm₁, ⟨U', l2, c2, s2⟩, hW₁, X', ⟨g', mk, t, L, e1, e2, hq, h1, hL, h2, h3⟩, st⟩ | ⟨q, vm₁, ⟨U', l2, c2, s2⟩, hW₁, X', ⟨g', mk, t, L, E, ce, e1, e2, hq, hce, hcv, hcl, h1, hL, h2, h3⟩, st⟩
  · dsimp only [Pt.U, Pt.locs, Pt.cells, Pt.slots] at X' e1 e2 h1 h2 h3 st
    subst h1; subst h2; subst h3
    exact Or.inl ⟨v, (T.setVm vm₁).calling g' mk As.toArray, t, U', L, hT, X', hL, e1, e2, hq, st⟩
  · dsimp only [Pt.U, Pt.locs, Pt.cells, Pt.slots] at X' e1 e2 h1 h2 h3 st hcl
    subst h1; subst h2; subst h3
    exact Or.inr ⟨q, (T.setVm vm₁).calling g' mk As.toArray, t, U', L, E, ce, hT, X', hL, e1, e2, hq, hce, hcv, vx_cls hW₁ hcl, st⟩
end Runs
section Rows
variable {p : Program} {l : Launch} {e : Env} {R : Room} {s : State} {m : MethodId} {args : Array Value} {below : List Frame} {meth : Method} {c : Code} {H : Heap} {locs : List Loc} {cells slots : Nat} {Q : State → Prop}
variable {mc ms : Nat} {free : Addr → Prop} {A0 A1 : Nat → Prop} {H0 : Heap} {a : Array Value} {pc : Nat} {ls : Array Slot} {st0 rest : List Value}
theorem vx_keep {st₀ t T' : State} {L : List Loc} (h0 : st₀.heap = H) (e1 : T'.heap = t.heap) (hS : va_S A0 H0 H locs) (hA : ∀ q, q < H.size → A1 q → A0 q) (hf : ∀ q, free q → A0 q) (hL : ∀ q ∈ L, free q.base) (hF : va_F A1 st₀ t) :
    H.size ≤ T'.heap.size ∧ (∀ q : Nat, q < H.size → ¬ A1 q → T'.heap[q]? = H[q]?) ∧ va_S A0 H0 T'.heap (locs ++ L) := by
  obtain ⟨hz, hk⟩ := hF
  rw [h0] at hz hk
  exact ⟨by rw [e1]; exact hz, fun q h1 h2 => by rw [e1]; exact hk q h1 h2,
    ⟨Nat.le_trans hS.1 (by rw [e1]; exact hz), fun q h1 h2 => by rw [e1, hk q (Nat.lt_of_lt_of_le h1 hS.1) (fun z => h2 (hA q (Nat.lt_of_lt_of_le h1 hS.1) z))]; exact hS.2.1 q h1 h2, fun q hq => by
      rcases List.mem_append.mp hq with h | h
      · exact hS.2.2 q h
      · exact hf _ (hL q h)⟩⟩
theorem vx_calli {S SX : Type} {post : Int32 → S → Prop} {px : SX → Prop} {B : S → State → Prop} {BX : String → SX → State → Prop} {AX : Nat → Prop} (hr : vx_Run p l e R s m args below meth c H locs cells slots mc ms (F0 m pc ls st0) rest (va_Qi post B A1 a) (vx_X px BX AX) free) (hS : va_S A0 H0 H locs) (hA : ∀ q, q < H.size → A1 q → A0 q) (hf : ∀ q, free q → A0 q) (hAX : ∀ q, q < H.size → AX q → A0 q)
    (kx : ∀ (E : String) (ce : Cell) (q9 : Addr) (u : SX) (t : State) (H1 : Heap) (locs1 : List Loc), t.heap = H1 → s.vm.Alike t.vm → px u → BX E u t → H.size ≤ H1.size → (∀ q : Nat, q < H.size → ¬ AX q → H1[q]? = H[q]?) → va_S A0 H0 H1 locs1 → H1[q9]? = some ce → ce.vm = .none → s.vm.findClass E = some ce.cls → vx_W p l e R s m args below meth c H1 locs1 (cells + mc) (slots + ms) Q (F0 m pc ls rest) q9)
    (kk : ∀ (r : Int32) (u : S) (t : State) (H1 : Heap) (locs1 : List Loc), t.heap = H1 → s.vm.Alike t.vm → post r u → B u t → H.size ≤ H1.size → (∀ q : Nat, q < H.size → ¬ A1 q → H1[q]? = H[q]?) → va_S A0 H0 H1 locs1 → W p l e R s m args below meth c H1 locs1 (cells + mc) (slots + ms) Q (F0 m (pc + 3) ls (.int r :: rest))) : W p l e R s m args below meth c H locs cells slots Q (F0 m pc ls st0) := by
  intro T hT X
  rcases hr T hT X with ⟨v, st₀, t, T', L, h0, X', hL, e1, e2, ⟨⟨r, u, hv, hp, hb⟩, hF⟩, st⟩ | ⟨q, st₀, t, T', L, E, ce, h0, X', hL, e1, e2, ⟨u, hp, hb, hF⟩, hce, hcv, hcl, st⟩
  · cases hv
    obtain ⟨k1, k2, k3⟩ := vx_keep h0 e1 hS hA hf hL hF
    obtain ⟨t2, a1, b1⟩ := kk r u t T'.heap (locs ++ L) e1.symm (by rw [← e2]; exact X'.warmed.alike) hp hb k1 k2 k3 T' rfl X'
    exact ⟨t2, st t2 a1, b1⟩
  · obtain ⟨k1, k2, k3⟩ := vx_keep h0 e1 hS hAX hf hL hF
    obtain ⟨t2, a1, b1⟩ := kx E ce q u t T'.heap (locs ++ L) e1.symm (by rw [← e2]; exact X'.warmed.alike) hp hb k1 k2 k3 (by rw [e1]; exact hce) hcv hcl T' rfl X'
    exact ⟨t2, st.trans a1, b1⟩
theorem vx_calll {S SX : Type} {post : Int64 → S → Prop} {px : SX → Prop} {B : S → State → Prop} {BX : String → SX → State → Prop} {AX : Nat → Prop} (hr : vx_Run p l e R s m args below meth c H locs cells slots mc ms (F0 m pc ls st0) rest (va_Ql post B A1 a) (vx_X px BX AX) free) (hS : va_S A0 H0 H locs) (hA : ∀ q, q < H.size → A1 q → A0 q) (hf : ∀ q, free q → A0 q) (hAX : ∀ q, q < H.size → AX q → A0 q)
    (kx : ∀ (E : String) (ce : Cell) (q9 : Addr) (u : SX) (t : State) (H1 : Heap) (locs1 : List Loc), t.heap = H1 → s.vm.Alike t.vm → px u → BX E u t → H.size ≤ H1.size → (∀ q : Nat, q < H.size → ¬ AX q → H1[q]? = H[q]?) → va_S A0 H0 H1 locs1 → H1[q9]? = some ce → ce.vm = .none → s.vm.findClass E = some ce.cls → vx_W p l e R s m args below meth c H1 locs1 (cells + mc) (slots + ms) Q (F0 m pc ls rest) q9)
    (kk : ∀ (r : Int64) (u : S) (t : State) (H1 : Heap) (locs1 : List Loc), t.heap = H1 → s.vm.Alike t.vm → post r u → B u t → H.size ≤ H1.size → (∀ q : Nat, q < H.size → ¬ A1 q → H1[q]? = H[q]?) → va_S A0 H0 H1 locs1 → W p l e R s m args below meth c H1 locs1 (cells + mc) (slots + ms) Q (F0 m (pc + 3) ls (.long r :: rest))) : W p l e R s m args below meth c H locs cells slots Q (F0 m pc ls st0) := by
  intro T hT X
  rcases hr T hT X with ⟨v, st₀, t, T', L, h0, X', hL, e1, e2, ⟨⟨r, u, hv, hp, hb⟩, hF⟩, st⟩ | ⟨q, st₀, t, T', L, E, ce, h0, X', hL, e1, e2, ⟨u, hp, hb, hF⟩, hce, hcv, hcl, st⟩
  · cases hv
    obtain ⟨k1, k2, k3⟩ := vx_keep h0 e1 hS hA hf hL hF
    obtain ⟨t2, a1, b1⟩ := kk r u t T'.heap (locs ++ L) e1.symm (by rw [← e2]; exact X'.warmed.alike) hp hb k1 k2 k3 T' rfl X'
    exact ⟨t2, st t2 a1, b1⟩
  · obtain ⟨k1, k2, k3⟩ := vx_keep h0 e1 hS hAX hf hL hF
    obtain ⟨t2, a1, b1⟩ := kx E ce q u t T'.heap (locs ++ L) e1.symm (by rw [← e2]; exact X'.warmed.alike) hp hb k1 k2 k3 (by rw [e1]; exact hce) hcv hcl T' rfl X'
    exact ⟨t2, st.trans a1, b1⟩
theorem vx_callf {S SX : Type} {post : UInt32 → S → Prop} {px : SX → Prop} {B : S → State → Prop} {BX : String → SX → State → Prop} {AX : Nat → Prop} (hr : vx_Run p l e R s m args below meth c H locs cells slots mc ms (F0 m pc ls st0) rest (va_Qf post B A1 a) (vx_X px BX AX) free) (hS : va_S A0 H0 H locs) (hA : ∀ q, q < H.size → A1 q → A0 q) (hf : ∀ q, free q → A0 q) (hAX : ∀ q, q < H.size → AX q → A0 q)
    (kx : ∀ (E : String) (ce : Cell) (q9 : Addr) (u : SX) (t : State) (H1 : Heap) (locs1 : List Loc), t.heap = H1 → s.vm.Alike t.vm → px u → BX E u t → H.size ≤ H1.size → (∀ q : Nat, q < H.size → ¬ AX q → H1[q]? = H[q]?) → va_S A0 H0 H1 locs1 → H1[q9]? = some ce → ce.vm = .none → s.vm.findClass E = some ce.cls → vx_W p l e R s m args below meth c H1 locs1 (cells + mc) (slots + ms) Q (F0 m pc ls rest) q9)
    (kk : ∀ (r : UInt32) (u : S) (t : State) (H1 : Heap) (locs1 : List Loc), t.heap = H1 → s.vm.Alike t.vm → post r u → B u t → H.size ≤ H1.size → (∀ q : Nat, q < H.size → ¬ A1 q → H1[q]? = H[q]?) → va_S A0 H0 H1 locs1 → W p l e R s m args below meth c H1 locs1 (cells + mc) (slots + ms) Q (F0 m (pc + 3) ls (.float r :: rest))) : W p l e R s m args below meth c H locs cells slots Q (F0 m pc ls st0) := by
  intro T hT X
  rcases hr T hT X with ⟨v, st₀, t, T', L, h0, X', hL, e1, e2, ⟨⟨r, u, hv, hp, hb⟩, hF⟩, st⟩ | ⟨q, st₀, t, T', L, E, ce, h0, X', hL, e1, e2, ⟨u, hp, hb, hF⟩, hce, hcv, hcl, st⟩
  · cases hv
    obtain ⟨k1, k2, k3⟩ := vx_keep h0 e1 hS hA hf hL hF
    obtain ⟨t2, a1, b1⟩ := kk r u t T'.heap (locs ++ L) e1.symm (by rw [← e2]; exact X'.warmed.alike) hp hb k1 k2 k3 T' rfl X'
    exact ⟨t2, st t2 a1, b1⟩
  · obtain ⟨k1, k2, k3⟩ := vx_keep h0 e1 hS hAX hf hL hF
    obtain ⟨t2, a1, b1⟩ := kx E ce q u t T'.heap (locs ++ L) e1.symm (by rw [← e2]; exact X'.warmed.alike) hp hb k1 k2 k3 (by rw [e1]; exact hce) hcv hcl T' rfl X'
    exact ⟨t2, st.trans a1, b1⟩
theorem vx_calld {S SX : Type} {post : UInt64 → S → Prop} {px : SX → Prop} {B : S → State → Prop} {BX : String → SX → State → Prop} {AX : Nat → Prop} (hr : vx_Run p l e R s m args below meth c H locs cells slots mc ms (F0 m pc ls st0) rest (va_Qd post B A1 a) (vx_X px BX AX) free) (hS : va_S A0 H0 H locs) (hA : ∀ q, q < H.size → A1 q → A0 q) (hf : ∀ q, free q → A0 q) (hAX : ∀ q, q < H.size → AX q → A0 q)
    (kx : ∀ (E : String) (ce : Cell) (q9 : Addr) (u : SX) (t : State) (H1 : Heap) (locs1 : List Loc), t.heap = H1 → s.vm.Alike t.vm → px u → BX E u t → H.size ≤ H1.size → (∀ q : Nat, q < H.size → ¬ AX q → H1[q]? = H[q]?) → va_S A0 H0 H1 locs1 → H1[q9]? = some ce → ce.vm = .none → s.vm.findClass E = some ce.cls → vx_W p l e R s m args below meth c H1 locs1 (cells + mc) (slots + ms) Q (F0 m pc ls rest) q9)
    (kk : ∀ (r : UInt64) (u : S) (t : State) (H1 : Heap) (locs1 : List Loc), t.heap = H1 → s.vm.Alike t.vm → post r u → B u t → H.size ≤ H1.size → (∀ q : Nat, q < H.size → ¬ A1 q → H1[q]? = H[q]?) → va_S A0 H0 H1 locs1 → W p l e R s m args below meth c H1 locs1 (cells + mc) (slots + ms) Q (F0 m (pc + 3) ls (.double r :: rest))) : W p l e R s m args below meth c H locs cells slots Q (F0 m pc ls st0) := by
  intro T hT X
  rcases hr T hT X with ⟨v, st₀, t, T', L, h0, X', hL, e1, e2, ⟨⟨r, u, hv, hp, hb⟩, hF⟩, st⟩ | ⟨q, st₀, t, T', L, E, ce, h0, X', hL, e1, e2, ⟨u, hp, hb, hF⟩, hce, hcv, hcl, st⟩
  · cases hv
    obtain ⟨k1, k2, k3⟩ := vx_keep h0 e1 hS hA hf hL hF
    obtain ⟨t2, a1, b1⟩ := kk r u t T'.heap (locs ++ L) e1.symm (by rw [← e2]; exact X'.warmed.alike) hp hb k1 k2 k3 T' rfl X'
    exact ⟨t2, st t2 a1, b1⟩
  · obtain ⟨k1, k2, k3⟩ := vx_keep h0 e1 hS hAX hf hL hF
    obtain ⟨t2, a1, b1⟩ := kx E ce q u t T'.heap (locs ++ L) e1.symm (by rw [← e2]; exact X'.warmed.alike) hp hb k1 k2 k3 (by rw [e1]; exact hce) hcv hcl T' rfl X'
    exact ⟨t2, st.trans a1, b1⟩
theorem vx_callv {S SX : Type} {post : S → Prop} {px : SX → Prop} {B : S → State → Prop} {BX : String → SX → State → Prop} {AX : Nat → Prop} (hr : vx_Run p l e R s m args below meth c H locs cells slots mc ms (F0 m pc ls st0) rest (va_Qv post B A1 a) (vx_X px BX AX) free) (hS : va_S A0 H0 H locs) (hA : ∀ q, q < H.size → A1 q → A0 q) (hf : ∀ q, free q → A0 q) (hAX : ∀ q, q < H.size → AX q → A0 q)
    (kx : ∀ (E : String) (ce : Cell) (q9 : Addr) (u : SX) (t : State) (H1 : Heap) (locs1 : List Loc), t.heap = H1 → s.vm.Alike t.vm → px u → BX E u t → H.size ≤ H1.size → (∀ q : Nat, q < H.size → ¬ AX q → H1[q]? = H[q]?) → va_S A0 H0 H1 locs1 → H1[q9]? = some ce → ce.vm = .none → s.vm.findClass E = some ce.cls → vx_W p l e R s m args below meth c H1 locs1 (cells + mc) (slots + ms) Q (F0 m pc ls rest) q9)
    (kk : ∀ (u : S) (t : State) (H1 : Heap) (locs1 : List Loc), t.heap = H1 → s.vm.Alike t.vm → post u → B u t → H.size ≤ H1.size → (∀ q : Nat, q < H.size → ¬ A1 q → H1[q]? = H[q]?) → va_S A0 H0 H1 locs1 → W p l e R s m args below meth c H1 locs1 (cells + mc) (slots + ms) Q (F0 m (pc + 3) ls (rest))) : W p l e R s m args below meth c H locs cells slots Q (F0 m pc ls st0) := by
  intro T hT X
  rcases hr T hT X with ⟨v, st₀, t, T', L, h0, X', hL, e1, e2, ⟨⟨u, hv, hp, hb⟩, hF⟩, st⟩ | ⟨q, st₀, t, T', L, E, ce, h0, X', hL, e1, e2, ⟨u, hp, hb, hF⟩, hce, hcv, hcl, st⟩
  · cases hv
    obtain ⟨k1, k2, k3⟩ := vx_keep h0 e1 hS hA hf hL hF
    obtain ⟨t2, a1, b1⟩ := kk u t T'.heap (locs ++ L) e1.symm (by rw [← e2]; exact X'.warmed.alike) hp hb k1 k2 k3 T' rfl X'
    exact ⟨t2, st t2 a1, b1⟩
  · obtain ⟨k1, k2, k3⟩ := vx_keep h0 e1 hS hAX hf hL hF
    obtain ⟨t2, a1, b1⟩ := kx E ce q u t T'.heap (locs ++ L) e1.symm (by rw [← e2]; exact X'.warmed.alike) hp hb k1 k2 k3 (by rw [e1]; exact hce) hcv hcl T' rfl X'
    exact ⟨t2, st.trans a1, b1⟩
/-- caught by the row x of this method's table; the rows ahead don't take it -/
theorem vx_catch {own name : String} {E : String} {ce : Cell} {q : Addr} (hown : s.vm.findClass own = some m.cls) (pre : List ExceptionTableEntry) (x : ExceptionTableEntry) (suf : List ExceptionTableEntry) (hsplit : c.exceptionTable.toList = pre ++ x :: suf)
    (hpass : ∀ z ∈ pre, covers z pc = false ∨ (z.catchType ≠ 0 ∧ ∃ nm : String, (Cond.classLink own z.catchType nm).before args s = true ∧ va_Nc E nm s)) (hx : covers x pc = true) (h0 : x.catchType ≠ 0)
    (hlink : (Cond.classLink own x.catchType name).before args s = true) (hcast : (Cond.castable E name).before args s = true) (hcell : H[q]? = some ce) (hv : ce.vm = .none) (hcl : s.vm.findClass E = some ce.cls)
    (kk : W p l e R s m args below meth c H locs cells slots Q (F0 m x.handlerPc ls [.ref q])) : vx_W p l e R s m args below meth c H locs cells slots Q (F0 m pc ls rest) q := by
  intro T hT X
  have hpl : e.platform.magicAccessors = ({} : Platform).magicAccessors := by rw [X.admits.platform]
  obtain ⟨c3, c4, hc3, hc4, hasg⟩ := Cond.castable_spec hcast
  cases Option.some.inj (hc3.symm.trans hcl)
  obtain ⟨c5, hc5, hcl5⟩ := Cond.classLink_spec hown hlink e.platform hpl
  cases Option.some.inj (hc4.symm.trans hc5)
  obtain ⟨vm', X', st⟩ := X.thenCaughtThrough q (g := F0 m pc ls rest) rfl (Steps.refl _) (by rw [hT]; exact hcell) (by rw [hv]; rfl) (by obtain ⟨k9, h9, -⟩ := Vm.findClass_spec hcl; exact ⟨k9, h9⟩) pre x suf hsplit
    (fun z hz => by
      rcases hpass z hz with h | ⟨hz0, nm, hl1, hn1⟩
      · exact Or.inl h
      · obtain ⟨c6, hc6, hcl6⟩ := Cond.classLink_spec hown hl1 e.platform hpl
        obtain ⟨a8, b8, h1, h2, h3⟩ := hn1
        cases Option.some.inj (h1.symm.trans hcl)
        cases Option.some.inj (h2.symm.trans hc6)
        exact Or.inr ⟨hz0, _, hcl6, h3⟩) hx (Or.inr ⟨h0, c4, hcl5, hasg⟩)
  obtain ⟨t, a1, b1⟩ := kk (T.setVm vm') hT X'
  exact ⟨t, st.trans a1, b1⟩
end Rows
section Ends
variable {p : Program} {l : Launch} {e : Env} {R : Room} {s : State} {m : MethodId} {args : Array Value} {below : List Frame} {meth : Method} {c : Code} {H : Heap} {locs : List Loc} {cells slots : Nat} {Q : State → Prop}
variable {mc ms : Nat} {free : Addr → Prop} {A0 A1 : Nat → Prop} {H0 : Heap} {a : Array Value} {ls : Array Slot} {st0 rest : List Value}
variable {Qc : Array Value → State → Outcome → State → Prop} {XC : String → State → State → Prop}
/-- what a body that may throw owes at its end -/
def vx_MQ (below : List Frame) (Qc : Array Value → State → Outcome → State → Prop) (XC : String → State → State → Prop) (a : Array Value) (s : State) (mc ms : Nat) (free : Addr → Prop) : State → Prop := fun t =>
  ∃ o, t.status = .running ∧ Ended t below o ∧ vx_Q Qc XC mc ms free a s o t
theorem vx_ret {g : JFrame} {mc ms : Nat} (k : W p l e R s m args below meth c H locs cells slots (MQ below Qc args s mc ms free) g) : W p l e R s m args below meth c H locs cells slots (vx_MQ below Qc XC args s mc ms free) g := by
  intro T hT X
  obtain ⟨t, a1, o, b1, b2, b3, b4⟩ := k T hT X
  exact ⟨t, a1, o, b1, b2, Or.inl ⟨b3, b4⟩⟩
/-- not caught here: it goes on to the caller -/
theorem vx_widen {g : JFrame} {q : Addr} {k n : Nat} (h1 : cells ≤ k) (h2 : slots ≤ n) (kk : vx_W p l e R s m args below meth c H locs k n Q g q) : vx_W p l e R s m args below meth c H locs cells slots Q g q := fun T hT X => kk T hT (stand_widen X h1 h2)
theorem vx_out {pc : Nat} {E : String} {ce : Cell} {q : Addr} {mc ms : Nat} (hout : ∀ x ∈ c.exceptionTable.toList, covers x pc = false) (hlocks : meth.locks = false) (hcell : H[q]? = some ce) (hv : ce.vm = .none) (hcl : s.vm.findClass E = some ce.cls)
    (hx : ∀ t : State, t.heap = H → s.vm.Alike t.vm → XC E s t) (hf : ∀ z ∈ locs, free z.base) (hc : cells ≤ mc) (hs : slots ≤ ms) :
    vx_W p l e R s m args below meth c H locs cells slots (vx_MQ below Qc XC args s mc ms free) (F0 m pc ls rest) q := by
  intro T hT X
  obtain ⟨st1, hrun, hend, hW, hsm⟩ := X.leaveThrown q (g := F0 m pc ls rest) rfl rfl rfl hout hlocks
  have hcell9 : (T.setFrames (.throwing q :: below)).heap[q]? = some ce := by
    show T.heap[q]? = some ce
    rw [hT]; exact hcell
  exact ⟨_, st1, .threw q, hrun, hend, Or.inr ⟨q, rfl, E, ce, locs, hx _ hT hW.alike, hcell9, hv, hcl, hW, hsm.mono hc hs, hf⟩⟩
theorem vx_frame {U : State} {k n : Nat} (h : s.sameButNew ({ U with vm := s.vm } : State) locs k n) : s.heap.size ≤ U.heap.size ∧ ∀ q : Nat, q < s.heap.size → (∀ z ∈ locs, z.base ≠ q) → U.heap[q]? = s.heap[q]? := by
  obtain ⟨-, h2, -, -, -, h6⟩ := h
  refine ⟨h2, fun q hq hz => ?_⟩
  obtain ⟨c9, e1, e2, e3, e4⟩ := h6 q _ (Array.getElem?_eq_getElem hq)
  have hs : c9.slots = (s.heap[q]).slots := Array.ext_getElem? fun i => e4 i fun hm => hz _ hm rfl
  have h9 : c9 = s.heap[q] := by
    rw [hs] at e2
    exact e2
  have e5 : U.heap[q]? = some c9 := e1
  rw [e5, h9, Array.getElem?_eq_getElem hq]
/-- the words of a throw but the four that speak of the heap -/
def vx_no (w : Cond) : Bool := decide (w ≠ .isRef (.static Bundle.tN "UNASSIGNED_STACK" Bundle.steD)) && decide (w ≠ .isRef (.static Bundle.tN "SUPPRESSED_SENTINEL" Bundle.listD)) && decide (w ≠ .laysStatic Bundle.tN "UNASSIGNED_STACK" Bundle.steD) && decide (w ≠ .laysStatic Bundle.tN "SUPPRESSED_SENTINEL" Bundle.listD)
def vx_at0 (own : String) (ic : Nat) (X : String) (names : List String) : List Cond := (Bundle.ownAtoms0 own ic X names).filter vx_no
def vx_atS (own : String) (ic : Nat) (X : String) (names : List String) : List Cond := (Bundle.ownAtoms own ic X names).filter vx_no
/-- a word that the tables alone decide, or a good one -/
def vx_ot (w : Cond) : Bool := w.onTables || goodWord w
theorem vx_ot_at {args a' : Array Value} {s U : State} {w : Cond} (hW : s.WarmedH U.vm) (hvm : s.vm = U.vm) (hg : vx_ot w = true) (h : w.before args s = true) : w.before a' U = true := by
  simp only [vx_ot, Bool.or_eq_true] at hg
  rcases hg with hg | hg
  · exact va_tabs hg hvm h
  · exact word_at hW (good_of_word hg) h
/-- a list's words: the good ones out of the method's own list, the others by premises of their own -/
theorem vx_hat {args : Array Value} {s : State} {L B : List Cond} (h1 : ∀ w ∈ L.filter goodWord, w.before args s = true) (h2 : ∀ w ∈ L.filter (fun w => !goodWord w), w ∈ B) (h3 : ∀ w ∈ B, w.before args s = true) : ∀ w ∈ L, w.before args s = true := by
  intro w hw
  by_cases g : goodWord w = true
  · exact h1 w (List.mem_filter.mpr ⟨hw, g⟩)
  · refine h3 w (h2 w (List.mem_filter.mpr ⟨hw, ?_⟩))
    show (!goodWord w) = true
    cases hgw : goodWord w
    · rfl
    · exact absurd hgw g
theorem vx_c {args : Array Value} {s : State} {w : Cond} {B : List Cond} (h : w.before args s = true) (t : ∀ w ∈ B, w.before args s = true) : ∀ w' ∈ w :: B, w'.before args s = true := fun w' h' => (List.mem_cons.mp h').elim (fun e => by rw [e]; exact h) (t w')
theorem vx_n {args : Array Value} {s : State} : ∀ w ∈ ([] : List Cond), w.before args s = true := fun _ h => nomatch h
theorem vx_own {args : Array Value} {s : State} {L : List Cond} (h1 : ∀ w ∈ L.filter vx_no, w.before args s = true)
    (hU : (Cond.isRef (.static Bundle.tN "UNASSIGNED_STACK" Bundle.steD)).before args s = true) (hN : (Cond.isRef (.static Bundle.tN "SUPPRESSED_SENTINEL" Bundle.listD)).before args s = true)
    (lU : (Cond.laysStatic Bundle.tN "UNASSIGNED_STACK" Bundle.steD).before args s = true) (lN : (Cond.laysStatic Bundle.tN "SUPPRESSED_SENTINEL" Bundle.listD).before args s = true) : ∀ w ∈ L, w.before args s = true := by
  intro w hw
  by_cases e1 : w = .isRef (.static Bundle.tN "UNASSIGNED_STACK" Bundle.steD)
  · rw [e1]; exact hU
  · by_cases e2 : w = .isRef (.static Bundle.tN "SUPPRESSED_SENTINEL" Bundle.listD)
    · rw [e2]; exact hN
    · by_cases e3 : w = .laysStatic Bundle.tN "UNASSIGNED_STACK" Bundle.steD
      · rw [e3]; exact lU
      · by_cases e4 : w = .laysStatic Bundle.tN "SUPPRESSED_SENTINEL" Bundle.listD
        · rw [e4]; exact lN
        · exact h1 w (List.mem_filter.mpr ⟨hw, by unfold vx_no; rw [decide_eq_true e1, decide_eq_true e2, decide_eq_true e3, decide_eq_true e4]; rfl⟩)
/-- where a static field lies, its class's statics cell in H -/
def vx_L (C n d : String) (A : Nat → Prop) (U : State) (H : Heap) : Prop := ∃ (c : ClassId) (k : Class) (i : Nat) (f : Field) (a : Nat) (cell : Cell), U.vm.findClass C = some c ∧ U.fieldFound? C n d = some (c, k, i, f) ∧ f.isStatic = true ∧ k.statics = some a ∧ H[a]? = some cell ∧ cell.vm.isStatics = true ∧ cell.cls = c ∧ f.slot < cell.slots.size ∧ k.staticTypes[f.slot]? = some f.type ∧ ¬ A a
theorem vx_L.moved {C n d : String} {A : Nat → Prop} {u U : State} {H : Heap} (hvm : u.vm.Alike U.vm) (h : vx_L C n d A u H) : vx_L C n d A U H := by
  obtain ⟨c, k, i, f, a, cell, h1, h2, h3, h4, h5, h6, h7, h8, h9, h10⟩ := h
  obtain ⟨k', hi', he⟩ := State.fieldFound?_setVm hvm h2
  exact ⟨c, k', i, f, a, cell, by rw [hvm.findClass]; exact h1, hi', h3, by rw [he]; exact h4, h5, h6, h7, h8, by rw [he]; exact h9, h10⟩
theorem vx_L.kept {C n d : String} {A : Nat → Prop} {U : State} {H H1 : Heap} (h : vx_L C n d A U H) (hq : ∀ a : Nat, a < H.size → ¬ A a → H1[a]? = H[a]?) : vx_L C n d A U H1 := by
  obtain ⟨c, k, i, f, a, cell, h1, h2, h3, h4, h5, h6, h7, h8, h9, h10⟩ := h
  exact ⟨c, k, i, f, a, cell, h1, h2, h3, h4, by rw [hq a (Array.getElem?_eq_some_iff.mp h5).1 h10]; exact h5, h6, h7, h8, h9, h10⟩
theorem vx_L.narrow {C n d : String} {A B : Nat → Prop} {U : State} {H : Heap} (h : vx_L C n d A U H) (hAB : ∀ q, B q → A q) : vx_L C n d B U H := by
  obtain ⟨c, k, i, f, a, cell, h1, h2, h3, h4, h5, h6, h7, h8, h9, h10⟩ := h
  exact ⟨c, k, i, f, a, cell, h1, h2, h3, h4, h5, h6, h7, h8, h9, fun z => h10 (hAB _ z)⟩
theorem vx_L.word {C n d : String} {A : Nat → Prop} {s : State} {args : Array Value} (h : vx_L C n d A s s.heap) : (Cond.laysStatic C n d).before args s = true := by
  obtain ⟨c, k, i, f, a, cell, h1, h2, h3, h4, h5, h6, h7, h8, h9, -⟩ := h
  show (Cond.laysStatic C n d).holds args s none s [] = true
  exact Cond.laysStatic_of h1 h2 h3 h4 h5 h6 h7 h8 h9
/-- .. and what it holds: null or some reference -/
def vx_Zq (C n d : String) (A : Nat → Prop) (U : State) (H : Heap) : Prop := va_Zq C n d A U H ∧ vx_L C n d A U H
theorem vx_Zq.moved {C n d : String} {A : Nat → Prop} {u U : State} {H : Heap} (hvm : u.vm.Alike U.vm) (h : vx_Zq C n d A u H) : vx_Zq C n d A U H := ⟨va_Zq.moved hvm h.1, vx_L.moved hvm h.2⟩
theorem vx_Zq.kept {C n d : String} {A : Nat → Prop} {U : State} {H H1 : Heap} (h : vx_Zq C n d A U H) (hq : ∀ a : Nat, a < H.size → ¬ A a → H1[a]? = H[a]?) : vx_Zq C n d A U H1 := ⟨va_Zq.kept h.1 hq, vx_L.kept h.2 hq⟩
theorem vx_Zq.narrow {C n d : String} {A B : Nat → Prop} {U : State} {H : Heap} (h : vx_Zq C n d A U H) (hAB : ∀ q, B q → A q) : vx_Zq C n d B U H := ⟨va_Zq.narrow h.1 hAB, vx_L.narrow h.2 hAB⟩
theorem vx_Zqof {args : Array Value} {s : State} {C n d : String} {A : Nat → Prop} (hl : (Cond.laysStatic C n d).before args s = true) (hini : (Cond.initialized C).before args s = true) (h : (Cond.isRef (.static C n d)).before args s = true) (hA : ∀ a : Nat, a < s.heap.size → ¬ A a) : vx_Zq C n d A s s.heap := by
  refine ⟨va_Zqof hl hini h hA, ?_⟩
  obtain ⟨c, k, i, f, a, cell, h1, h2, h3, h4, h5, h6, h7, h8, h9⟩ := Cond.laysStatic_spec hl
  exact ⟨c, k, i, f, a, cell, h1, h2, h3, h4, h5, h6, h7, h8, h9, hA a (Array.getElem?_eq_some_iff.mp h5).1⟩
theorem vx_isRef {C n d : String} {v : Value} {A : Nat → Prop} {s : State} {args : Array Value} (h : va_Z C n d v A s s.heap) (hv : v.isRef = true) : (Cond.isRef (.static C n d)).before args s = true := by
  obtain ⟨cf, kf, fi, f, a, cell, h1, h2, h3, h4, h5, h6, h7, -⟩ := h
  have he : (Term.static C n d).eval args s none [] s = some v := by
    simp [Term.eval, State.fieldNamed?, h1, h2, h4, h5, h6, h7]
  simp only [Cond.before, Cond.holds, Cond.value, he]
  cases v <;> simp_all [Value.isRef]
theorem vx_isRefq {C n d : String} {A : Nat → Prop} {s : State} {args : Array Value} (h : va_Zq C n d A s s.heap) : (Cond.isRef (.static C n d)).before args s = true := by
  rcases h with h | ⟨t, h⟩
  · exact vx_isRef h rfl
  · exact vx_isRef h rfl
/-- the same frame, seen from here: as if the method were called anew in this heap -/
theorem vx_rebase {T : State} (X : Stand p l e R s m args below meth c T locs cells slots) {R' : Room} (hf : R'.frames ≤ R.frames) (hl : R'.locals ≤ R.locals) (hc : cells + R'.cells ≤ R.cells) (hs : slots + R'.slots ≤ R.slots) :
    Stand p l e R' ((T.setVm s.vm).setFrames (.invoking m args :: below)) m args below meth c T [] 0 0 := by
  have htop : (T.setVm s.vm).topJava?.isSome := X.here.top
  have hF : ((T.setVm s.vm).setFrames (.invoking m args :: below)).frames = .invoking m args :: below := State.frames_setFrames _ (State.cur_lt_of_top htop)
  obtain ⟨g₀, hg0⟩ := Option.isSome_iff_exists.mp htop
  obtain ⟨r, hr⟩ := State.topJava?_eq_some.mp hg0
  have hl9 : e.platform.stackLimits (T.setVm s.vm).me = e.platform.stackLimits s.me := X.limits
  have hb9 : (T.setVm s.vm).me.stackBytes = s.me.stackBytes := X.bytes
  refine ⟨X.admits, X.cas, X.clock, hF, ?_, X.hears, X.method, X.code, X.here, X.tail, X.warmed, ?_, ?_, ?_⟩
  · have h := X.room
    have hU : ((T.setVm s.vm).setFrames (.invoking m args :: below)).localsInUse = s.localsInUse := by
      rw [State.localsInUse_invoking hF (meth := meth) (c := c) X.method X.code, State.localsInUse_invoking X.frames X.method X.code]
    simp only [State.hasRoom, Bool.and_eq_true, decide_eq_true_eq] at h ⊢
    obtain ⟨⟨⟨⟨h1, h2, h3, h4, h5, h6⟩, h7⟩, h8⟩, h9⟩ := h
    rw [X.frames, List.length_cons] at h2 h3
    have q1 := X.heapSize
    have q2 := X.used
    simp only [hF, hU, List.length_cons, State.stackLimits_setFrames, State.stackBytes_setFrames, hl9, hb9]
    refine ⟨⟨⟨⟨by omega, by omega, by omega, by omega, by omega, h6⟩, ?_⟩, ?_⟩, X.book⟩
    · show T.heap.size + R'.cells ≤ e.platform.maxCells
      omega
    · show T.slotsUsed + R'.slots ≤ e.platform.maxSlots
      omega
  · rw [State.stackLimits_setFrames]; rfl
  · rw [State.stackBytes_setFrames]; rfl
  · refine ⟨?_, Nat.le_refl _, Nat.le_refl _, ?_, ?_, fun a c9 h9 => ⟨c9, h9, rfl, rfl, fun _ _ => rfl⟩⟩
    · obtain ⟨t, ht, -⟩ := State.frames_cons hr
      show T.setVm s.vm = { ((T.setVm s.vm).setFrames (.invoking m args :: below)).setFrames (T.setVm s.vm).frames with heap := T.heap, slotsUsed := T.slotsUsed }
      rw [State.setFrames_setFrames, State.setFrames_self ht]
      rfl
    · show T.slotsUsed = T.slotsUsed + ((T.heap.toList.drop T.heap.size).map (·.slots.size)).sum
      rw [List.drop_eq_nil_of_le (Nat.le_of_eq Array.length_toList)]
      rfl
    · show ((T.heap.toList.drop T.heap.size).map (·.slots.size)).sum ≤ 0
      rw [List.drop_eq_nil_of_le (Nat.le_of_eq Array.length_toList)]
      exact Nat.le_refl _
/-- 'throw new E()': new; dup; invokespecial; athrow -/
theorem vx_throw0 {cc : ByteArray} {pc : Nat} (hexec : p.tables.exec = Jvm.exec) (hb : c.code = cc) (hl : l.stackTraces = false) {own cls : String} {names : List String} {ik ic mc ms : Nat} {A : Nat → Prop}
    (hown : s.vm.findClass own = some m.cls) (hcls : Bundle.fit cls = true) (hnames : ∀ n ∈ names, Bundle.fit n = true)
    (hk : (Cond.classLink own ik cls).before args s = true) (hini : (Cond.initialized cls).before args s = true) (hat : ∀ w ∈ vx_at0 own ic cls names, w.before args s = true)
    (hgood : ∀ w ∈ Cond.classLink own ik cls :: Cond.initialized cls :: vx_at0 own ic cls names, vx_ot w = true)
    (hU : vx_Zq Bundle.tN "UNASSIGNED_STACK" Bundle.steD A s s.heap) (hN : vx_Zq Bundle.tN "SUPPRESSED_SENTINEL" Bundle.listD A s s.heap) (hS : va_S A s.heap H locs) (hsize : ls.size = c.maxLocals)
    (d0 : decode cc pc = .ok (.new ik, 3)) (d3 : decode cc (pc + 3) = .ok (.dup, 1)) (d4 : decode cc (pc + 4) = .ok (.invokespecial ic, 3)) (d7 : decode cc (pc + 7) = .ok (.athrow, 1))
    (hout : ∀ x ∈ c.exceptionTable.toList, covers x (pc + 7) = false)
    (hRframes : names.length + 3 < R.frames) (hRlocals : (rest.map fun v => v.category).sum + (13 * (names.length + 1) + 42) ≤ R.locals) (hRcells : cells + 1 ≤ R.cells) (hRslots : slots + 6 ≤ R.slots) (hlocks : meth.locks = false)
    (hx : ∀ t : State, s.vm.Alike t.vm → H.size ≤ t.heap.size → (∀ q : Nat, q < H.size → t.heap[q]? = H[q]?) → XC cls s t)
    (hf : ∀ z ∈ locs, free z.base) (hc : cells + 1 ≤ mc) (hs : slots + 6 ≤ ms) :
    W p l e R s m args below meth c H locs cells slots (vx_MQ below Qc XC args s mc ms free) (F0 m pc ls rest) := by
  intro T hT X
  have htr : e.platform.stackTraces = false := (show e.platform.stackTraces = l.stackTraces by rw [X.admits.platform]).trans hl
  have Y := vx_rebase X (R' := { frames := R.frames, locals := R.locals, cells := 1, slots := 6 }) (Nat.le_refl _) (Nat.le_refl _) hRcells hRslots
  obtain ⟨s', hA⟩ : ∃ z, z = (T.setVm s.vm).setFrames (.invoking m args :: below) := ⟨_, rfl⟩
  rw [← hA] at Y
  have hvm : s'.vm = s.vm := by rw [hA]; rfl
  have hhp : s'.heap = H := by rw [hA]; exact hT
  have hW0 : s.WarmedH s'.vm := by rw [hvm]; exact State.WarmedH.refl s
  have hat' : ∀ w ∈ vx_at0 own ic cls names, w.before args s' = true := fun w hw => vx_ot_at hW0 hvm.symm (hgood w (List.mem_cons_of_mem _ (List.mem_cons_of_mem _ hw))) (hat w hw)
  have hk' : (Cond.classLink own ik cls).before args s' = true := vx_ot_at hW0 hvm.symm (hgood _ List.mem_cons_self) hk
  have hini' : (Cond.initialized cls).before args s' = true := vx_ot_at hW0 hvm.symm (hgood _ (List.mem_cons_of_mem _ List.mem_cons_self)) hini
  have hU' : vx_Zq Bundle.tN "UNASSIGNED_STACK" Bundle.steD A s' s'.heap := by rw [hhp]; exact vx_Zq.moved hW0.alike (hU.kept hS.2.1)
  have hN' : vx_Zq Bundle.tN "SUPPRESSED_SENTINEL" Bundle.listD A s' s'.heap := by rw [hhp]; exact vx_Zq.moved hW0.alike (hN.kept hS.2.1)
  have h : ∀ w ∈ Bundle.ownAtoms0 own ic cls names, w.before args s' = true := vx_own hat' (vx_isRefq hU'.1) (vx_isRefq hN'.1) hU'.2.word hN'.2.word
  have hown' : s'.vm.findClass own = some m.cls := by rw [hvm]; exact hown
  have hins : (Cond.instantiable cls 6).before args s' = true := h _ (by simp [Bundle.ownAtoms0])
  obtain ⟨vm₁, cX, kX, hfX, hkX, -, -, X₁, st1⟩ := Y.newCold hexec (own := own) (C := cls) (index := ik) (n := 6) hown' hk' hins hini'
    (g := F0 m pc ls rest) rfl (by rw [hb]; exact d0) (Nat.le_refl _) (Nat.le_refl _)
  generalize hT1 : (T.setVm vm₁).pushCell { cls := cX, slots := kX.instanceTypes.map defaultValue, vm := .none } = T1 at X₁ st1
  have hcat : (Value.ref T.heap.size).category = 1 := rfl
  have hcellA : T1.heap[T.heap.size]? = some (freshCell cX kX) := by rw [← hT1]; exact State.heap_pushCell_size _ _
  have d3' : decode c.code (pc + 3) = .ok (.dup, 1) := by rw [hb]; exact d3
  obtain ⟨U, hsteps, hrun, hend, hW, hsame, ce, hce, hO⟩ := X₁.ctorThrow0 hexec htr (own := own) (cls := cls) (names := names) (ic := ic) hown' hcls hnames h (fun x hx => nomatch hx) hfX hkX hcellA (by rw [hhp, hT]; exact Nat.le_refl _)
    (g := { method := m, pc := pc + 4, locals := ls, stack := .ref T.heap.size :: .ref T.heap.size :: rest, locked := none }) rfl hsize rfl rfl (rest := rest) rfl
    (by rw [hb]; exact d4) (by rw [hb]; exact d7) hout hRframes (by simp only [List.map_cons, List.sum_cons, hcat]; omega) hlocks
  obtain ⟨f1, f2⟩ := vx_frame hsame
  rw [hhp] at f1 f2
  have hWs : s.WarmedH U.vm := State.WarmedH.trans hW0 hW
  have hcl : s.vm.findClass cls = some ce.cls := by
    have h9 := hO.cls
    rw [hvm] at h9
    exact h9
  have hall : s.sameButNew ({ U with vm := s.vm } : State) locs mc ms := by
    subst hA
    obtain ⟨e1, e2⟩ := hsame
    rw [State.setFrames_setFrames] at e1
    have h2 : (T.setVm s.vm).sameButNew ({ U with vm := s.vm } : State) [] (0 + 1) (0 + 6) := ⟨e1, e2⟩
    have h3 := X.same.trans h2
    rw [List.append_nil] at h3
    exact h3.mono hc hs
  refine ⟨U, ?_, .threw T.heap.size, hrun, hend, Or.inr ⟨T.heap.size, rfl, cls, ce, locs, hx U hWs.alike f1 (fun q hq => f2 q hq (fun z hz => nomatch hz)), hce, hO.vm, hcl, hWs, hall, hf⟩⟩
  refine st1 _ ?_
  show Steps p.tables e below (T1.setTop { method := m, pc := pc + 3, locals := ls, stack := .ref T.heap.size :: rest, locked := none }) _
  jvm_step X₁.here [X₁.here.top, hexec, d3', Value.category]
  exact hsteps
/-- 'throw new E("text")': new; dup; ldc; invokespecial; athrow -/
theorem vx_throwS {cc : ByteArray} {pc : Nat} (hexec : p.tables.exec = Jvm.exec) (hb : c.code = cc) (hl : l.stackTraces = false) {own cls text : String} {names : List String} {ik is ic mc ms sa : Nat} {A : Nat → Prop}
    (hown : s.vm.findClass own = some m.cls) (hcls : Bundle.fit cls = true) (hnames : ∀ n ∈ names, Bundle.fit n = true)
    (hk : (Cond.classLink own ik cls).before args s = true) (hini : (Cond.initialized cls).before args s = true) (hstr : vk_R own is text sa s) (hat : ∀ w ∈ vx_atS own ic cls names, w.before args s = true)
    (hgood : ∀ w ∈ Cond.classLink own ik cls :: Cond.initialized cls :: vx_atS own ic cls names, vx_ot w = true)
    (hU : vx_Zq Bundle.tN "UNASSIGNED_STACK" Bundle.steD A s s.heap) (hN : vx_Zq Bundle.tN "SUPPRESSED_SENTINEL" Bundle.listD A s s.heap) (hS : va_S A s.heap H locs) (hsize : ls.size = c.maxLocals)
    (d0 : decode cc pc = .ok (.new ik, 3)) (d3 : decode cc (pc + 3) = .ok (.dup, 1)) (d4 : decode cc (pc + 4) = .ok (.ldc is, 2)) (d6 : decode cc (pc + 6) = .ok (.invokespecial ic, 3)) (d9 : decode cc (pc + 9) = .ok (.athrow, 1))
    (hout : ∀ x ∈ c.exceptionTable.toList, covers x (pc + 9) = false)
    (hRframes : names.length + 3 < R.frames) (hRlocals : (rest.map fun v => v.category).sum + (13 * (names.length + 1) + 43) ≤ R.locals) (hRcells : cells + 1 ≤ R.cells) (hRslots : slots + 6 ≤ R.slots) (hlocks : meth.locks = false)
    (hx : ∀ t : State, s.vm.Alike t.vm → H.size ≤ t.heap.size → (∀ q : Nat, q < H.size → t.heap[q]? = H[q]?) → XC cls s t)
    (hf : ∀ z ∈ locs, free z.base) (hc : cells + 1 ≤ mc) (hs : slots + 6 ≤ ms) :
    W p l e R s m args below meth c H locs cells slots (vx_MQ below Qc XC args s mc ms free) (F0 m pc ls rest) := by
  intro T hT X
  have htr : e.platform.stackTraces = false := (show e.platform.stackTraces = l.stackTraces by rw [X.admits.platform]).trans hl
  have Y := vx_rebase X (R' := { frames := R.frames, locals := R.locals, cells := 1, slots := 6 }) (Nat.le_refl _) (Nat.le_refl _) hRcells hRslots
  obtain ⟨s', hA⟩ : ∃ z, z = (T.setVm s.vm).setFrames (.invoking m args :: below) := ⟨_, rfl⟩
  rw [← hA] at Y
  have hvm : s'.vm = s.vm := by rw [hA]; rfl
  have hhp : s'.heap = H := by rw [hA]; exact hT
  have hW0 : s.WarmedH s'.vm := by rw [hvm]; exact State.WarmedH.refl s
  have hat' : ∀ w ∈ vx_atS own ic cls names, w.before args s' = true := fun w hw => vx_ot_at hW0 hvm.symm (hgood w (List.mem_cons_of_mem _ (List.mem_cons_of_mem _ hw))) (hat w hw)
  have hk' : (Cond.classLink own ik cls).before args s' = true := vx_ot_at hW0 hvm.symm (hgood _ List.mem_cons_self) hk
  have hini' : (Cond.initialized cls).before args s' = true := vx_ot_at hW0 hvm.symm (hgood _ (List.mem_cons_of_mem _ List.mem_cons_self)) hini
  have hU' : vx_Zq Bundle.tN "UNASSIGNED_STACK" Bundle.steD A s' s'.heap := by rw [hhp]; exact vx_Zq.moved hW0.alike (hU.kept hS.2.1)
  have hN' : vx_Zq Bundle.tN "SUPPRESSED_SENTINEL" Bundle.listD A s' s'.heap := by rw [hhp]; exact vx_Zq.moved hW0.alike (hN.kept hS.2.1)
  have h : ∀ w ∈ Bundle.ownAtoms own ic cls names, w.before args s' = true := vx_own hat' (vx_isRefq hU'.1) (vx_isRefq hN'.1) hU'.2.word hN'.2.word
  have hown' : s'.vm.findClass own = some m.cls := by rw [hvm]; exact hown
  have hins : (Cond.instantiable cls 6).before args s' = true := h _ (by simp [Bundle.ownAtoms])
  obtain ⟨vm₁, cX, kX, hfX, hkX, -, -, X₁, st1⟩ := Y.newCold hexec (own := own) (C := cls) (index := ik) (n := 6) hown' hk' hins hini'
    (g := F0 m pc ls rest) rfl (by rw [hb]; exact d0) (Nat.le_refl _) (Nat.le_refl _)
  generalize hT1 : (T.setVm vm₁).pushCell { cls := cX, slots := kX.instanceTypes.map defaultValue, vm := .none } = T1 at X₁ st1
  have hcat : (Value.ref T.heap.size).category = 1 := rfl
  have hcellA : T1.heap[T.heap.size]? = some (freshCell cX kX) := by rw [← hT1]; exact State.heap_pushCell_size _ _
  have d3' : decode c.code (pc + 3) = .ok (.dup, 1) := by rw [hb]; exact d3
  have d4' : decode c.code (pc + 4) = .ok (.ldc is, 2) := by rw [hb]; exact d4
  have hstr' : vk_R own is text sa s' := vk_R.warm hW0 hstr
  obtain ⟨U, hsteps, hrun, hend, hW, hsame, ce, hce, hO⟩ := X₁.ctorThrowS hexec htr (own := own) (cls := cls) (names := names) (ic := ic) hown' hcls hnames h (fun x hx => nomatch hx) hfX hkX hcellA (by rw [hhp, hT]; exact Nat.le_refl _) (msg := .ref sa) rfl
    (g := { method := m, pc := pc + 6, locals := ls, stack := .ref sa :: .ref T.heap.size :: .ref T.heap.size :: rest, locked := none }) rfl hsize rfl rfl (rest := rest) rfl
    (by rw [hb]; exact d6) (by rw [hb]; exact d9) hout hRframes (by simp only [List.map_cons, List.sum_cons, hcat]; omega) hlocks
  obtain ⟨f1, f2⟩ := vx_frame hsame
  rw [hhp] at f1 f2
  have hWs : s.WarmedH U.vm := State.WarmedH.trans hW0 hW
  have hcl : s.vm.findClass cls = some ce.cls := by
    have h9 := hO.cls
    rw [hvm] at h9
    exact h9
  have hall : s.sameButNew ({ U with vm := s.vm } : State) locs mc ms := by
    subst hA
    obtain ⟨e1, e2⟩ := hsame
    rw [State.setFrames_setFrames] at e1
    have h2 : (T.setVm s.vm).sameButNew ({ U with vm := s.vm } : State) [] (0 + 1) (0 + 6) := ⟨e1, e2⟩
    have h3 := X.same.trans h2
    rw [List.append_nil] at h3
    exact h3.mono hc hs
  refine ⟨U, ?_, .threw T.heap.size, hrun, hend, Or.inr ⟨T.heap.size, rfl, cls, ce, locs, hx U hWs.alike f1 (fun q hq => f2 q hq (fun z hz => nomatch hz)), hce, hO.vm, hcl, hWs, hall, hf⟩⟩
  refine st1 _ ?_
  show Steps p.tables e below (T1.setTop { method := m, pc := pc + 3, locals := ls, stack := .ref T.heap.size :: rest, locked := none }) _
  jvm_step X₁.here [X₁.here.top, hexec, d3', Value.category]
  exact X₁.ldcString hexec (own := own) (text := text) (index := is) (a := sa) hown' hstr'.1 hstr'.2
    (g := { method := m, pc := pc + 4, locals := ls, stack := .ref T.heap.size :: .ref T.heap.size :: rest, locked := none }) rfl d4' _ hsteps
/-- 'throw new E("text")', the text by a wide index -/
theorem vx_throwSW {cc : ByteArray} {pc : Nat} (hexec : p.tables.exec = Jvm.exec) (hb : c.code = cc) (hl : l.stackTraces = false) {own cls text : String} {names : List String} {ik is ic mc ms sa : Nat} {A : Nat → Prop}
    (hown : s.vm.findClass own = some m.cls) (hcls : Bundle.fit cls = true) (hnames : ∀ n ∈ names, Bundle.fit n = true)
    (hk : (Cond.classLink own ik cls).before args s = true) (hini : (Cond.initialized cls).before args s = true) (hstr : vk_R own is text sa s) (hat : ∀ w ∈ vx_atS own ic cls names, w.before args s = true)
    (hgood : ∀ w ∈ Cond.classLink own ik cls :: Cond.initialized cls :: vx_atS own ic cls names, vx_ot w = true)
    (hU : vx_Zq Bundle.tN "UNASSIGNED_STACK" Bundle.steD A s s.heap) (hN : vx_Zq Bundle.tN "SUPPRESSED_SENTINEL" Bundle.listD A s s.heap) (hS : va_S A s.heap H locs) (hsize : ls.size = c.maxLocals)
    (d0 : decode cc pc = .ok (.new ik, 3)) (d3 : decode cc (pc + 3) = .ok (.dup, 1)) (d4 : decode cc (pc + 4) = .ok (.ldc_w is, 3)) (d7 : decode cc (pc + 7) = .ok (.invokespecial ic, 3)) (d10 : decode cc (pc + 10) = .ok (.athrow, 1))
    (hout : ∀ x ∈ c.exceptionTable.toList, covers x (pc + 10) = false)
    (hRframes : names.length + 3 < R.frames) (hRlocals : (rest.map fun v => v.category).sum + (13 * (names.length + 1) + 43) ≤ R.locals) (hRcells : cells + 1 ≤ R.cells) (hRslots : slots + 6 ≤ R.slots) (hlocks : meth.locks = false)
    (hx : ∀ t : State, s.vm.Alike t.vm → H.size ≤ t.heap.size → (∀ q : Nat, q < H.size → t.heap[q]? = H[q]?) → XC cls s t)
    (hf : ∀ z ∈ locs, free z.base) (hc : cells + 1 ≤ mc) (hs : slots + 6 ≤ ms) :
    W p l e R s m args below meth c H locs cells slots (vx_MQ below Qc XC args s mc ms free) (F0 m pc ls rest) := by
  intro T hT X
  have htr : e.platform.stackTraces = false := (show e.platform.stackTraces = l.stackTraces by rw [X.admits.platform]).trans hl
  have Y := vx_rebase X (R' := { frames := R.frames, locals := R.locals, cells := 1, slots := 6 }) (Nat.le_refl _) (Nat.le_refl _) hRcells hRslots
  obtain ⟨s', hA⟩ : ∃ z, z = (T.setVm s.vm).setFrames (.invoking m args :: below) := ⟨_, rfl⟩
  rw [← hA] at Y
  have hvm : s'.vm = s.vm := by rw [hA]; rfl
  have hhp : s'.heap = H := by rw [hA]; exact hT
  have hW0 : s.WarmedH s'.vm := by rw [hvm]; exact State.WarmedH.refl s
  have hat' : ∀ w ∈ vx_atS own ic cls names, w.before args s' = true := fun w hw => vx_ot_at hW0 hvm.symm (hgood w (List.mem_cons_of_mem _ (List.mem_cons_of_mem _ hw))) (hat w hw)
  have hk' : (Cond.classLink own ik cls).before args s' = true := vx_ot_at hW0 hvm.symm (hgood _ List.mem_cons_self) hk
  have hini' : (Cond.initialized cls).before args s' = true := vx_ot_at hW0 hvm.symm (hgood _ (List.mem_cons_of_mem _ List.mem_cons_self)) hini
  have hU' : vx_Zq Bundle.tN "UNASSIGNED_STACK" Bundle.steD A s' s'.heap := by rw [hhp]; exact vx_Zq.moved hW0.alike (hU.kept hS.2.1)
  have hN' : vx_Zq Bundle.tN "SUPPRESSED_SENTINEL" Bundle.listD A s' s'.heap := by rw [hhp]; exact vx_Zq.moved hW0.alike (hN.kept hS.2.1)
  have h : ∀ w ∈ Bundle.ownAtoms own ic cls names, w.before args s' = true := vx_own hat' (vx_isRefq hU'.1) (vx_isRefq hN'.1) hU'.2.word hN'.2.word
  have hown' : s'.vm.findClass own = some m.cls := by rw [hvm]; exact hown
  have hins : (Cond.instantiable cls 6).before args s' = true := h _ (by simp [Bundle.ownAtoms])
  obtain ⟨vm₁, cX, kX, hfX, hkX, -, -, X₁, st1⟩ := Y.newCold hexec (own := own) (C := cls) (index := ik) (n := 6) hown' hk' hins hini'
    (g := F0 m pc ls rest) rfl (by rw [hb]; exact d0) (Nat.le_refl _) (Nat.le_refl _)
  generalize hT1 : (T.setVm vm₁).pushCell { cls := cX, slots := kX.instanceTypes.map defaultValue, vm := .none } = T1 at X₁ st1
  have hcat : (Value.ref T.heap.size).category = 1 := rfl
  have hcellA : T1.heap[T.heap.size]? = some (freshCell cX kX) := by rw [← hT1]; exact State.heap_pushCell_size _ _
  have d3' : decode c.code (pc + 3) = .ok (.dup, 1) := by rw [hb]; exact d3
  have d4' : decode c.code (pc + 4) = .ok (.ldc_w is, 3) := by rw [hb]; exact d4
  have hstr' : vk_R own is text sa s' := vk_R.warm hW0 hstr
  obtain ⟨U, hsteps, hrun, hend, hW, hsame, ce, hce, hO⟩ := X₁.ctorThrowS hexec htr (own := own) (cls := cls) (names := names) (ic := ic) hown' hcls hnames h (fun x hx => nomatch hx) hfX hkX hcellA (by rw [hhp, hT]; exact Nat.le_refl _) (msg := .ref sa) rfl
    (g := { method := m, pc := pc + 7, locals := ls, stack := .ref sa :: .ref T.heap.size :: .ref T.heap.size :: rest, locked := none }) rfl hsize rfl rfl (rest := rest) rfl
    (by rw [hb]; exact d7) (by rw [hb]; exact d10) hout hRframes (by simp only [List.map_cons, List.sum_cons, hcat]; omega) hlocks
  obtain ⟨f1, f2⟩ := vx_frame hsame
  rw [hhp] at f1 f2
  have hWs : s.WarmedH U.vm := State.WarmedH.trans hW0 hW
  have hcl : s.vm.findClass cls = some ce.cls := by
    have h9 := hO.cls
    rw [hvm] at h9
    exact h9
  have hall : s.sameButNew ({ U with vm := s.vm } : State) locs mc ms := by
    subst hA
    obtain ⟨e1, e2⟩ := hsame
    rw [State.setFrames_setFrames] at e1
    have h2 : (T.setVm s.vm).sameButNew ({ U with vm := s.vm } : State) [] (0 + 1) (0 + 6) := ⟨e1, e2⟩
    have h3 := X.same.trans h2
    rw [List.append_nil] at h3
    exact h3.mono hc hs
  refine ⟨U, ?_, .threw T.heap.size, hrun, hend, Or.inr ⟨T.heap.size, rfl, cls, ce, locs, hx U hWs.alike f1 (fun q hq => f2 q hq (fun z hz => nomatch hz)), hce, hO.vm, hcl, hWs, hall, hf⟩⟩
  refine st1 _ ?_
  show Steps p.tables e below (T1.setTop { method := m, pc := pc + 3, locals := ls, stack := .ref T.heap.size :: rest, locked := none }) _
  jvm_step X₁.here [X₁.here.top, hexec, d3', Value.category]
  exact X₁.ldcStringW hexec (own := own) (text := text) (index := is) (a := sa) hown' hstr'.1 hstr'.2
    (g := { method := m, pc := pc + 4, locals := ls, stack := .ref T.heap.size :: .ref T.heap.size :: rest, locked := none }) rfl d4' _ hsteps
end Ends
section Bodies
variable {l : Launch}
theorem vx_ofW {y : MethodName} {ws ws' : List Cond} {rm : Room} {Pc : Array Value → State → Prop} {Qc : Array Value → State → Outcome → State → Prop} {XC : String → State → State → Prop} {mc ms : Nat} {free : Addr → Prop} {cc : ByteArray} {maxL : Nat} {ret : Option FieldType}
    (hy : plainName y.cls = true) (hw : ws = Cond.code y cc maxL ret :: ws')
    (body : ∀ p e s m args below meth c s₁, BodyLoose p l y (headSpec ws rm) cc maxL ret e s m args below meth c s₁ → c.maxLocals = maxL → (∀ x ∈ c.exceptionTable.toList, False) → Pc args s →
      W p l e (headSpec ws rm).room s m args below meth c s.heap [] 0 0 (vx_MQ below Qc XC args s mc ms free) (entryFrame m args maxL)) : vx_Met l y ws rm Pc Qc XC mc ms free := by
  refine MetFree.of_bodyS (code := cc) (maxLocals := maxL) (ret := ret) hy ?_ ?_
  · intro args s m h hn
    obtain ⟨meth, c, h1, h2, h3, h4, h5, h6, -, -⟩ := Cond.code_spec hn (atoms_spec (ws := ws) h _ (by rw [hw]; exact List.mem_cons_self))
    exact ⟨meth, c, h1, h2, h3, h4, h5, h6⟩
  · intro p e s m args below meth c s₁ B hml hP _
    have hh0 : s₁.heap = s.heap := by rw [B.state]; rfl
    have ht : ∀ x ∈ c.exceptionTable.toList, False := by
      obtain ⟨meth9, c9, h1, h2, -, -, -, -, h7, -⟩ := Cond.code_spec B.named (atoms_spec (ws := ws) B.pre _ (by rw [hw]; exact List.mem_cons_self))
      cases Option.some.inj (h1.symm.trans B.method)
      cases Option.some.inj (h2.symm.trans (Stand.of_body B).code)
      intro x hx
      rw [Array.isEmpty_iff.mp h7] at hx
      cases hx
    obtain ⟨t, a1, o, b1, b2, b3⟩ := body p e s m args below meth c s₁ B hml ht hP s₁ hh0 (Stand.of_body B)
    exact ⟨t, o, a1, b1, b2, b3⟩
/-- the table of a body with handlers -/
theorem vx_table {p : Program} {x y : MethodName} {S : Spec} {cc bytes : ByteArray} {maxL maxL' : Nat} {ret ret' : Option FieldType} {e : Env} {s s₁ : State} {m : MethodId} {args : Array Value} {below : List Frame} {meth : Method} {c : Code} {hh : List (Nat × Nat × Nat × Nat)}
    (B : BodyLoose p l y S cc maxL ret e s m args below meth c s₁) (h : (Cond.codeWith y bytes maxL' ret' hh).before args s = true) : c.exceptionTable.toList = tableOf hh := by
  obtain ⟨m9, meth9, c9, hn9, h1, h2, -, -, h6, -⟩ := Cond.codeWith_spec h
  cases Option.some.inj (hn9.symm.trans B.named)
  cases Option.some.inj (h1.symm.trans B.method)
  cases Option.some.inj (h2.symm.trans (Stand.of_body B).code)
  rw [← h6, table_eq]
end Bodies
end VXA
/-! ===== END ===== -/
/-! ===== BEGIN a static call of a method with an exception table ===== -/
section VXS
variable {p : Program} {l : Launch} {e : Env} {R : Room} {s : State} {m : MethodId} {args : Array Value} {below : List Frame} {meth : Method} {c : Code} {T : State} {H : Heap} {locs : List Loc} {cells slots : Nat}
abbrev vx_CSW (R : Room) (s : State) (args : Array Value) (own : String) (index : Nat) (y : MethodName) (bytes : ByteArray) (maxL : Nat) (ret : Option FieldType) (hh : List (Nat × Nat × Nat × Nat)) (ws : List Cond) (rm : Room) (mc ms n : Nat) : Prop :=
  (rm.cells = mc ∧ rm.slots = ms ∧ rm.frames + 1 ≤ R.frames ∧ 8 + (maxL + 11) + rm.locals ≤ R.locals ∧ (∀ w ∈ ws, ∀ (a' : Array Value) (U : State), s.WarmedH U.vm → w.before a' U = true) ∧ Cond.codeWith y bytes maxL ret hh ∈ ws) ∧
  (Cond.codeWith y bytes maxL ret hh).before args s = true ∧ (Cond.initialized y.cls).before args s = true ∧ (y.cls ≠ "java/lang/invoke/MethodHandle" ∧ y.cls ≠ "java/lang/invoke/VarHandle") ∧
  (∀ sig, parseMethodDescriptor y.desc = some sig → n = sig.parameters.length) ∧ (Cond.methodLink own index y).before args s = true ∧ (Cond.static y).before args s = true
theorem vx_cwSW {own : String} {index maxL mc ms : Nat} {y : MethodName} {bytes : ByteArray} {ret : Option FieldType} {hh : List (Nat × Nat × Nat × Nat)} {Ts ws ws' : List Cond} {rm : Room} (n : Nat) (ht : ∀ w ∈ Ts, w.before args s = true) (hT : GoodIn Ts (va_wsS own index y ws)) (hw : ws = Cond.codeWith y bytes maxL ret hh :: ws') (hrc : rm.cells = mc) (hrs : rm.slots = ms)
    (hd : y.cls ≠ "java/lang/invoke/MethodHandle" ∧ y.cls ≠ "java/lang/invoke/VarHandle" ∧ (parseMethodDescriptor y.desc).map (fun d => d.parameters.length) = some n) (hR : rm.frames + 1 ≤ R.frames ∧ 8 + (maxL + 11) + rm.locals ≤ R.locals) :
    vx_CSW R s args own index y bytes maxL ret hh ws rm mc ms n := by
  have ok : ∀ w ∈ va_wsS own index y ws, w.before args s = true := fun w h => ht w (hT w h).1
  have hG : GoodIn Ts ws := fun w h => hT w (by unfold va_wsS; exact List.mem_append_right _ h)
  have hc : Cond.codeWith y bytes maxL ret hh ∈ ws := by rw [hw]; exact List.mem_cons_self
  refine ⟨⟨hrc, hrs, hR.1, hR.2, pay_in ht hG, hc⟩, ht _ (hG _ hc).1, ok _ (by simp [va_wsS]), ⟨hd.1, hd.2.1⟩, fun sig h => ?_, ok _ (by simp [va_wsS]), ok _ (by simp [va_wsS])⟩
  have h2 := hd.2.2
  rw [h] at h2
  exact (Option.some.inj h2).symm
theorem vx_callSW (X : Stand p l e R s m args below meth c T locs cells slots) (hexec : p.tables.exec = Jvm.exec) {own : String} {index : Nat} {y : MethodName} {bytes : ByteArray} {maxL : Nat} {ret : Option FieldType} {hh : List (Nat × Nat × Nat × Nat)}
    (hown : s.vm.findClass own = some m.cls) (hlink : (Cond.methodLink own index y).before args s = true) (hstat : (Cond.static y).before args s = true) (hinit : (Cond.initialized y.cls).before args s = true)
    (hcode : (Cond.codeWith y bytes maxL ret hh).before args s = true) (hy : y.cls ≠ "java/lang/invoke/MethodHandle" ∧ y.cls ≠ "java/lang/invoke/VarHandle")
    {W9 : Nat} {Pre : Pt → Array Value → Prop} {Post : Pt → Array Value → Option Value → Pt → Prop} (hK : Back l R p e below s args y 3 W9 Pre Post)
    {g : JFrame} (hg : g.method = m) (hsize : g.locals.size = c.maxLocals) {argsL rest : List Value} (hlen : ∀ sig, parseMethodDescriptor y.desc = some sig → argsL.length = sig.parameters.length)
    (hstack : g.stack = argsL.reverse ++ rest) (hW : 2 * g.monitorRoom + (rest.map fun v => v.category).sum ≤ W9) (hdg : decode c.code g.pc = .ok (.invokestatic index, 3))
    (hpre : ∀ vm₁, s.WarmedH vm₁ → Pre ⟨T.setVm vm₁, locs, cells, slots⟩ argsL.toArray) :
    ∃ (v : Option Value) (vm₁ : Vm) (B : Pt), s.WarmedH vm₁ ∧ Stand p l e R s m args below meth c B.U B.locs B.cells B.slots ∧ Post ⟨T.setVm vm₁, locs, cells, slots⟩ argsL.toArray v B ∧
      ∀ target, Steps p.tables e below (B.U.setTop { g with pc := g.pc + 3, stack := v.toList ++ rest }) target → Steps p.tables e below (T.setTop g) target := by
  obtain ⟨mk, methM, cM, hnamed, hmethM, -, -, -, -, -, -, hsigM⟩ := Cond.codeWith_spec hcode
  have hstatic : methM.isStatic = true := Cond.static_spec hnamed hmethM hstat
  obtain ⟨kP, hkP, -⟩ := className_of_methodNamed hnamed
  have hinitP : kP.init = .initialized := Cond.initialized_spec (findClass_of_methodNamed hnamed) hkP hinit
  obtain ⟨vm₁, X₁, hstep₁⟩ := X.invokestatic hexec hown hlink hnamed hmethM hstatic hkP hinitP hy (g := g) hg (argsL := argsL) (rest := rest) (hlen _ hsigM) hstack hdg
  obtain ⟨v, B, X', hpost, hsteps⟩ := hK m meth c ⟨T.setVm vm₁, locs, cells, slots⟩ { g with stack := rest } (.invokestatic index) mk argsL.toArray X₁ hg hsize hdg hW (X₁.named hnamed) (hpre vm₁ X₁.warmed)
  exact ⟨v, vm₁, B, X₁.warmed, X', hpost, fun target h => hstep₁ _ fun acts => by rw [doInvoke_state]; exact hsteps.trans h⟩
theorem vx_runSW {y : MethodName} {bytes cc : ByteArray} {maxL nL mc ms n index : Nat} {ret : Option FieldType} {hh : List (Nat × Nat × Nat × Nat)} {ws : List Cond} {rm : Room} {Pc : Array Value → State → Prop} {Qc : Array Value → State → Outcome → State → Prop} {free : Addr → Prop} {Ts : List Cond} {own : String} {As rest : List Value} {g : JFrame}
    (S : CallFix p m c cc nL s args Ts own) (hM : Met l y ws rm Pc Qc mc ms free) (cw : vx_CSW R s args own index y bytes maxL ret hh ws rm mc ms n) (hp : PreS s H Pc As)
    (hg : g.method = m) (hn : As.length = n) (hsize : g.locals.size = nL) (hstack : g.stack = As.reverse ++ rest) (hW : 2 * g.monitorRoom + (rest.map fun v => v.category).sum ≤ 8) (hdg : decode cc g.pc = .ok (.invokestatic index, 3)) (hf : cells + mc ≤ R.cells ∧ slots + ms ≤ R.slots) :
    va_Run p l e R s m args below meth c H locs cells slots mc ms g rest (Qc As.toArray) (free) := by
  obtain ⟨⟨hrc, hrs, hfr, hlo, hws, hcw⟩, hcode, hini, hy, hlen, hl, hstt⟩ := cw
  have hK : Back l R p e below s args y 3 8 (PreOf R mc ms Pc) (PostOf Qc mc ms free) := va_backW (hh := hh) (bytes := bytes) (maxL := maxL) (ret := ret) hM hp.1 hrc hrs hfr hlo hws hcw (fun a' U hW => word_at hW (Or.inl (by first | rfl | simp [Cond.onTables, Cond.keeps, Cond.steady])) hini)
  obtain ⟨hx, hb, hml, ho, -⟩ := S
  intro T hT X
  obtain ⟨v, vm₁, ⟨U', l2, c2, s2⟩, hW₁, X', ⟨g', mk, t, L, e1, e2, hq, h1, hL, h2, h3⟩, st⟩ := vx_callSW X hx (hh := hh) (bytes := bytes) (maxL := maxL) (ret := ret) ho hl hstt hini hcode hy hK hg (hsize.trans hml.symm) (argsL := As) (rest := rest) (fun sig h => hn.trans (hlen sig h)) hstack hW (by rw [hb]; exact hdg)
    (fun vm₁ hW₁ => ⟨hf.1, hf.2, hp.2 (T.setVm vm₁) hT hW₁⟩)
  dsimp only [Pt.U, Pt.locs, Pt.cells, Pt.slots] at X' e1 e2 h1 h2 h3 st
  subst h1; subst h2; subst h3
  exact ⟨v, (T.setVm vm₁).calling g' mk As.toArray, t, U', L, hT, X', hL, e1, e2, hq, st⟩
/-- not caught here, past rows that name other classes: it goes on to the caller -/
theorem vx_outP {p : Program} {l : Launch} {e : Env} {R : Room} {s : State} {m : MethodId} {args : Array Value} {below : List Frame} {meth : Method} {c : Code} {H : Heap} {locs : List Loc} {cells slots : Nat} {free : Addr → Prop} {ls : Array Slot} {rest : List Value} {Qc : Array Value → State → Outcome → State → Prop} {XC : String → State → State → Prop}
    {pc : Nat} {own E : String} {ce : Cell} {q : Addr} {mc ms : Nat} (hown : s.vm.findClass own = some m.cls) (hlocks : meth.locks = false)
    (hpass : ∀ z ∈ c.exceptionTable.toList, covers z pc = false ∨ (z.catchType ≠ 0 ∧ ∃ nm : String, (Cond.classLink own z.catchType nm).before args s = true ∧ va_Nc E nm s)) (hcell : H[q]? = some ce) (hv : ce.vm = .none) (hcl : s.vm.findClass E = some ce.cls)
    (hx : ∀ t : State, t.heap = H → s.vm.Alike t.vm → XC E s t) (hf : ∀ z ∈ locs, free z.base) (hc : cells ≤ mc) (hs : slots ≤ ms) :
    vx_W p l e R s m args below meth c H locs cells slots (vx_MQ below Qc XC args s mc ms free) (F0 m pc ls rest) q := by
  intro T hT X
  have hpl : e.platform.magicAccessors = ({} : Platform).magicAccessors := by rw [X.admits.platform]
  obtain ⟨vm', hW', X', st⟩ := X.outThrough hlocks q (g := F0 m pc ls rest) rfl rfl rfl (cell := ce) (by rw [hT]; exact hcell) (by rw [hv]; rfl)
    (by obtain ⟨k9, h9, -⟩ := Vm.findClass_spec hcl; exact ⟨k9, h9⟩) (fun z hz => by
      rcases hpass z hz with h | ⟨hz0, nm, hl1, hn1⟩
      · exact Or.inl h
      · obtain ⟨c6, hc6, hcl6⟩ := Cond.classLink_spec hown hl1 e.platform hpl
        obtain ⟨a8, b8, h1, h2, h3⟩ := hn1
        cases Option.some.inj (h1.symm.trans hcl)
        cases Option.some.inj (h2.symm.trans hc6)
        exact Or.inr ⟨hz0, _, hcl6, h3⟩)
  obtain ⟨g₀, hfr⟩ := X'.frames_eq
  have hcell9 : ((T.setVm vm').setFrames (.throwing q :: below)).heap[q]? = some ce := by
    show T.heap[q]? = some ce
    rw [hT]; exact hcell
  have hend : Ended ((T.setVm vm').setFrames (.throwing q :: below)) below (.threw q) := State.frames_setFrames _ (State.cur_lt_of_frames hfr)
  refine ⟨(T.setVm vm').setFrames (.throwing q :: below), ?_, .threw q, X'.here.running, hend, Or.inr ⟨q, rfl, E, ce, locs, hx _ hT (X'.ends _).1.alike, hcell9, hv, hcl, (X'.ends _).1, (X'.ends _).2.mono hc hs, hf⟩⟩
  rw [X.pushThrowing_eq]
  exact st
/-- a thing of a world lies in the heap -/
theorem vx_lt {D : va_G} {cl : List vw_C} {ws : va_W} {H1 : Heap} (h : va_P D cl ws H1) {k : Nat} {q : Nat × va_E} (hk : ws[k]? = some q) : q.1 < H1.size := (h k q hk).lt
end VXS
/-! ===== END ===== -/
/-! ===== BEGIN methods with a table of their own: called by a name, returning or throwing ===== -/
section VXH
/-! vx_backW, vx_callVX, vx_callSX, vx_callVW, vx_runVW, vx_runVX, vx_runSX, vx_ofWH follow the same proofs as their sisters above (Free/Laws.lean, Shelf42/LK1.lean); vx_outP calls Shelf42/NT130.lean (outThrough). -/
section
variable {l : Launch} {R : Room} {p : Program} {e : Env} {below : List Frame} {s : State} {sargs : Array Value} {y : MethodName} {len W9 : Nat}
theorem vx_backW {ws : List Cond} {rm : Room} {Pc : Array Value → State → Prop} {Qc : Array Value → State → Outcome → State → Prop} {XC : String → State → State → Prop} {mc ms : Nat} {free : Addr → Prop} {bytes : ByteArray} {maxL : Nat} {ret : Option FieldType} {hh : List (Nat × Nat × Nat × Nat)}
    (hM : vx_Met l y ws rm Pc Qc XC mc ms free) (hblind : FrameBlind Pc) (hrc : rm.cells = mc) (hrs : rm.slots = ms)
    (hframes : rm.frames + 1 ≤ R.frames) (hlocals : W9 + (maxL + 11) + rm.locals ≤ R.locals)
    (hws : ∀ w ∈ ws, ∀ a' U, s.WarmedH U.vm → w.before a' U = true) (hcode : Cond.codeWith y bytes maxL ret hh ∈ ws) (hinit : ∀ a' U, s.WarmedH U.vm → (Cond.initialized y.cls).before a' U = true) :
    vx_Back l R p e below s sargs y len W9 (PreOf R mc ms Pc) (PostOf Qc mc ms free) (vx_Post XC mc ms free) := by
  intro m meth c A g ig mk a X hg hsize hdg hW hn hp
  have h1 : (headSpec ws rm).pre.before a A.U = true := atoms_intro fun w hw => hws w hw _ _ X.warmed
  have h2 : (Cond.codeWith y bytes maxL ret hh).before a A.U = true := hws _ hcode _ _ X.warmed
  have h3 : (Cond.initialized y.cls).before a A.U = true := hinit _ _ X.warmed
  have h4 : A.cells + (headSpec ws rm).room.cells ≤ R.cells := by rw [show (headSpec ws rm).room.cells = mc from hrc]; exact hp.1
  have h5 : A.slots + (headSpec ws rm).room.slots ≤ R.slots := by rw [show (headSpec ws rm).room.slots = ms from hrs]; exact hp.2.1
  have hPc : Pc a (A.U.calling g mk a) := hblind _ _ _ _ hp.2.2
  obtain ⟨U, Ls, c0, s0⟩ := A
  dsimp only [Pt.U, Pt.locs, Pt.cells, Pt.slots] at h1 h2 h3 h4 h5 X hn hPc ⊢
  obtain ⟨m9, methY, cY, hn9, hmY, hcY, -, hlY, -⟩ := Cond.codeWith_spec h2
  cases Option.some.inj (hn9.symm.trans hn)
  obtain ⟨kY, hkY, -⟩ := className_of_methodNamed hn
  have hinitY : kY.init = .initialized := Cond.initialized_spec (findClass_of_methodNamed hn) hkY h3
  have h : At U g.method c below := by rw [hg]; exact X.here
  have hlocals9 : W9 + (maxL + 11) + (headSpec ws rm).room.locals ≤ R.locals := hlocals
  have happ : (headSpec ws rm).appliesLoose y e.platform (U.calling g mk a) = true :=
    Spec.appliesLoose_calling (g := g) h hdg hn hkY hinitY
      (X.room_calling (g := g) (R' := (headSpec ws rm).room) hsize hmY hcY hframes (by rw [hlY]; omega) h4 h5) h1
  obtain ⟨mid, hmid⟩ := h.above
  have hfr : (U.setTop g).frames = (.java g :: mid) ++ below := by rw [State.frames_setTop' g h.top, hmid]; rfl
  obtain ⟨o, s₂, hsteps, -, hend, hq⟩ := Steps.callFree hM p X.admits X.cas X.clock (acts := []) hfr happ hPc trivial
  have hq' : vx_Q Qc XC mc ms free a (U.calling g mk a) o s₂ := hq
  rw [State.frames_setTop' g h.top] at hend
  obtain ⟨g₀, hg0⟩ := Option.isSome_iff_exists.mp h.top
  obtain ⟨r, hr⟩ := State.topJava?_eq_some.mp hg0
  have hr' : (({ U with heap := s₂.heap, slotsUsed := s₂.slotsUsed } : State).setVm s₂.vm).frames = .java g₀ :: r := hr
  rcases hq' with ⟨hqc, L, hfe, hL⟩ | ⟨q, rfl, E, ce, L, hx, hce, hcv, hcl, hW₂, hsm, hL⟩
  · obtain ⟨⟨v, rfl⟩, hW₂, e2, q2, q3, q4, q5, q6⟩ := id hfe
    have e3 : s₂ = ({ (U.calling g mk a).setFrames s₂.frames with heap := s₂.heap, slotsUsed := s₂.slotsUsed } : State).setVm s₂.vm := by
      have : s₂ = ({ s₂ with vm := (U.calling g mk a).vm } : State).setVm s₂.vm := rfl
      rw [e2] at this
      exact this
    obtain ⟨c₂, i₂, len₂, hc₂, hd₂, hf₂⟩ := hend
    have hW' : U.WarmedH s₂.vm := hW₂
    have hcc : c₂ = c := by
      have h1 : s₂.code? g.method = U.code? g.method := by
        rw [State.code?_eq, State.code?_eq, hW'.alike.method?]
      exact Option.some.inj (hc₂.symm.trans (h1.trans h.code))
    subst hcc
    have hlen : len₂ = len := by rw [hdg] at hd₂; cases hd₂; rfl
    subst hlen
    have hs₂ : s₂ = (({ U with heap := s₂.heap, slotsUsed := s₂.slotsUsed } : State).setVm s₂.vm).setTop { g with pc := g.pc + len₂, stack := v.toList ++ g.stack } := by
      refine e3.trans ?_
      rw [hf₂, State.calling_eq h.top, State.setFrames_setFrames, State.setTop_of_frames _ hr', hr]
      rfl
    have hsame : U.sameButNew ({ U with heap := s₂.heap, slotsUsed := s₂.slotsUsed } : State) L mc ms := by
      refine ⟨?_, q2, q3, q4, q5, q6⟩
      obtain ⟨t, ht, -⟩ := State.frames_cons hr
      show ({ U with heap := s₂.heap, slotsUsed := s₂.slotsUsed } : State) = { U.setFrames U.frames with heap := s₂.heap, slotsUsed := s₂.slotsUsed }
      rw [State.setFrames_self ht]
    subst hg
    refine Or.inl ⟨v, ⟨(({ U with heap := s₂.heap, slotsUsed := s₂.slotsUsed } : State).setVm s₂.vm), Ls ++ L, c0 + mc, s0 + ms⟩,
      ⟨X.admits, X.cas, X.clock, X.frames, X.room, X.hears, X.method, X.code, (X.here.setHeapUsed s₂.heap s₂.slotsUsed).setVm hW'.alike, X.tail, State.WarmedH.trans X.warmed hW', X.limits, X.bytes, X.same.trans (hsame.setVm s.vm)⟩,
      ⟨g, mk, s₂, L, rfl, rfl, hqc, rfl, hL, rfl, rfl⟩, ?_⟩
    show Steps p.tables e below _ ((({ U with heap := s₂.heap, slotsUsed := s₂.slotsUsed } : State).setVm s₂.vm).setTop { g with pc := g.pc + len₂, stack := v.toList ++ g.stack })
    rw [← hs₂]
    exact hsteps
  · obtain ⟨e2, q2, q3, q4, q5, q6⟩ := id hsm
    have e3 : s₂ = ({ (U.calling g mk a).setFrames s₂.frames with heap := s₂.heap, slotsUsed := s₂.slotsUsed } : State).setVm s₂.vm := by
      have : s₂ = ({ s₂ with vm := (U.calling g mk a).vm } : State).setVm s₂.vm := rfl
      rw [e2] at this
      exact this
    have hf₂ : s₂.frames = .throwing q :: .java g :: U.frames.tail := hend
    have hW' : U.WarmedH s₂.vm := hW₂
    have hs₂ : s₂ = ((({ U with heap := s₂.heap, slotsUsed := s₂.slotsUsed } : State).setVm s₂.vm).setTop g).pushFrame (.throwing q) := by
      refine e3.trans ?_
      rw [hf₂, State.calling_eq h.top, State.setFrames_setFrames, State.pushFrame, State.frames_setTop _ hr', State.setTop_of_frames _ hr', State.setFrames_setFrames, hr]
      rfl
    have hsame : U.sameButNew ({ U with heap := s₂.heap, slotsUsed := s₂.slotsUsed } : State) L mc ms := by
      refine ⟨?_, q2, q3, q4, q5, q6⟩
      obtain ⟨t, ht, -⟩ := State.frames_cons hr
      show ({ U with heap := s₂.heap, slotsUsed := s₂.slotsUsed } : State) = { U.setFrames U.frames with heap := s₂.heap, slotsUsed := s₂.slotsUsed }
      rw [State.setFrames_self ht]
    subst hg
    refine Or.inr ⟨q, ⟨(({ U with heap := s₂.heap, slotsUsed := s₂.slotsUsed } : State).setVm s₂.vm), Ls ++ L, c0 + mc, s0 + ms⟩,
      ⟨X.admits, X.cas, X.clock, X.frames, X.room, X.hears, X.method, X.code, (X.here.setHeapUsed s₂.heap s₂.slotsUsed).setVm hW'.alike, X.tail, State.WarmedH.trans X.warmed hW', X.limits, X.bytes, X.same.trans (hsame.setVm s.vm)⟩,
      ⟨g, mk, s₂, L, E, ce, rfl, rfl, hx, hce, hcv, hcl, rfl, hL, rfl, rfl⟩, ?_⟩
    show Steps p.tables e below _ (((({ U with heap := s₂.heap, slotsUsed := s₂.slotsUsed } : State).setVm s₂.vm).setTop g).pushFrame (.throwing q))
    rw [← hs₂]
    exact hsteps
end
variable {p : Program} {l : Launch} {e : Env} {R : Room} {s : State} {m : MethodId} {args : Array Value} {below : List Frame} {meth : Method} {c : Code} {T : State} {H : Heap} {locs : List Loc} {cells slots : Nat}
theorem vx_callVX (X : Stand p l e R s m args below meth c T locs cells slots) (hexec : p.tables.exec = Jvm.exec) {own C : String} {index : Nat} {y : MethodName} {bytes : ByteArray} {maxL : Nat} {ret : Option FieldType} {hh : List (Nat × Nat × Nat × Nat)}
    (hown : s.vm.findClass own = some m.cls) (hlink : (Cond.methodLink own index y).before args s = true) (hinst : (Cond.instanceMethod y).before args s = true) (hsel : (Cond.selects C y y).before args s = true)
    (hcode : (Cond.codeWith y bytes maxL ret hh).before args s = true) (hy : y.cls ≠ "java/lang/invoke/MethodHandle" ∧ y.cls ≠ "java/lang/invoke/VarHandle")
    {W9 : Nat} {Pre : Pt → Array Value → Prop} {Post : Pt → Array Value → Option Value → Pt → Prop} {PostX : Pt → Array Value → Addr → Pt → Prop} (hK : vx_Back l R p e below s args y 3 W9 Pre Post PostX)
    {b : Addr} {cellB : Cell} (hcell : T.heap[b]? = some cellB) (hobj : cellB.vm.isStatics = false) (hcls : s.vm.findClass C = some cellB.cls)
    {g : JFrame} (hg : g.method = m) (hsize : g.locals.size = c.maxLocals) {argsL rest : List Value} (hlen : ∀ sig, parseMethodDescriptor y.desc = some sig → argsL.length = sig.parameters.length)
    (hstack : g.stack = argsL.reverse ++ .ref b :: rest) (hW : 2 * g.monitorRoom + (rest.map fun v => v.category).sum ≤ W9) (hdg : decode c.code g.pc = .ok (.invokevirtual index, 3))
    (hpre : ∀ vm₁, s.WarmedH vm₁ → Pre ⟨T.setVm vm₁, locs, cells, slots⟩ (Value.ref b :: argsL).toArray) :
    (∃ (v : Option Value) (vm₁ : Vm) (B : Pt), s.WarmedH vm₁ ∧ Stand p l e R s m args below meth c B.U B.locs B.cells B.slots ∧ Post ⟨T.setVm vm₁, locs, cells, slots⟩ (Value.ref b :: argsL).toArray v B ∧
      ∀ target, Steps p.tables e below (B.U.setTop { g with pc := g.pc + 3, stack := v.toList ++ rest }) target → Steps p.tables e below (T.setTop g) target) ∨
    (∃ (q : Addr) (vm₁ : Vm) (B : Pt), s.WarmedH vm₁ ∧ Stand p l e R s m args below meth c B.U B.locs B.cells B.slots ∧ PostX ⟨T.setVm vm₁, locs, cells, slots⟩ (Value.ref b :: argsL).toArray q B ∧
      Steps p.tables e below (T.setTop g) ((B.U.setTop { g with stack := rest }).pushFrame (.throwing q))) := by
  obtain ⟨mk, methM, hnamed, hmethM, hstM, habM⟩ := Cond.instanceMethod_spec hinst
  obtain ⟨m8, methM', cM, hn8, hmethM', -, -, -, -, -, -, hsigM⟩ := Cond.codeWith_spec hcode
  cases Option.some.inj (hn8.symm.trans hnamed)
  cases hmethM.symm.trans hmethM'
  obtain ⟨c2, r2, m2, q1, q2, q3, q4, kP, hkP, hkPi⟩ := Cond.selects_spec hsel
  cases hcls.symm.trans q1
  cases (State.methodFound?_of_named hnamed hy).symm.trans q2
  cases hnamed.symm.trans q3
  have hselP : selectMethod e.platform s.vm cellB.cls mk = .method mk := by rw [Launch.admits_selectMethod X.admits]; exact q4
  obtain ⟨vm₁, X₁, hstep₁⟩ := X.invokevirtual hexec hown hlink hnamed hmethM hstM hkP hkPi hy (a := b) (cell := cellB) hcell
    (fun z h => by rw [h] at hobj; cases hobj) hselP hmethM habM hkP hkPi (g := g) hg (argsL := argsL) (rest := rest) (hlen _ hsigM) hstack hdg
  rcases hK m meth c ⟨T.setVm vm₁, locs, cells, slots⟩ { g with stack := rest } (.invokevirtual index) mk (Value.ref b :: argsL).toArray X₁ hg hsize hdg hW (X₁.named hnamed) (hpre vm₁ X₁.warmed) with ⟨v, B, X', hpost, hsteps⟩ | ⟨q, B, X', hpost, hsteps⟩
  · exact Or.inl ⟨v, vm₁, B, X₁.warmed, X', hpost, fun target h => hstep₁ _ fun acts => by rw [doInvoke_state]; exact hsteps.trans h⟩
  · exact Or.inr ⟨q, vm₁, B, X₁.warmed, X', hpost, hstep₁ _ fun acts => by rw [doInvoke_state]; exact hsteps⟩
theorem vx_callSX (X : Stand p l e R s m args below meth c T locs cells slots) (hexec : p.tables.exec = Jvm.exec) {own : String} {index : Nat} {y : MethodName} {bytes : ByteArray} {maxL : Nat} {ret : Option FieldType} {hh : List (Nat × Nat × Nat × Nat)}
    (hown : s.vm.findClass own = some m.cls) (hlink : (Cond.methodLink own index y).before args s = true) (hstat : (Cond.static y).before args s = true) (hinit : (Cond.initialized y.cls).before args s = true)
    (hcode : (Cond.codeWith y bytes maxL ret hh).before args s = true) (hy : y.cls ≠ "java/lang/invoke/MethodHandle" ∧ y.cls ≠ "java/lang/invoke/VarHandle")
    {W9 : Nat} {Pre : Pt → Array Value → Prop} {Post : Pt → Array Value → Option Value → Pt → Prop} {PostX : Pt → Array Value → Addr → Pt → Prop} (hK : vx_Back l R p e below s args y 3 W9 Pre Post PostX)
    {g : JFrame} (hg : g.method = m) (hsize : g.locals.size = c.maxLocals) {argsL rest : List Value} (hlen : ∀ sig, parseMethodDescriptor y.desc = some sig → argsL.length = sig.parameters.length)
    (hstack : g.stack = argsL.reverse ++ rest) (hW : 2 * g.monitorRoom + (rest.map fun v => v.category).sum ≤ W9) (hdg : decode c.code g.pc = .ok (.invokestatic index, 3))
    (hpre : ∀ vm₁, s.WarmedH vm₁ → Pre ⟨T.setVm vm₁, locs, cells, slots⟩ argsL.toArray) :
    (∃ (v : Option Value) (vm₁ : Vm) (B : Pt), s.WarmedH vm₁ ∧ Stand p l e R s m args below meth c B.U B.locs B.cells B.slots ∧ Post ⟨T.setVm vm₁, locs, cells, slots⟩ argsL.toArray v B ∧
      ∀ target, Steps p.tables e below (B.U.setTop { g with pc := g.pc + 3, stack := v.toList ++ rest }) target → Steps p.tables e below (T.setTop g) target) ∨
    (∃ (q : Addr) (vm₁ : Vm) (B : Pt), s.WarmedH vm₁ ∧ Stand p l e R s m args below meth c B.U B.locs B.cells B.slots ∧ PostX ⟨T.setVm vm₁, locs, cells, slots⟩ argsL.toArray q B ∧
      Steps p.tables e below (T.setTop g) ((B.U.setTop { g with stack := rest }).pushFrame (.throwing q))) := by
  obtain ⟨mk, methM, cM, hnamed, hmethM, -, -, -, -, -, -, hsigM⟩ := Cond.codeWith_spec hcode
  have hstatic : methM.isStatic = true := Cond.static_spec hnamed hmethM hstat
  obtain ⟨kP, hkP, -⟩ := className_of_methodNamed hnamed
  have hinitP : kP.init = .initialized := Cond.initialized_spec (findClass_of_methodNamed hnamed) hkP hinit
  obtain ⟨vm₁, X₁, hstep₁⟩ := X.invokestatic hexec hown hlink hnamed hmethM hstatic hkP hinitP hy (g := g) hg (argsL := argsL) (rest := rest) (hlen _ hsigM) hstack hdg
  rcases hK m meth c ⟨T.setVm vm₁, locs, cells, slots⟩ { g with stack := rest } (.invokestatic index) mk argsL.toArray X₁ hg hsize hdg hW (X₁.named hnamed) (hpre vm₁ X₁.warmed) with ⟨v, B, X', hpost, hsteps⟩ | ⟨q, B, X', hpost, hsteps⟩
  · exact Or.inl ⟨v, vm₁, B, X₁.warmed, X', hpost, fun target h => hstep₁ _ fun acts => by rw [doInvoke_state]; exact hsteps.trans h⟩
  · exact Or.inr ⟨q, vm₁, B, X₁.warmed, X', hpost, hstep₁ _ fun acts => by rw [doInvoke_state]; exact hsteps⟩
theorem vx_callVW (X : Stand p l e R s m args below meth c T locs cells slots) (hexec : p.tables.exec = Jvm.exec) {own C : String} {index : Nat} {y : MethodName} {bytes : ByteArray} {maxL : Nat} {ret : Option FieldType} {hh : List (Nat × Nat × Nat × Nat)}
    (hown : s.vm.findClass own = some m.cls) (hlink : (Cond.methodLink own index y).before args s = true) (hinst : (Cond.instanceMethod y).before args s = true) (hsel : (Cond.selects C y y).before args s = true)
    (hcode : (Cond.codeWith y bytes maxL ret hh).before args s = true) (hy : y.cls ≠ "java/lang/invoke/MethodHandle" ∧ y.cls ≠ "java/lang/invoke/VarHandle")
    {W9 : Nat} {Pre : Pt → Array Value → Prop} {Post : Pt → Array Value → Option Value → Pt → Prop} (hK : Back l R p e below s args y 3 W9 Pre Post)
    {b : Addr} {cellB : Cell} (hcell : T.heap[b]? = some cellB) (hobj : cellB.vm.isStatics = false) (hcls : s.vm.findClass C = some cellB.cls)
    {g : JFrame} (hg : g.method = m) (hsize : g.locals.size = c.maxLocals) {argsL rest : List Value} (hlen : ∀ sig, parseMethodDescriptor y.desc = some sig → argsL.length = sig.parameters.length)
    (hstack : g.stack = argsL.reverse ++ .ref b :: rest) (hW : 2 * g.monitorRoom + (rest.map fun v => v.category).sum ≤ W9) (hdg : decode c.code g.pc = .ok (.invokevirtual index, 3))
    (hpre : ∀ vm₁, s.WarmedH vm₁ → Pre ⟨T.setVm vm₁, locs, cells, slots⟩ (Value.ref b :: argsL).toArray) :
    ∃ (v : Option Value) (vm₁ : Vm) (B : Pt), s.WarmedH vm₁ ∧ Stand p l e R s m args below meth c B.U B.locs B.cells B.slots ∧ Post ⟨T.setVm vm₁, locs, cells, slots⟩ (Value.ref b :: argsL).toArray v B ∧
      ∀ target, Steps p.tables e below (B.U.setTop { g with pc := g.pc + 3, stack := v.toList ++ rest }) target → Steps p.tables e below (T.setTop g) target := by
  obtain ⟨mk, methM, hnamed, hmethM, hstM, habM⟩ := Cond.instanceMethod_spec hinst
  obtain ⟨m8, methM', cM, hn8, hmethM', -, -, -, -, -, -, hsigM⟩ := Cond.codeWith_spec hcode
  cases Option.some.inj (hn8.symm.trans hnamed)
  cases hmethM.symm.trans hmethM'
  obtain ⟨c2, r2, m2, q1, q2, q3, q4, kP, hkP, hkPi⟩ := Cond.selects_spec hsel
  cases hcls.symm.trans q1
  cases (State.methodFound?_of_named hnamed hy).symm.trans q2
  cases hnamed.symm.trans q3
  have hselP : selectMethod e.platform s.vm cellB.cls mk = .method mk := by rw [Launch.admits_selectMethod X.admits]; exact q4
  obtain ⟨vm₁, X₁, hstep₁⟩ := X.invokevirtual hexec hown hlink hnamed hmethM hstM hkP hkPi hy (a := b) (cell := cellB) hcell
    (fun z h => by rw [h] at hobj; cases hobj) hselP hmethM habM hkP hkPi (g := g) hg (argsL := argsL) (rest := rest) (hlen _ hsigM) hstack hdg
  obtain ⟨v, B, X', hpost, hsteps⟩ := hK m meth c ⟨T.setVm vm₁, locs, cells, slots⟩ { g with stack := rest } (.invokevirtual index) mk (Value.ref b :: argsL).toArray X₁ hg hsize hdg hW (X₁.named hnamed) (hpre vm₁ X₁.warmed)
  exact ⟨v, vm₁, B, X₁.warmed, X', hpost, fun target h => hstep₁ _ fun acts => by rw [doInvoke_state]; exact hsteps.trans h⟩
abbrev vx_CVW (R : Room) (s : State) (args : Array Value) (own C : String) (index : Nat) (y : MethodName) (bytes : ByteArray) (maxL : Nat) (ret : Option FieldType) (hh : List (Nat × Nat × Nat × Nat)) (ws : List Cond) (rm : Room) (mc ms n : Nat) : Prop :=
  (rm.cells = mc ∧ rm.slots = ms ∧ rm.frames + 1 ≤ R.frames ∧ 8 + (maxL + 11) + rm.locals ≤ R.locals ∧ (∀ w ∈ ws, ∀ (a' : Array Value) (U : State), s.WarmedH U.vm → w.before a' U = true) ∧ Cond.codeWith y bytes maxL ret hh ∈ ws) ∧
  (Cond.codeWith y bytes maxL ret hh).before args s = true ∧ (Cond.initialized y.cls).before args s = true ∧ (y.cls ≠ "java/lang/invoke/MethodHandle" ∧ y.cls ≠ "java/lang/invoke/VarHandle") ∧
  (∀ sig, parseMethodDescriptor y.desc = some sig → n = sig.parameters.length) ∧ (Cond.methodLink own index y).before args s = true ∧ (Cond.instanceMethod y).before args s = true ∧ (Cond.selects C y y).before args s = true
theorem vx_cwVW {own C : String} {index maxL mc ms : Nat} {y : MethodName} {bytes : ByteArray} {ret : Option FieldType} {hh : List (Nat × Nat × Nat × Nat)} {Ts ws ws' : List Cond} {rm : Room} (n : Nat) (ht : ∀ w ∈ Ts, w.before args s = true) (hT : GoodIn Ts (wsV own index C y ws)) (hw : ws = Cond.codeWith y bytes maxL ret hh :: ws') (hrc : rm.cells = mc) (hrs : rm.slots = ms)
    (hd : y.cls = C ∧ y.cls ≠ "java/lang/invoke/MethodHandle" ∧ y.cls ≠ "java/lang/invoke/VarHandle" ∧ (parseMethodDescriptor y.desc).map (fun d => d.parameters.length) = some n) (hR : rm.frames + 1 ≤ R.frames ∧ 8 + (maxL + 11) + rm.locals ≤ R.locals) :
    vx_CVW R s args own C index y bytes maxL ret hh ws rm mc ms n := by
  obtain ⟨hC, hd⟩ := hd
  subst hC
  have ok : ∀ w ∈ wsV own index y.cls y ws, w.before args s = true := fun w h => ht w (hT w h).1
  have hG : GoodIn Ts ws := fun w h => hT w (by unfold wsV; exact List.mem_append_right _ h)
  have hc : Cond.codeWith y bytes maxL ret hh ∈ ws := by rw [hw]; exact List.mem_cons_self
  refine ⟨⟨hrc, hrs, hR.1, hR.2, pay_in ht hG, hc⟩, ht _ (hG _ hc).1, ok _ (by simp [wsV]), ⟨hd.1, hd.2.1⟩, fun sig h => ?_, ok _ (by simp [wsV]), ok _ (by simp [wsV]), ok _ (by simp [wsV])⟩
  have h2 := hd.2.2
  rw [h] at h2
  exact (Option.some.inj h2).symm
theorem vx_runVW {y : MethodName} {bytes cc : ByteArray} {maxL nL mc ms n index : Nat} {ret : Option FieldType} {hh : List (Nat × Nat × Nat × Nat)} {ws : List Cond} {rm : Room} {Pc : Array Value → State → Prop} {Qc : Array Value → State → Outcome → State → Prop} {free : Addr → Prop} {Ts : List Cond} {own C : String} {b : Addr} {As rest : List Value} {g : JFrame}
    (S : CallFix p m c cc nL s args Ts own) (hM : Met l y ws rm Pc Qc mc ms free) (cw : vx_CVW R s args own C index y bytes maxL ret hh ws rm mc ms n) (hp : PreV s H C b Pc As)
    (hg : g.method = m) (hn : As.length = n) (hsize : g.locals.size = nL) (hstack : g.stack = As.reverse ++ .ref b :: rest) (hW : 2 * g.monitorRoom + (rest.map fun v => v.category).sum ≤ 8) (hdg : decode cc g.pc = .ok (.invokevirtual index, 3)) (hf : cells + mc ≤ R.cells ∧ slots + ms ≤ R.slots) :
    va_Run p l e R s m args below meth c H locs cells slots mc ms g rest (Qc (Value.ref b :: As).toArray) free := by
  obtain ⟨⟨hrc, hrs, hfr, hlo, hws, hcw⟩, hcode, hini, hy, hlen, hl, hin, hse⟩ := cw
  have hK : Back l R p e below s args y 3 8 (PreOf R mc ms Pc) (PostOf Qc mc ms free) := va_backW (hh := hh) (bytes := bytes) (maxL := maxL) (ret := ret) hM hp.1 hrc hrs hfr hlo hws hcw (fun a' U hW => word_at hW (Or.inl (by first | rfl | simp [Cond.onTables, Cond.keeps, Cond.steady])) hini)
  obtain ⟨hx, hb, hml, ho, -⟩ := S
  obtain ⟨-, ⟨cellB, hcB, hoB, hclB⟩, hPc⟩ := hp
  intro T hT X
  obtain ⟨v, vm₁, ⟨U', l2, c2, s2⟩, hW₁, X', ⟨g', mk, t, L, e1, e2, hq, h1, hL, h2, h3⟩, st⟩ := vx_callVW X hx (C := C) (hh := hh) (bytes := bytes) (maxL := maxL) (ret := ret) ho hl hin hse hcode hy hK (by rw [hT]; exact hcB) hoB hclB hg (hsize.trans hml.symm) (argsL := As) (rest := rest) (fun sig h => hn.trans (hlen sig h)) hstack hW (by rw [hb]; exact hdg)
    (fun vm₁ hW₁ => ⟨hf.1, hf.2, hPc (T.setVm vm₁) hT hW₁⟩)
  dsimp only [Pt.U, Pt.locs, Pt.cells, Pt.slots] at X' e1 e2 h1 h2 h3 st
  subst h1; subst h2; subst h3
  exact ⟨v, (T.setVm vm₁).calling g' mk (Value.ref b :: As).toArray, t, U', L, hT, X', hL, e1, e2, hq, st⟩
section
variable {y : MethodName} {bytes cc : ByteArray} {maxL nL mc ms n index : Nat} {ret : Option FieldType} {ws : List Cond} {rm : Room} {Pc : Array Value → State → Prop} {Qc : Array Value → State → Outcome → State → Prop} {XC : String → State → State → Prop} {free : Addr → Prop} {Ts : List Cond} {own C : String} {b : Addr} {As rest : List Value} {g : JFrame}
theorem vx_runVX {hh : List (Nat × Nat × Nat × Nat)} (S : CallFix p m c cc nL s args Ts own) (hM : vx_Met l y ws rm Pc Qc XC mc ms free) (cw : vx_CVW R s args own C index y bytes maxL ret hh ws rm mc ms n) (hp : PreV s H C b Pc As)
    (hg : g.method = m) (hn : As.length = n) (hsize : g.locals.size = nL) (hstack : g.stack = As.reverse ++ .ref b :: rest) (hW : 2 * g.monitorRoom + (rest.map fun v => v.category).sum ≤ 8) (hdg : decode cc g.pc = .ok (.invokevirtual index, 3)) (hf : cells + mc ≤ R.cells ∧ slots + ms ≤ R.slots) :
    vx_Run p l e R s m args below meth c H locs cells slots mc ms g rest (Qc (Value.ref b :: As).toArray) XC free := by
  obtain ⟨⟨hrc, hrs, hfr, hlo, hws, hcw⟩, hcode, hini, hy, hlen, hl, hin, hse⟩ := cw
  have hK : vx_Back l R p e below s args y 3 8 (PreOf R mc ms Pc) (PostOf Qc mc ms free) (vx_Post XC mc ms free) := vx_backW (hh := hh) (bytes := bytes) (maxL := maxL) (ret := ret) hM hp.1 hrc hrs hfr hlo hws hcw (fun a' U hW => word_at hW (Or.inl (by first | rfl | simp [Cond.onTables, Cond.keeps, Cond.steady])) hini)
  obtain ⟨hx, hb, hml, ho, -⟩ := S
  obtain ⟨-, ⟨cellB, hcB, hoB, hclB⟩, hPc⟩ := hp
  intro T hT X
  rcases vx_callVX X hx (C := C) (hh := hh) (bytes := bytes) (maxL := maxL) (ret := ret) ho hl hin hse hcode hy hK (by rw [hT]; exact hcB) hoB hclB hg (hsize.trans hml.symm) (argsL := As) (rest := rest) (fun sig h => hn.trans (hlen sig h)) hstack hW (by rw [hb]; exact hdg)
    (fun vm₁ hW₁ => ⟨hf.1, hf.2, hPc (T.setVm vm₁) hT hW₁⟩) with ⟨v, vm₁, ⟨U', l2, c2, s2⟩, hW₁, X', ⟨g', mk, t, L, e1, e2, hq, h1, hL, h2, h3⟩, st⟩ | ⟨q, vm₁, ⟨U', l2, c2, s2⟩, hW₁, X', ⟨g', mk, t, L, E, ce, e1, e2, hq, hce, hcv, hcl, h1, hL, h2, h3⟩, st⟩
  · dsimp only [Pt.U, Pt.locs, Pt.cells, Pt.slots] at X' e1 e2 h1 h2 h3 st
    subst h1; subst h2; subst h3
    exact Or.inl ⟨v, (T.setVm vm₁).calling g' mk (Value.ref b :: As).toArray, t, U', L, hT, X', hL, e1, e2, hq, st⟩
  · dsimp only [Pt.U, Pt.locs, Pt.cells, Pt.slots] at X' e1 e2 h1 h2 h3 st hcl
    subst h1; subst h2; subst h3
    exact Or.inr ⟨q, (T.setVm vm₁).calling g' mk (Value.ref b :: As).toArray, t, U', L, E, ce, hT, X', hL, e1, e2, hq, hce, hcv, vx_cls hW₁ hcl, st⟩
theorem vx_runSX {hh : List (Nat × Nat × Nat × Nat)} (S : CallFix p m c cc nL s args Ts own) (hM : vx_Met l y ws rm Pc Qc XC mc ms free) (cw : vx_CSW R s args own index y bytes maxL ret hh ws rm mc ms n) (hp : PreS s H Pc As)
    (hg : g.method = m) (hn : As.length = n) (hsize : g.locals.size = nL) (hstack : g.stack = As.reverse ++ rest) (hW : 2 * g.monitorRoom + (rest.map fun v => v.category).sum ≤ 8) (hdg : decode cc g.pc = .ok (.invokestatic index, 3)) (hf : cells + mc ≤ R.cells ∧ slots + ms ≤ R.slots) :
    vx_Run p l e R s m args below meth c H locs cells slots mc ms g rest (Qc As.toArray) XC free := by
  obtain ⟨⟨hrc, hrs, hfr, hlo, hws, hcw⟩, hcode, hini, hy, hlen, hl, hstt⟩ := cw
  have hK : vx_Back l R p e below s args y 3 8 (PreOf R mc ms Pc) (PostOf Qc mc ms free) (vx_Post XC mc ms free) := vx_backW (hh := hh) (bytes := bytes) (maxL := maxL) (ret := ret) hM hp.1 hrc hrs hfr hlo hws hcw (fun a' U hW => word_at hW (Or.inl (by first | rfl | simp [Cond.onTables, Cond.keeps, Cond.steady])) hini)
  obtain ⟨hx, hb, hml, ho, -⟩ := S
  intro T hT X
  rcases vx_callSX X hx (hh := hh) (bytes := bytes) (maxL := maxL) (ret := ret) ho hl hstt hini hcode hy hK hg (hsize.trans hml.symm) (argsL := As) (rest := rest) (fun sig h => hn.trans (hlen sig h)) hstack hW (by rw [hb]; exact hdg)
    (fun vm₁ hW₁ => ⟨hf.1, hf.2, hp.2 (T.setVm vm₁) hT hW₁⟩) with ⟨v, vm₁, ⟨U', l2, c2, s2⟩, hW₁, X', ⟨g', mk, t, L, e1, e2, hq, h1, hL, h2, h3⟩, st⟩ | ⟨q, vm₁, ⟨U', l2, c2, s2⟩, hW₁, X', ⟨g', mk, t, L, E, ce, e1, e2, hq, hce, hcv, hcl, h1, hL, h2, h3⟩, st⟩
  · dsimp only [Pt.U, Pt.locs, Pt.cells, Pt.slots] at X' e1 e2 h1 h2 h3 st
    subst h1; subst h2; subst h3
    exact Or.inl ⟨v, (T.setVm vm₁).calling g' mk As.toArray, t, U', L, hT, X', hL, e1, e2, hq, st⟩
  · dsimp only [Pt.U, Pt.locs, Pt.cells, Pt.slots] at X' e1 e2 h1 h2 h3 st hcl
    subst h1; subst h2; subst h3
    exact Or.inr ⟨q, (T.setVm vm₁).calling g' mk As.toArray, t, U', L, E, ce, hT, X', hL, e1, e2, hq, hce, hcv, vx_cls hW₁ hcl, st⟩
end
end VXH
theorem vx_ofWH {l : Launch} {y : MethodName} {ws ws' : List Cond} {rm : Room} {Pc : Array Value → State → Prop} {Qc : Array Value → State → Outcome → State → Prop} {XC : String → State → State → Prop} {mc ms : Nat} {free : Addr → Prop} {cc : ByteArray} {maxL : Nat} {ret : Option FieldType} {hh : List (Nat × Nat × Nat × Nat)}
    (hy : plainName y.cls = true) (hw : ws = Cond.codeWith y cc maxL ret hh :: ws')
    (body : ∀ p e s m args below meth c s₁, BodyLoose p l y (headSpec ws rm) cc maxL ret e s m args below meth c s₁ → c.maxLocals = maxL → Pc args s →
      W p l e (headSpec ws rm).room s m args below meth c s.heap [] 0 0 (vx_MQ below Qc XC args s mc ms free) (entryFrame m args maxL)) : vx_Met l y ws rm Pc Qc XC mc ms free := by
  refine MetFree.of_bodyS (code := cc) (maxLocals := maxL) (ret := ret) hy ?_ ?_
  · intro args s m h hn
    obtain ⟨m9, meth, c, hn9, h1, h2, h3, h4, -, h5, h6, -⟩ := Cond.codeWith_spec (atoms_spec (ws := ws) h _ (by rw [hw]; exact List.mem_cons_self))
    cases hn.symm.trans hn9
    exact ⟨meth, c, h1, h2, h3, h4, h5, h6⟩
  · intro p e s m args below meth c s₁ B hml hP _
    have hh0 : s₁.heap = s.heap := by rw [B.state]; rfl
    obtain ⟨t, a1, o, b1, b2, b3⟩ := body p e s m args below meth c s₁ B hml hP s₁ hh0 (Stand.of_body B)
    exact ⟨t, o, a1, b1, b2, b3⟩
/-! ===== END ===== -/

/-! ===== BEGIN what the machine throws by itself, no traces kept ===== -/
section VXM
set_option maxHeartbeats 1000000 in
/-- the machine throws cls with the message text, no traces kept: from its note over the frame g to 'throwing' over the same frame (follows the proofs of Stand.vmThrowsMessage, Shelf/KitTracedVmS.lean, and Stand.throwsMessageColdBareV, StandMessageColdV.lean, without the step out of the frame) -/
theorem vx_vmAt {p : Program} {l : Launch} {e : Env} {R : Room} {s : State} {m₀ : MethodId} {args : Array Value} {below : List Frame} {meth : Method} {c : Code} {W : State} {locs : List Loc} {cells slots : Nat}
    (X : Stand p l e R s m₀ args below meth c W locs cells slots) (hexec : p.tables.exec = Jvm.exec) (htr : e.platform.stackTraces = false) {cls : String} {names : List String} {text : String}
    (hcls : Bundle.fit cls = true) (hnames : ∀ n ∈ names, Bundle.fit n = true) (hsoe : (cls == "java/lang/StackOverflowError") = false) (hoom : (cls == "java/lang/OutOfMemoryError") = false)
    (h : ∀ a ∈ Bundle.messageArmAtoms cls names, a.before args s = true)
    (hlocs : ∀ x ∈ locs, ∀ cell, s.heap[x.base]? = some cell → cell.vm.isStatics = false)
    (htext : (text == notModelled) = false) (hlimit : ¬ (stringBytes (stringToUtf16 text)).size > e.platform.arrayLengthLimit) (hheap : ¬ (stringBytes (stringToUtf16 text)).size * componentBytes .byte > e.platform.maxHeapBytes)
    {g : JFrame} (hg : g.method = m₀) (hsize : g.locals.size = c.maxLocals)
    (hRframes : names.length + 4 < R.frames) (hRlocals : 2 * g.monitorRoom + (g.stack.map fun v => v.category).sum + 10240 ≤ R.locals) (hshort : 13 * names.length + 55 ≤ 10240)
    (hRcells : cells + 3 ≤ R.cells) (hRslots : slots + ((stringBytes (stringToUtf16 text)).size + 4 + 6) ≤ R.slots) (hlocks : meth.locks = false) :
    ∃ (S : State) (q : Addr) (ce : Cell), (∀ target, Steps p.tables e below ((S.setTop g).pushFrame (.throwing q)) target → Steps p.tables e below ((W.setTop g).pushFrame (.throwNew cls (some text) none)) target) ∧
      Stand p l e R s m₀ args below meth c S locs (cells + 3) (slots + ((stringBytes (stringToUtf16 text)).size + 4 + 6)) ∧ S.heap[q]? = some ce ∧ s.vm.findClass cls = some ce.cls ∧ ce.vm = .none := by
  have howns : e.platform.frameOwnsMonitors = true := by rw [X.admits.platform]
  have hfin : e.platform.finalization = false := by rw [X.admits.platform]
  have hpl : e.platform.magicAccessors = ({} : Platform).magicAccessors := by rw [X.admits.platform]
  have a : ∀ x, x ∈ Bundle.messageArmAtoms cls names → x.holds args s none s [] = true := fun x hx => h x hx
  obtain ⟨T, Z0, L, -, Y⟩ := ThrowableC.of_atoms (args := args) howns hfin hpl (fun x hx => h x (by simp [Bundle.messageArmAtoms, hx]))
  obtain ⟨Z, M, LZ, LM, hnZ⟩ := Init0T.ofS_atoms (args := args) hpl L Y (fun x hx => h x (by simp [Bundle.messageArmAtoms, hx]))
  obtain ⟨P1, Ps, hlen, L1, hL, hP1m, hlink1, hlink⟩ := Bundle.chainS (args := args) hpl hnZ names cls hcls hnames (fun x hx => h x (by simp [Bundle.messageArmAtoms, hx]))
  obtain ⟨Zs, LZs, hn4, hfitv, hfitc⟩ := StringT.of_atoms (args := args) (fun x hx => h x (by simp [Bundle.messageArmAtoms, hx]))
  have hfound : s.vm.findClass cls = some P1.m.cls := findClass_of_methodNamed hP1m
  obtain ⟨c1, kX, hc1, hk, hord, -, -, hn6⟩ := Cond.instantiable_spec (a (.instantiable cls 6) (by simp [Bundle.messageArmAtoms]))
  cases Option.some.inj (hc1.symm.trans hfound)
  have hinit := Cond.initialized_spec hfound hk (a (.initialized cls) (by simp [Bundle.messageArmAtoms]))
  have hctor : kX.findMethod "<init>" "(Ljava/lang/String;)V" = some P1.m.idx := findMethod_of_methodNamed hP1m hk
  have hsel0 : selectMethod e.platform s.vm P1.m.cls T.fill0 = .method T.fill0 := by
    obtain ⟨c2, r2, m2, q1, q2, q3, q4, -⟩ := Cond.selects_spec (a (.selects cls Bundle.tFill0 Bundle.tFill0) (by simp [Bundle.messageArmAtoms]))
    cases Option.some.inj (q1.symm.trans hfound)
    cases Option.some.inj (q2.symm.trans (State.methodFound?_of_named Y.fill0 (by decide)))
    cases Option.some.inj (q3.symm.trans Y.fill0)
    rw [Launch.admits_selectMethod X.admits]; exact q4
  have hselF : selectMethod e.platform s.vm P1.m.cls T.fill = .method T.fill := by
    obtain ⟨c2, r2, m2, q1, q2, q3, q4, -⟩ := Cond.selects_spec (a (.selects cls Bundle.tFill Bundle.tFill) (by simp [Bundle.messageArmAtoms]))
    cases Option.some.inj (q1.symm.trans hfound)
    cases Option.some.inj (q2.symm.trans (State.methodFound?_of_named Y.fill (by decide)))
    cases Option.some.inj (q3.symm.trans Y.fill)
    rw [Launch.admits_selectMethod X.admits]; exact q4
  obtain ⟨cellS0, hcS0, hiss⟩ := Y.statics
  obtain ⟨u0, hu0⟩ := Cond.staticRefV Y.unassigned L.unassignedStatic L.statics hcS0 hiss (a (.isRef (.static Bundle.tN "UNASSIGNED_STACK" Bundle.steD)) (by simp [Bundle.messageArmAtoms]))
  obtain ⟨sen, hsen⟩ := Cond.staticRefV Y.sentinel L.sentinelStatic L.statics hcS0 hiss (a (.isRef (.static Bundle.tN "SUPPRESSED_SENTINEL" Bundle.listD)) (by simp [Bundle.messageArmAtoms]))
  obtain ⟨ci198, i198, fB, hk198, hg198, ha198, hsB, -, hnB, htB, hffB⟩ := Cond.ownField (t := .object "java/lang/Object") Y.found L.cls (by decide +kernel) (a (.fieldLink Bundle.tN 198 Bundle.tN "backtrace" "Ljava/lang/Object;") (by simp [Bundle.messageArmAtoms])) (a (.lays Bundle.tN Bundle.tN "backtrace" "Ljava/lang/Object;") (by simp [Bundle.messageArmAtoms])) e.platform hpl
  obtain ⟨cellS, hcS', heS, -, hkeep⟩ := X.same.2.2.2.2.2 T.aS cellS0 hcS0
  have hcellS : W.heap[T.aS]? = some cellS := hcS'
  have hout' : ∀ i, (⟨T.aS, i⟩ : Loc) ∉ locs := fun i hmem => by
    have := hlocs _ hmem cellS0 hcS0
    rw [hiss] at this; cases this
  have hknownS : cellS.vm ≠ .unknown := by
    rw [heS]; intro hu
    rw [show cellS0.vm = .unknown from hu] at hiss
    cases hiss
  have hvU : cellS.slots[T.fUnassigned.slot]? = some u0.v := by rw [hkeep _ (hout' _)]; exact hu0
  have hvSen : cellS.slots[T.fSentinel.slot]? = some sen.v := by rw [hkeep _ (hout' _)]; exact hsen
  obtain ⟨iM, hffM⟩ := Y.msg
  obtain ⟨tyC, dC, hdC, hdnC⟩ := Cond.laysAt hfound hk Y.cause (a (.lays cls Bundle.tN "cause" "Ljava/lang/Throwable;") (by simp [Bundle.messageArmAtoms]))
  obtain ⟨tyS, dS, hdS, hdnS⟩ := Cond.laysAt hfound hk Y.stack (a (.lays cls Bundle.tN "stackTrace" Bundle.steD) (by simp [Bundle.messageArmAtoms]))
  obtain ⟨tyP, dP, hdP, hdnP⟩ := Cond.laysAt hfound hk Y.supp (a (.lays cls Bundle.tN "suppressedExceptions" Bundle.listD) (by simp [Bundle.messageArmAtoms]))
  obtain ⟨tyM, dM, hdM, hdnM⟩ := Cond.laysAt hfound hk hffM (a (.lays cls Bundle.tN "detailMessage" "Ljava/lang/String;") (by simp [Bundle.messageArmAtoms]))
  obtain ⟨tyB, dB, hdB, hdnB⟩ := Cond.laysAt hfound hk hffB (a (.lays cls Bundle.tN "backtrace" "Ljava/lang/Object;") (by simp [Bundle.messageArmAtoms]))
  have bC := Cond.laysApart hdB hdC hdnB hdnC (by rw [hnB, Y.causeName]; decide)
  have bS := Cond.laysApart hdB hdS hdnB hdnS (by rw [hnB, Y.stackName]; decide)
  have bP := Cond.laysApart hdB hdP hdnB hdnP (by rw [hnB, Y.suppName]; decide)
  have hbk : ((preparedCellV T.toThrowableT (freshCell P1.m.cls kX) (W.heap.size + 2) u0 sen).withEntry W.cur).slots[fB.slot]? = some .null := by
    have := fresh_default (c := P1.m.cls) tyB
    rw [htB] at this
    simpa [preparedCellV, Cell.setSlot, Cell.withEntry, Array.getElem?_setIfInBounds, bC, bS, bP, bC.symm, bS.symm, bP.symm, defaultValue] using this
  have tkC := Takes.of_laid (v := .ref (W.heap.size + 2)) hk hord tyC (by rw [Y.causeType]; rfl)
  have tkS := Takes.of_laid (v := u0.v) hk hord tyS (by rw [Y.stackType]; exact fits_refV_array _ u0)
  have tkP := Takes.of_laid (v := sen.v) hk hord tyP (by rw [Y.suppType]; exact fits_refV_object _ sen)
  have tkM := Takes.of_laid (v := .ref (W.heap.size + 1)) hk hord tyM (by rw [Y.msgType]; rfl)
  have hskip : SkipFacts T e.platform s (fun u => u) u0 ((preparedCellV T.toThrowableT (freshCell P1.m.cls kX) (W.heap.size + 2) u0 sen).withEntry W.cur) := ⟨{ ci198 := ci198, i198 := i198, fBack := fB }, ⟨hk198, hg198, ha198, hsB⟩, hbk, fun _ _ => rfl⟩
  have h0 : At W g.method c below := by rw [hg]; exact X.here
  obtain ⟨hbeyond, hfreeW⟩ := X.vmMayThrow hsize (.throwNew cls (some text) none) (fun f hf => by cases hf) rfl hRlocals
  have hfr' : W.frames.length + Ps.length + 4 < (e.platform.stackLimits W.me).1 := by have := X.framesAbove hRframes; omega
  have hwd' : (stackUse (.java g :: W.frames.tail)).2 + 13 * Ps.length + 55 ≤ (e.platform.stackLimits W.me).2 := by have := X.stackAbove hsize (K := 13 * Ps.length + 55) (by omega); omega
  have hslots : W.slotsUsed + (stringBytes (stringToUtf16 text)).size + Zs.kS.instanceTypes.size + kX.instanceTypes.size ≤ e.platform.maxSlots := by
    have := X.slotsAbove hRslots
    rw [hn4, hn6]
    omega
  obtain ⟨vm', hW', st⟩ := Steps.vmThrowsMessageColdByV p (s₀ := s) (S := W) (g := g) h0 hexec T L Z LZ M LM X.warmed (t := W.cur) rfl Zs LZs P1 L1 Ps hL hlink1 hlink hsoe hoom hfound hk hinit hord hctor
    (Launch.admits_hotImplicitExceptions X.admits) hbeyond hfreeW htext hlimit hheap (X.cellsAbove hRcells) hslots (hfitv _) (hfitc _)
    (Nn := fun u => u) heapOnly_id (fun _ _ => rfl) (fun _ => rfl) (fun u x y => setCell_twice _ _ _ _) (fun _ => Nat.le_refl _) (cN := ((preparedCellV T.toThrowableT (freshCell P1.m.cls kX) (W.heap.size + 2) u0 sen).withEntry W.cur))
    hsel0 hcellS hknownS hvU tkS (fun _ hu => hu) (fun _ hu => hu) rfl rfl rfl (by simp [preparedCellV, Cell.setSlot, Cell.withEntry]) hskip (fun _ _ hA hW _ hroom _ hrest => L.nativeOff p htr hA hW hroom hrest) hselF hvSen tkC tkP tkM Y.objLocals rfl hfr' hwd'
  rw [plainBareV_eq T.toThrowableT (W.heap.size + 2) u0 sen (.ref (W.heap.size + 1)) W.cur rfl rfl] at st
  obtain ⟨-, -, w3, w4, -, -, -⟩ := withThrown_facts e.platform W Zs text P1.m.cls kX
  have X3 := ((X.pushed (bytesOf Zs.cB (stringToUtf16 text))).pushed (stringAt Zs.cS Zs.kS Zs.fv Zs.fc (stringToUtf16 text) W.heap.size)).pushed (freshCell P1.m.cls kX)
  rw [← withString_eq] at X3
  have X4 := X3.noted hW'
  have ha : (W.heap.size + 2) < ((withThrown W Zs text P1.m.cls kX).setVm vm').heap.size := by show _ < (withThrown W Zs text P1.m.cls kX).heap.size; rw [w3]; omega
  have hcell : ((withThrown W Zs text P1.m.cls kX).setVm vm').heap[(W.heap.size + 2)]? = some (freshCell P1.m.cls kX) := w4
  have X5 := ((((X4.stored hcell T.fCause.slot (.ref (W.heap.size + 2))).storedAgain ha T.fStack.slot u0.v).storedAgain ha T.fSupp.slot sen.v).storedAgain ha T.fStack.slot u0.v).storedAgain ha T.fMsg.slot (.ref (W.heap.size + 1))
  obtain ⟨g₁, hfrM⟩ := X5.frames_eq
  have hU : ((((withThrown W Zs text P1.m.cls kX).setVm vm').setCell (W.heap.size + 2) (plainBareV T.toThrowableT (freshCell P1.m.cls kX) (W.heap.size + 2) u0 sen (.ref (W.heap.size + 1)))).setTop g).pushFrame (.throwing (W.heap.size + 2)) = (((withThrown W Zs text P1.m.cls kX).setVm vm').setCell (W.heap.size + 2) (plainBareV T.toThrowableT (freshCell P1.m.cls kX) (W.heap.size + 2) u0 sen (.ref (W.heap.size + 1)))).setFrames (.throwing (W.heap.size + 2) :: .java g :: below) := by
    rw [State.pushFrame, State.frames_setTop _ hfrM, State.setTop_of_frames _ hfrM, State.setFrames_setFrames]
  have b1 : (bytesOf Zs.cB (stringToUtf16 text)).slots.size = (stringBytes (stringToUtf16 text)).size := by
    rw [(Cell.writeAll_facts _ _).2.2]; simp [bytes0]
  have b2 : (stringAt Zs.cS Zs.kS Zs.fv Zs.fc (stringToUtf16 text) W.heap.size).slots.size = 4 := by simp [string0, Cell.setSlot, hn4]
  have b3 : (freshCell P1.m.cls kX).slots.size = 6 := by simp [hn6]
  rw [b1, b2, b3] at X5
  have e9 : slots + (stringBytes (stringToUtf16 text)).size + 4 + 6 = slots + ((stringBytes (stringToUtf16 text)).size + 4 + 6) := by omega
  rw [e9] at X5
  simp only [List.append_assoc, List.cons_append, List.nil_append] at X5
  refine ⟨((withThrown W Zs text P1.m.cls kX).setVm vm').setCell (W.heap.size + 2) (plainBareV T.toThrowableT (freshCell P1.m.cls kX) (W.heap.size + 2) u0 sen (.ref (W.heap.size + 1))), W.heap.size + 2, _, fun target ht => st _ (by rw [X.tail, ← hU]; exact ht),
    X5.forget (fun y hy => ?_), heapAt_setCell_self _ ha, hfound, rfl⟩
  simp only [List.mem_cons, List.not_mem_nil, or_false] at hy
  have hge : s.heap.size ≤ W.heap.size := X.same.2.1
  rcases hy with rfl | rfl | rfl | rfl | rfl <;> exact Nat.le_trans hge (Nat.le_add_right _ 2)
set_option maxHeartbeats 1000000 in
/-- the machine throws NullPointerException, no traces kept: from its note over the frame g to 'throwing' over the same frame (follows the proof of Stand.vmThrowsNpe, Shelf42/KT2.lean; throwsNpeColdBareVAt, Shelf42/NT91.lean, called) -/
theorem vx_npeAt {p : Program} {l : Launch} {e : Env} {R : Room} {s : State} {m₀ : MethodId} {args : Array Value} {below : List Frame} {meth : Method} {c : Code} {W : State} {locs : List Loc} {cells slots : Nat}
    (X : Stand p l e R s m₀ args below meth c W locs cells slots) (hexec : p.tables.exec = Jvm.exec) (htr : e.platform.stackTraces = false) {n : Nat}
    (h : ∀ a ∈ Bundle.npeArmAtoms n, a.before args s = true)
    (hlocs : ∀ x ∈ locs, ∀ cell, s.heap[x.base]? = some cell → cell.vm.isStatics = false)
    {g : JFrame} (hg : g.method = m₀) (hsize : g.locals.size = c.maxLocals)
    (hRframes : 7 < R.frames) (hRlocals : 2 * g.monitorRoom + (g.stack.map fun v => v.category).sum + 10240 ≤ R.locals)
    (hRcells : cells + 1 ≤ R.cells) (hRslots : slots + n ≤ R.slots) (hlocks : meth.locks = false) :
    ∃ (S : State) (q : Addr) (ce : Cell), (∀ target, Steps p.tables e below ((S.setTop g).pushFrame (.throwing q)) target → Steps p.tables e below ((W.setTop g).pushFrame (.throwNew "java/lang/NullPointerException" none none)) target) ∧
      Stand p l e R s m₀ args below meth c S locs (cells + 1) (slots + n) ∧ S.heap[q]? = some ce ∧ s.vm.findClass "java/lang/NullPointerException" = some ce.cls ∧ ce.vm = .none := by
  have howns : e.platform.frameOwnsMonitors = true := by rw [X.admits.platform]
  have hfin : e.platform.finalization = false := by rw [X.admits.platform]
  have hpl : e.platform.magicAccessors = ({} : Platform).magicAccessors := by rw [X.admits.platform]
  have hpl2 : e.platform.arrayCloneIsPublic = true := by rw [X.admits.platform]
  have a' : ∀ x, x ∈ Bundle.npeArmAtoms n → x.holds args s none s [] = true := fun x hx => h x hx
  obtain ⟨T, Z, L, LZ, Y⟩ := ThrowableC.of_atoms (args := args) howns hfin hpl (fun x hx => h x (by simp [Bundle.npeArmAtoms, hx]))
  obtain ⟨N, LN, hcN, hnNF, hordN, hffS⟩ := NpeC.of_atoms (args := args) hpl hpl2 L Y (fun x hx => h x (by simp [Bundle.npeArmAtoms, hx]))
  obtain ⟨P1, L1, hP1m, hP1s⟩ := PassC.of_atoms (args := args) (s := s) hpl (X := Bundle.nN) (Y := Bundle.rN) (by decide) (by decide) LibCode.NullPointerException.Init0.at_0 LibCode.NullPointerException.Init0.at_1 LibCode.NullPointerException.Init0.at_4 (fun x hx => h x (by simp [Bundle.npeArmAtoms, hx]))
  obtain ⟨PR, LR, hPRm, hPRs⟩ := PassC.of_atoms (args := args) (s := s) hpl (X := Bundle.rN) (Y := Bundle.eN) (by decide) (by decide) LibCode.RuntimeException.Init0.at_0 LibCode.RuntimeException.Init0.at_1 LibCode.RuntimeException.Init0.at_4 (fun x hx => h x (by simp [Bundle.npeArmAtoms, hx]))
  obtain ⟨PE, LEx, hPEm, hPEs⟩ := PassC.of_atoms (args := args) (s := s) hpl (X := Bundle.eN) (Y := Bundle.tN) (by decide) (by decide) LibCode.Exception.Init0.at_0 LibCode.Exception.Init0.at_1 LibCode.Exception.Init0.at_4 (fun x hx => h x (by simp [Bundle.npeArmAtoms, hx]))
  have hfound : s.vm.findClass Bundle.nN = some P1.m.cls := findClass_of_methodNamed hP1m
  have ecls : N.cN = P1.m.cls := Option.some.inj (hcN.symm.trans hfound)
  have hk : s.vm.classes[P1.m.cls]? = some N.kN := by rw [← ecls]; exact LN.cls
  have hinit := Cond.initialized_spec hfound hk (a' (.initialized Bundle.nN) (by simp [Bundle.npeArmAtoms]))
  have hctor : N.kN.findMethod "<init>" "()V" = some P1.m.idx := findMethod_of_methodNamed hP1m hk
  obtain ⟨c1, k1, hc1, hk1, -, -, -, hn⟩ := Cond.instantiable_spec (a' (.instantiable Bundle.nN n) (by simp [Bundle.npeArmAtoms]))
  cases Option.some.inj (hc1.symm.trans hfound)
  cases Option.some.inj (hk1.symm.trans hk)
  have hfsz : (freshCell P1.m.cls N.kN).slots.size = n := by simp [hn]
  have hlink1 : P1.sup = PR.m := Option.some.inj (hP1s.symm.trans hPRm)
  have hlinkR : PR.sup = PE.m := Option.some.inj (hPRs.symm.trans hPEm)
  have hlinkE : PE.sup = Z.m T.toThrowableT := Option.some.inj (hPEs.symm.trans Y.init0)
  have hLs : ∀ P, P ∈ [PR, PE] → P.Links0 e.platform s := fun P hP => by
    simp only [List.mem_cons, List.not_mem_nil, or_false] at hP
    rcases hP with rfl | rfl
    · exact LR
    · exact LEx
  have hsel0 : selectMethod e.platform s.vm P1.m.cls T.fill0 = .method T.fill0 := by
    obtain ⟨c2, r2, m2, q1, q2, q3, q4, -⟩ := Cond.selects_spec (a' (.selects Bundle.nN Bundle.tFill0 Bundle.tFill0) (by simp [Bundle.npeArmAtoms]))
    cases Option.some.inj (q1.symm.trans hfound)
    cases Option.some.inj (q2.symm.trans (State.methodFound?_of_named Y.fill0 (by decide)))
    cases Option.some.inj (q3.symm.trans Y.fill0)
    rw [Launch.admits_selectMethod X.admits]; exact q4
  have hselF : selectMethod e.platform s.vm P1.m.cls T.fill = .method N.fill := by
    obtain ⟨c2, r2, m2, q1, q2, q3, q4, -⟩ := Cond.selects_spec (a' (.selects Bundle.nN Bundle.tFill Bundle.nFill) (by simp [Bundle.npeArmAtoms]))
    cases Option.some.inj (q1.symm.trans hfound)
    cases Option.some.inj (q2.symm.trans (State.methodFound?_of_named Y.fill (by decide)))
    cases Option.some.inj (q3.symm.trans hnNF)
    rw [Launch.admits_selectMethod X.admits]; exact q4
  obtain ⟨cellS0, hcS0, hiss⟩ := Y.statics
  obtain ⟨u0, hu0⟩ := Cond.staticRefV Y.unassigned L.unassignedStatic L.statics hcS0 hiss (a' (.isRef (.static Bundle.tN "UNASSIGNED_STACK" Bundle.steD)) (by simp [Bundle.npeArmAtoms]))
  obtain ⟨sen, hsen⟩ := Cond.staticRefV Y.sentinel L.sentinelStatic L.statics hcS0 hiss (a' (.isRef (.static Bundle.tN "SUPPRESSED_SENTINEL" Bundle.listD)) (by simp [Bundle.npeArmAtoms]))
  obtain ⟨ci198, i198, fB, hk198, hg198, ha198, hsB, -, hnB, htB, hffB⟩ := Cond.ownField (t := .object "java/lang/Object") Y.found L.cls (by decide +kernel) (a' (.fieldLink Bundle.tN 198 Bundle.tN "backtrace" Bundle.objD) (by simp [Bundle.npeArmAtoms])) (a' (.lays Bundle.tN Bundle.tN "backtrace" Bundle.objD) (by simp [Bundle.npeArmAtoms])) e.platform hpl
  obtain ⟨cellS, hcS', heS, -, hkeep⟩ := X.same.2.2.2.2.2 T.aS cellS0 hcS0
  have hcellS : W.heap[T.aS]? = some cellS := hcS'
  have hout' : ∀ i, (⟨T.aS, i⟩ : Loc) ∉ locs := fun i hmem => by
    have := hlocs _ hmem cellS0 hcS0
    rw [hiss] at this; cases this
  have hknownS : cellS.vm ≠ .unknown := by
    rw [heS]; intro hu
    rw [show cellS0.vm = .unknown from hu] at hiss
    cases hiss
  have hvU : cellS.slots[T.fUnassigned.slot]? = some u0.v := by rw [hkeep _ (hout' _)]; exact hu0
  have hvSen : cellS.slots[T.fSentinel.slot]? = some sen.v := by rw [hkeep _ (hout' _)]; exact hsen
  obtain ⟨tyC, dC, hdC, hdnC⟩ := Cond.laysAt hfound hk Y.cause (a' (.lays Bundle.nN Bundle.tN "cause" "Ljava/lang/Throwable;") (by simp [Bundle.npeArmAtoms]))
  obtain ⟨tyS, dS, hdS, hdnS⟩ := Cond.laysAt hfound hk Y.stack (a' (.lays Bundle.nN Bundle.tN "stackTrace" Bundle.steD) (by simp [Bundle.npeArmAtoms]))
  obtain ⟨tyP, dP, hdP, hdnP⟩ := Cond.laysAt hfound hk Y.supp (a' (.lays Bundle.nN Bundle.tN "suppressedExceptions" Bundle.listD) (by simp [Bundle.npeArmAtoms]))
  obtain ⟨tyX, dX, hdX, hdnX⟩ := Cond.laysAt hfound hk hffS (a' (.lays Bundle.nN Bundle.nN "extendedMessageState" "I") (by simp [Bundle.npeArmAtoms, Bundle.npeAtoms]))
  obtain ⟨hnX, htX⟩ := State.fieldFound?_type hffS (t := .int) (by decide +kernel)
  have xC := Cond.laysApart hdC hdX hdnC hdnX (by rw [hnX, Y.causeName]; decide)
  have xS := Cond.laysApart hdS hdX hdnS hdnX (by rw [hnX, Y.stackName]; decide)
  have xP := Cond.laysApart hdP hdX hdnP hdnX (by rw [hnX, Y.suppName]; decide)
  have hv0 : (freshCell P1.m.cls N.kN).slots[N.fState.slot]? = some (.int 0) := by
    have := fresh_default (c := P1.m.cls) tyX
    rw [htX] at this; exact this
  obtain ⟨tyB, dB, hdB, hdnB⟩ := Cond.laysAt hfound hk hffB (a' (.lays Bundle.nN Bundle.tN "backtrace" Bundle.objD) (by simp [Bundle.npeArmAtoms]))
  have bC := Cond.laysApart hdB hdC hdnB hdnC (by rw [hnB, Y.causeName]; decide)
  have bS := Cond.laysApart hdB hdS hdnB hdnS (by rw [hnB, Y.stackName]; decide)
  have bP := Cond.laysApart hdB hdP hdnB hdnP (by rw [hnB, Y.suppName]; decide)
  have bX := Cond.laysApart hdB hdX hdnB hdnX (by rw [hnB, hnX]; decide)
  have hbk : ((npeCell N.toNpeT (preparedCellV T.toThrowableT (freshCell P1.m.cls N.kN) W.heap.size u0 sen) W.cur).withEntry W.cur).slots[fB.slot]? = some .null := by
    have := fresh_default (c := P1.m.cls) tyB
    rw [htB] at this
    simpa [npeCell, preparedCellV, Cell.setSlot, Cell.withEntry, Array.getElem?_setIfInBounds, bC, bS, bP, bX, bC.symm, bS.symm, bP.symm, bX.symm, defaultValue] using this
  have tkC := Takes.of_laid (v := .ref W.heap.size) hk hordN tyC (by rw [Y.causeType]; rfl)
  have tkS := Takes.of_laid (v := u0.v) hk hordN tyS (by rw [Y.stackType]; exact fits_refV_array _ u0)
  have tkP := Takes.of_laid (v := sen.v) hk hordN tyP (by rw [Y.suppType]; exact fits_refV_object _ sen)
  have tkX := Takes.of_laid (v := .int 1) hk hordN tyX (by rw [htX]; rfl)
  have hskip : SkipFacts T e.platform s (fun u => u) u0 ((npeCell N.toNpeT (preparedCellV T.toThrowableT (freshCell P1.m.cls N.kN) W.heap.size u0 sen) W.cur).withEntry W.cur) := ⟨{ ci198 := ci198, i198 := i198, fBack := fB }, ⟨hk198, hg198, ha198, hsB⟩, hbk, fun _ _ => rfl⟩
  obtain ⟨vm', X3, st, -⟩ := X.throwsNpeColdBareVAt hexec hg hsize T L Z LZ N LN P1 L1 [PR, PE] hLs hlink1 ⟨hlinkR, hlinkE, trivial⟩ hfound hk hinit hordN hctor hsel0 hselF hcellS hknownS hvU hvSen
    hv0 xC xS xP tkC tkS tkP tkX Y.objLocals hskip (fun _ _ hA hW _ hroom _ hrest => L.nativeOff p htr hA hW hroom hrest) (by simpa using hRframes) hRlocals (by simp) hRcells (by rw [hn]; exact hRslots)
  have hlt : W.heap.size < ((W.pushCell (freshCell P1.m.cls N.kN)).setVm vm').heap.size := by
    show W.heap.size < (W.pushCell (freshCell P1.m.cls N.kN)).heap.size
    rw [State.heap_size_pushCell]; omega
  rw [hfsz] at X3
  obtain ⟨g₁, hfrM⟩ := X3.frames_eq
  have hU : ((((W.pushCell (freshCell P1.m.cls N.kN)).setVm vm').setCell W.heap.size (npeBareV T.toThrowableT N.toNpeT (freshCell P1.m.cls N.kN) W.heap.size u0 sen)).setTop g).pushFrame (.throwing W.heap.size) = (((W.pushCell (freshCell P1.m.cls N.kN)).setVm vm').setCell W.heap.size (npeBareV T.toThrowableT N.toNpeT (freshCell P1.m.cls N.kN) W.heap.size u0 sen)).setFrames (.throwing W.heap.size :: .java g :: below) := by
    rw [State.pushFrame, State.frames_setTop _ hfrM, State.setTop_of_frames _ hfrM, State.setFrames_setFrames]
  refine ⟨_, W.heap.size, _, fun target ht => st.trans (by rw [← hU]; exact ht), X3.forget (fun y hy => ?_), heapAt_setCell_self _ hlt, hfound, rfl⟩
  simp only [List.mem_cons, List.not_mem_nil, or_false] at hy
  have hge : s.heap.size ≤ W.heap.size := X.same.2.1
  rcases hy with rfl | rfl | rfl | rfl | rfl <;> exact hge
/-- the words of a machine's NullPointerException, but the four that speak of the heap -/
def vx_atN (n : Nat) : List Cond := (Bundle.npeArmAtoms n).filter vx_no
/-- the words of a machine's throw with a message, but the four that speak of the heap -/
def vx_atM (X : String) (names : List String) : List Cond := (Bundle.messageArmAtoms X names).filter vx_no
section
variable {p : Program} {l : Launch} {e : Env} {R : Room} {s : State} {m : MethodId} {args : Array Value} {below : List Frame} {meth : Method} {c : Code} {H : Heap} {locs : List Loc} {cells slots : Nat}
/-- a frame seen from a rebased start, seen from the first start again -/
theorem vx_back9 {T S : State} {R' : Room} {k n : Nat} (X : Stand p l e R s m args below meth c T locs cells slots) (Y : Stand p l e R' ((T.setVm s.vm).setFrames (.invoking m args :: below)) m args below meth c T [] 0 0) (Z : Stand p l e R' ((T.setVm s.vm).setFrames (.invoking m args :: below)) m args below meth c S [] k n) :
    Stand p l e R s m args below meth c S locs (cells + k) (slots + n) := by
  have hW0 : s.WarmedH ((T.setVm s.vm).setFrames (.invoking m args :: below)).vm := State.WarmedH.refl s
  refine { admits := X.admits, cas := X.cas, clock := X.clock, frames := X.frames, room := X.room, hears := X.hears, method := X.method, code := X.code, here := Z.here, tail := Z.tail, warmed := State.WarmedH.trans hW0 Z.warmed, limits := Z.limits.trans (Y.limits.symm.trans X.limits), bytes := Z.bytes.trans (Y.bytes.symm.trans X.bytes), same := ?_ }
  obtain ⟨e1, e2⟩ := Z.same
  rw [State.setFrames_setFrames] at e1
  have h2 : (T.setVm s.vm).sameButNew (S.setVm s.vm) [] k n := ⟨e1, e2⟩
  have h3 := X.same.trans h2
  rw [List.append_nil] at h3
  exact h3
/-- from the machine's note that E is thrown here with this text -/
def vx_Note (p : Program) (l : Launch) (e : Env) (R : Room) (s : State) (m : MethodId) (args : Array Value) (below : List Frame) (meth : Method) (c : Code) (H : Heap) (locs : List Loc) (cells slots : Nat) (Q : State → Prop) (g : JFrame) (E text : String) : Prop :=
  ∀ T : State, T.heap = H → Stand p l e R s m args below meth c T locs cells slots → ∃ t, Steps p.tables e below ((T.setTop g).pushFrame (.throwNew E (some text) none)) t ∧ Q t
theorem vx_vm {pc : Nat} {ls : Array Slot} {rest : List Value} {Q : State → Prop} (hexec : p.tables.exec = Jvm.exec) (hl : l.stackTraces = false) {cls text : String} {names : List String} {nb : Nat} {A : Nat → Prop}
    (hcls : Bundle.fit cls = true) (hnames : ∀ n ∈ names, Bundle.fit n = true) (hsoe : (cls == "java/lang/StackOverflowError") = false) (hoom : (cls == "java/lang/OutOfMemoryError") = false)
    (hat : ∀ w ∈ vx_atM cls names, w.before args s = true) (hgood : ∀ w ∈ vx_atM cls names, vx_ot w = true)
    (hU : vx_Zq Bundle.tN "UNASSIGNED_STACK" Bundle.steD A s s.heap) (hN : vx_Zq Bundle.tN "SUPPRESSED_SENTINEL" Bundle.listD A s s.heap) (hS : va_S A s.heap H locs) (hsize : ls.size = c.maxLocals)
    (htext : (text == notModelled) = false) (hnb : (stringBytes (stringToUtf16 text)).size ≤ nb) (hnb1 : nb ≤ 1000)
    (hRframes : names.length + 4 < R.frames) (hRlocals : (rest.map fun v => v.category).sum + 10240 ≤ R.locals) (hshort : 13 * names.length + 55 ≤ 10240) (hRcells : cells + 3 ≤ R.cells) (hRslots : slots + (nb + 10) ≤ R.slots) (hlocks : meth.locks = false)
    (k : ∀ (H1 : Heap) (q9 : Addr) (ce : Cell), H.size ≤ H1.size → (∀ q : Nat, q < H.size → H1[q]? = H[q]?) → va_S A s.heap H1 locs → H1[q9]? = some ce → ce.vm = .none → s.vm.findClass cls = some ce.cls → vx_W p l e R s m args below meth c H1 locs (cells + 3) (slots + (nb + 10)) Q (F0 m pc ls rest) q9) :
    vx_Note p l e R s m args below meth c H locs cells slots Q (F0 m pc ls rest) cls text := by
  intro T hT X
  have htr : e.platform.stackTraces = false := (show e.platform.stackTraces = l.stackTraces by rw [X.admits.platform]).trans hl
  have Y := vx_rebase X (R' := { frames := R.frames, locals := R.locals, cells := 3, slots := nb + 10 }) (Nat.le_refl _) (Nat.le_refl _) hRcells hRslots
  have hhp : ((T.setVm s.vm).setFrames (.invoking m args :: below)).heap = H := hT
  have hW0 : s.WarmedH ((T.setVm s.vm).setFrames (.invoking m args :: below)).vm := State.WarmedH.refl s
  have hat' : ∀ w ∈ vx_atM cls names, w.before args ((T.setVm s.vm).setFrames (.invoking m args :: below)) = true := fun w hw => vx_ot_at hW0 rfl (hgood w hw) (hat w hw)
  have hU' : vx_Zq Bundle.tN "UNASSIGNED_STACK" Bundle.steD A ((T.setVm s.vm).setFrames (.invoking m args :: below)) ((T.setVm s.vm).setFrames (.invoking m args :: below)).heap := by rw [hhp]; exact vx_Zq.moved hW0.alike (hU.kept hS.2.1)
  have hN' : vx_Zq Bundle.tN "SUPPRESSED_SENTINEL" Bundle.listD A ((T.setVm s.vm).setFrames (.invoking m args :: below)) ((T.setVm s.vm).setFrames (.invoking m args :: below)).heap := by rw [hhp]; exact vx_Zq.moved hW0.alike (hN.kept hS.2.1)
  obtain ⟨S, q, ce, st, Z, hce, hcl', hv⟩ := vx_vmAt Y hexec htr (cls := cls) (names := names) (text := text) hcls hnames hsoe hoom (vx_own hat' (vx_isRefq hU'.1) (vx_isRefq hN'.1) hU'.2.word hN'.2.word) (fun x hx => nomatch hx) htext
    (by rw [Launch.admits_arrayLengthLimit X.admits]; omega) (by rw [Launch.admits_maxHeapBytes X.admits]; simp only [componentBytes]; omega)
    (g := F0 m pc ls rest) rfl hsize hRframes (by show 2 * 0 + (rest.map fun v => v.category).sum + 10240 ≤ R.locals; omega) hshort (by show 0 + 3 ≤ 3; omega) (by show 0 + (_ + 4 + 6) ≤ nb + 10; omega) hlocks
  obtain ⟨f1, f2⟩ := vx_frame Z.same
  have f1' : H.size ≤ S.heap.size := by rw [← hT]; exact f1
  have f2' : ∀ q : Nat, q < H.size → S.heap[q]? = H[q]? := fun q hq => by
    rw [← hT]
    exact f2 q (by rw [← hT] at hq; exact hq) (fun z hz => nomatch hz)
  have X5 := vx_back9 X Y Z
  have X6 : Stand p l e R s m args below meth c S locs (cells + 3) (slots + (nb + 10)) := { X5 with same := X5.same.mono (by omega) (by omega) }
  obtain ⟨t, a1, b1⟩ := k S.heap q ce f1' f2' ⟨Nat.le_trans hS.1 f1', fun q h1 h2 => (f2' q (Nat.lt_of_lt_of_le h1 hS.1)).trans (hS.2.1 q h1 h2), hS.2.2⟩ hce hv hcl' S rfl X6
  exact ⟨t, st t a1, b1⟩
/-- from the machine's note that NullPointerException is thrown here -/
def vx_NoteN (p : Program) (l : Launch) (e : Env) (R : Room) (s : State) (m : MethodId) (args : Array Value) (below : List Frame) (meth : Method) (c : Code) (H : Heap) (locs : List Loc) (cells slots : Nat) (Q : State → Prop) (g : JFrame) : Prop :=
  ∀ T : State, T.heap = H → Stand p l e R s m args below meth c T locs cells slots → ∃ t, Steps p.tables e below ((T.setTop g).pushFrame (.throwNew "java/lang/NullPointerException" none none)) t ∧ Q t
theorem vx_npe {pc : Nat} {ls : Array Slot} {rest : List Value} {Q : State → Prop} (hexec : p.tables.exec = Jvm.exec) (hl : l.stackTraces = false) {nb : Nat} {A : Nat → Prop}
    (hat : ∀ w ∈ vx_atN nb, w.before args s = true) (hgood : ∀ w ∈ vx_atN nb, vx_ot w = true)
    (hU : vx_Zq Bundle.tN "UNASSIGNED_STACK" Bundle.steD A s s.heap) (hN : vx_Zq Bundle.tN "SUPPRESSED_SENTINEL" Bundle.listD A s s.heap) (hS : va_S A s.heap H locs) (hsize : ls.size = c.maxLocals)
    (hRframes : 7 < R.frames) (hRlocals : (rest.map fun v => v.category).sum + 10240 ≤ R.locals) (hRcells : cells + 1 ≤ R.cells) (hRslots : slots + nb ≤ R.slots) (hlocks : meth.locks = false)
    (k : ∀ (H1 : Heap) (q9 : Addr) (ce : Cell), H.size ≤ H1.size → (∀ q : Nat, q < H.size → H1[q]? = H[q]?) → va_S A s.heap H1 locs → H1[q9]? = some ce → ce.vm = .none → s.vm.findClass "java/lang/NullPointerException" = some ce.cls → vx_W p l e R s m args below meth c H1 locs (cells + 1) (slots + nb) Q (F0 m pc ls rest) q9) :
    vx_NoteN p l e R s m args below meth c H locs cells slots Q (F0 m pc ls rest) := by
  intro T hT X
  have htr : e.platform.stackTraces = false := (show e.platform.stackTraces = l.stackTraces by rw [X.admits.platform]).trans hl
  have Y := vx_rebase X (R' := { frames := R.frames, locals := R.locals, cells := 1, slots := nb }) (Nat.le_refl _) (Nat.le_refl _) hRcells hRslots
  have hhp : ((T.setVm s.vm).setFrames (.invoking m args :: below)).heap = H := hT
  have hW0 : s.WarmedH ((T.setVm s.vm).setFrames (.invoking m args :: below)).vm := State.WarmedH.refl s
  have hat' : ∀ w ∈ vx_atN nb, w.before args ((T.setVm s.vm).setFrames (.invoking m args :: below)) = true := fun w hw => vx_ot_at hW0 rfl (hgood w hw) (hat w hw)
  have hU' : vx_Zq Bundle.tN "UNASSIGNED_STACK" Bundle.steD A ((T.setVm s.vm).setFrames (.invoking m args :: below)) ((T.setVm s.vm).setFrames (.invoking m args :: below)).heap := by rw [hhp]; exact vx_Zq.moved hW0.alike (hU.kept hS.2.1)
  have hN' : vx_Zq Bundle.tN "SUPPRESSED_SENTINEL" Bundle.listD A ((T.setVm s.vm).setFrames (.invoking m args :: below)) ((T.setVm s.vm).setFrames (.invoking m args :: below)).heap := by rw [hhp]; exact vx_Zq.moved hW0.alike (hN.kept hS.2.1)
  obtain ⟨S, q, ce, st, Z, hce, hcl', hv⟩ := vx_npeAt Y hexec htr (n := nb) (vx_own hat' (vx_isRefq hU'.1) (vx_isRefq hN'.1) hU'.2.word hN'.2.word) (fun x hx => nomatch hx)
    (g := F0 m pc ls rest) rfl hsize hRframes (by show 2 * 0 + (rest.map fun v => v.category).sum + 10240 ≤ R.locals; omega) (by show 0 + 1 ≤ 1; omega) (by show 0 + nb ≤ nb; omega) hlocks
  obtain ⟨f1, f2⟩ := vx_frame Z.same
  have f1' : H.size ≤ S.heap.size := by rw [← hT]; exact f1
  have f2' : ∀ q : Nat, q < H.size → S.heap[q]? = H[q]? := fun q hq => by
    rw [← hT]
    exact f2 q (by rw [← hT] at hq; exact hq) (fun z hz => nomatch hz)
  have X5 := vx_back9 X Y Z
  have X6 : Stand p l e R s m args below meth c S locs (cells + 1) (slots + nb) := { X5 with same := X5.same.mono (by omega) (by omega) }
  obtain ⟨t, a1, b1⟩ := k S.heap q ce f1' f2' ⟨Nat.le_trans hS.1 f1', fun q h1 h2 => (f2' q (Nat.lt_of_lt_of_le h1 hS.1)).trans (hS.2.1 q h1 h2), hS.2.2⟩ hce hv hcl' S rfl X6
  exact ⟨t, st t a1, b1⟩
variable {Q : State → Prop} {cc : ByteArray} {pc : Nat} {ls : Array Slot} {rest : List Value}
theorem vx_idivZ (hexec : p.tables.exec = Jvm.exec) (hb : c.code = cc) {a b : Int32} (h0 : b = 0) (d : decode cc pc = .ok (.idiv, 1)) (k : vx_Note p l e R s m args below meth c H locs cells slots Q (F0 m pc ls rest) "java/lang/ArithmeticException" "/ by zero") :
    W p l e R s m args below meth c H locs cells slots Q (F0 m pc ls (.int b :: .int a :: rest)) := by
  intro T hT X
  obtain ⟨t, st, q⟩ := k T hT X
  exact ⟨t, X.idivZero hexec (g := F0 m pc ls (.int b :: .int a :: rest)) rfl (a := a) (rest := rest) (by rw [h0]) (by rw [hb]; exact d) t st, q⟩
theorem vx_iremZ (hexec : p.tables.exec = Jvm.exec) (hb : c.code = cc) {a b : Int32} (h0 : b = 0) (d : decode cc pc = .ok (.irem, 1)) (k : vx_Note p l e R s m args below meth c H locs cells slots Q (F0 m pc ls rest) "java/lang/ArithmeticException" "/ by zero") :
    W p l e R s m args below meth c H locs cells slots Q (F0 m pc ls (.int b :: .int a :: rest)) := by
  intro T hT X
  obtain ⟨t, st, q⟩ := k T hT X
  exact ⟨t, X.iremZero hexec (g := F0 m pc ls (.int b :: .int a :: rest)) rfl (a := a) (rest := rest) (by rw [h0]) (by rw [hb]; exact d) t st, q⟩
theorem vx_ldivZ (hexec : p.tables.exec = Jvm.exec) (hb : c.code = cc) {a b : Int64} (h0 : b = 0) (d : decode cc pc = .ok (.ldiv, 1)) (k : vx_Note p l e R s m args below meth c H locs cells slots Q (F0 m pc ls rest) "java/lang/ArithmeticException" "/ by zero") :
    W p l e R s m args below meth c H locs cells slots Q (F0 m pc ls (.long b :: .long a :: rest)) := by
  intro T hT X
  obtain ⟨t, st, q⟩ := k T hT X
  exact ⟨t, X.ldivZero hexec (g := F0 m pc ls (.long b :: .long a :: rest)) rfl (a := a) (rest := rest) (by rw [h0]) (by rw [hb]; exact d) t st, q⟩
theorem vx_lremZ (hexec : p.tables.exec = Jvm.exec) (hb : c.code = cc) {a b : Int64} (h0 : b = 0) (d : decode cc pc = .ok (.lrem, 1)) (k : vx_Note p l e R s m args below meth c H locs cells slots Q (F0 m pc ls rest) "java/lang/ArithmeticException" "/ by zero") :
    W p l e R s m args below meth c H locs cells slots Q (F0 m pc ls (.long b :: .long a :: rest)) := by
  intro T hT X
  obtain ⟨t, st, q⟩ := k T hT X
  exact ⟨t, X.lremZero hexec (g := F0 m pc ls (.long b :: .long a :: rest)) rfl (a := a) (rest := rest) (by rw [h0]) (by rw [hb]; exact d) t st, q⟩
theorem vx_ialdZ {D : va_G} {cl : List vw_C} {ws : va_W} {tys : List (ClassId × FieldType)} {a : Nat} (hexec : p.tables.exec = Jvm.exec) (hb : c.code = cc) (hK : va_K D cl tys s) (hP : va_P D cl ws H) (q0 t0 : Nat) {cA : ClassId} {n : Nat} {f : Nat → Int32} (ha : ws[q0]? = some (a, .inl (cA, n, .inl f))) (ht : tys[t0]? = some (cA, .int)) {i : Int32} (hout : ¬ vp_in i n) (hdg : decode cc pc = .ok (.iaload, 1))
    (k : ∀ tx : String, tx = (toString "Index " ++ toString i ++ toString " out of bounds for length " ++ toString n : String) → vx_Note p l e R s m args below meth c H locs cells slots Q (F0 m pc ls rest) "java/lang/ArrayIndexOutOfBoundsException" tx) : W p l e R s m args below meth c H locs cells slots Q (F0 m pc ls (.int i :: .ref a :: rest)) := by
  intro T hT X
  obtain ⟨t, st, q⟩ := k _ rfl T hT X
  refine ⟨t, ?_, q⟩
  have h1 := X.ialoadOut hexec (by rw [hT]; exact hP q0 _ ha) ((hK.2 t0 _ ht).1 n (fun j => .int (f j))) (j := i) (by show (i < 0 ∨ (arrV _ _ _).slots.size ≤ _); rw [arrV_size]; exact Classical.byContradiction hout) (g := F0 m pc ls (.int i :: .ref a :: rest)) rfl (rest := rest) rfl (by rw [hb]; exact hdg) t
  simp only [arrV_size] at h1
  exact h1 st
theorem vx_iastZ {D : va_G} {cl : List vw_C} {ws : va_W} {tys : List (ClassId × FieldType)} {a : Nat} (hexec : p.tables.exec = Jvm.exec) (hb : c.code = cc) (hK : va_K D cl tys s) (hP : va_P D cl ws H) (q0 t0 : Nat) {cA : ClassId} {n : Nat} {f : Nat → Int32} (ha : ws[q0]? = some (a, .inl (cA, n, .inl f))) (ht : tys[t0]? = some (cA, .int)) {i : Int32} {x : Int32} (hout : ¬ vp_in i n) (hdg : decode cc pc = .ok (.iastore, 1))
    (k : ∀ tx : String, tx = (toString "Index " ++ toString i ++ toString " out of bounds for length " ++ toString n : String) → vx_Note p l e R s m args below meth c H locs cells slots Q (F0 m pc ls rest) "java/lang/ArrayIndexOutOfBoundsException" tx) : W p l e R s m args below meth c H locs cells slots Q (F0 m pc ls (.int x :: .int i :: .ref a :: rest)) := by
  intro T hT X
  obtain ⟨t, st, q⟩ := k _ rfl T hT X
  refine ⟨t, ?_, q⟩
  have h1 := X.iastoreOut hexec (by rw [hT]; exact hP q0 _ ha) ((hK.2 t0 _ ht).1 n (fun j => .int (f j))) (j := i) (by show (i < 0 ∨ (arrV _ _ _).slots.size ≤ _); rw [arrV_size]; exact Classical.byContradiction hout) (g := F0 m pc ls (.int x :: .int i :: .ref a :: rest)) rfl (rest := rest) rfl (by rw [hb]; exact hdg) t
  simp only [arrV_size] at h1
  exact h1 st
theorem vx_baldZ {D : va_G} {cl : List vw_C} {ws : va_W} {tys : List (ClassId × FieldType)} {a : Nat} (hexec : p.tables.exec = Jvm.exec) (hb : c.code = cc) (hK : va_K D cl tys s) (hP : va_P D cl ws H) (q0 t0 : Nat) {cA : ClassId} {n : Nat} {f : Nat → Int32} (ha : ws[q0]? = some (a, .inl (cA, n, .inl f))) (ht : tys[t0]? = some (cA, .byte)) {i : Int32} (hout : ¬ vp_in i n) (hdg : decode cc pc = .ok (.baload, 1))
    (k : ∀ tx : String, tx = (toString "Index " ++ toString i ++ toString " out of bounds for length " ++ toString n : String) → vx_Note p l e R s m args below meth c H locs cells slots Q (F0 m pc ls rest) "java/lang/ArrayIndexOutOfBoundsException" tx) : W p l e R s m args below meth c H locs cells slots Q (F0 m pc ls (.int i :: .ref a :: rest)) := by
  intro T hT X
  obtain ⟨t, st, q⟩ := k _ rfl T hT X
  refine ⟨t, ?_, q⟩
  have h1 := X.baloadOut hexec (by rw [hT]; exact hP q0 _ ha) ((hK.2 t0 _ ht).1 n (fun j => .int (f j))) (j := i) (by show (i < 0 ∨ (arrV _ _ _).slots.size ≤ _); rw [arrV_size]; exact Classical.byContradiction hout) (g := F0 m pc ls (.int i :: .ref a :: rest)) rfl (rest := rest) rfl (by rw [hb]; exact hdg) t
  simp only [arrV_size] at h1
  exact h1 st
theorem vx_bastZ {D : va_G} {cl : List vw_C} {ws : va_W} {tys : List (ClassId × FieldType)} {a : Nat} (hexec : p.tables.exec = Jvm.exec) (hb : c.code = cc) (hK : va_K D cl tys s) (hP : va_P D cl ws H) (q0 t0 : Nat) {cA : ClassId} {n : Nat} {f : Nat → Int32} (ha : ws[q0]? = some (a, .inl (cA, n, .inl f))) (ht : tys[t0]? = some (cA, .byte)) {i : Int32} {x : Int32} (hout : ¬ vp_in i n) (hdg : decode cc pc = .ok (.bastore, 1))
    (k : ∀ tx : String, tx = (toString "Index " ++ toString i ++ toString " out of bounds for length " ++ toString n : String) → vx_Note p l e R s m args below meth c H locs cells slots Q (F0 m pc ls rest) "java/lang/ArrayIndexOutOfBoundsException" tx) : W p l e R s m args below meth c H locs cells slots Q (F0 m pc ls (.int x :: .int i :: .ref a :: rest)) := by
  intro T hT X
  obtain ⟨t, st, q⟩ := k _ rfl T hT X
  refine ⟨t, ?_, q⟩
  have h1 := X.bastoreOut hexec (by rw [hT]; exact hP q0 _ ha) ((hK.2 t0 _ ht).1 n (fun j => .int (f j))) (j := i) (by show (i < 0 ∨ (arrV _ _ _).slots.size ≤ _); rw [arrV_size]; exact Classical.byContradiction hout) (g := F0 m pc ls (.int x :: .int i :: .ref a :: rest)) rfl (rest := rest) rfl (by rw [hb]; exact hdg) t
  simp only [arrV_size] at h1
  exact h1 st
theorem vx_zaldZ {D : va_G} {cl : List vw_C} {ws : va_W} {tys : List (ClassId × FieldType)} {a : Nat} (hexec : p.tables.exec = Jvm.exec) (hb : c.code = cc) (hK : va_K D cl tys s) (hP : va_P D cl ws H) (q0 t0 : Nat) {cA : ClassId} {n : Nat} {f : Nat → Int32} (ha : ws[q0]? = some (a, .inl (cA, n, .inl f))) (ht : tys[t0]? = some (cA, .boolean)) {i : Int32} (hout : ¬ vp_in i n) (hdg : decode cc pc = .ok (.baload, 1))
    (k : ∀ tx : String, tx = (toString "Index " ++ toString i ++ toString " out of bounds for length " ++ toString n : String) → vx_Note p l e R s m args below meth c H locs cells slots Q (F0 m pc ls rest) "java/lang/ArrayIndexOutOfBoundsException" tx) : W p l e R s m args below meth c H locs cells slots Q (F0 m pc ls (.int i :: .ref a :: rest)) := by
  intro T hT X
  obtain ⟨t, st, q⟩ := k _ rfl T hT X
  refine ⟨t, ?_, q⟩
  have h1 := X.baloadOut hexec (by rw [hT]; exact hP q0 _ ha) ((hK.2 t0 _ ht).1 n (fun j => .int (f j))) (j := i) (by show (i < 0 ∨ (arrV _ _ _).slots.size ≤ _); rw [arrV_size]; exact Classical.byContradiction hout) (g := F0 m pc ls (.int i :: .ref a :: rest)) rfl (rest := rest) rfl (by rw [hb]; exact hdg) t
  simp only [arrV_size] at h1
  exact h1 st
theorem vx_zastZ {D : va_G} {cl : List vw_C} {ws : va_W} {tys : List (ClassId × FieldType)} {a : Nat} (hexec : p.tables.exec = Jvm.exec) (hb : c.code = cc) (hK : va_K D cl tys s) (hP : va_P D cl ws H) (q0 t0 : Nat) {cA : ClassId} {n : Nat} {f : Nat → Int32} (ha : ws[q0]? = some (a, .inl (cA, n, .inl f))) (ht : tys[t0]? = some (cA, .boolean)) {i : Int32} {x : Int32} (hout : ¬ vp_in i n) (hdg : decode cc pc = .ok (.bastore, 1))
    (k : ∀ tx : String, tx = (toString "Index " ++ toString i ++ toString " out of bounds for length " ++ toString n : String) → vx_Note p l e R s m args below meth c H locs cells slots Q (F0 m pc ls rest) "java/lang/ArrayIndexOutOfBoundsException" tx) : W p l e R s m args below meth c H locs cells slots Q (F0 m pc ls (.int x :: .int i :: .ref a :: rest)) := by
  intro T hT X
  obtain ⟨t, st, q⟩ := k _ rfl T hT X
  refine ⟨t, ?_, q⟩
  have h1 := X.bastoreOut hexec (by rw [hT]; exact hP q0 _ ha) ((hK.2 t0 _ ht).1 n (fun j => .int (f j))) (j := i) (by show (i < 0 ∨ (arrV _ _ _).slots.size ≤ _); rw [arrV_size]; exact Classical.byContradiction hout) (g := F0 m pc ls (.int x :: .int i :: .ref a :: rest)) rfl (rest := rest) rfl (by rw [hb]; exact hdg) t
  simp only [arrV_size] at h1
  exact h1 st
theorem vx_caldZ {D : va_G} {cl : List vw_C} {ws : va_W} {tys : List (ClassId × FieldType)} {a : Nat} (hexec : p.tables.exec = Jvm.exec) (hb : c.code = cc) (hK : va_K D cl tys s) (hP : va_P D cl ws H) (q0 t0 : Nat) {cA : ClassId} {n : Nat} {f : Nat → Int32} (ha : ws[q0]? = some (a, .inl (cA, n, .inl f))) (ht : tys[t0]? = some (cA, .char)) {i : Int32} (hout : ¬ vp_in i n) (hdg : decode cc pc = .ok (.caload, 1))
    (k : ∀ tx : String, tx = (toString "Index " ++ toString i ++ toString " out of bounds for length " ++ toString n : String) → vx_Note p l e R s m args below meth c H locs cells slots Q (F0 m pc ls rest) "java/lang/ArrayIndexOutOfBoundsException" tx) : W p l e R s m args below meth c H locs cells slots Q (F0 m pc ls (.int i :: .ref a :: rest)) := by
  intro T hT X
  obtain ⟨t, st, q⟩ := k _ rfl T hT X
  refine ⟨t, ?_, q⟩
  have h1 := X.caloadOut hexec (by rw [hT]; exact hP q0 _ ha) ((hK.2 t0 _ ht).1 n (fun j => .int (f j))) (j := i) (by show (i < 0 ∨ (arrV _ _ _).slots.size ≤ _); rw [arrV_size]; exact Classical.byContradiction hout) (g := F0 m pc ls (.int i :: .ref a :: rest)) rfl (rest := rest) rfl (by rw [hb]; exact hdg) t
  simp only [arrV_size] at h1
  exact h1 st
theorem vx_castZ {D : va_G} {cl : List vw_C} {ws : va_W} {tys : List (ClassId × FieldType)} {a : Nat} (hexec : p.tables.exec = Jvm.exec) (hb : c.code = cc) (hK : va_K D cl tys s) (hP : va_P D cl ws H) (q0 t0 : Nat) {cA : ClassId} {n : Nat} {f : Nat → Int32} (ha : ws[q0]? = some (a, .inl (cA, n, .inl f))) (ht : tys[t0]? = some (cA, .char)) {i : Int32} {x : Int32} (hout : ¬ vp_in i n) (hdg : decode cc pc = .ok (.castore, 1))
    (k : ∀ tx : String, tx = (toString "Index " ++ toString i ++ toString " out of bounds for length " ++ toString n : String) → vx_Note p l e R s m args below meth c H locs cells slots Q (F0 m pc ls rest) "java/lang/ArrayIndexOutOfBoundsException" tx) : W p l e R s m args below meth c H locs cells slots Q (F0 m pc ls (.int x :: .int i :: .ref a :: rest)) := by
  intro T hT X
  obtain ⟨t, st, q⟩ := k _ rfl T hT X
  refine ⟨t, ?_, q⟩
  have h1 := X.castoreOut hexec (by rw [hT]; exact hP q0 _ ha) ((hK.2 t0 _ ht).1 n (fun j => .int (f j))) (j := i) (by show (i < 0 ∨ (arrV _ _ _).slots.size ≤ _); rw [arrV_size]; exact Classical.byContradiction hout) (g := F0 m pc ls (.int x :: .int i :: .ref a :: rest)) rfl (rest := rest) rfl (by rw [hb]; exact hdg) t
  simp only [arrV_size] at h1
  exact h1 st
theorem vx_saldZ {D : va_G} {cl : List vw_C} {ws : va_W} {tys : List (ClassId × FieldType)} {a : Nat} (hexec : p.tables.exec = Jvm.exec) (hb : c.code = cc) (hK : va_K D cl tys s) (hP : va_P D cl ws H) (q0 t0 : Nat) {cA : ClassId} {n : Nat} {f : Nat → Int32} (ha : ws[q0]? = some (a, .inl (cA, n, .inl f))) (ht : tys[t0]? = some (cA, .short)) {i : Int32} (hout : ¬ vp_in i n) (hdg : decode cc pc = .ok (.saload, 1))
    (k : ∀ tx : String, tx = (toString "Index " ++ toString i ++ toString " out of bounds for length " ++ toString n : String) → vx_Note p l e R s m args below meth c H locs cells slots Q (F0 m pc ls rest) "java/lang/ArrayIndexOutOfBoundsException" tx) : W p l e R s m args below meth c H locs cells slots Q (F0 m pc ls (.int i :: .ref a :: rest)) := by
  intro T hT X
  obtain ⟨t, st, q⟩ := k _ rfl T hT X
  refine ⟨t, ?_, q⟩
  have h1 := X.saloadOut hexec (by rw [hT]; exact hP q0 _ ha) ((hK.2 t0 _ ht).1 n (fun j => .int (f j))) (j := i) (by show (i < 0 ∨ (arrV _ _ _).slots.size ≤ _); rw [arrV_size]; exact Classical.byContradiction hout) (g := F0 m pc ls (.int i :: .ref a :: rest)) rfl (rest := rest) rfl (by rw [hb]; exact hdg) t
  simp only [arrV_size] at h1
  exact h1 st
theorem vx_sastZ {D : va_G} {cl : List vw_C} {ws : va_W} {tys : List (ClassId × FieldType)} {a : Nat} (hexec : p.tables.exec = Jvm.exec) (hb : c.code = cc) (hK : va_K D cl tys s) (hP : va_P D cl ws H) (q0 t0 : Nat) {cA : ClassId} {n : Nat} {f : Nat → Int32} (ha : ws[q0]? = some (a, .inl (cA, n, .inl f))) (ht : tys[t0]? = some (cA, .short)) {i : Int32} {x : Int32} (hout : ¬ vp_in i n) (hdg : decode cc pc = .ok (.sastore, 1))
    (k : ∀ tx : String, tx = (toString "Index " ++ toString i ++ toString " out of bounds for length " ++ toString n : String) → vx_Note p l e R s m args below meth c H locs cells slots Q (F0 m pc ls rest) "java/lang/ArrayIndexOutOfBoundsException" tx) : W p l e R s m args below meth c H locs cells slots Q (F0 m pc ls (.int x :: .int i :: .ref a :: rest)) := by
  intro T hT X
  obtain ⟨t, st, q⟩ := k _ rfl T hT X
  refine ⟨t, ?_, q⟩
  have h1 := X.sastoreOut hexec (by rw [hT]; exact hP q0 _ ha) ((hK.2 t0 _ ht).1 n (fun j => .int (f j))) (j := i) (by show (i < 0 ∨ (arrV _ _ _).slots.size ≤ _); rw [arrV_size]; exact Classical.byContradiction hout) (g := F0 m pc ls (.int x :: .int i :: .ref a :: rest)) rfl (rest := rest) rfl (by rw [hb]; exact hdg) t
  simp only [arrV_size] at h1
  exact h1 st
theorem vx_laldZ {D : va_G} {cl : List vw_C} {ws : va_W} {tys : List (ClassId × FieldType)} {a : Nat} (hexec : p.tables.exec = Jvm.exec) (hb : c.code = cc) (hK : va_K D cl tys s) (hP : va_P D cl ws H) (q0 t0 : Nat) {cA : ClassId} {n : Nat} {f : Nat → Int64} (ha : ws[q0]? = some (a, .inl (cA, n, .inr (.inl f)))) (ht : tys[t0]? = some (cA, .long)) {i : Int32} (hout : ¬ vp_in i n) (hdg : decode cc pc = .ok (.laload, 1))
    (k : ∀ tx : String, tx = (toString "Index " ++ toString i ++ toString " out of bounds for length " ++ toString n : String) → vx_Note p l e R s m args below meth c H locs cells slots Q (F0 m pc ls rest) "java/lang/ArrayIndexOutOfBoundsException" tx) : W p l e R s m args below meth c H locs cells slots Q (F0 m pc ls (.int i :: .ref a :: rest)) := by
  intro T hT X
  obtain ⟨t, st, q⟩ := k _ rfl T hT X
  refine ⟨t, ?_, q⟩
  have h1 := X.laloadOut hexec (by rw [hT]; exact hP q0 _ ha) ((hK.2 t0 _ ht).1 n (fun j => .long (f j))) (j := i) (by show (i < 0 ∨ (arrV _ _ _).slots.size ≤ _); rw [arrV_size]; exact Classical.byContradiction hout) (g := F0 m pc ls (.int i :: .ref a :: rest)) rfl (rest := rest) rfl (by rw [hb]; exact hdg) t
  simp only [arrV_size] at h1
  exact h1 st
theorem vx_lastZ {D : va_G} {cl : List vw_C} {ws : va_W} {tys : List (ClassId × FieldType)} {a : Nat} (hexec : p.tables.exec = Jvm.exec) (hb : c.code = cc) (hK : va_K D cl tys s) (hP : va_P D cl ws H) (q0 t0 : Nat) {cA : ClassId} {n : Nat} {f : Nat → Int64} (ha : ws[q0]? = some (a, .inl (cA, n, .inr (.inl f)))) (ht : tys[t0]? = some (cA, .long)) {i : Int32} {x : Int64} (hout : ¬ vp_in i n) (hdg : decode cc pc = .ok (.lastore, 1))
    (k : ∀ tx : String, tx = (toString "Index " ++ toString i ++ toString " out of bounds for length " ++ toString n : String) → vx_Note p l e R s m args below meth c H locs cells slots Q (F0 m pc ls rest) "java/lang/ArrayIndexOutOfBoundsException" tx) : W p l e R s m args below meth c H locs cells slots Q (F0 m pc ls (.long x :: .int i :: .ref a :: rest)) := by
  intro T hT X
  obtain ⟨t, st, q⟩ := k _ rfl T hT X
  refine ⟨t, ?_, q⟩
  have h1 := X.lastoreOut hexec (by rw [hT]; exact hP q0 _ ha) ((hK.2 t0 _ ht).1 n (fun j => .long (f j))) (j := i) (by show (i < 0 ∨ (arrV _ _ _).slots.size ≤ _); rw [arrV_size]; exact Classical.byContradiction hout) (g := F0 m pc ls (.long x :: .int i :: .ref a :: rest)) rfl (rest := rest) rfl (by rw [hb]; exact hdg) t
  simp only [arrV_size] at h1
  exact h1 st
theorem vx_faldZ {D : va_G} {cl : List vw_C} {ws : va_W} {tys : List (ClassId × FieldType)} {a : Nat} (hexec : p.tables.exec = Jvm.exec) (hb : c.code = cc) (hK : va_K D cl tys s) (hP : va_P D cl ws H) (q0 t0 : Nat) {cA : ClassId} {n : Nat} {f : Nat → UInt32} (ha : ws[q0]? = some (a, .inl (cA, n, .inr (.inr (.inl f))))) (ht : tys[t0]? = some (cA, .float)) {i : Int32} (hout : ¬ vp_in i n) (hdg : decode cc pc = .ok (.faload, 1))
    (k : ∀ tx : String, tx = (toString "Index " ++ toString i ++ toString " out of bounds for length " ++ toString n : String) → vx_Note p l e R s m args below meth c H locs cells slots Q (F0 m pc ls rest) "java/lang/ArrayIndexOutOfBoundsException" tx) : W p l e R s m args below meth c H locs cells slots Q (F0 m pc ls (.int i :: .ref a :: rest)) := by
  intro T hT X
  obtain ⟨t, st, q⟩ := k _ rfl T hT X
  refine ⟨t, ?_, q⟩
  have h1 := X.faloadOut hexec (by rw [hT]; exact hP q0 _ ha) ((hK.2 t0 _ ht).1 n (fun j => .float (f j))) (j := i) (by show (i < 0 ∨ (arrV _ _ _).slots.size ≤ _); rw [arrV_size]; exact Classical.byContradiction hout) (g := F0 m pc ls (.int i :: .ref a :: rest)) rfl (rest := rest) rfl (by rw [hb]; exact hdg) t
  simp only [arrV_size] at h1
  exact h1 st
theorem vx_fastZ {D : va_G} {cl : List vw_C} {ws : va_W} {tys : List (ClassId × FieldType)} {a : Nat} (hexec : p.tables.exec = Jvm.exec) (hb : c.code = cc) (hK : va_K D cl tys s) (hP : va_P D cl ws H) (q0 t0 : Nat) {cA : ClassId} {n : Nat} {f : Nat → UInt32} (ha : ws[q0]? = some (a, .inl (cA, n, .inr (.inr (.inl f))))) (ht : tys[t0]? = some (cA, .float)) {i : Int32} {x : UInt32} (hout : ¬ vp_in i n) (hdg : decode cc pc = .ok (.fastore, 1))
    (k : ∀ tx : String, tx = (toString "Index " ++ toString i ++ toString " out of bounds for length " ++ toString n : String) → vx_Note p l e R s m args below meth c H locs cells slots Q (F0 m pc ls rest) "java/lang/ArrayIndexOutOfBoundsException" tx) : W p l e R s m args below meth c H locs cells slots Q (F0 m pc ls (.float x :: .int i :: .ref a :: rest)) := by
  intro T hT X
  obtain ⟨t, st, q⟩ := k _ rfl T hT X
  refine ⟨t, ?_, q⟩
  have h1 := X.fastoreOut hexec (by rw [hT]; exact hP q0 _ ha) ((hK.2 t0 _ ht).1 n (fun j => .float (f j))) (j := i) (by show (i < 0 ∨ (arrV _ _ _).slots.size ≤ _); rw [arrV_size]; exact Classical.byContradiction hout) (g := F0 m pc ls (.float x :: .int i :: .ref a :: rest)) rfl (rest := rest) rfl (by rw [hb]; exact hdg) t
  simp only [arrV_size] at h1
  exact h1 st
theorem vx_daldZ {D : va_G} {cl : List vw_C} {ws : va_W} {tys : List (ClassId × FieldType)} {a : Nat} (hexec : p.tables.exec = Jvm.exec) (hb : c.code = cc) (hK : va_K D cl tys s) (hP : va_P D cl ws H) (q0 t0 : Nat) {cA : ClassId} {n : Nat} {f : Nat → UInt64} (ha : ws[q0]? = some (a, .inl (cA, n, .inr (.inr (.inr (.inl f)))))) (ht : tys[t0]? = some (cA, .double)) {i : Int32} (hout : ¬ vp_in i n) (hdg : decode cc pc = .ok (.daload, 1))
    (k : ∀ tx : String, tx = (toString "Index " ++ toString i ++ toString " out of bounds for length " ++ toString n : String) → vx_Note p l e R s m args below meth c H locs cells slots Q (F0 m pc ls rest) "java/lang/ArrayIndexOutOfBoundsException" tx) : W p l e R s m args below meth c H locs cells slots Q (F0 m pc ls (.int i :: .ref a :: rest)) := by
  intro T hT X
  obtain ⟨t, st, q⟩ := k _ rfl T hT X
  refine ⟨t, ?_, q⟩
  have h1 := X.daloadOut hexec (by rw [hT]; exact hP q0 _ ha) ((hK.2 t0 _ ht).1 n (fun j => .double (f j))) (j := i) (by show (i < 0 ∨ (arrV _ _ _).slots.size ≤ _); rw [arrV_size]; exact Classical.byContradiction hout) (g := F0 m pc ls (.int i :: .ref a :: rest)) rfl (rest := rest) rfl (by rw [hb]; exact hdg) t
  simp only [arrV_size] at h1
  exact h1 st
theorem vx_dastZ {D : va_G} {cl : List vw_C} {ws : va_W} {tys : List (ClassId × FieldType)} {a : Nat} (hexec : p.tables.exec = Jvm.exec) (hb : c.code = cc) (hK : va_K D cl tys s) (hP : va_P D cl ws H) (q0 t0 : Nat) {cA : ClassId} {n : Nat} {f : Nat → UInt64} (ha : ws[q0]? = some (a, .inl (cA, n, .inr (.inr (.inr (.inl f)))))) (ht : tys[t0]? = some (cA, .double)) {i : Int32} {x : UInt64} (hout : ¬ vp_in i n) (hdg : decode cc pc = .ok (.dastore, 1))
    (k : ∀ tx : String, tx = (toString "Index " ++ toString i ++ toString " out of bounds for length " ++ toString n : String) → vx_Note p l e R s m args below meth c H locs cells slots Q (F0 m pc ls rest) "java/lang/ArrayIndexOutOfBoundsException" tx) : W p l e R s m args below meth c H locs cells slots Q (F0 m pc ls (.double x :: .int i :: .ref a :: rest)) := by
  intro T hT X
  obtain ⟨t, st, q⟩ := k _ rfl T hT X
  refine ⟨t, ?_, q⟩
  have h1 := X.dastoreOut hexec (by rw [hT]; exact hP q0 _ ha) ((hK.2 t0 _ ht).1 n (fun j => .double (f j))) (j := i) (by show (i < 0 ∨ (arrV _ _ _).slots.size ≤ _); rw [arrV_size]; exact Classical.byContradiction hout) (g := F0 m pc ls (.double x :: .int i :: .ref a :: rest)) rfl (rest := rest) rfl (by rw [hb]; exact hdg) t
  simp only [arrV_size] at h1
  exact h1 st
theorem vx_arraylengthN (hexec : p.tables.exec = Jvm.exec) (hb : c.code = cc) (hdg : decode cc pc = .ok (.arraylength, 1)) (k : vx_NoteN p l e R s m args below meth c H locs cells slots Q (F0 m pc ls rest)) : W p l e R s m args below meth c H locs cells slots Q (F0 m pc ls (.null :: rest)) := by
  intro T hT X
  obtain ⟨t, st, q⟩ := k T hT X
  exact ⟨t, X.arraylengthNull hexec (g := F0 m pc ls (.null :: rest)) rfl (rest := rest) rfl (by rw [hb]; exact hdg) t st, q⟩
theorem vx_ialoadN (hexec : p.tables.exec = Jvm.exec) (hb : c.code = cc) {i : Int32} (hdg : decode cc pc = .ok (.iaload, 1)) (k : vx_NoteN p l e R s m args below meth c H locs cells slots Q (F0 m pc ls rest)) : W p l e R s m args below meth c H locs cells slots Q (F0 m pc ls (.int i :: .null :: rest)) := by
  intro T hT X
  obtain ⟨t, st, q⟩ := k T hT X
  exact ⟨t, X.ialoadNull hexec (g := F0 m pc ls (.int i :: .null :: rest)) rfl (rest := rest) rfl (by rw [hb]; exact hdg) t st, q⟩
theorem vx_laloadN (hexec : p.tables.exec = Jvm.exec) (hb : c.code = cc) {i : Int32} (hdg : decode cc pc = .ok (.laload, 1)) (k : vx_NoteN p l e R s m args below meth c H locs cells slots Q (F0 m pc ls rest)) : W p l e R s m args below meth c H locs cells slots Q (F0 m pc ls (.int i :: .null :: rest)) := by
  intro T hT X
  obtain ⟨t, st, q⟩ := k T hT X
  exact ⟨t, X.laloadNull hexec (g := F0 m pc ls (.int i :: .null :: rest)) rfl (rest := rest) rfl (by rw [hb]; exact hdg) t st, q⟩
theorem vx_faloadN (hexec : p.tables.exec = Jvm.exec) (hb : c.code = cc) {i : Int32} (hdg : decode cc pc = .ok (.faload, 1)) (k : vx_NoteN p l e R s m args below meth c H locs cells slots Q (F0 m pc ls rest)) : W p l e R s m args below meth c H locs cells slots Q (F0 m pc ls (.int i :: .null :: rest)) := by
  intro T hT X
  obtain ⟨t, st, q⟩ := k T hT X
  exact ⟨t, X.faloadNull hexec (g := F0 m pc ls (.int i :: .null :: rest)) rfl (rest := rest) rfl (by rw [hb]; exact hdg) t st, q⟩
theorem vx_daloadN (hexec : p.tables.exec = Jvm.exec) (hb : c.code = cc) {i : Int32} (hdg : decode cc pc = .ok (.daload, 1)) (k : vx_NoteN p l e R s m args below meth c H locs cells slots Q (F0 m pc ls rest)) : W p l e R s m args below meth c H locs cells slots Q (F0 m pc ls (.int i :: .null :: rest)) := by
  intro T hT X
  obtain ⟨t, st, q⟩ := k T hT X
  exact ⟨t, X.daloadNull hexec (g := F0 m pc ls (.int i :: .null :: rest)) rfl (rest := rest) rfl (by rw [hb]; exact hdg) t st, q⟩
theorem vx_aaloadN (hexec : p.tables.exec = Jvm.exec) (hb : c.code = cc) {i : Int32} (hdg : decode cc pc = .ok (.aaload, 1)) (k : vx_NoteN p l e R s m args below meth c H locs cells slots Q (F0 m pc ls rest)) : W p l e R s m args below meth c H locs cells slots Q (F0 m pc ls (.int i :: .null :: rest)) := by
  intro T hT X
  obtain ⟨t, st, q⟩ := k T hT X
  exact ⟨t, X.aaloadNull hexec (g := F0 m pc ls (.int i :: .null :: rest)) rfl (rest := rest) rfl (by rw [hb]; exact hdg) t st, q⟩
theorem vx_baloadN (hexec : p.tables.exec = Jvm.exec) (hb : c.code = cc) {i : Int32} (hdg : decode cc pc = .ok (.baload, 1)) (k : vx_NoteN p l e R s m args below meth c H locs cells slots Q (F0 m pc ls rest)) : W p l e R s m args below meth c H locs cells slots Q (F0 m pc ls (.int i :: .null :: rest)) := by
  intro T hT X
  obtain ⟨t, st, q⟩ := k T hT X
  exact ⟨t, X.baloadNull hexec (g := F0 m pc ls (.int i :: .null :: rest)) rfl (rest := rest) rfl (by rw [hb]; exact hdg) t st, q⟩
theorem vx_caloadN (hexec : p.tables.exec = Jvm.exec) (hb : c.code = cc) {i : Int32} (hdg : decode cc pc = .ok (.caload, 1)) (k : vx_NoteN p l e R s m args below meth c H locs cells slots Q (F0 m pc ls rest)) : W p l e R s m args below meth c H locs cells slots Q (F0 m pc ls (.int i :: .null :: rest)) := by
  intro T hT X
  obtain ⟨t, st, q⟩ := k T hT X
  exact ⟨t, X.caloadNull hexec (g := F0 m pc ls (.int i :: .null :: rest)) rfl (rest := rest) rfl (by rw [hb]; exact hdg) t st, q⟩
theorem vx_saloadN (hexec : p.tables.exec = Jvm.exec) (hb : c.code = cc) {i : Int32} (hdg : decode cc pc = .ok (.saload, 1)) (k : vx_NoteN p l e R s m args below meth c H locs cells slots Q (F0 m pc ls rest)) : W p l e R s m args below meth c H locs cells slots Q (F0 m pc ls (.int i :: .null :: rest)) := by
  intro T hT X
  obtain ⟨t, st, q⟩ := k T hT X
  exact ⟨t, X.saloadNull hexec (g := F0 m pc ls (.int i :: .null :: rest)) rfl (rest := rest) rfl (by rw [hb]; exact hdg) t st, q⟩
theorem vx_iastoreN (hexec : p.tables.exec = Jvm.exec) (hb : c.code = cc) {x : Int32} {i : Int32} (hdg : decode cc pc = .ok (.iastore, 1)) (k : vx_NoteN p l e R s m args below meth c H locs cells slots Q (F0 m pc ls rest)) : W p l e R s m args below meth c H locs cells slots Q (F0 m pc ls (.int x :: .int i :: .null :: rest)) := by
  intro T hT X
  obtain ⟨t, st, q⟩ := k T hT X
  exact ⟨t, X.iastoreNull hexec (g := F0 m pc ls (.int x :: .int i :: .null :: rest)) rfl (rest := rest) rfl (by rw [hb]; exact hdg) t st, q⟩
theorem vx_lastoreN (hexec : p.tables.exec = Jvm.exec) (hb : c.code = cc) {x : Int64} {i : Int32} (hdg : decode cc pc = .ok (.lastore, 1)) (k : vx_NoteN p l e R s m args below meth c H locs cells slots Q (F0 m pc ls rest)) : W p l e R s m args below meth c H locs cells slots Q (F0 m pc ls (.long x :: .int i :: .null :: rest)) := by
  intro T hT X
  obtain ⟨t, st, q⟩ := k T hT X
  exact ⟨t, X.lastoreNull hexec (g := F0 m pc ls (.long x :: .int i :: .null :: rest)) rfl (rest := rest) rfl (by rw [hb]; exact hdg) t st, q⟩
theorem vx_fastoreN (hexec : p.tables.exec = Jvm.exec) (hb : c.code = cc) {x : UInt32} {i : Int32} (hdg : decode cc pc = .ok (.fastore, 1)) (k : vx_NoteN p l e R s m args below meth c H locs cells slots Q (F0 m pc ls rest)) : W p l e R s m args below meth c H locs cells slots Q (F0 m pc ls (.float x :: .int i :: .null :: rest)) := by
  intro T hT X
  obtain ⟨t, st, q⟩ := k T hT X
  exact ⟨t, X.fastoreNull hexec (g := F0 m pc ls (.float x :: .int i :: .null :: rest)) rfl (rest := rest) rfl (by rw [hb]; exact hdg) t st, q⟩
theorem vx_dastoreN (hexec : p.tables.exec = Jvm.exec) (hb : c.code = cc) {x : UInt64} {i : Int32} (hdg : decode cc pc = .ok (.dastore, 1)) (k : vx_NoteN p l e R s m args below meth c H locs cells slots Q (F0 m pc ls rest)) : W p l e R s m args below meth c H locs cells slots Q (F0 m pc ls (.double x :: .int i :: .null :: rest)) := by
  intro T hT X
  obtain ⟨t, st, q⟩ := k T hT X
  exact ⟨t, X.dastoreNull hexec (g := F0 m pc ls (.double x :: .int i :: .null :: rest)) rfl (rest := rest) rfl (by rw [hb]; exact hdg) t st, q⟩
theorem vx_bastoreN (hexec : p.tables.exec = Jvm.exec) (hb : c.code = cc) {x : Int32} {i : Int32} (hdg : decode cc pc = .ok (.bastore, 1)) (k : vx_NoteN p l e R s m args below meth c H locs cells slots Q (F0 m pc ls rest)) : W p l e R s m args below meth c H locs cells slots Q (F0 m pc ls (.int x :: .int i :: .null :: rest)) := by
  intro T hT X
  obtain ⟨t, st, q⟩ := k T hT X
  exact ⟨t, X.bastoreNull hexec (g := F0 m pc ls (.int x :: .int i :: .null :: rest)) rfl (rest := rest) rfl (by rw [hb]; exact hdg) t st, q⟩
theorem vx_castoreN (hexec : p.tables.exec = Jvm.exec) (hb : c.code = cc) {x : Int32} {i : Int32} (hdg : decode cc pc = .ok (.castore, 1)) (k : vx_NoteN p l e R s m args below meth c H locs cells slots Q (F0 m pc ls rest)) : W p l e R s m args below meth c H locs cells slots Q (F0 m pc ls (.int x :: .int i :: .null :: rest)) := by
  intro T hT X
  obtain ⟨t, st, q⟩ := k T hT X
  exact ⟨t, X.castoreNull hexec (g := F0 m pc ls (.int x :: .int i :: .null :: rest)) rfl (rest := rest) rfl (by rw [hb]; exact hdg) t st, q⟩
theorem vx_sastoreN (hexec : p.tables.exec = Jvm.exec) (hb : c.code = cc) {x : Int32} {i : Int32} (hdg : decode cc pc = .ok (.sastore, 1)) (k : vx_NoteN p l e R s m args below meth c H locs cells slots Q (F0 m pc ls rest)) : W p l e R s m args below meth c H locs cells slots Q (F0 m pc ls (.int x :: .int i :: .null :: rest)) := by
  intro T hT X
  obtain ⟨t, st, q⟩ := k T hT X
  exact ⟨t, X.sastoreNull hexec (g := F0 m pc ls (.int x :: .int i :: .null :: rest)) rfl (rest := rest) rfl (by rw [hb]; exact hdg) t st, q⟩
theorem vx_invokeN {own C : String} {index maxL : Nat} {y : MethodName} {bytes : ByteArray} {ret : Option FieldType} (hexec : p.tables.exec = Jvm.exec) (hb : c.code = cc) (hown : s.vm.findClass own = some m.cls) (hlink : (Cond.methodLink own index y).before args s = true) (hinst : (Cond.instanceMethod y).before args s = true) (hcode : (Cond.code y bytes maxL ret).before args s = true) (hsel : (Cond.selects C y y).before args s = true)
    (hx : y.cls ≠ "java/lang/invoke/MethodHandle" ∧ y.cls ≠ "java/lang/invoke/VarHandle") {As : List Value} (hlen : (parseMethodDescriptor y.desc).map (fun d => d.parameters.length) = some As.length) (hdg : decode cc pc = .ok (.invokevirtual index, 3))
    (k : vx_NoteN p l e R s m args below meth c H locs cells slots Q (F0 m pc ls rest)) {st0 : List Value} (hst : st0 = As.reverse ++ .null :: rest) : W p l e R s m args below meth c H locs cells slots Q (F0 m pc ls st0) := by
  intro T hT X
  obtain ⟨r0, r, hn, hrm, hstR, hsigR⟩ := va_Decl.of hinst hcode
  obtain ⟨c2, r2, m2, q1, q2, q3, q4, kP, hkP, hkPi⟩ := Cond.selects_spec hsel
  cases hn.symm.trans q3
  have hl9 : As.length = r.sig.parameters.length := by
    rw [hsigR] at hlen
    exact (Option.some.inj hlen).symm
  obtain ⟨vm', X1, st1⟩ := X.invokevirtualNull hexec hown hlink hn hrm hstR hkP hkPi hx (g := F0 m pc ls st0) rfl (argsL := As) (rest := rest) hl9 hst (by rw [hb]; exact hdg)
  obtain ⟨t, st, q⟩ := k (T.setVm vm') hT X1
  exact ⟨t, st1 t st, q⟩
theorem vx_newarrayZ {atype : ArrayType} (hexec : p.tables.exec = Jvm.exec) (hb : c.code = cc) {n : Int32} (h0 : n < 0) (hdg : decode cc pc = .ok (.newarray atype, 2)) (k : ∀ tx : String, tx = toString n → vx_Note p l e R s m args below meth c H locs cells slots Q (F0 m pc ls rest) "java/lang/NegativeArraySizeException" tx) : W p l e R s m args below meth c H locs cells slots Q (F0 m pc ls (.int n :: rest)) := by
  intro T hT X
  obtain ⟨t, st, q⟩ := k _ rfl T hT X
  exact ⟨t, X.newarrayNegative hexec (g := F0 m pc ls (.int n :: rest)) rfl h0 (rest := rest) rfl (by rw [hb]; exact hdg) t st, q⟩
end
end VXM
/-! ===== END ===== -/
end
section
/-! ===== BEGIN printed: names, fields, word lists, decode rows ===== -/
def RX0 : String := "BellTelegraph$Command"
def TX0 : u_T := fun k => match k with
  | 0 => ("BellTelegraph$Command", "kind", "I", false)
  | 1 => ("BellTelegraph$Command", "first", "I", false)
  | 2 => ("BellTelegraph$Command", "second", "I", false)
  | _ => ("BellTelegraph$Command", "third", "I", false)
def tyX0 : Nat → FieldType := fun k => match k with
  | 0 => .int
  | 1 => .int
  | 2 => .int
  | _ => .int
abbrev wsX00 : List Cond := u_ws RX0 TX0 4
theorem nmX0 : ∀ a, a < 4 → ∀ b, b < 4 → a ≠ b → (TX0 a).2.1 ≠ (TX0 b).2.1 := by decide +kernel
theorem tyX0_ok : ∀ k, k < 4 → parseFieldDescriptor (TX0 k).2.2.1 = some (tyX0 k) := by decide +kernel
abbrev cX0_init : ByteArray := prog_2_method_1_code
def yX0_init : MethodName := ⟨RX0, "<init>", "()V"⟩
abbrev cX0_set : ByteArray := prog_2_method_2_code
def yX0_set : MethodName := ⟨RX0, "set", "(IIII)V"⟩
def RX1 : String := "BellTelegraph$CommandText"
def TX1 : u_T := fun k => match k with
  | 0 => ("BellTelegraph$CommandText", "characters", "[C", true)
  | 1 => ("BellTelegraph$CommandText", "length", "I", false)
  | 2 => ("BellTelegraph$CommandText", "commands", "[LBellTelegraph$Command;", true)
  | 3 => ("BellTelegraph$CommandText", "commandCount", "I", false)
  | _ => ("BellTelegraph$CommandText", "position", "I", false)
def tyX1 : Nat → FieldType := fun k => match k with
  | 0 => .array .char
  | 1 => .int
  | 2 => .array (.object "BellTelegraph$Command")
  | 3 => .int
  | _ => .int
abbrev wsX10 : List Cond := u_ws RX1 TX1 5
theorem nmX1 : ∀ a, a < 5 → ∀ b, b < 5 → a ≠ b → (TX1 a).2.1 ≠ (TX1 b).2.1 := by decide +kernel
theorem tyX1_ok : ∀ k, k < 5 → parseFieldDescriptor (TX1 k).2.2.1 = some (tyX1 k) := by decide +kernel
abbrev cX1_init : ByteArray := prog_3_method_1_code
def yX1_init : MethodName := ⟨RX1, "<init>", "()V"⟩
abbrev cX1_add : ByteArray := prog_3_method_2_code
def yX1_add : MethodName := ⟨RX1, "add", "(C)V"⟩
abbrev cX1_read : ByteArray := prog_3_method_3_code
def yX1_read : MethodName := ⟨RX1, "read", "()I"⟩
abbrev cX1_readCommand : ByteArray := prog_3_method_4_code
def yX1_readCommand : MethodName := ⟨RX1, "readCommand", "()Z"⟩
abbrev cX1_readSend : ByteArray := prog_3_method_5_code
def yX1_readSend : MethodName := ⟨RX1, "readSend", "(LBellTelegraph$Command;)Z"⟩
abbrev cX1_readOneNumber : ByteArray := prog_3_method_6_code
def yX1_readOneNumber : MethodName := ⟨RX1, "readOneNumber", "(LBellTelegraph$Command;I)Z"⟩
abbrev cX1_readSilence : ByteArray := prog_3_method_7_code
def yX1_readSilence : MethodName := ⟨RX1, "readSilence", "(LBellTelegraph$Command;)Z"⟩
abbrev cX1_readSetting : ByteArray := prog_3_method_8_code
def yX1_readSetting : MethodName := ⟨RX1, "readSetting", "(LBellTelegraph$Command;I)Z"⟩
abbrev cX1_nextCharacter : ByteArray := prog_3_method_9_code
def yX1_nextCharacter : MethodName := ⟨RX1, "nextCharacter", "()I"⟩
abbrev cX1_readCharacter : ByteArray := prog_3_method_10_code
def yX1_readCharacter : MethodName := ⟨RX1, "readCharacter", "(C)Z"⟩
abbrev cX1_readDigit : ByteArray := prog_3_method_11_code
def yX1_readDigit : MethodName := ⟨RX1, "readDigit", "(II)I"⟩
abbrev cX1_readNumber : ByteArray := prog_3_method_12_code
def yX1_readNumber : MethodName := ⟨RX1, "readNumber", "()I"⟩
abbrev cX1_readSigns : ByteArray := prog_3_method_13_code
def yX1_readSigns : MethodName := ⟨RX1, "readSigns", "()I"⟩
def RX2 : String := "BellTelegraph$Convent"
def TX2 : u_T := fun k => match k with
  | 0 => ("BellTelegraph$Convent", "tone", "I", false)
  | 1 => ("BellTelegraph$Convent", "ear", "I", false)
  | 2 => ("BellTelegraph$Convent", "silentFrom", "I", false)
  | 3 => ("BellTelegraph$Convent", "silentUntil", "I", false)
  | 4 => ("BellTelegraph$Convent", "hoursRung", "I", false)
  | 5 => ("BellTelegraph$Convent", "signsLost", "I", false)
  | 6 => ("BellTelegraph$Convent", "waitingCount", "I", false)
  | _ => ("BellTelegraph$Convent", "queue", "[I", true)
def tyX2 : Nat → FieldType := fun k => match k with
  | 0 => .int
  | 1 => .int
  | 2 => .int
  | 3 => .int
  | 4 => .int
  | 5 => .int
  | 6 => .int
  | _ => .array .int
abbrev wsX20 : List Cond := u_ws RX2 TX2 8
theorem nmX2 : ∀ a, a < 8 → ∀ b, b < 8 → a ≠ b → (TX2 a).2.1 ≠ (TX2 b).2.1 := by decide +kernel
theorem tyX2_ok : ∀ k, k < 8 → parseFieldDescriptor (TX2 k).2.2.1 = some (tyX2 k) := by decide +kernel
abbrev cX2_init : ByteArray := prog_4_method_1_code
def yX2_init : MethodName := ⟨RX2, "<init>", "()V"⟩
abbrev cX2_begin : ByteArray := prog_4_method_2_code
def yX2_begin : MethodName := ⟨RX2, "begin", "(II)V"⟩
abbrev cX2_takeFrom : ByteArray := prog_4_method_3_code
def yX2_takeFrom : MethodName := ⟨RX2, "takeFrom", "(LBellTelegraph$Convent;)V"⟩
abbrev cX2_isSilentAt : ByteArray := prog_4_method_4_code
def yX2_isSilentAt : MethodName := ⟨RX2, "isSilentAt", "(I)Z"⟩
abbrev cX2_join : ByteArray := prog_4_method_5_code
def yX2_join : MethodName := ⟨RX2, "join", "(I)V"⟩
abbrev cX2_leave : ByteArray := prog_4_method_6_code
def yX2_leave : MethodName := ⟨RX2, "leave", "(I)V"⟩
def RX3 : String := "BellTelegraph$History"
def TX3 : u_T := fun k => match k with
  | 0 => ("BellTelegraph$History", "rows", "[LBellTelegraph$Network;", true)
  | 1 => ("BellTelegraph$History", "spareRow", "I", false)
  | _ => ("BellTelegraph$History", "kept", "I", false)
def tyX3 : Nat → FieldType := fun k => match k with
  | 0 => .array (.object "BellTelegraph$Network")
  | 1 => .int
  | _ => .int
abbrev wsX30 : List Cond := u_ws RX3 TX3 3
theorem nmX3 : ∀ a, a < 3 → ∀ b, b < 3 → a ≠ b → (TX3 a).2.1 ≠ (TX3 b).2.1 := by decide +kernel
theorem tyX3_ok : ∀ k, k < 3 → parseFieldDescriptor (TX3 k).2.2.1 = some (tyX3 k) := by decide +kernel
abbrev cX3_init : ByteArray := prog_5_method_1_code
def yX3_init : MethodName := ⟨RX3, "<init>", "()V"⟩
abbrev cX3_spare : ByteArray := prog_5_method_2_code
def yX3_spare : MethodName := ⟨RX3, "spare", "()LBellTelegraph$Network;"⟩
abbrev cX3_keepSpare : ByteArray := prog_5_method_3_code
def yX3_keepSpare : MethodName := ⟨RX3, "keepSpare", "()V"⟩
abbrev cX3_takeLatest : ByteArray := prog_5_method_4_code
def yX3_takeLatest : MethodName := ⟨RX3, "takeLatest", "()LBellTelegraph$Network;"⟩
def RX4 : String := "BellTelegraph$Message"
def TX4 : u_T := fun k => match k with
  | 0 => ("BellTelegraph$Message", "from", "I", false)
  | 1 => ("BellTelegraph$Message", "to", "I", false)
  | 2 => ("BellTelegraph$Message", "at", "I", false)
  | 3 => ("BellTelegraph$Message", "how", "I", false)
  | 4 => ("BellTelegraph$Message", "hourSent", "I", false)
  | 5 => ("BellTelegraph$Message", "place", "I", false)
  | 6 => ("BellTelegraph$Message", "hoursRung", "I", false)
  | 7 => ("BellTelegraph$Message", "isHeard", "Z", false)
  | 8 => ("BellTelegraph$Message", "signCount", "I", false)
  | _ => ("BellTelegraph$Message", "signs", "[I", true)
def tyX4 : Nat → FieldType := fun k => match k with
  | 0 => .int
  | 1 => .int
  | 2 => .int
  | 3 => .int
  | 4 => .int
  | 5 => .int
  | 6 => .int
  | 7 => .boolean
  | 8 => .int
  | _ => .array .int
abbrev wsX40 : List Cond := u_ws RX4 TX4 10
theorem nmX4 : ∀ a, a < 10 → ∀ b, b < 10 → a ≠ b → (TX4 a).2.1 ≠ (TX4 b).2.1 := by decide +kernel
theorem tyX4_ok : ∀ k, k < 10 → parseFieldDescriptor (TX4 k).2.2.1 = some (tyX4 k) := by decide +kernel
abbrev cX4_init : ByteArray := prog_6_method_1_code
def yX4_init : MethodName := ⟨RX4, "<init>", "()V"⟩
abbrev cX4_begin : ByteArray := prog_6_method_2_code
def yX4_begin : MethodName := ⟨RX4, "begin", "(III)V"⟩
abbrev cX4_takeFrom : ByteArray := prog_6_method_3_code
def yX4_takeFrom : MethodName := ⟨RX4, "takeFrom", "(LBellTelegraph$Message;)V"⟩
abbrev cX4_makeDue : ByteArray := prog_6_method_4_code
def yX4_makeDue : MethodName := ⟨RX4, "makeDue", "(I)V"⟩
abbrev cX4_isRungOut : ByteArray := prog_6_method_5_code
def yX4_isRungOut : MethodName := ⟨RX4, "isRungOut", "()Z"⟩
abbrev cX4_dueSign : ByteArray := prog_6_method_6_code
def yX4_dueSign : MethodName := ⟨RX4, "dueSign", "()I"⟩
abbrev cX4_nextConvent : ByteArray := prog_6_method_7_code
def yX4_nextConvent : MethodName := ⟨RX4, "nextConvent", "()I"⟩
abbrev cX4_lostSigns : ByteArray := prog_6_method_8_code
def yX4_lostSigns : MethodName := ⟨RX4, "lostSigns", "()I"⟩
def RX5 : String := "BellTelegraph$Network"
def TX5 : u_T := fun k => match k with
  | 0 => ("BellTelegraph$Network", "hour", "I", false)
  | 1 => ("BellTelegraph$Network", "conventCount", "I", false)
  | 2 => ("BellTelegraph$Network", "convents", "[LBellTelegraph$Convent;", true)
  | 3 => ("BellTelegraph$Network", "ridges", "[LBellTelegraph$Ridge;", true)
  | 4 => ("BellTelegraph$Network", "psalms", "[I", true)
  | 5 => ("BellTelegraph$Network", "messageCount", "I", false)
  | 6 => ("BellTelegraph$Network", "messages", "[LBellTelegraph$Message;", true)
  | 7 => ("BellTelegraph$Network", "arrivedCount", "I", false)
  | 8 => ("BellTelegraph$Network", "arrivals", "[I", true)
  | 9 => ("BellTelegraph$Network", "going", "[I", true)
  | _ => ("BellTelegraph$Network", "spelled", "[I", true)
def tyX5 : Nat → FieldType := fun k => match k with
  | 0 => .int
  | 1 => .int
  | 2 => .array (.object "BellTelegraph$Convent")
  | 3 => .array (.object "BellTelegraph$Ridge")
  | 4 => .array .int
  | 5 => .int
  | 6 => .array (.object "BellTelegraph$Message")
  | 7 => .int
  | 8 => .array .int
  | 9 => .array .int
  | _ => .array .int
abbrev wsX50 : List Cond := u_ws RX5 TX5 11
theorem nmX5 : ∀ a, a < 11 → ∀ b, b < 11 → a ≠ b → (TX5 a).2.1 ≠ (TX5 b).2.1 := by decide +kernel
theorem tyX5_ok : ∀ k, k < 11 → parseFieldDescriptor (TX5 k).2.2.1 = some (tyX5 k) := by decide +kernel
abbrev cX5_init : ByteArray := prog_7_method_1_code
def yX5_init : MethodName := ⟨RX5, "<init>", "()V"⟩
abbrev cX5_takeFrom : ByteArray := prog_7_method_2_code
def yX5_takeFrom : MethodName := ⟨RX5, "takeFrom", "(LBellTelegraph$Network;)V"⟩
abbrev cX5_hasConvent : ByteArray := prog_7_method_3_code
def yX5_hasConvent : MethodName := ⟨RX5, "hasConvent", "(I)Z"⟩
abbrev cX5_hasRidge : ByteArray := prog_7_method_4_code
def yX5_hasRidge : MethodName := ⟨RX5, "hasRidge", "(I)Z"⟩
abbrev cX5_hasMessage : ByteArray := prog_7_method_5_code
def yX5_hasMessage : MethodName := ⟨RX5, "hasMessage", "(I)Z"⟩
abbrev cX5_hourOfDay : ByteArray := prog_7_method_6_code
def yX5_hourOfDay : MethodName := ⟨RX5, "hourOfDay", "()I"⟩
abbrev cX5_carryOut : ByteArray := prog_7_method_7_code
def yX5_carryOut : MethodName := ⟨RX5, "carryOut", "(LBellTelegraph$Command;LBellTelegraph$Refusal;)I"⟩
abbrev cX5_addConvent : ByteArray := prog_7_method_8_code
def yX5_addConvent : MethodName := ⟨RX5, "addConvent", "(IIILBellTelegraph$Refusal;)I"⟩
abbrev cX5_givePsalm : ByteArray := prog_7_method_9_code
def yX5_givePsalm : MethodName := ⟨RX5, "givePsalm", "(IILBellTelegraph$Refusal;)I"⟩
abbrev cX5_setSilence : ByteArray := prog_7_method_10_code
def yX5_setSilence : MethodName := ⟨RX5, "setSilence", "(IIILBellTelegraph$Refusal;)I"⟩
abbrev cX5_setWind : ByteArray := prog_7_method_11_code
def yX5_setWind : MethodName := ⟨RX5, "setWind", "(IILBellTelegraph$Refusal;)I"⟩
abbrev cX5_setEar : ByteArray := prog_7_method_12_code
def yX5_setEar : MethodName := ⟨RX5, "setEar", "(IILBellTelegraph$Refusal;)I"⟩
abbrev cX5_addMessage : ByteArray := prog_7_method_13_code
def yX5_addMessage : MethodName := ⟨RX5, "addMessage", "(IIILBellTelegraph$Refusal;)I"⟩
abbrev cX5_spell : ByteArray := prog_7_method_14_code
def yX5_spell : MethodName := ⟨RX5, "spell", "(I)I"⟩
abbrev cX5_dropMessage : ByteArray := prog_7_method_15_code
def yX5_dropMessage : MethodName := ⟨RX5, "dropMessage", "(ILBellTelegraph$Refusal;)I"⟩
abbrev cX5_passHours : ByteArray := prog_7_method_16_code
def yX5_passHours : MethodName := ⟨RX5, "passHours", "(ILBellTelegraph$Refusal;)I"⟩
abbrev cX5_passHour : ByteArray := prog_7_method_17_code
def yX5_passHour : MethodName := ⟨RX5, "passHour", "()V"⟩
abbrev cX5_ring : ByteArray := prog_7_method_18_code
def yX5_ring : MethodName := ⟨RX5, "ring", "(LBellTelegraph$Message;IZ)V"⟩
abbrev cX5_moveOn : ByteArray := prog_7_method_19_code
def yX5_moveOn : MethodName := ⟨RX5, "moveOn", "(I)V"⟩
abbrev cX5_arrive : ByteArray := prog_7_method_20_code
def yX5_arrive : MethodName := ⟨RX5, "arrive", "(I)V"⟩
abbrev cX5_beginNextHour : ByteArray := prog_7_method_21_code
def yX5_beginNextHour : MethodName := ⟨RX5, "beginNextHour", "()V"⟩
abbrev cX5_strengthBetween : ByteArray := prog_7_method_22_code
def yX5_strengthBetween : MethodName := ⟨RX5, "strengthBetween", "(II)I"⟩
abbrev cX5_isHeardBetween : ByteArray := prog_7_method_23_code
def yX5_isHeardBetween : MethodName := ⟨RX5, "isHeardBetween", "(II)Z"⟩
abbrev cX5_countAheadInRank : ByteArray := prog_7_method_24_code
def yX5_countAheadInRank : MethodName := ⟨RX5, "countAheadInRank", "(I)I"⟩
abbrev cX5_isAheadInRank : ByteArray := prog_7_method_25_code
def yX5_isAheadInRank : MethodName := ⟨RX5, "isAheadInRank", "(II)Z"⟩
abbrev cX5_countSignsWithPsalm : ByteArray := prog_7_method_26_code
def yX5_countSignsWithPsalm : MethodName := ⟨RX5, "countSignsWithPsalm", "()I"⟩
abbrev cX5_countMessages : ByteArray := prog_7_method_27_code
def yX5_countMessages : MethodName := ⟨RX5, "countMessages", "(I)I"⟩
abbrev cX5_countHoursRung : ByteArray := prog_7_method_28_code
def yX5_countHoursRung : MethodName := ⟨RX5, "countHoursRung", "()I"⟩
abbrev cX5_countSilentConvents : ByteArray := prog_7_method_29_code
def yX5_countSilentConvents : MethodName := ⟨RX5, "countSilentConvents", "()I"⟩
def RX6 : String := "BellTelegraph$Refusal"
def TX6 : u_T := fun k => match k with
  | 0 => ("BellTelegraph$Refusal", "reason", "I", false)
  | 1 => ("BellTelegraph$Refusal", "detail", "I", false)
  | _ => ("BellTelegraph$Refusal", "command", "I", false)
def tyX6 : Nat → FieldType := fun k => match k with
  | 0 => .int
  | 1 => .int
  | _ => .int
abbrev wsX60 : List Cond := u_ws RX6 TX6 3
theorem nmX6 : ∀ a, a < 3 → ∀ b, b < 3 → a ≠ b → (TX6 a).2.1 ≠ (TX6 b).2.1 := by decide +kernel
theorem tyX6_ok : ∀ k, k < 3 → parseFieldDescriptor (TX6 k).2.2.1 = some (tyX6 k) := by decide +kernel
abbrev cX6_init : ByteArray := prog_8_method_1_code
def yX6_init : MethodName := ⟨RX6, "<init>", "()V"⟩
abbrev cX6_because : ByteArray := prog_8_method_2_code
def yX6_because : MethodName := ⟨RX6, "because", "(II)I"⟩
def RX7 : String := "BellTelegraph$Ridge"
def TX7 : u_T := fun k => match k with
  | 0 => ("BellTelegraph$Ridge", "length", "I", false)
  | _ => ("BellTelegraph$Ridge", "wind", "I", false)
def tyX7 : Nat → FieldType := fun k => match k with
  | 0 => .int
  | _ => .int
abbrev wsX70 : List Cond := u_ws RX7 TX7 2
theorem nmX7 : ∀ a, a < 2 → ∀ b, b < 2 → a ≠ b → (TX7 a).2.1 ≠ (TX7 b).2.1 := by decide +kernel
theorem tyX7_ok : ∀ k, k < 2 → parseFieldDescriptor (TX7 k).2.2.1 = some (tyX7 k) := by decide +kernel
abbrev cX7_init : ByteArray := prog_9_method_1_code
def yX7_init : MethodName := ⟨RX7, "<init>", "()V"⟩
def RX8 : String := "BellTelegraph"
def TX8 : u_T := fun k => match k with
  | 0 => ("BellTelegraph", "now", "LBellTelegraph$Network;", true)
  | 1 => ("BellTelegraph", "trial", "LBellTelegraph$Network;", true)
  | 2 => ("BellTelegraph", "saved", "LBellTelegraph$Network;", true)
  | 3 => ("BellTelegraph", "isSaved", "Z", false)
  | 4 => ("BellTelegraph", "history", "LBellTelegraph$History;", true)
  | 5 => ("BellTelegraph", "refusal", "LBellTelegraph$Refusal;", true)
  | 6 => ("BellTelegraph", "single", "LBellTelegraph$Command;", true)
  | 7 => ("BellTelegraph", "text", "LBellTelegraph$CommandText;", true)
  | 8 => ("BellTelegraph", "faultPosition", "I", false)
  | 9 => ("BellTelegraph", "line", "[C", true)
  | _ => ("BellTelegraph", "lineLength", "I", false)
def tyX8 : Nat → FieldType := fun k => match k with
  | 0 => .object "BellTelegraph$Network"
  | 1 => .object "BellTelegraph$Network"
  | 2 => .object "BellTelegraph$Network"
  | 3 => .boolean
  | 4 => .object "BellTelegraph$History"
  | 5 => .object "BellTelegraph$Refusal"
  | 6 => .object "BellTelegraph$Command"
  | 7 => .object "BellTelegraph$CommandText"
  | 8 => .int
  | 9 => .array .char
  | _ => .int
abbrev wsX80 : List Cond := u_ws RX8 TX8 11
theorem nmX8 : ∀ a, a < 11 → ∀ b, b < 11 → a ≠ b → (TX8 a).2.1 ≠ (TX8 b).2.1 := by decide +kernel
theorem tyX8_ok : ∀ k, k < 11 → parseFieldDescriptor (TX8 k).2.2.1 = some (tyX8 k) := by decide +kernel
abbrev cX8_init : ByteArray := prog_1_method_1_code
def yX8_init : MethodName := ⟨RX8, "<init>", "()V"⟩
abbrev cX8_convent : ByteArray := prog_1_method_2_code
def yX8_convent : MethodName := ⟨RX8, "convent", "(III)I"⟩
abbrev cX8_code : ByteArray := prog_1_method_3_code
def yX8_code : MethodName := ⟨RX8, "code", "(II)I"⟩
abbrev cX8_silence : ByteArray := prog_1_method_4_code
def yX8_silence : MethodName := ⟨RX8, "silence", "(III)I"⟩
abbrev cX8_wind : ByteArray := prog_1_method_5_code
def yX8_wind : MethodName := ⟨RX8, "wind", "(II)I"⟩
abbrev cX8_ear : ByteArray := prog_1_method_6_code
def yX8_ear : MethodName := ⟨RX8, "ear", "(II)I"⟩
abbrev cX8_send : ByteArray := prog_1_method_7_code
def yX8_send : MethodName := ⟨RX8, "send", "(III)I"⟩
abbrev cX8_drop : ByteArray := prog_1_method_8_code
def yX8_drop : MethodName := ⟨RX8, "drop", "(I)I"⟩
abbrev cX8_hours : ByteArray := prog_1_method_9_code
def yX8_hours : MethodName := ⟨RX8, "hours", "(I)I"⟩
abbrev cX8_changeBySingle : ByteArray := prog_1_method_10_code
def yX8_changeBySingle : MethodName := ⟨RX8, "changeBySingle", "()I"⟩
abbrev cX8_conventOf : ByteArray := prog_1_method_11_code
def yX8_conventOf : MethodName := ⟨RX8, "conventOf", "(II)I"⟩
abbrev cX8_ridgeOf : ByteArray := prog_1_method_12_code
def yX8_ridgeOf : MethodName := ⟨RX8, "ridgeOf", "(II)I"⟩
abbrev cX8_psalm : ByteArray := prog_1_method_13_code
def yX8_psalm : MethodName := ⟨RX8, "psalm", "(I)I"⟩
abbrev cX8_strength : ByteArray := prog_1_method_14_code
def yX8_strength : MethodName := ⟨RX8, "strength", "(IZ)I"⟩
abbrev cX8_hears : ByteArray := prog_1_method_15_code
def yX8_hears : MethodName := ⟨RX8, "hears", "(IZ)Z"⟩
abbrev cX8_windIn : ByteArray := prog_1_method_16_code
def yX8_windIn : MethodName := ⟨RX8, "windIn", "(II)I"⟩
abbrev cX8_meanEar : ByteArray := prog_1_method_17_code
def yX8_meanEar : MethodName := ⟨RX8, "meanEar", "()F"⟩
abbrev cX8_askedConvent : ByteArray := prog_1_method_18_code
def yX8_askedConvent : MethodName := ⟨RX8, "askedConvent", "(I)LBellTelegraph$Convent;"⟩
abbrev cX8_askedRidge : ByteArray := prog_1_method_19_code
def yX8_askedRidge : MethodName := ⟨RX8, "askedRidge", "(I)LBellTelegraph$Ridge;"⟩
abbrev cX8_askedNeighbour : ByteArray := prog_1_method_20_code
def yX8_askedNeighbour : MethodName := ⟨RX8, "askedNeighbour", "(IZ)I"⟩
abbrev cX8_messageOf : ByteArray := prog_1_method_21_code
def yX8_messageOf : MethodName := ⟨RX8, "messageOf", "(II)I"⟩
abbrev cX8_sign : ByteArray := prog_1_method_22_code
def yX8_sign : MethodName := ⟨RX8, "sign", "(II)I"⟩
abbrev cX8_signs : ByteArray := prog_1_method_23_code
def yX8_signs : MethodName := ⟨RX8, "signs", "(I)I"⟩
abbrev cX8_waiting : ByteArray := prog_1_method_24_code
def yX8_waiting : MethodName := ⟨RX8, "waiting", "(II)I"⟩
abbrev cX8_arrived : ByteArray := prog_1_method_25_code
def yX8_arrived : MethodName := ⟨RX8, "arrived", "(I)I"⟩
abbrev cX8_arrivesIn : ByteArray := prog_1_method_26_code
def yX8_arrivesIn : MethodName := ⟨RX8, "arrivesIn", "(I)I"⟩
abbrev cX8_wouldLose : ByteArray := prog_1_method_27_code
def yX8_wouldLose : MethodName := ⟨RX8, "wouldLose", "(I)I"⟩
abbrev cX8_hoursUntilArrived : ByteArray := prog_1_method_28_code
def yX8_hoursUntilArrived : MethodName := ⟨RX8, "hoursUntilArrived", "(LBellTelegraph$Message;I)I"⟩
abbrev cX8_askedMessage : ByteArray := prog_1_method_29_code
def yX8_askedMessage : MethodName := ⟨RX8, "askedMessage", "(I)LBellTelegraph$Message;"⟩
abbrev cX8_ranked : ByteArray := prog_1_method_30_code
def yX8_ranked : MethodName := ⟨RX8, "ranked", "(I)I"⟩
abbrev cX8_lost : ByteArray := prog_1_method_31_code
def yX8_lost : MethodName := ⟨RX8, "lost", "()I"⟩
abbrev cX8_lostAgain : ByteArray := prog_1_method_32_code
def yX8_lostAgain : MethodName := ⟨RX8, "lostAgain", "()I"⟩
abbrev cX8_lostShare : ByteArray := prog_1_method_33_code
def yX8_lostShare : MethodName := ⟨RX8, "lostShare", "()D"⟩
abbrev cX8_append : ByteArray := prog_1_method_34_code
def yX8_append : MethodName := ⟨RX8, "append", "(C)I"⟩
abbrev cX8_commands : ByteArray := prog_1_method_35_code
def yX8_commands : MethodName := ⟨RX8, "commands", "()I"⟩
abbrev cX8_faultPosition : ByteArray := prog_1_method_36_code
def yX8_faultPosition : MethodName := ⟨RX8, "faultPosition", "()I"⟩
abbrev cX8_reason : ByteArray := prog_1_method_37_code
def yX8_reason : MethodName := ⟨RX8, "reason", "(I)I"⟩
abbrev cX8_line : ByteArray := prog_1_method_38_code
def yX8_line : MethodName := ⟨RX8, "line", "(I)I"⟩
abbrev cX8_writeDigit : ByteArray := prog_1_method_39_code
def yX8_writeDigit : MethodName := ⟨RX8, "writeDigit", "(I)V"⟩
abbrev cX8_write : ByteArray := prog_1_method_40_code
def yX8_write : MethodName := ⟨RX8, "write", "(C)V"⟩
abbrev cX8_character : ByteArray := prog_1_method_41_code
def yX8_character : MethodName := ⟨RX8, "character", "(I)C"⟩
abbrev cX8_account : ByteArray := prog_1_method_42_code
def yX8_account : MethodName := ⟨RX8, "account", "(I)I"⟩
abbrev cX8_undo : ByteArray := prog_1_method_43_code
def yX8_undo : MethodName := ⟨RX8, "undo", "()I"⟩
abbrev cX8_save : ByteArray := prog_1_method_44_code
def yX8_save : MethodName := ⟨RX8, "save", "()I"⟩
abbrev cX8_restore : ByteArray := prog_1_method_45_code
def yX8_restore : MethodName := ⟨RX8, "restore", "()I"⟩
abbrev cX8_isDigit : ByteArray := prog_1_method_46_code
def yX8_isDigit : MethodName := ⟨RX8, "isDigit", "(I)Z"⟩
abbrev cX8_isHourOfDay : ByteArray := prog_1_method_47_code
def yX8_isHourOfDay : MethodName := ⟨RX8, "isHourOfDay", "(I)Z"⟩
abbrev cX8_turnedWind : ByteArray := prog_1_method_48_code
def yX8_turnedWind : MethodName := ⟨RX8, "turnedWind", "(II)I"⟩
def RX9 : String := "BellTelegraphModel"
def TX9 : u_T := fun k => match k with
  | 0 => ("BellTelegraphModel", "now", "[I", true)
  | 1 => ("BellTelegraphModel", "tried", "[I", true)
  | 2 => ("BellTelegraphModel", "thought", "[I", true)
  | 3 => ("BellTelegraphModel", "kept", "[I", true)
  | 4 => ("BellTelegraphModel", "undos", "I", false)
  | 5 => ("BellTelegraphModel", "saved", "[I", true)
  | 6 => ("BellTelegraphModel", "isSaved", "Z", false)
  | 7 => ("BellTelegraphModel", "line", "[C", true)
  | 8 => ("BellTelegraphModel", "lined", "I", false)
  | 9 => ("BellTelegraphModel", "text", "[C", true)
  | 10 => ("BellTelegraphModel", "length", "I", false)
  | 11 => ("BellTelegraphModel", "at", "I", false)
  | 12 => ("BellTelegraphModel", "command", "C", false)
  | 13 => ("BellTelegraphModel", "told", "[I", true)
  | 14 => ("BellTelegraphModel", "fault", "I", false)
  | 15 => ("BellTelegraphModel", "place", "I", false)
  | 16 => ("BellTelegraphModel", "reason", "I", false)
  | 17 => ("BellTelegraphModel", "detail", "I", false)
  | 18 => ("BellTelegraphModel", "reasonPlace", "I", false)
  | 19 => ("BellTelegraphModel", "answer", "I", false)
  | _ => ("BellTelegraphModel", "thrown", "I", false)
def tyX9 : Nat → FieldType := fun k => match k with
  | 0 => .array .int
  | 1 => .array .int
  | 2 => .array .int
  | 3 => .array .int
  | 4 => .int
  | 5 => .array .int
  | 6 => .boolean
  | 7 => .array .char
  | 8 => .int
  | 9 => .array .char
  | 10 => .int
  | 11 => .int
  | 12 => .char
  | 13 => .array .int
  | 14 => .int
  | 15 => .int
  | 16 => .int
  | 17 => .int
  | 18 => .int
  | 19 => .int
  | _ => .int
abbrev wsX90 : List Cond := u_ws RX9 TX9 21
theorem nmX9 : ∀ a, a < 21 → ∀ b, b < 21 → a ≠ b → (TX9 a).2.1 ≠ (TX9 b).2.1 := by decide +kernel
theorem tyX9_ok : ∀ k, k < 21 → parseFieldDescriptor (TX9 k).2.2.1 = some (tyX9 k) := by decide +kernel
abbrev cX9_init : ByteArray := prog_11_method_1_code
def yX9_init : MethodName := ⟨RX9, "<init>", "()V"⟩
abbrev cX9_thrown : ByteArray := prog_11_method_2_code
def yX9_thrown : MethodName := ⟨RX9, "thrown", "()I"⟩
abbrev cX9_raises : ByteArray := prog_11_method_3_code
def yX9_raises : MethodName := ⟨RX9, "raises", "(I)I"⟩
abbrev cX9_in : ByteArray := prog_11_method_4_code
def yX9_in : MethodName := ⟨RX9, "in", "(III)Z"⟩
abbrev cX9_tries : ByteArray := prog_11_method_5_code
def yX9_tries : MethodName := ⟨RX9, "tries", "()V"⟩
abbrev cX9_comesBack : ByteArray := prog_11_method_6_code
def yX9_comesBack : MethodName := ⟨RX9, "comesBack", "()V"⟩
abbrev cX9_thinks : ByteArray := prog_11_method_7_code
def yX9_thinks : MethodName := ⟨RX9, "thinks", "()V"⟩
abbrev cX9_thinksNoMore : ByteArray := prog_11_method_8_code
def yX9_thinksNoMore : MethodName := ⟨RX9, "thinksNoMore", "()V"⟩
abbrev cX9_keeps : ByteArray := prog_11_method_9_code
def yX9_keeps : MethodName := ⟨RX9, "keeps", "(I)I"⟩
abbrev cX9_refuses : ByteArray := prog_11_method_10_code
def yX9_refuses : MethodName := ⟨RX9, "refuses", "(II)Z"⟩
abbrev cX9_does : ByteArray := prog_11_method_11_code
def yX9_does : MethodName := ⟨RX9, "does", "(I)Z"⟩
abbrev cX9_ends : ByteArray := prog_11_method_12_code
def yX9_ends : MethodName := ⟨RX9, "ends", "(Z)I"⟩
abbrev cX9_isConvent : ByteArray := prog_11_method_13_code
def yX9_isConvent : MethodName := ⟨RX9, "isConvent", "(I)Z"⟩
abbrev cX9_isRidge : ByteArray := prog_11_method_14_code
def yX9_isRidge : MethodName := ⟨RX9, "isRidge", "(I)Z"⟩
abbrev cX9_isMessage : ByteArray := prog_11_method_15_code
def yX9_isMessage : MethodName := ⟨RX9, "isMessage", "(I)Z"⟩
abbrev cX9_ofConvent : ByteArray := prog_11_method_16_code
def yX9_ofConvent : MethodName := ⟨RX9, "ofConvent", "(II)I"⟩
abbrev cX9_of : ByteArray := prog_11_method_17_code
def yX9_of : MethodName := ⟨RX9, "of", "(II)I"⟩
abbrev cX9_sets : ByteArray := prog_11_method_18_code
def yX9_sets : MethodName := ⟨RX9, "sets", "(III)V"⟩
abbrev cX9_wind : ByteArray := prog_11_method_19_code
def yX9_wind : MethodName := ⟨RX9, "wind", "(I)I"⟩
abbrev cX9_convent : ByteArray := prog_11_method_20_code
def yX9_convent : MethodName := ⟨RX9, "convent", "(III)I"⟩
abbrev cX9_code : ByteArray := prog_11_method_21_code
def yX9_code : MethodName := ⟨RX9, "code", "(II)I"⟩
abbrev cX9_silences : ByteArray := prog_11_method_22_code
def yX9_silences : MethodName := ⟨RX9, "silences", "(III)Z"⟩
abbrev cX9_silence : ByteArray := prog_11_method_23_code
def yX9_silence : MethodName := ⟨RX9, "silence", "(III)I"⟩
abbrev cX9_winds : ByteArray := prog_11_method_24_code
def yX9_winds : MethodName := ⟨RX9, "winds", "(II)Z"⟩
abbrev cX9_wind_ : ByteArray := prog_11_method_25_code
def yX9_wind_ : MethodName := ⟨RX9, "wind", "(II)I"⟩
abbrev cX9_ears : ByteArray := prog_11_method_26_code
def yX9_ears : MethodName := ⟨RX9, "ears", "(II)Z"⟩
abbrev cX9_ear : ByteArray := prog_11_method_27_code
def yX9_ear : MethodName := ⟨RX9, "ear", "(II)I"⟩
abbrev cX9_sends : ByteArray := prog_11_method_28_code
def yX9_sends : MethodName := ⟨RX9, "sends", "(III)Z"⟩
abbrev cX9_send : ByteArray := prog_11_method_29_code
def yX9_send : MethodName := ⟨RX9, "send", "(III)I"⟩
abbrev cX9_drops : ByteArray := prog_11_method_30_code
def yX9_drops : MethodName := ⟨RX9, "drops", "(I)Z"⟩
abbrev cX9_drop : ByteArray := prog_11_method_31_code
def yX9_drop : MethodName := ⟨RX9, "drop", "(I)I"⟩
abbrev cX9_isSilent : ByteArray := prog_11_method_32_code
def yX9_isSilent : MethodName := ⟨RX9, "isSilent", "(I)Z"⟩
abbrev cX9_waitsAt : ByteArray := prog_11_method_33_code
def yX9_waitsAt : MethodName := ⟨RX9, "waitsAt", "(II)Z"⟩
abbrev cX9_waitingAt : ByteArray := prog_11_method_34_code
def yX9_waitingAt : MethodName := ⟨RX9, "waitingAt", "(II)I"⟩
abbrev cX9_strengthAt : ByteArray := prog_11_method_35_code
def yX9_strengthAt : MethodName := ⟨RX9, "strengthAt", "(II)I"⟩
abbrev cX9_isHeard : ByteArray := prog_11_method_36_code
def yX9_isHeard : MethodName := ⟨RX9, "isHeard", "(II)Z"⟩
abbrev cX9_lostOf : ByteArray := prog_11_method_37_code
def yX9_lostOf : MethodName := ⟨RX9, "lostOf", "(I)I"⟩
abbrev cX9_nextOf : ByteArray := prog_11_method_38_code
def yX9_nextOf : MethodName := ⟨RX9, "nextOf", "(I)I"⟩
abbrev cX9_rings : ByteArray := prog_11_method_39_code
def yX9_rings : MethodName := ⟨RX9, "rings", "(IZ)V"⟩
abbrev cX9_goes : ByteArray := prog_11_method_40_code
def yX9_goes : MethodName := ⟨RX9, "goes", "()I"⟩
abbrev cX9_turned : ByteArray := prog_11_method_41_code
def yX9_turned : MethodName := ⟨RX9, "turned", "(II)I"⟩
abbrev cX9_passes : ByteArray := prog_11_method_42_code
def yX9_passes : MethodName := ⟨RX9, "passes", "(I)Z"⟩
abbrev cX9_hours : ByteArray := prog_11_method_43_code
def yX9_hours : MethodName := ⟨RX9, "hours", "(I)I"⟩
abbrev cX9_countIn : ByteArray := prog_11_method_44_code
def yX9_countIn : MethodName := ⟨RX9, "countIn", "(I)I"⟩
abbrev cX9_conventOf : ByteArray := prog_11_method_45_code
def yX9_conventOf : MethodName := ⟨RX9, "conventOf", "(II)I"⟩
abbrev cX9_ridgeOf : ByteArray := prog_11_method_46_code
def yX9_ridgeOf : MethodName := ⟨RX9, "ridgeOf", "(II)I"⟩
abbrev cX9_psalm : ByteArray := prog_11_method_47_code
def yX9_psalm : MethodName := ⟨RX9, "psalm", "(I)I"⟩
abbrev cX9_messageOf : ByteArray := prog_11_method_48_code
def yX9_messageOf : MethodName := ⟨RX9, "messageOf", "(II)I"⟩
abbrev cX9_sign : ByteArray := prog_11_method_49_code
def yX9_sign : MethodName := ⟨RX9, "sign", "(II)I"⟩
abbrev cX9_signs : ByteArray := prog_11_method_50_code
def yX9_signs : MethodName := ⟨RX9, "signs", "(I)I"⟩
abbrev cX9_waiting : ByteArray := prog_11_method_51_code
def yX9_waiting : MethodName := ⟨RX9, "waiting", "(II)I"⟩
abbrev cX9_arrived : ByteArray := prog_11_method_52_code
def yX9_arrived : MethodName := ⟨RX9, "arrived", "(I)I"⟩
abbrev cX9_strength : ByteArray := prog_11_method_53_code
def yX9_strength : MethodName := ⟨RX9, "strength", "(IZ)I"⟩
abbrev cX9_hears : ByteArray := prog_11_method_54_code
def yX9_hears : MethodName := ⟨RX9, "hears", "(IZ)Z"⟩
abbrev cX9_windIn : ByteArray := prog_11_method_55_code
def yX9_windIn : MethodName := ⟨RX9, "windIn", "(II)I"⟩
abbrev cX9_would : ByteArray := prog_11_method_56_code
def yX9_would : MethodName := ⟨RX9, "would", "(II)I"⟩
abbrev cX9_arrivesIn : ByteArray := prog_11_method_57_code
def yX9_arrivesIn : MethodName := ⟨RX9, "arrivesIn", "(I)I"⟩
abbrev cX9_wouldLose : ByteArray := prog_11_method_58_code
def yX9_wouldLose : MethodName := ⟨RX9, "wouldLose", "(I)I"⟩
abbrev cX9_isAhead : ByteArray := prog_11_method_59_code
def yX9_isAhead : MethodName := ⟨RX9, "isAhead", "(II)Z"⟩
abbrev cX9_ranked : ByteArray := prog_11_method_60_code
def yX9_ranked : MethodName := ⟨RX9, "ranked", "(I)I"⟩
abbrev cX9_lost : ByteArray := prog_11_method_61_code
def yX9_lost : MethodName := ⟨RX9, "lost", "()I"⟩
abbrev cX9_allLost : ByteArray := prog_11_method_62_code
def yX9_allLost : MethodName := ⟨RX9, "allLost", "()I"⟩
abbrev cX9_lostAgain : ByteArray := prog_11_method_63_code
def yX9_lostAgain : MethodName := ⟨RX9, "lostAgain", "()I"⟩
abbrev cX9_append : ByteArray := prog_11_method_64_code
def yX9_append : MethodName := ⟨RX9, "append", "(C)I"⟩
abbrev cX9_isNext : ByteArray := prog_11_method_65_code
def yX9_isNext : MethodName := ⟨RX9, "isNext", "(C)Z"⟩
abbrev cX9_digits : ByteArray := prog_11_method_66_code
def yX9_digits : MethodName := ⟨RX9, "digits", "(IICC)Z"⟩
abbrev cX9_digit : ByteArray := prog_11_method_67_code
def yX9_digit : MethodName := ⟨RX9, "digit", "(I)Z"⟩
abbrev cX9_number : ByteArray := prog_11_method_68_code
def yX9_number : MethodName := ⟨RX9, "number", "(I)Z"⟩
abbrev cX9_isCommand : ByteArray := prog_11_method_69_code
def yX9_isCommand : MethodName := ⟨RX9, "isCommand", "()Z"⟩
abbrev cX9_carries : ByteArray := prog_11_method_70_code
def yX9_carries : MethodName := ⟨RX9, "carries", "()Z"⟩
abbrev cX9_commands : ByteArray := prog_11_method_71_code
def yX9_commands : MethodName := ⟨RX9, "commands", "()I"⟩
abbrev cX9_faultPosition : ByteArray := prog_11_method_72_code
def yX9_faultPosition : MethodName := ⟨RX9, "faultPosition", "()I"⟩
abbrev cX9_reason : ByteArray := prog_11_method_73_code
def yX9_reason : MethodName := ⟨RX9, "reason", "(I)I"⟩
abbrev cX9_writes : ByteArray := prog_11_method_74_code
def yX9_writes : MethodName := ⟨RX9, "writes", "(C)V"⟩
abbrev cX9_line : ByteArray := prog_11_method_75_code
def yX9_line : MethodName := ⟨RX9, "line", "(I)I"⟩
abbrev cX9_character : ByteArray := prog_11_method_76_code
def yX9_character : MethodName := ⟨RX9, "character", "(I)C"⟩
abbrev cX9_meanEar : ByteArray := prog_11_method_77_code
def yX9_meanEar : MethodName := ⟨RX9, "meanEar", "()F"⟩
abbrev cX9_lostShare : ByteArray := prog_11_method_78_code
def yX9_lostShare : MethodName := ⟨RX9, "lostShare", "()D"⟩
abbrev cX9_account : ByteArray := prog_11_method_79_code
def yX9_account : MethodName := ⟨RX9, "account", "(I)I"⟩
abbrev cX9_undo : ByteArray := prog_11_method_80_code
def yX9_undo : MethodName := ⟨RX9, "undo", "()I"⟩
abbrev cX9_save : ByteArray := prog_11_method_81_code
def yX9_save : MethodName := ⟨RX9, "save", "()I"⟩
abbrev cX9_restore : ByteArray := prog_11_method_82_code
def yX9_restore : MethodName := ⟨RX9, "restore", "()I"⟩
def RJx145de : String := "java/io/Serializable"
def TJx145de : u_T := fun k => match k with
  | _ => ("", "", "", false)
def tyJx145de : Nat → FieldType := fun k => match k with
  | _ => .int
abbrev wsJx145de0 : List Cond := u_ws RJx145de TJx145de 0
theorem nmJx145de : ∀ a, a < 0 → ∀ b, b < 0 → a ≠ b → (TJx145de a).2.1 ≠ (TJx145de b).2.1 := by decide +kernel
theorem tyJx145de_ok : ∀ k, k < 0 → parseFieldDescriptor (TJx145de k).2.2.1 = some (tyJx145de k) := by decide +kernel
def RJx00060 : String := "java/lang/ArrayIndexOutOfBoundsException"
def TJx00060 : u_T := fun k => match k with
  | 0 => ("java/lang/Throwable", "backtrace", "Ljava/lang/Object;", false)
  | 1 => ("java/lang/Throwable", "detailMessage", "Ljava/lang/String;", false)
  | 2 => ("java/lang/Throwable", "cause", "Ljava/lang/Throwable;", false)
  | 3 => ("java/lang/Throwable", "stackTrace", "[Ljava/lang/StackTraceElement;", false)
  | 4 => ("java/lang/Throwable", "depth", "I", false)
  | _ => ("java/lang/Throwable", "suppressedExceptions", "Ljava/util/List;", false)
def tyJx00060 : Nat → FieldType := fun k => match k with
  | 0 => .object "java/lang/Object"
  | 1 => .object "java/lang/String"
  | 2 => .object "java/lang/Throwable"
  | 3 => .array (.object "java/lang/StackTraceElement")
  | 4 => .int
  | _ => .object "java/util/List"
abbrev wsJx000600 : List Cond := u_ws RJx00060 TJx00060 6
theorem nmJx00060 : ∀ a, a < 6 → ∀ b, b < 6 → a ≠ b → (TJx00060 a).2.1 ≠ (TJx00060 b).2.1 := by decide +kernel
theorem tyJx00060_ok : ∀ k, k < 6 → parseFieldDescriptor (TJx00060 k).2.2.1 = some (tyJx00060 k) := by decide +kernel
abbrev cJx00060_init_a7421 : ByteArray := prog_14_method_2_code
def yJx00060_init_a7421 : MethodName := ⟨RJx00060, "<init>", "(Ljava/lang/String;)V"⟩
def RJ9 : String := "java/lang/Math"
def TJ9 : u_T := fun k => match k with
  | _ => ("", "", "", false)
def tyJ9 : Nat → FieldType := fun k => match k with
  | _ => .int
abbrev wsJ90 : List Cond := u_ws RJ9 TJ9 0
theorem nmJ9 : ∀ a, a < 0 → ∀ b, b < 0 → a ≠ b → (TJ9 a).2.1 ≠ (TJ9 b).2.1 := by decide +kernel
theorem tyJ9_ok : ∀ k, k < 0 → parseFieldDescriptor (TJ9 k).2.2.1 = some (tyJ9 k) := by decide +kernel
abbrev cJ9_min_7cf53 : ByteArray := prog_19_method_69_code
def yJ9_min_7cf53 : MethodName := ⟨RJ9, "min", "(II)I"⟩
def RJ0 : String := "java/lang/String"
def TJ0 : u_T := fun k => match k with
  | 0 => ("java/lang/String", "value", "[B", true)
  | _ => ("java/lang/String", "coder", "B", true)
def tyJ0 : Nat → FieldType := fun k => match k with
  | 0 => .array .byte
  | _ => .byte
abbrev wsJ00 : List Cond := u_ws RJ0 TJ0 2
theorem nmJ0 : ∀ a, a < 2 → ∀ b, b < 2 → a ≠ b → (TJ0 a).2.1 ≠ (TJ0 b).2.1 := by decide +kernel
theorem tyJ0_ok : ∀ k, k < 2 → parseFieldDescriptor (TJ0 k).2.2.1 = some (tyJ0 k) := by decide +kernel
def RJ10 : String := "java/lang/System"
def TJ10 : u_T := fun k => match k with
  | _ => ("", "", "", false)
def tyJ10 : Nat → FieldType := fun k => match k with
  | _ => .int
abbrev wsJ100 : List Cond := u_ws RJ10 TJ10 0
theorem nmJ10 : ∀ a, a < 0 → ∀ b, b < 0 → a ≠ b → (TJ10 a).2.1 ≠ (TJ10 b).2.1 := by decide +kernel
theorem tyJ10_ok : ∀ k, k < 0 → parseFieldDescriptor (TJ10 k).2.2.1 = some (tyJ10 k) := by decide +kernel
def RL : String := "BellTelegraphLaw"
abbrev cL_convent : ByteArray := method_3_code
def yL_convent : MethodName := ⟨RL, "convent", "(LBellTelegraph;III[J)I"⟩
abbrev cL_code : ByteArray := method_4_code
def yL_code : MethodName := ⟨RL, "code", "(LBellTelegraph;II[J)I"⟩
abbrev cL_silence : ByteArray := method_5_code
def yL_silence : MethodName := ⟨RL, "silence", "(LBellTelegraph;III[J)I"⟩
abbrev cL_wind : ByteArray := method_6_code
def yL_wind : MethodName := ⟨RL, "wind", "(LBellTelegraph;II[J)I"⟩
abbrev cL_ear : ByteArray := method_7_code
def yL_ear : MethodName := ⟨RL, "ear", "(LBellTelegraph;II[J)I"⟩
abbrev cL_send : ByteArray := method_8_code
def yL_send : MethodName := ⟨RL, "send", "(LBellTelegraph;III[J)I"⟩
abbrev cL_drop : ByteArray := method_9_code
def yL_drop : MethodName := ⟨RL, "drop", "(LBellTelegraph;I[J)I"⟩
abbrev cL_hours : ByteArray := method_10_code
def yL_hours : MethodName := ⟨RL, "hours", "(LBellTelegraph;I[J)I"⟩
abbrev cL_conventOf : ByteArray := method_11_code
def yL_conventOf : MethodName := ⟨RL, "conventOf", "(LBellTelegraph;II[J)I"⟩
abbrev cL_ridgeOf : ByteArray := method_12_code
def yL_ridgeOf : MethodName := ⟨RL, "ridgeOf", "(LBellTelegraph;II[J)I"⟩
abbrev cL_psalm : ByteArray := method_13_code
def yL_psalm : MethodName := ⟨RL, "psalm", "(LBellTelegraph;I[J)I"⟩
abbrev cL_messageOf : ByteArray := method_14_code
def yL_messageOf : MethodName := ⟨RL, "messageOf", "(LBellTelegraph;II[J)I"⟩
abbrev cL_sign : ByteArray := method_15_code
def yL_sign : MethodName := ⟨RL, "sign", "(LBellTelegraph;II[J)I"⟩
abbrev cL_signs : ByteArray := method_16_code
def yL_signs : MethodName := ⟨RL, "signs", "(LBellTelegraph;I[J)I"⟩
abbrev cL_waiting : ByteArray := method_17_code
def yL_waiting : MethodName := ⟨RL, "waiting", "(LBellTelegraph;II[J)I"⟩
abbrev cL_arrived : ByteArray := method_18_code
def yL_arrived : MethodName := ⟨RL, "arrived", "(LBellTelegraph;I[J)I"⟩
abbrev cL_strength : ByteArray := method_19_code
def yL_strength : MethodName := ⟨RL, "strength", "(LBellTelegraph;IZ[J)I"⟩
abbrev cL_hears : ByteArray := method_20_code
def yL_hears : MethodName := ⟨RL, "hears", "(LBellTelegraph;IZ[J)I"⟩
abbrev cL_windIn : ByteArray := method_21_code
def yL_windIn : MethodName := ⟨RL, "windIn", "(LBellTelegraph;II[J)I"⟩
abbrev cL_arrivesIn : ByteArray := method_22_code
def yL_arrivesIn : MethodName := ⟨RL, "arrivesIn", "(LBellTelegraph;I[J)I"⟩
abbrev cL_wouldLose : ByteArray := method_23_code
def yL_wouldLose : MethodName := ⟨RL, "wouldLose", "(LBellTelegraph;I[J)I"⟩
abbrev cL_ranked : ByteArray := method_24_code
def yL_ranked : MethodName := ⟨RL, "ranked", "(LBellTelegraph;I[J)I"⟩
abbrev cL_append : ByteArray := method_25_code
def yL_append : MethodName := ⟨RL, "append", "(LBellTelegraph;C[J)I"⟩
abbrev cL_commands : ByteArray := method_26_code
def yL_commands : MethodName := ⟨RL, "commands", "(LBellTelegraph;[J)I"⟩
abbrev cL_reason : ByteArray := method_27_code
def yL_reason : MethodName := ⟨RL, "reason", "(LBellTelegraph;I[J)I"⟩
abbrev cL_line : ByteArray := method_28_code
def yL_line : MethodName := ⟨RL, "line", "(LBellTelegraph;I[J)I"⟩
abbrev cL_character : ByteArray := method_29_code
def yL_character : MethodName := ⟨RL, "character", "(LBellTelegraph;I[J)I"⟩
abbrev cL_meanEar : ByteArray := method_30_code
def yL_meanEar : MethodName := ⟨RL, "meanEar", "(LBellTelegraph;[D)I"⟩
abbrev cL_lostShare : ByteArray := method_31_code
def yL_lostShare : MethodName := ⟨RL, "lostShare", "(LBellTelegraph;[D)I"⟩
abbrev cL_account : ByteArray := method_32_code
def yL_account : MethodName := ⟨RL, "account", "(LBellTelegraph;I[J)I"⟩
abbrev cL_undo : ByteArray := method_33_code
def yL_undo : MethodName := ⟨RL, "undo", "(LBellTelegraph;[J)I"⟩
abbrev cL_restore : ByteArray := method_34_code
def yL_restore : MethodName := ⟨RL, "restore", "(LBellTelegraph;[J)I"⟩
abbrev cL_law : ByteArray := code
def yL_law : MethodName := ⟨RL, "law", "([I)Z"⟩
end
section
/-! THE TABLES of the program, by a text program (gen.py) out of its printed names, decode rows and words -/
abbrev am_cl : List vw_C := [(RX0, TX0, 4), (RX1, TX1, 5), (RX2, TX2, 8), (RX3, TX3, 3), (RX4, TX4, 10), (RX5, TX5, 11), (RX6, TX6, 3), (RX7, TX7, 2), (RX8, TX8, 11), (RX9, TX9, 21)]
def am_cR : Nat → String := fun k => match k with
  | 0 => RX0
  | 1 => RX1
  | 2 => RX2
  | 3 => RX3
  | 4 => RX4
  | 5 => RX5
  | 6 => RX6
  | 7 => RX7
  | 8 => RX8
  | 9 => RX9
  | _ => RL
def am_cT : Nat → u_T := fun k => match k with
  | 0 => TX0
  | 1 => TX1
  | 2 => TX2
  | 3 => TX3
  | 4 => TX4
  | 5 => TX5
  | 6 => TX6
  | 7 => TX7
  | 8 => TX8
  | 9 => TX9
  | _ => fun _ => ("", "", "", false)
def am_cY : Nat → Nat → FieldType := fun k => match k with
  | 0 => tyX0
  | 1 => tyX1
  | 2 => tyX2
  | 3 => tyX3
  | 4 => tyX4
  | 5 => tyX5
  | 6 => tyX6
  | 7 => tyX7
  | 8 => tyX8
  | 9 => tyX9
  | _ => fun _ => .int
def am_cN : Nat → Nat := fun k => match k with
  | 0 => 4
  | 1 => 5
  | 2 => 8
  | 3 => 3
  | 4 => 10
  | 5 => 11
  | 6 => 3
  | 7 => 2
  | 8 => 11
  | 9 => 21
  | _ => 0
/-- a field: 0 an int, 1 a boolean, 2 a char, 3 a reference -/
def am_fk (ci j : Nat) : Nat := match (am_cT ci j).2.2.1 with
  | "I" => 0
  | "Z" => 1
  | "C" => 2
  | _ => 3
def am_ff (ci j : Nat) : Bool := (am_cT ci j).2.2.2
def am_en : Nat → String := fun k => match k with
  | 0 => "java/lang/UnsupportedOperationException"
  | 1 => "java/lang/IndexOutOfBoundsException"
  | 2 => "java/lang/IllegalArgumentException"
  | 3 => "java/util/NoSuchElementException"
  | 4 => "java/lang/IllegalStateException"
  | _ => "java/lang/ArithmeticException"
def am_look {β : Type} (t : List (Nat × Nat × β)) (a b : Nat) : Option β := match t with
  | [] => none
  | q :: t => if q.1 = a ∧ q.2.1 = b then some q.2.2 else am_look t a b
def am_fl_t : List (Nat × Nat × (Nat × Nat)) := [(0, 7, 0, 0), (0, 13, 0, 1), (0, 16, 0, 2), (0, 19, 0, 3), (1, 9, 1, 0), (1, 17, 1, 2), (1, 22, 1, 1), (1, 26, 1, 4), (1, 29, 1, 3), (2, 9, 2, 7), (2, 15, 2, 0), (2, 19, 2, 1), (2, 22, 2, 2), (2, 25, 2, 3), (2, 28, 2, 4), (2, 31, 2, 5), (2, 34, 2, 6), (3, 11, 3, 0), (3, 18, 3, 1), (3, 22, 3, 2), (4, 9, 4, 9), (4, 15, 4, 0), (4, 19, 4, 1), (4, 22, 4, 2), (4, 25, 4, 3), (4, 28, 4, 4), (4, 35, 4, 5), (4, 38, 4, 6), (4, 41, 4, 7), (4, 45, 4, 8), (5, 11, 5, 2), (5, 19, 5, 3), (5, 23, 5, 4), (5, 29, 5, 6), (5, 33, 5, 8), (5, 36, 5, 9), (5, 39, 5, 10), (5, 45, 5, 0), (5, 49, 5, 1), (5, 56, 7, 0), (5, 59, 7, 1), (5, 68, 5, 5), (5, 74, 5, 7), (5, 77, 0, 0), (5, 82, 0, 1), (5, 85, 0, 2), (5, 88, 0, 3), (5, 138, 2, 2), (5, 141, 2, 3), (5, 147, 2, 1), (5, 157, 4, 8), (5, 160, 4, 9), (5, 171, 4, 3), (5, 174, 4, 2), (5, 187, 2, 6), (5, 193, 2, 7), (5, 199, 2, 4), (5, 223, 4, 5), (5, 229, 4, 6), (5, 230, 4, 7), (5, 234, 2, 5), (5, 237, 4, 1), (5, 246, 2, 0), (5, 258, 4, 4), (6, 9, 6, 0), (6, 15, 6, 1), (8, 12, 8, 0), (8, 16, 8, 1), (8, 19, 8, 2), (8, 25, 8, 4), (8, 32, 8, 5), (8, 39, 8, 6), (8, 46, 8, 7), (8, 50, 8, 8), (8, 54, 8, 9), (8, 78, 6, 2), (8, 91, 2, 0), (8, 96, 2, 1), (8, 99, 2, 2), (8, 102, 2, 3), (8, 105, 2, 6), (8, 108, 2, 4), (8, 111, 2, 5), (8, 128, 7, 0), (8, 133, 7, 1), (8, 136, 5, 4), (8, 152, 5, 0), (8, 158, 5, 1), (8, 164, 5, 2), (8, 177, 5, 3), (8, 188, 4, 0), (8, 193, 4, 1), (8, 196, 4, 2), (8, 199, 4, 8), (8, 205, 4, 5), (8, 208, 4, 6), (8, 209, 4, 3), (8, 212, 4, 4), (8, 215, 4, 9), (8, 218, 2, 7), (8, 221, 5, 7), (8, 224, 5, 8), (8, 231, 5, 6), (8, 241, 5, 5), (8, 251, 1, 1), (8, 262, 1, 3), (8, 265, 1, 2), (8, 269, 6, 0), (8, 272, 6, 1), (8, 275, 8, 10), (8, 297, 3, 2), (8, 303, 8, 3), (9, 9, 9, 0), (9, 13, 9, 1), (9, 16, 9, 2), (9, 19, 9, 3), (9, 22, 9, 5), (9, 25, 9, 7), (9, 29, 9, 9), (9, 32, 9, 13), (9, 35, 9, 14), (9, 39, 9, 20), (9, 42, 9, 15), (9, 45, 9, 4), (9, 48, 9, 16), (9, 51, 9, 17), (9, 54, 9, 18), (9, 57, 9, 19), (9, 180, 9, 10), (9, 183, 9, 11), (9, 190, 9, 12), (9, 214, 9, 8), (9, 224, 9, 6)]
def am_fl (a b : Nat) : Option (Nat × Nat) := am_look am_fl_t a b
def am_ml_t : List (Nat × Nat × (Nat × Nat)) := [(0, 1, 5, 0), (1, 3, 5, 0), (1, 21, 3, 0), (1, 32, 0, 5), (1, 36, 0, 11), (1, 40, 0, 10), (1, 44, 0, 6), (1, 48, 0, 7), (1, 52, 0, 8), (1, 55, 0, 9), (1, 58, 0, 12), (1, 62, 0, 14), (1, 65, 0, 1), (1, 69, 0, 13), (2, 3, 5, 0), (2, 37, 7, 0), (3, 3, 5, 0), (3, 17, 2, 33), (4, 3, 5, 0), (4, 31, 0, 28), (4, 48, 7, 0), (4, 54, 0, 29), (5, 3, 5, 0), (5, 42, 3, 15), (5, 43, 3, 64), (5, 44, 3, 25), (5, 52, 0, 17), (5, 62, 7, 0), (5, 71, 0, 27), (5, 91, 0, 40), (5, 95, 0, 41), (5, 99, 0, 42), (5, 102, 0, 43), (5, 105, 0, 44), (5, 108, 0, 45), (5, 111, 0, 47), (5, 115, 0, 48), (5, 118, 4, 110), (5, 122, 0, 63), (5, 128, 0, 16), (5, 132, 0, 35), (5, 135, 4, 111), (5, 144, 0, 36), (5, 150, 0, 46), (5, 154, 0, 26), (5, 163, 0, 19), (5, 168, 0, 37), (5, 177, 0, 20), (5, 180, 0, 49), (5, 183, 0, 38), (5, 190, 0, 18), (5, 196, 0, 31), (5, 202, 0, 55), (5, 206, 0, 50), (5, 210, 0, 29), (5, 214, 0, 51), (5, 217, 0, 53), (5, 220, 0, 30), (5, 226, 0, 28), (5, 240, 0, 52), (5, 243, 4, 112), (5, 249, 0, 54), (5, 252, 0, 57), (5, 255, 0, 32), (6, 3, 5, 0), (7, 1, 5, 0), (8, 3, 5, 0), (8, 11, 2, 33), (8, 24, 2, 21), (8, 31, 3, 62), (8, 38, 3, 0), (8, 45, 2, 2), (8, 58, 0, 1), (8, 62, 0, 74), (8, 66, 0, 22), (8, 70, 0, 34), (8, 74, 0, 39), (8, 84, 0, 23), (8, 87, 0, 82), (8, 114, 0, 38), (8, 117, 0, 18), (8, 124, 0, 83), (8, 140, 0, 84), (8, 144, 0, 54), (8, 148, 0, 55), (8, 155, 1, 112), (8, 168, 0, 35), (8, 174, 0, 36), (8, 184, 0, 93), (8, 202, 0, 32), (8, 227, 0, 92), (8, 235, 0, 49), (8, 238, 0, 37), (8, 244, 0, 56), (8, 248, 0, 96), (8, 255, 0, 3), (8, 259, 0, 4), (8, 278, 0, 103), (8, 282, 0, 104), (8, 285, 0, 58), (8, 288, 0, 59), (8, 291, 0, 60), (8, 294, 0, 61), (8, 300, 0, 24), (9, 3, 5, 0), (9, 60, 0, 121), (9, 64, 0, 115), (9, 67, 1, 116), (9, 71, 0, 117), (9, 74, 0, 122), (9, 78, 0, 124), (9, 82, 0, 125), (9, 86, 0, 123), (9, 89, 0, 134), (9, 92, 0, 126), (9, 95, 0, 131), (9, 98, 0, 136), (9, 101, 0, 128), (9, 105, 0, 138), (9, 109, 0, 130), (9, 113, 0, 140), (9, 116, 0, 127), (9, 119, 0, 129), (9, 122, 0, 142), (9, 125, 0, 145), (9, 128, 6, 0), (9, 133, 0, 147), (9, 136, 0, 150), (9, 139, 0, 148), (9, 142, 0, 144), (9, 145, 0, 146), (9, 148, 0, 151), (9, 152, 1, 153), (9, 155, 0, 152), (9, 159, 0, 154), (9, 162, 0, 149), (9, 165, 0, 119), (9, 168, 0, 120), (9, 171, 0, 168), (9, 174, 0, 171), (9, 177, 0, 174), (9, 186, 0, 178), (9, 194, 0, 179), (9, 197, 0, 177), (9, 201, 0, 180), (9, 204, 0, 181), (9, 208, 0, 182), (9, 211, 0, 118), (9, 217, 0, 186), (9, 221, 0, 156), (10, 7, 0, 66), (10, 15, 0, 67), (10, 19, 0, 68), (10, 22, 0, 69), (10, 25, 0, 70), (10, 28, 0, 71), (10, 31, 0, 72), (10, 35, 0, 73), (10, 38, 0, 75), (10, 45, 0, 76), (10, 48, 0, 77), (10, 51, 0, 85), (10, 54, 0, 86), (10, 57, 0, 87), (10, 60, 0, 88), (10, 65, 0, 89), (10, 68, 0, 78), (10, 72, 0, 79), (10, 76, 0, 80), (10, 79, 0, 90), (10, 82, 0, 91), (10, 85, 0, 94), (10, 88, 0, 98), (10, 94, 0, 99), (10, 98, 0, 101), (10, 101, 0, 102), (10, 104, 0, 105), (10, 108, 0, 81), (10, 114, 0, 97), (10, 118, 0, 106), (10, 121, 0, 107), (10, 124, 0, 109), (10, 127, 2, 65), (10, 130, 2, 113), (10, 131, 1, 195), (10, 136, 0, 132), (10, 137, 0, 114), (10, 140, 1, 196), (10, 143, 0, 133), (10, 144, 1, 197), (10, 146, 0, 135), (10, 147, 1, 198), (10, 149, 0, 137), (10, 150, 1, 199), (10, 152, 0, 139), (10, 153, 1, 200), (10, 155, 0, 141), (10, 156, 1, 201), (10, 159, 0, 143), (10, 160, 1, 202), (10, 162, 0, 155), (10, 163, 1, 203), (10, 165, 0, 157), (10, 166, 1, 204), (10, 168, 0, 158), (10, 169, 1, 205), (10, 171, 0, 159), (10, 172, 1, 206), (10, 174, 0, 160), (10, 175, 1, 207), (10, 177, 0, 161), (10, 178, 1, 208), (10, 180, 0, 162), (10, 181, 1, 209), (10, 183, 0, 163), (10, 184, 1, 210), (10, 186, 0, 164), (10, 187, 1, 211), (10, 190, 0, 165), (10, 191, 1, 212), (10, 193, 0, 166), (10, 194, 1, 213), (10, 196, 0, 167), (10, 197, 1, 214), (10, 199, 0, 169), (10, 200, 1, 215), (10, 202, 0, 170), (10, 203, 1, 216), (10, 205, 0, 172), (10, 206, 0, 95), (10, 209, 0, 173), (10, 210, 0, 96), (10, 213, 0, 175), (10, 214, 1, 217), (10, 217, 0, 176), (10, 218, 1, 218), (10, 221, 0, 183), (10, 222, 0, 100), (10, 225, 0, 184), (10, 226, 1, 219), (10, 228, 0, 185), (10, 229, 1, 220), (10, 231, 0, 187), (10, 232, 1, 221), (10, 234, 0, 188), (10, 235, 1, 222), (10, 238, 0, 189), (10, 239, 1, 223), (10, 241, 0, 190), (10, 242, 1, 224), (10, 244, 0, 191), (10, 245, 1, 225), (10, 247, 0, 192), (10, 248, 0, 108), (10, 251, 0, 193), (10, 252, 1, 226), (10, 254, 0, 194)]
def am_ml (a b : Nat) : Option (Nat × Nat) := am_look am_ml_t a b
def am_kc_t : List (Nat × Nat × Int32) := [(5, 167, 88888888), (9, 108, 88888888)]
def am_kc (a b : Nat) : Option Int32 := am_look am_kc_t a b
def am_nw_t : List (Nat × Nat × (Nat ⊕ (Nat × Nat))) := [(1, 15, .inl 0), (3, 9, .inl 5), (5, 9, .inl 2), (5, 17, .inl 7), (5, 27, .inl 4), (8, 9, .inl 5), (8, 22, .inl 3), (8, 29, .inl 6), (8, 36, .inl 0), (8, 43, .inl 1), (8, 81, .inr (0, 83)), (8, 121, .inr (2, 123)), (8, 161, .inr (5, 163)), (8, 171, .inr (1, 173)), (8, 181, .inr (3, 183)), (8, 252, .inr (4, 254)), (10, 8, .inl 8), (10, 128, .inl 9)]
def am_nw (a b : Nat) : Option (Nat ⊕ (Nat × Nat)) := am_look am_nw_t a b
def am_aw_t : List (Nat × Nat × Nat) := [(1, 15, 0), (3, 9, 5), (5, 9, 2), (5, 17, 7), (5, 27, 4)]
def am_aw (a b : Nat) : Option Nat := am_look am_aw_t a b
def am_c0 : List (Nat × Instr) := [(0, .aload_n 0), (1, .invokespecial 1), (4, .return_)]
def am_c1 : List (Nat × Instr) := [(0, .aload_n 0), (1, .iload_n 1), (2, .putfield 7), (5, .aload_n 0), (6, .iload_n 2), (7, .putfield 13), (10, .aload_n 0), (11, .iload_n 3), (12, .putfield 16), (15, .aload_n 0), (16, .iload 4), (18, .putfield 19), (21, .return_)]
def am_c2 : List (Nat × Instr) := [(0, .aload_n 0), (1, .invokespecial 3), (4, .aload_n 0), (5, .bipush 60), (7, .newarray .char), (9, .putfield 9), (12, .aload_n 0), (13, .bipush 20), (15, .anewarray 15), (18, .putfield 17), (21, .iconst 0), (22, .istore_n 1), (23, .iload_n 1), (24, .bipush 20), (26, .if_icmp .ge 22), (29, .aload_n 0), (30, .getfield 17), (33, .iload_n 1), (34, .new 15), (37, .dup), (38, .invokespecial 21), (41, .aastore), (42, .iinc 1 1), (45, .goto (-22)), (48, .return_)]
def am_c3 : List (Nat × Instr) := [(0, .aload_n 0), (1, .getfield 22), (4, .bipush 60), (6, .if_icmp .ge 23), (9, .aload_n 0), (10, .getfield 9), (13, .aload_n 0), (14, .getfield 22), (17, .iload_n 1), (18, .castore), (19, .aload_n 0), (20, .dup), (21, .getfield 22), (24, .iconst 1), (25, .iadd), (26, .putfield 22), (29, .return_)]
def am_c4 : List (Nat × Instr) := [(0, .aload_n 0), (1, .iconst 0), (2, .putfield 26), (5, .aload_n 0), (6, .iconst 0), (7, .putfield 29), (10, .aload_n 0), (11, .invokevirtual 32), (14, .istore_n 1), (15, .iconst 0), (16, .istore_n 2), (17, .iload_n 1), (18, .ifCond .eq 48), (21, .aload_n 0), (22, .getfield 26), (25, .aload_n 0), (26, .getfield 22), (29, .if_icmp .ge 37), (32, .iload_n 2), (33, .bipush 60), (35, .if_icmp .ge 31), (38, .aload_n 0), (39, .bipush 59), (41, .invokevirtual 36), (44, .ifCond .eq 14), (47, .aload_n 0), (48, .invokevirtual 32), (51, .ifCond .eq 7), (54, .iconst 1), (55, .goto 4), (58, .iconst 0), (59, .istore_n 1), (60, .iinc 2 1), (63, .goto (-46)), (66, .iload_n 1), (67, .ifCond .eq 7), (70, .iconst (-1)), (71, .goto 7), (74, .aload_n 0), (75, .getfield 26), (78, .ireturn)]
def am_c5 : List (Nat × Instr) := [(0, .aload_n 0), (1, .getfield 29), (4, .bipush 20), (6, .if_icmp .lt 5), (9, .iconst 0), (10, .ireturn), (11, .aload_n 0), (12, .getfield 17), (15, .aload_n 0), (16, .getfield 29), (19, .aaload), (20, .astore_n 1), (21, .aload_n 0), (22, .dup), (23, .getfield 29), (26, .iconst 1), (27, .iadd), (28, .putfield 29), (31, .aload_n 0), (32, .invokevirtual 40), (35, .tableswitch 135 100 119 #[127, 120, 135, 135, 99, 135, 135, 135, 135, 135, 135, 135, 135, 107, 135, 93, 135, 135, 135, 113]), (128, .aload_n 0), (129, .aload_n 1), (130, .invokevirtual 44), (133, .ireturn), (134, .aload_n 0), (135, .aload_n 1), (136, .bipush 7), (138, .invokevirtual 48), (141, .ireturn), (142, .aload_n 0), (143, .aload_n 1), (144, .invokevirtual 52), (147, .ireturn), (148, .aload_n 0), (149, .aload_n 1), (150, .iconst 3), (151, .invokevirtual 55), (154, .ireturn), (155, .aload_n 0), (156, .aload_n 1), (157, .iconst 4), (158, .invokevirtual 55), (161, .ireturn), (162, .aload_n 0), (163, .aload_n 1), (164, .bipush 6), (166, .invokevirtual 48), (169, .ireturn), (170, .iconst 0), (171, .ireturn)]
def am_c6 : List (Nat × Instr) := [(0, .aload_n 0), (1, .dup), (2, .getfield 26), (5, .iconst 1), (6, .iadd), (7, .putfield 26), (10, .aload_n 0), (11, .iconst 0), (12, .bipush 9), (14, .invokevirtual 58), (17, .istore_n 2), (18, .iload_n 2), (19, .iconst (-1)), (20, .if_icmp .eq 12), (23, .aload_n 0), (24, .bipush 62), (26, .invokevirtual 36), (29, .ifCond .ne 5), (32, .iconst 0), (33, .ireturn), (34, .aload_n 0), (35, .iconst 0), (36, .bipush 9), (38, .invokevirtual 58), (41, .istore_n 3), (42, .iload_n 3), (43, .iconst (-1)), (44, .if_icmp .eq 12), (47, .aload_n 0), (48, .bipush 58), (50, .invokevirtual 36), (53, .ifCond .ne 5), (56, .iconst 0), (57, .ireturn), (58, .aload_n 0), (59, .invokevirtual 62), (62, .istore 4), (64, .aload_n 1), (65, .iconst 5), (66, .iload_n 2), (67, .iload_n 3), (68, .iload 4), (70, .invokevirtual 65), (73, .iload 4), (75, .iconst (-1)), (76, .if_icmp .eq 7), (79, .iconst 1), (80, .goto 4), (83, .iconst 0), (84, .ireturn)]
def am_c7 : List (Nat × Instr) := [(0, .aload_n 0), (1, .dup), (2, .getfield 26), (5, .iconst 1), (6, .iadd), (7, .putfield 26), (10, .aload_n 0), (11, .invokevirtual 69), (14, .istore_n 3), (15, .aload_n 1), (16, .iload_n 2), (17, .iload_n 3), (18, .iconst 0), (19, .iconst 0), (20, .invokevirtual 65), (23, .iload_n 3), (24, .iconst (-1)), (25, .if_icmp .eq 7), (28, .iconst 1), (29, .goto 4), (32, .iconst 0), (33, .ireturn)]
def am_c8 : List (Nat × Instr) := [(0, .aload_n 0), (1, .dup), (2, .getfield 26), (5, .iconst 1), (6, .iadd), (7, .putfield 26), (10, .aload_n 0), (11, .iconst 0), (12, .bipush 9), (14, .invokevirtual 58), (17, .istore_n 2), (18, .iload_n 2), (19, .iconst (-1)), (20, .if_icmp .eq 12), (23, .aload_n 0), (24, .bipush 58), (26, .invokevirtual 36), (29, .ifCond .ne 5), (32, .iconst 0), (33, .ireturn), (34, .aload_n 0), (35, .invokevirtual 69), (38, .istore_n 3), (39, .iload_n 3), (40, .iconst (-1)), (41, .if_icmp .eq 12), (44, .aload_n 0), (45, .bipush 45), (47, .invokevirtual 36), (50, .ifCond .ne 5), (53, .iconst 0), (54, .ireturn), (55, .aload_n 0), (56, .invokevirtual 69), (59, .istore 4), (61, .aload_n 1), (62, .iconst 2), (63, .iload_n 2), (64, .iload_n 3), (65, .iload 4), (67, .invokevirtual 65), (70, .iload 4), (72, .iconst (-1)), (73, .if_icmp .eq 7), (76, .iconst 1), (77, .goto 4), (80, .iconst 0), (81, .ireturn)]
def am_c9 : List (Nat × Instr) := [(0, .aload_n 0), (1, .dup), (2, .getfield 26), (5, .iconst 1), (6, .iadd), (7, .putfield 26), (10, .aload_n 0), (11, .iconst 0), (12, .bipush 9), (14, .invokevirtual 58), (17, .istore_n 3), (18, .iload_n 3), (19, .iconst (-1)), (20, .if_icmp .eq 12), (23, .aload_n 0), (24, .bipush 61), (26, .invokevirtual 36), (29, .ifCond .ne 5), (32, .iconst 0), (33, .ireturn), (34, .aload_n 0), (35, .iconst 0), (36, .bipush 9), (38, .invokevirtual 58), (41, .istore 4), (43, .aload_n 1), (44, .iload_n 2), (45, .iload_n 3), (46, .iload 4), (48, .iconst 0), (49, .invokevirtual 65), (52, .iload 4), (54, .iconst (-1)), (55, .if_icmp .eq 7), (58, .iconst 1), (59, .goto 4), (62, .iconst 0), (63, .ireturn)]
def am_c10 : List (Nat × Instr) := [(0, .aload_n 0), (1, .getfield 26), (4, .aload_n 0), (5, .getfield 22), (8, .if_icmp .ge 15), (11, .aload_n 0), (12, .getfield 9), (15, .aload_n 0), (16, .getfield 26), (19, .caload), (20, .goto 4), (23, .iconst (-1)), (24, .ireturn)]
def am_c11 : List (Nat × Instr) := [(0, .aload_n 0), (1, .invokevirtual 40), (4, .iload_n 1), (5, .if_icmp .eq 5), (8, .iconst 0), (9, .ireturn), (10, .aload_n 0), (11, .dup), (12, .getfield 26), (15, .iconst 1), (16, .iadd), (17, .putfield 26), (20, .iconst 1), (21, .ireturn)]
def am_c12 : List (Nat × Instr) := [(0, .aload_n 0), (1, .invokevirtual 40), (4, .bipush 48), (6, .isub), (7, .istore_n 3), (8, .iload_n 3), (9, .iload_n 1), (10, .if_icmp .lt 8), (13, .iload_n 3), (14, .iload_n 2), (15, .if_icmp .le 5), (18, .iconst (-1)), (19, .ireturn), (20, .aload_n 0), (21, .dup), (22, .getfield 26), (25, .iconst 1), (26, .iadd), (27, .putfield 26), (30, .iload_n 3), (31, .ireturn)]
def am_c13 : List (Nat × Instr) := [(0, .aload_n 0), (1, .iconst 0), (2, .bipush 9), (4, .invokevirtual 58), (7, .istore_n 1), (8, .iload_n 1), (9, .iconst (-1)), (10, .if_icmp .ne 5), (13, .iconst (-1)), (14, .ireturn), (15, .aload_n 0), (16, .iconst 0), (17, .bipush 9), (19, .invokevirtual 58), (22, .istore_n 2), (23, .iload_n 2), (24, .iconst (-1)), (25, .if_icmp .ne 7), (28, .iload_n 1), (29, .goto 9), (32, .bipush 10), (34, .iload_n 1), (35, .imul), (36, .iload_n 2), (37, .iadd), (38, .ireturn)]
def am_c14 : List (Nat × Instr) := [(0, .iconst (-1)), (1, .istore_n 1), (2, .iconst 0), (3, .istore_n 2), (4, .iload_n 2), (5, .bipush 8), (7, .if_icmp .ge 39), (10, .aload_n 0), (11, .iconst 1), (12, .bipush 8), (14, .invokevirtual 58), (17, .istore_n 3), (18, .iload_n 3), (19, .iconst (-1)), (20, .if_icmp .ne 5), (23, .iload_n 1), (24, .ireturn), (25, .iload_n 2), (26, .ifCond .ne 7), (29, .iload_n 3), (30, .goto 9), (33, .bipush 10), (35, .iload_n 1), (36, .imul), (37, .iload_n 3), (38, .iadd), (39, .istore_n 1), (40, .iinc 2 1), (43, .goto (-39)), (46, .iload_n 1), (47, .ireturn)]
def am_c15 : List (Nat × Instr) := [(0, .aload_n 0), (1, .invokespecial 3), (4, .aload_n 0), (5, .bipush 16), (7, .newarray .int), (9, .putfield 9), (12, .return_)]
def am_c16 : List (Nat × Instr) := [(0, .aload_n 0), (1, .iload_n 1), (2, .putfield 15), (5, .aload_n 0), (6, .iload_n 2), (7, .putfield 19), (10, .aload_n 0), (11, .iconst 0), (12, .putfield 22), (15, .aload_n 0), (16, .iconst 0), (17, .putfield 25), (20, .aload_n 0), (21, .iconst 0), (22, .putfield 28), (25, .aload_n 0), (26, .iconst 0), (27, .putfield 31), (30, .aload_n 0), (31, .iconst 0), (32, .putfield 34), (35, .return_)]
def am_c17 : List (Nat × Instr) := [(0, .aload_n 0), (1, .aload_n 1), (2, .getfield 15), (5, .putfield 15), (8, .aload_n 0), (9, .aload_n 1), (10, .getfield 19), (13, .putfield 19), (16, .aload_n 0), (17, .aload_n 1), (18, .getfield 22), (21, .putfield 22), (24, .aload_n 0), (25, .aload_n 1), (26, .getfield 25), (29, .putfield 25), (32, .aload_n 0), (33, .aload_n 1), (34, .getfield 28), (37, .putfield 28), (40, .aload_n 0), (41, .aload_n 1), (42, .getfield 31), (45, .putfield 31), (48, .aload_n 0), (49, .aload_n 1), (50, .getfield 34), (53, .putfield 34), (56, .aload_n 1), (57, .getfield 9), (60, .iconst 0), (61, .aload_n 0), (62, .getfield 9), (65, .iconst 0), (66, .bipush 16), (68, .invokestatic 37), (71, .return_)]
def am_c18 : List (Nat × Instr) := [(0, .aload_n 0), (1, .getfield 22), (4, .aload_n 0), (5, .getfield 25), (8, .if_icmp .gt 25), (11, .iload_n 1), (12, .aload_n 0), (13, .getfield 22), (16, .if_icmp .lt 15), (19, .iload_n 1), (20, .aload_n 0), (21, .getfield 25), (24, .if_icmp .ge 7), (27, .iconst 1), (28, .goto 4), (31, .iconst 0), (32, .ireturn), (33, .iload_n 1), (34, .aload_n 0), (35, .getfield 22), (38, .if_icmp .ge 11), (41, .iload_n 1), (42, .aload_n 0), (43, .getfield 25), (46, .if_icmp .ge 7), (49, .iconst 1), (50, .goto 4), (53, .iconst 0), (54, .ireturn)]
def am_c19 : List (Nat × Instr) := [(0, .aload_n 0), (1, .getfield 34), (4, .bipush 16), (6, .if_icmp .ge 23), (9, .aload_n 0), (10, .getfield 9), (13, .aload_n 0), (14, .getfield 34), (17, .iload_n 1), (18, .iastore), (19, .aload_n 0), (20, .dup), (21, .getfield 34), (24, .iconst 1), (25, .iadd), (26, .putfield 34), (29, .return_)]
def am_c20 : List (Nat × Instr) := [(0, .iconst 0), (1, .istore_n 2), (2, .iconst 0), (3, .istore_n 3), (4, .iload_n 3), (5, .aload_n 0), (6, .getfield 34), (9, .if_icmp .ge 34), (12, .aload_n 0), (13, .getfield 9), (16, .iload_n 3), (17, .iaload), (18, .iload_n 1), (19, .if_icmp .eq 18), (22, .aload_n 0), (23, .getfield 9), (26, .iload_n 2), (27, .aload_n 0), (28, .getfield 9), (31, .iload_n 3), (32, .iaload), (33, .iastore), (34, .iinc 2 1), (37, .iinc 3 1), (40, .goto (-36)), (43, .aload_n 0), (44, .iload_n 2), (45, .putfield 34), (48, .return_)]
def am_c21 : List (Nat × Instr) := [(0, .aload_n 0), (1, .invokespecial 3), (4, .aload_n 0), (5, .bipush 9), (7, .anewarray 9), (10, .putfield 11), (13, .iconst 0), (14, .istore_n 1), (15, .iload_n 1), (16, .bipush 9), (18, .if_icmp .ge 22), (21, .aload_n 0), (22, .getfield 11), (25, .iload_n 1), (26, .new 9), (29, .dup), (30, .invokespecial 17), (33, .aastore), (34, .iinc 1 1), (37, .goto (-22)), (40, .return_)]
def am_c22 : List (Nat × Instr) := [(0, .aload_n 0), (1, .getfield 11), (4, .aload_n 0), (5, .getfield 18), (8, .aaload), (9, .areturn)]
def am_c23 : List (Nat × Instr) := [(0, .aload_n 0), (1, .aload_n 0), (2, .getfield 18), (5, .iconst 1), (6, .iadd), (7, .bipush 9), (9, .irem), (10, .putfield 18), (13, .aload_n 0), (14, .getfield 22), (17, .bipush 8), (19, .if_icmp .ge 13), (22, .aload_n 0), (23, .dup), (24, .getfield 22), (27, .iconst 1), (28, .iadd), (29, .putfield 22), (32, .return_)]
def am_c24 : List (Nat × Instr) := [(0, .aload_n 0), (1, .aload_n 0), (2, .getfield 18), (5, .bipush 8), (7, .iadd), (8, .bipush 9), (10, .irem), (11, .putfield 18), (14, .aload_n 0), (15, .dup), (16, .getfield 22), (19, .iconst 1), (20, .isub), (21, .putfield 22), (24, .aload_n 0), (25, .getfield 11), (28, .aload_n 0), (29, .getfield 18), (32, .aaload), (33, .areturn)]
def am_c25 : List (Nat × Instr) := [(0, .aload_n 0), (1, .invokespecial 3), (4, .aload_n 0), (5, .bipush 8), (7, .newarray .int), (9, .putfield 9), (12, .return_)]
def am_c26 : List (Nat × Instr) := [(0, .aload_n 0), (1, .iload_n 1), (2, .putfield 15), (5, .aload_n 0), (6, .iload_n 2), (7, .putfield 19), (10, .aload_n 0), (11, .iload_n 1), (12, .putfield 22), (15, .aload_n 0), (16, .iconst 0), (17, .putfield 25), (20, .aload_n 0), (21, .iload_n 3), (22, .putfield 28), (25, .aload_n 0), (26, .iconst 0), (27, .invokevirtual 31), (30, .return_)]
def am_c27 : List (Nat × Instr) := [(0, .aload_n 0), (1, .aload_n 1), (2, .getfield 15), (5, .putfield 15), (8, .aload_n 0), (9, .aload_n 1), (10, .getfield 19), (13, .putfield 19), (16, .aload_n 0), (17, .aload_n 1), (18, .getfield 22), (21, .putfield 22), (24, .aload_n 0), (25, .aload_n 1), (26, .getfield 25), (29, .putfield 25), (32, .aload_n 0), (33, .aload_n 1), (34, .getfield 28), (37, .putfield 28), (40, .aload_n 0), (41, .aload_n 1), (42, .getfield 35), (45, .putfield 35), (48, .aload_n 0), (49, .aload_n 1), (50, .getfield 38), (53, .putfield 38), (56, .aload_n 0), (57, .aload_n 1), (58, .getfield 41), (61, .putfield 41), (64, .aload_n 0), (65, .aload_n 1), (66, .getfield 45), (69, .putfield 45), (72, .aload_n 1), (73, .getfield 9), (76, .iconst 0), (77, .aload_n 0), (78, .getfield 9), (81, .iconst 0), (82, .bipush 8), (84, .invokestatic 48), (87, .return_)]
def am_c28 : List (Nat × Instr) := [(0, .aload_n 0), (1, .iload_n 1), (2, .putfield 35), (5, .aload_n 0), (6, .iconst 0), (7, .putfield 38), (10, .aload_n 0), (11, .iconst 1), (12, .putfield 41), (15, .return_)]
def am_c29 : List (Nat × Instr) := [(0, .aload_n 0), (1, .getfield 35), (4, .aload_n 0), (5, .getfield 45), (8, .if_icmp .lt 7), (11, .iconst 1), (12, .goto 4), (15, .iconst 0), (16, .ireturn)]
def am_c30 : List (Nat × Instr) := [(0, .aload_n 0), (1, .invokevirtual 54), (4, .ifCond .eq 7), (7, .iconst 0), (8, .goto 12), (11, .aload_n 0), (12, .getfield 9), (15, .aload_n 0), (16, .getfield 35), (19, .iaload), (20, .ireturn)]
def am_c31 : List (Nat × Instr) := [(0, .aload_n 0), (1, .getfield 19), (4, .aload_n 0), (5, .getfield 22), (8, .if_icmp .le 12), (11, .aload_n 0), (12, .getfield 22), (15, .iconst 1), (16, .iadd), (17, .goto 9), (20, .aload_n 0), (21, .getfield 22), (24, .iconst 1), (25, .isub), (26, .ireturn)]
def am_c32 : List (Nat × Instr) := [(0, .iconst 0), (1, .istore_n 1), (2, .iconst 0), (3, .istore_n 2), (4, .iload_n 2), (5, .aload_n 0), (6, .getfield 45), (9, .if_icmp .ge 21), (12, .aload_n 0), (13, .getfield 9), (16, .iload_n 2), (17, .iaload), (18, .ifCond .ne 6), (21, .iinc 1 1), (24, .iinc 2 1), (27, .goto (-23)), (30, .iload_n 1), (31, .ireturn)]
def am_c33 : List (Nat × Instr) := [(0, .aload_n 0), (1, .invokespecial 3), (4, .aload_n 0), (5, .bipush 6), (7, .anewarray 9), (10, .putfield 11), (13, .aload_n 0), (14, .iconst 5), (15, .anewarray 17), (18, .putfield 19), (21, .aload_n 0), (22, .bipush 9), (24, .newarray .int), (26, .putfield 23), (29, .aload_n 0), (30, .bipush 16), (32, .anewarray 27), (35, .putfield 29), (38, .aload_n 0), (39, .bipush 16), (41, .newarray .int), (43, .putfield 33), (46, .aload_n 0), (47, .bipush 6), (49, .newarray .int), (51, .putfield 36), (54, .aload_n 0), (55, .bipush 8), (57, .newarray .int), (59, .putfield 39), (62, .iconst 0), (63, .istore_n 1), (64, .iload_n 1), (65, .bipush 6), (67, .if_icmp .ge 22), (70, .aload_n 0), (71, .getfield 11), (74, .iload_n 1), (75, .new 9), (78, .dup), (79, .invokespecial 42), (82, .aastore), (83, .iinc 1 1), (86, .goto (-22)), (89, .iconst 0), (90, .istore_n 1), (91, .iload_n 1), (92, .iconst 5), (93, .if_icmp .ge 22), (96, .aload_n 0), (97, .getfield 19), (100, .iload_n 1), (101, .new 17), (104, .dup), (105, .invokespecial 43), (108, .aastore), (109, .iinc 1 1), (112, .goto (-21)), (115, .iconst 0), (116, .istore_n 1), (117, .iload_n 1), (118, .bipush 16), (120, .if_icmp .ge 22), (123, .aload_n 0), (124, .getfield 29), (127, .iload_n 1), (128, .new 27), (131, .dup), (132, .invokespecial 44), (135, .aastore), (136, .iinc 1 1), (139, .goto (-22)), (142, .return_)]
def am_c34 : List (Nat × Instr) := [(0, .aload_n 0), (1, .aload_n 1), (2, .getfield 45), (5, .putfield 45), (8, .aload_n 0), (9, .aload_n 1), (10, .getfield 49), (13, .putfield 49), (16, .iconst 0), (17, .istore_n 2), (18, .iload_n 2), (19, .aload_n 0), (20, .getfield 49), (23, .if_icmp .ge 24), (26, .aload_n 0), (27, .getfield 11), (30, .iload_n 2), (31, .aaload), (32, .aload_n 1), (33, .getfield 11), (36, .iload_n 2), (37, .aaload), (38, .invokevirtual 52), (41, .iinc 2 1), (44, .goto (-26)), (47, .iconst 0), (48, .istore_n 2), (49, .iload_n 2), (50, .iconst 5), (51, .if_icmp .ge 45), (54, .aload_n 0), (55, .getfield 19), (58, .iload_n 2), (59, .aaload), (60, .aload_n 1), (61, .getfield 19), (64, .iload_n 2), (65, .aaload), (66, .getfield 56), (69, .putfield 56), (72, .aload_n 0), (73, .getfield 19), (76, .iload_n 2), (77, .aaload), (78, .aload_n 1), (79, .getfield 19), (82, .iload_n 2), (83, .aaload), (84, .getfield 59), (87, .putfield 59), (90, .iinc 2 1), (93, .goto (-44)), (96, .aload_n 1), (97, .getfield 23), (100, .iconst 0), (101, .aload_n 0), (102, .getfield 23), (105, .iconst 0), (106, .bipush 9), (108, .invokestatic 62), (111, .aload_n 0), (112, .aload_n 1), (113, .getfield 68), (116, .putfield 68), (119, .iconst 0), (120, .istore_n 2), (121, .iload_n 2), (122, .aload_n 0), (123, .getfield 68), (126, .if_icmp .ge 24), (129, .aload_n 0), (130, .getfield 29), (133, .iload_n 2), (134, .aaload), (135, .aload_n 1), (136, .getfield 29), (139, .iload_n 2), (140, .aaload), (141, .invokevirtual 71), (144, .iinc 2 1), (147, .goto (-26)), (150, .aload_n 0), (151, .aload_n 1), (152, .getfield 74), (155, .putfield 74), (158, .aload_n 1), (159, .getfield 33), (162, .iconst 0), (163, .aload_n 0), (164, .getfield 33), (167, .iconst 0), (168, .bipush 16), (170, .invokestatic 62), (173, .return_)]
def am_c35 : List (Nat × Instr) := [(0, .iload_n 1), (1, .ifCond .lt 15), (4, .iload_n 1), (5, .aload_n 0), (6, .getfield 49), (9, .if_icmp .ge 7), (12, .iconst 1), (13, .goto 4), (16, .iconst 0), (17, .ireturn)]
def am_c36 : List (Nat × Instr) := [(0, .iload_n 1), (1, .ifCond .lt 17), (4, .iload_n 1), (5, .aload_n 0), (6, .getfield 49), (9, .iconst 1), (10, .isub), (11, .if_icmp .ge 7), (14, .iconst 1), (15, .goto 4), (18, .iconst 0), (19, .ireturn)]
def am_c37 : List (Nat × Instr) := [(0, .iload_n 1), (1, .ifCond .lt 15), (4, .iload_n 1), (5, .aload_n 0), (6, .getfield 68), (9, .if_icmp .ge 7), (12, .iconst 1), (13, .goto 4), (16, .iconst 0), (17, .ireturn)]
def am_c38 : List (Nat × Instr) := [(0, .aload_n 0), (1, .getfield 45), (4, .bipush 24), (6, .irem), (7, .ireturn)]
def am_c39 : List (Nat × Instr) := [(0, .aload_n 1), (1, .getfield 77), (4, .tableswitch 150 0 6 #[44, 62, 76, 94, 108, 122, 140]), (48, .aload_n 0), (49, .aload_n 1), (50, .getfield 82), (53, .aload_n 1), (54, .getfield 85), (57, .aload_n 1), (58, .getfield 88), (61, .aload_n 2), (62, .invokevirtual 91), (65, .ireturn), (66, .aload_n 0), (67, .aload_n 1), (68, .getfield 82), (71, .aload_n 1), (72, .getfield 85), (75, .aload_n 2), (76, .invokevirtual 95), (79, .ireturn), (80, .aload_n 0), (81, .aload_n 1), (82, .getfield 82), (85, .aload_n 1), (86, .getfield 85), (89, .aload_n 1), (90, .getfield 88), (93, .aload_n 2), (94, .invokevirtual 99), (97, .ireturn), (98, .aload_n 0), (99, .aload_n 1), (100, .getfield 82), (103, .aload_n 1), (104, .getfield 85), (107, .aload_n 2), (108, .invokevirtual 102), (111, .ireturn), (112, .aload_n 0), (113, .aload_n 1), (114, .getfield 82), (117, .aload_n 1), (118, .getfield 85), (121, .aload_n 2), (122, .invokevirtual 105), (125, .ireturn), (126, .aload_n 0), (127, .aload_n 1), (128, .getfield 82), (131, .aload_n 1), (132, .getfield 85), (135, .aload_n 1), (136, .getfield 88), (139, .aload_n 2), (140, .invokevirtual 108), (143, .ireturn), (144, .aload_n 0), (145, .aload_n 1), (146, .getfield 82), (149, .aload_n 2), (150, .invokevirtual 111), (153, .ireturn), (154, .aload_n 0), (155, .aload_n 1), (156, .getfield 82), (159, .aload_n 2), (160, .invokevirtual 115), (163, .ireturn)]
def am_c40 : List (Nat × Instr) := [(0, .aload_n 0), (1, .getfield 49), (4, .ifCond .eq 14), (7, .iload_n 3), (8, .iconst 1), (9, .if_icmp .lt 13), (12, .iload_n 3), (13, .bipush 9), (15, .if_icmp .gt 7), (18, .iconst 1), (19, .goto 4), (22, .iconst 0), (23, .istore 5), (25, .iload_n 1), (26, .invokestatic 118), (29, .ifCond .eq 15), (32, .iload_n 2), (33, .invokestatic 118), (36, .ifCond .eq 8), (39, .iload 5), (41, .ifCond .ne 11), (44, .aload 4), (46, .iconst 1), (47, .iconst 0), (48, .invokevirtual 122), (51, .ireturn), (52, .aload_n 0), (53, .getfield 49), (56, .bipush 6), (58, .if_icmp .lt 12), (61, .aload 4), (63, .iconst 2), (64, .bipush 6), (66, .invokevirtual 122), (69, .ireturn), (70, .aload_n 0), (71, .getfield 49), (74, .ifCond .le 28), (77, .aload_n 0), (78, .getfield 19), (81, .aload_n 0), (82, .getfield 49), (85, .iconst 1), (86, .isub), (87, .aaload), (88, .astore 6), (90, .aload 6), (92, .iload_n 3), (93, .putfield 56), (96, .aload 6), (98, .iconst 0), (99, .putfield 59), (102, .aload_n 0), (103, .getfield 11), (106, .aload_n 0), (107, .getfield 49), (110, .aaload), (111, .iload_n 1), (112, .iload_n 2), (113, .invokevirtual 128), (116, .aload_n 0), (117, .dup), (118, .getfield 49), (121, .iconst 1), (122, .iadd), (123, .putfield 49), (126, .aload_n 0), (127, .getfield 49), (130, .iconst 1), (131, .isub), (132, .ireturn)]
def am_c41 : List (Nat × Instr) := [(0, .iload_n 1), (1, .iconst 1), (2, .if_icmp .lt 21), (5, .iload_n 1), (6, .bipush 8), (8, .if_icmp .gt 15), (11, .iload_n 2), (12, .iconst 1), (13, .if_icmp .lt 10), (16, .iload_n 2), (17, .sipush 150), (20, .if_icmp .le 10), (23, .aload_n 3), (24, .iconst 1), (25, .iconst 0), (26, .invokevirtual 122), (29, .ireturn), (30, .iconst 1), (31, .istore 4), (33, .iload 4), (35, .bipush 8), (37, .if_icmp .gt 35), (40, .iload 4), (42, .iload_n 1), (43, .if_icmp .eq 23), (46, .aload_n 0), (47, .getfield 23), (50, .iload 4), (52, .iaload), (53, .iload_n 2), (54, .if_icmp .ne 12), (57, .aload_n 3), (58, .bipush 6), (60, .iload 4), (62, .invokevirtual 122), (65, .ireturn), (66, .iinc 4 1), (69, .goto (-36)), (72, .aload_n 0), (73, .getfield 23), (76, .iload_n 1), (77, .iaload), (78, .istore 4), (80, .aload_n 0), (81, .getfield 23), (84, .iload_n 1), (85, .iload_n 2), (86, .iastore), (87, .iload 4), (89, .ireturn)]
def am_c42 : List (Nat × Instr) := [(0, .aload_n 0), (1, .iload_n 1), (2, .invokevirtual 132), (5, .ifCond .ne 11), (8, .aload 4), (10, .iconst 3), (11, .iload_n 1), (12, .invokevirtual 122), (15, .ireturn), (16, .iload_n 2), (17, .invokestatic 135), (20, .ifCond .eq 10), (23, .iload_n 3), (24, .invokestatic 135), (27, .ifCond .ne 11), (30, .aload 4), (32, .iconst 1), (33, .iconst 0), (34, .invokevirtual 122), (37, .ireturn), (38, .aload_n 0), (39, .getfield 11), (42, .iload_n 1), (43, .aaload), (44, .iload_n 2), (45, .putfield 138), (48, .aload_n 0), (49, .getfield 11), (52, .iload_n 1), (53, .aaload), (54, .iload_n 3), (55, .putfield 141), (58, .iload_n 3), (59, .iload_n 2), (60, .isub), (61, .bipush 24), (63, .iadd), (64, .bipush 24), (66, .irem), (67, .ireturn)]
def am_c43 : List (Nat × Instr) := [(0, .aload_n 0), (1, .iload_n 1), (2, .invokevirtual 144), (5, .ifCond .ne 10), (8, .aload_n 3), (9, .iconst 3), (10, .iload_n 1), (11, .invokevirtual 122), (14, .ireturn), (15, .iload_n 2), (16, .invokestatic 118), (19, .ifCond .ne 10), (22, .aload_n 3), (23, .iconst 1), (24, .iconst 0), (25, .invokevirtual 122), (28, .ireturn), (29, .aload_n 0), (30, .getfield 19), (33, .iload_n 1), (34, .aaload), (35, .getfield 59), (38, .istore 4), (40, .aload_n 0), (41, .getfield 19), (44, .iload_n 1), (45, .aaload), (46, .iload_n 2), (47, .putfield 59), (50, .iload 4), (52, .ireturn)]
def am_c44 : List (Nat × Instr) := [(0, .aload_n 0), (1, .iload_n 1), (2, .invokevirtual 132), (5, .ifCond .ne 10), (8, .aload_n 3), (9, .iconst 3), (10, .iload_n 1), (11, .invokevirtual 122), (14, .ireturn), (15, .iload_n 2), (16, .invokestatic 118), (19, .ifCond .ne 10), (22, .aload_n 3), (23, .iconst 1), (24, .iconst 0), (25, .invokevirtual 122), (28, .ireturn), (29, .aload_n 0), (30, .getfield 11), (33, .iload_n 1), (34, .aaload), (35, .getfield 147), (38, .istore 4), (40, .aload_n 0), (41, .getfield 11), (44, .iload_n 1), (45, .aaload), (46, .iload_n 2), (47, .putfield 147), (50, .iload 4), (52, .ireturn)]
def am_c45_0 : List (Nat × Instr) := [(0, .aload_n 0), (1, .iload_n 1), (2, .invokevirtual 132), (5, .ifCond .ne 11), (8, .aload 4), (10, .iconst 3), (11, .iload_n 1), (12, .invokevirtual 122), (15, .ireturn), (16, .aload_n 0), (17, .iload_n 2), (18, .invokevirtual 132), (21, .ifCond .ne 11), (24, .aload 4), (26, .iconst 3), (27, .iload_n 2), (28, .invokevirtual 122), (31, .ireturn), (32, .iload_n 1), (33, .iload_n 2), (34, .if_icmp .ne 11), (37, .aload 4), (39, .iconst 5), (40, .iload_n 1), (41, .invokevirtual 122), (44, .ireturn), (45, .aload_n 0), (46, .iload_n 3), (47, .invokevirtual 150), (50, .istore 5), (52, .iload 5), (54, .ifCond .ne 11), (57, .aload 4), (59, .iconst 1), (60, .iconst 0), (61, .invokevirtual 122), (64, .ireturn), (65, .iconst 0), (66, .istore 6), (68, .iload 6)]
def am_c45_1 : List (Nat × Instr) := [(70, .iload 5), (72, .if_icmp .ge 38), (75, .aload_n 0), (76, .getfield 23), (79, .aload_n 0), (80, .getfield 39), (83, .iload 6), (85, .iaload), (86, .iaload), (87, .ifCond .ne 17), (90, .aload 4), (92, .iconst 4), (93, .aload_n 0), (94, .getfield 39), (97, .iload 6), (99, .iaload), (100, .invokevirtual 122), (103, .ireturn), (104, .iinc 6 1), (107, .goto (-39)), (110, .aload_n 0), (111, .getfield 68), (114, .bipush 16), (116, .if_icmp .lt 12), (119, .aload 4), (121, .iconst 2), (122, .bipush 16), (124, .invokevirtual 122), (127, .ireturn), (128, .aload_n 0), (129, .getfield 29), (132, .aload_n 0), (133, .getfield 68), (136, .aaload), (137, .astore 6), (139, .aload 6), (141, .iload_n 1), (142, .iload_n 2), (143, .aload_n 0), (144, .getfield 45)]
def am_c45_2 : List (Nat × Instr) := [(147, .invokevirtual 154), (150, .aload 6), (152, .iload 5), (154, .putfield 157), (157, .aload_n 0), (158, .getfield 39), (161, .iconst 0), (162, .aload 6), (164, .getfield 160), (167, .iconst 0), (168, .iload 5), (170, .invokestatic 62), (173, .aload_n 0), (174, .getfield 11), (177, .iload_n 1), (178, .aaload), (179, .aload_n 0), (180, .getfield 68), (183, .invokevirtual 163), (186, .aload_n 0), (187, .dup), (188, .getfield 68), (191, .iconst 1), (192, .iadd), (193, .putfield 68), (196, .aload_n 0), (197, .getfield 68), (200, .iconst 1), (201, .isub), (202, .ireturn)]
def am_c45 : List (Nat × Instr) := am_c45_0 ++ (am_c45_1 ++ (am_c45_2))
def am_c46 : List (Nat × Instr) := [(0, .iload_n 1), (1, .iconst 1), (2, .if_icmp .lt 9), (5, .iload_n 1), (6, .ldc 167), (8, .if_icmp .le 5), (11, .iconst 0), (12, .ireturn), (13, .iconst 1), (14, .istore_n 2), (15, .bipush 10), (17, .istore_n 3), (18, .iload_n 2), (19, .bipush 8), (21, .if_icmp .ge 19), (24, .iload_n 1), (25, .iload_n 3), (26, .if_icmp .lt 14), (29, .iinc 2 1), (32, .iload_n 3), (33, .bipush 10), (35, .imul), (36, .istore_n 3), (37, .goto (-19)), (40, .iload_n 1), (41, .istore 4), (43, .iload_n 2), (44, .iconst 1), (45, .isub), (46, .istore 5), (48, .iload 5), (50, .ifCond .lt 47), (53, .iload 4), (55, .bipush 10), (57, .irem), (58, .istore 6), (60, .iload 6), (62, .iconst 1), (63, .if_icmp .lt 10), (66, .iload 6), (68, .bipush 8), (70, .if_icmp .le 5), (73, .iconst 0), (74, .ireturn), (75, .aload_n 0), (76, .getfield 39), (79, .iload 5), (81, .iload 6), (83, .iastore), (84, .iload 4), (86, .bipush 10), (88, .idiv), (89, .istore 4), (91, .iinc 5 (-1)), (94, .goto (-46)), (97, .iload_n 2), (98, .ireturn)]
def am_c47 : List (Nat × Instr) := [(0, .aload_n 0), (1, .iload_n 1), (2, .invokevirtual 168), (5, .ifCond .ne 10), (8, .aload_n 2), (9, .iconst 3), (10, .iload_n 1), (11, .invokevirtual 122), (14, .ireturn), (15, .aload_n 0), (16, .getfield 29), (19, .iload_n 1), (20, .aaload), (21, .astore_n 3), (22, .aload_n 3), (23, .getfield 171), (26, .ifCond .eq 14), (29, .aload_n 2), (30, .bipush 7), (32, .aload_n 3), (33, .getfield 171), (36, .invokevirtual 122), (39, .ireturn), (40, .aload_n 3), (41, .iconst 2), (42, .putfield 171), (45, .aload_n 0), (46, .getfield 11), (49, .aload_n 3), (50, .getfield 174), (53, .aaload), (54, .iload_n 1), (55, .invokevirtual 177), (58, .aload_n 3), (59, .getfield 174), (62, .ireturn)]
def am_c48 : List (Nat × Instr) := [(0, .iload_n 1), (1, .iconst 1), (2, .if_icmp .lt 9), (5, .iload_n 1), (6, .bipush 96), (8, .if_icmp .le 10), (11, .aload_n 2), (12, .iconst 1), (13, .iconst 0), (14, .invokevirtual 122), (17, .ireturn), (18, .aload_n 0), (19, .getfield 74), (22, .istore_n 3), (23, .iconst 0), (24, .istore 4), (26, .iload 4), (28, .iload_n 1), (29, .if_icmp .ge 13), (32, .aload_n 0), (33, .invokevirtual 180), (36, .iinc 4 1), (39, .goto (-13)), (42, .aload_n 0), (43, .getfield 74), (46, .iload_n 3), (47, .isub), (48, .ireturn)]
def am_c49_0 : List (Nat × Instr) := [(0, .iconst 0), (1, .istore_n 1), (2, .iconst 0), (3, .istore_n 2), (4, .aload_n 0), (5, .invokevirtual 183), (8, .istore_n 3), (9, .iconst 0), (10, .istore 4), (12, .iload 4), (14, .aload_n 0), (15, .getfield 49), (18, .if_icmp .ge 154), (21, .aload_n 0), (22, .getfield 11), (25, .iload 4), (27, .aaload), (28, .astore 5), (30, .aload 5), (32, .getfield 187), (35, .ifCond .le 131), (38, .aload 5), (40, .iload_n 3), (41, .invokevirtual 190), (44, .ifCond .ne 122), (47, .aload 5), (49, .getfield 193), (52, .iconst 0), (53, .iaload), (54, .istore 6), (56, .aload_n 0), (57, .getfield 29), (60, .iload 6), (62, .aaload), (63, .invokevirtual 196), (66, .istore 7), (68, .iload_n 2), (69, .iload 7), (71, .ishr), (72, .iconst 1)]
def am_c49_1 : List (Nat × Instr) := [(73, .iand), (74, .ifCond .ne 7), (77, .iconst 1), (78, .goto 4), (81, .iconst 0), (82, .istore 8), (84, .iload_n 2), (85, .iconst 1), (86, .iload 7), (88, .ishl), (89, .ior), (90, .istore_n 2), (91, .aload 5), (93, .dup), (94, .getfield 199), (97, .iconst 1), (98, .iadd), (99, .putfield 199), (102, .aload_n 0), (103, .aload_n 0), (104, .getfield 29), (107, .iload 6), (109, .aaload), (110, .iload 7), (112, .iload 8), (114, .ifCond .eq 18), (117, .aload_n 0), (118, .iload 4), (120, .iload 7), (122, .invokevirtual 202), (125, .ifCond .eq 7), (128, .iconst 1), (129, .goto 4), (132, .iconst 0), (133, .invokevirtual 206), (136, .aload_n 0), (137, .getfield 29), (140, .iload 6), (142, .aaload), (143, .invokevirtual 210)]
def am_c49_2 : List (Nat × Instr) := [(146, .ifCond .eq 20), (149, .iload_n 1), (150, .bipush 6), (152, .if_icmp .ge 14), (155, .aload_n 0), (156, .getfield 36), (159, .iload_n 1), (160, .iload 6), (162, .iastore), (163, .iinc 1 1), (166, .iinc 4 1), (169, .goto (-157)), (172, .iconst 0), (173, .istore 4), (175, .iload 4), (177, .iload_n 1), (178, .if_icmp .ge 20), (181, .aload_n 0), (182, .aload_n 0), (183, .getfield 36), (186, .iload 4), (188, .iaload), (189, .invokevirtual 214), (192, .iinc 4 1), (195, .goto (-20)), (198, .aload_n 0), (199, .invokevirtual 217), (202, .return_)]
def am_c49 : List (Nat × Instr) := am_c49_0 ++ (am_c49_1 ++ (am_c49_2))
def am_c50 : List (Nat × Instr) := [(0, .aload_n 1), (1, .invokevirtual 220), (4, .istore 4), (6, .iload 4), (8, .ifCond .ne 14), (11, .aload_n 1), (12, .aload_n 1), (13, .getfield 223), (16, .iconst 1), (17, .iadd), (18, .invokevirtual 226), (21, .return_), (22, .aload_n 1), (23, .dup), (24, .getfield 229), (27, .iconst 1), (28, .iadd), (29, .putfield 229), (32, .aload_n 1), (33, .aload_n 1), (34, .getfield 230), (37, .ifCond .eq 11), (40, .iload_n 3), (41, .ifCond .eq 7), (44, .iconst 1), (45, .goto 4), (48, .iconst 0), (49, .putfield 230), (52, .aload_n 1), (53, .getfield 229), (56, .aload_n 0), (57, .getfield 23), (60, .iload 4), (62, .iaload), (63, .iconst 4), (64, .irem), (65, .if_icmp .le 45), (68, .aload_n 1), (69, .getfield 230), (72, .ifCond .ne 28), (75, .aload_n 1), (76, .getfield 160), (79, .aload_n 1), (80, .getfield 223), (83, .iconst 0), (84, .iastore), (85, .aload_n 0), (86, .getfield 11), (89, .iload_n 2), (90, .aaload), (91, .dup), (92, .getfield 234), (95, .iconst 1), (96, .iadd), (97, .putfield 234), (100, .aload_n 1), (101, .aload_n 1), (102, .getfield 223), (105, .iconst 1), (106, .iadd), (107, .invokevirtual 226), (110, .return_)]
def am_c51 : List (Nat × Instr) := [(0, .aload_n 0), (1, .getfield 29), (4, .iload_n 1), (5, .aaload), (6, .astore_n 2), (7, .aload_n 0), (8, .getfield 11), (11, .aload_n 2), (12, .getfield 174), (15, .aaload), (16, .iload_n 1), (17, .invokevirtual 177), (20, .aload_n 2), (21, .aload_n 2), (22, .invokevirtual 196), (25, .putfield 174), (28, .aload_n 2), (29, .iconst 0), (30, .invokevirtual 226), (33, .aload_n 2), (34, .getfield 174), (37, .aload_n 2), (38, .getfield 237), (41, .if_icmp .ne 11), (44, .aload_n 0), (45, .iload_n 1), (46, .invokevirtual 240), (49, .goto 16), (52, .aload_n 0), (53, .getfield 11), (56, .aload_n 2), (57, .getfield 174), (60, .aaload), (61, .iload_n 1), (62, .invokevirtual 163), (65, .return_)]
def am_c52 : List (Nat × Instr) := [(0, .aload_n 0), (1, .getfield 29), (4, .iload_n 1), (5, .aaload), (6, .iconst 1), (7, .putfield 171), (10, .aload_n 0), (11, .getfield 74), (14, .bipush 16), (16, .if_icmp .ge 23), (19, .aload_n 0), (20, .getfield 33), (23, .aload_n 0), (24, .getfield 74), (27, .iload_n 1), (28, .iastore), (29, .aload_n 0), (30, .dup), (31, .getfield 74), (34, .iconst 1), (35, .iadd), (36, .putfield 74), (39, .return_)]
def am_c53 : List (Nat × Instr) := [(0, .aload_n 0), (1, .dup), (2, .getfield 45), (5, .iconst 1), (6, .iadd), (7, .putfield 45), (10, .aload_n 0), (11, .getfield 45), (14, .bipush 6), (16, .irem), (17, .ifCond .ne 38), (20, .iconst 0), (21, .istore_n 1), (22, .iload_n 1), (23, .iconst 5), (24, .if_icmp .ge 31), (27, .aload_n 0), (28, .getfield 19), (31, .iload_n 1), (32, .aaload), (33, .aload_n 0), (34, .getfield 19), (37, .iload_n 1), (38, .aaload), (39, .getfield 59), (42, .iload_n 1), (43, .invokestatic 243), (46, .putfield 59), (49, .iinc 1 1), (52, .goto (-30)), (55, .return_)]
def am_c54 : List (Nat × Instr) := [(0, .aload_n 0), (1, .getfield 19), (4, .iload_n 1), (5, .iload_n 2), (6, .if_icmp .ge 7), (9, .iload_n 1), (10, .goto 4), (13, .iload_n 2), (14, .aaload), (15, .astore_n 3), (16, .bipush 24), (18, .aload_n 0), (19, .getfield 11), (22, .iload_n 1), (23, .aaload), (24, .getfield 246), (27, .isub), (28, .aload_n 0), (29, .getfield 11), (32, .iload_n 2), (33, .aaload), (34, .getfield 147), (37, .iadd), (38, .iconst 2), (39, .aload_n 3), (40, .getfield 56), (43, .imul), (44, .isub), (45, .aload_n 3), (46, .getfield 59), (49, .isub), (50, .ireturn)]
def am_c55 : List (Nat × Instr) := [(0, .aload_n 0), (1, .getfield 11), (4, .iload_n 2), (5, .aaload), (6, .getfield 147), (9, .ifCond .eq 18), (12, .aload_n 0), (13, .iload_n 1), (14, .iload_n 2), (15, .invokevirtual 249), (18, .bipush 10), (20, .if_icmp .lt 7), (23, .iconst 1), (24, .goto 4), (27, .iconst 0), (28, .ireturn)]
def am_c56 : List (Nat × Instr) := [(0, .iconst 0), (1, .istore_n 2), (2, .iconst 0), (3, .istore_n 3), (4, .iload_n 3), (5, .aload_n 0), (6, .getfield 68), (9, .if_icmp .ge 33), (12, .aload_n 0), (13, .getfield 29), (16, .iload_n 3), (17, .aaload), (18, .getfield 171), (21, .ifCond .ne 15), (24, .aload_n 0), (25, .iload_n 3), (26, .iload_n 1), (27, .invokevirtual 252), (30, .ifCond .eq 6), (33, .iinc 2 1), (36, .iinc 3 1), (39, .goto (-35)), (42, .iload_n 2), (43, .ireturn)]
def am_c57 : List (Nat × Instr) := [(0, .aload_n 0), (1, .getfield 29), (4, .iload_n 1), (5, .aaload), (6, .invokevirtual 255), (9, .istore_n 3), (10, .aload_n 0), (11, .getfield 29), (14, .iload_n 2), (15, .aaload), (16, .invokevirtual 255), (19, .istore 4), (21, .iload_n 3), (22, .iload 4), (24, .if_icmp .eq 15), (27, .iload_n 3), (28, .iload 4), (30, .if_icmp .le 7), (33, .iconst 1), (34, .goto 4), (37, .iconst 0), (38, .ireturn), (39, .aload_n 0), (40, .getfield 29), (43, .iload_n 1), (44, .aaload), (45, .getfield 258), (48, .aload_n 0), (49, .getfield 29), (52, .iload_n 2), (53, .aaload), (54, .getfield 258), (57, .if_icmp .eq 30), (60, .aload_n 0), (61, .getfield 29), (64, .iload_n 1), (65, .aaload), (66, .getfield 258), (69, .aload_n 0), (70, .getfield 29), (73, .iload_n 2), (74, .aaload), (75, .getfield 258), (78, .if_icmp .ge 7), (81, .iconst 1), (82, .goto 4), (85, .iconst 0), (86, .ireturn), (87, .iload_n 1), (88, .iload_n 2), (89, .if_icmp .ge 7), (92, .iconst 1), (93, .goto 4), (96, .iconst 0), (97, .ireturn)]
def am_c58 : List (Nat × Instr) := [(0, .iconst 0), (1, .istore_n 1), (2, .iconst 1), (3, .istore_n 2), (4, .iload_n 2), (5, .bipush 8), (7, .if_icmp .gt 21), (10, .aload_n 0), (11, .getfield 23), (14, .iload_n 2), (15, .iaload), (16, .ifCond .eq 6), (19, .iinc 1 1), (22, .iinc 2 1), (25, .goto (-21)), (28, .iload_n 1), (29, .ireturn)]
def am_c59 : List (Nat × Instr) := [(0, .iconst 0), (1, .istore_n 2), (2, .iconst 0), (3, .istore_n 3), (4, .iload_n 3), (5, .aload_n 0), (6, .getfield 68), (9, .if_icmp .ge 25), (12, .aload_n 0), (13, .getfield 29), (16, .iload_n 3), (17, .aaload), (18, .getfield 171), (21, .iload_n 1), (22, .if_icmp .ne 6), (25, .iinc 2 1), (28, .iinc 3 1), (31, .goto (-27)), (34, .iload_n 2), (35, .ireturn)]
def am_c60 : List (Nat × Instr) := [(0, .iconst 0), (1, .istore_n 1), (2, .iconst 0), (3, .istore_n 2), (4, .iload_n 2), (5, .aload_n 0), (6, .getfield 49), (9, .if_icmp .ge 21), (12, .iload_n 1), (13, .aload_n 0), (14, .getfield 11), (17, .iload_n 2), (18, .aaload), (19, .getfield 199), (22, .iadd), (23, .istore_n 1), (24, .iinc 2 1), (27, .goto (-23)), (30, .iload_n 1), (31, .ireturn)]
def am_c61 : List (Nat × Instr) := [(0, .iconst 0), (1, .istore_n 1), (2, .iconst 0), (3, .istore_n 2), (4, .iload_n 2), (5, .aload_n 0), (6, .getfield 49), (9, .if_icmp .ge 28), (12, .aload_n 0), (13, .getfield 11), (16, .iload_n 2), (17, .aaload), (18, .aload_n 0), (19, .invokevirtual 183), (22, .invokevirtual 190), (25, .ifCond .eq 6), (28, .iinc 1 1), (31, .iinc 2 1), (34, .goto (-30)), (37, .iload_n 1), (38, .ireturn)]
def am_c62 : List (Nat × Instr) := [(0, .aload_n 0), (1, .invokespecial 3), (4, .aload_n 0), (5, .iconst 0), (6, .putfield 9), (9, .return_)]
def am_c63 : List (Nat × Instr) := [(0, .aload_n 0), (1, .iload_n 1), (2, .putfield 9), (5, .aload_n 0), (6, .iload_n 2), (7, .putfield 15), (10, .iconst (-1)), (11, .ireturn)]
def am_c64 : List (Nat × Instr) := [(0, .aload_n 0), (1, .invokespecial 1), (4, .return_)]
def am_c65 : List (Nat × Instr) := [(0, .aload_n 0), (1, .invokespecial 3), (4, .aload_n 0), (5, .new 9), (8, .dup), (9, .invokespecial 11), (12, .putfield 12), (15, .aload_n 0), (16, .new 9), (19, .dup), (20, .invokespecial 11), (23, .putfield 16), (26, .aload_n 0), (27, .new 9), (30, .dup), (31, .invokespecial 11), (34, .putfield 19), (37, .aload_n 0), (38, .new 22), (41, .dup), (42, .invokespecial 24), (45, .putfield 25), (48, .aload_n 0), (49, .new 29), (52, .dup), (53, .invokespecial 31), (56, .putfield 32), (59, .aload_n 0), (60, .new 36), (63, .dup), (64, .invokespecial 38), (67, .putfield 39), (70, .aload_n 0), (71, .new 43), (74, .dup), (75, .invokespecial 45), (78, .putfield 46), (81, .aload_n 0), (82, .iconst (-1)), (83, .putfield 50), (86, .aload_n 0), (87, .bipush 14), (89, .newarray .char), (91, .putfield 54), (94, .return_)]
def am_c66 : List (Nat × Instr) := [(0, .aload_n 0), (1, .getfield 39), (4, .iconst 0), (5, .iload_n 1), (6, .iload_n 2), (7, .iload_n 3), (8, .invokevirtual 58), (11, .aload_n 0), (12, .invokevirtual 62), (15, .ireturn)]
def am_c67 : List (Nat × Instr) := [(0, .aload_n 0), (1, .getfield 39), (4, .iconst 1), (5, .iload_n 1), (6, .iload_n 2), (7, .iconst 0), (8, .invokevirtual 58), (11, .aload_n 0), (12, .invokevirtual 62), (15, .ireturn)]
def am_c68 : List (Nat × Instr) := [(0, .aload_n 0), (1, .getfield 39), (4, .iconst 2), (5, .iload_n 1), (6, .iload_n 2), (7, .iload_n 3), (8, .invokevirtual 58), (11, .aload_n 0), (12, .invokevirtual 62), (15, .ireturn)]
def am_c69 : List (Nat × Instr) := [(0, .aload_n 0), (1, .getfield 39), (4, .iconst 3), (5, .iload_n 1), (6, .iload_n 2), (7, .iconst 0), (8, .invokevirtual 58), (11, .aload_n 0), (12, .invokevirtual 62), (15, .ireturn)]
def am_c70 : List (Nat × Instr) := [(0, .aload_n 0), (1, .getfield 39), (4, .iconst 4), (5, .iload_n 1), (6, .iload_n 2), (7, .iconst 0), (8, .invokevirtual 58), (11, .aload_n 0), (12, .invokevirtual 62), (15, .ireturn)]
def am_c71 : List (Nat × Instr) := [(0, .aload_n 0), (1, .getfield 39), (4, .iconst 5), (5, .iload_n 1), (6, .iload_n 2), (7, .iload_n 3), (8, .invokevirtual 58), (11, .aload_n 0), (12, .invokevirtual 62), (15, .ireturn)]
def am_c72 : List (Nat × Instr) := [(0, .aload_n 0), (1, .getfield 39), (4, .bipush 6), (6, .iload_n 1), (7, .iconst 0), (8, .iconst 0), (9, .invokevirtual 58), (12, .aload_n 0), (13, .invokevirtual 62), (16, .ireturn)]
def am_c73 : List (Nat × Instr) := [(0, .aload_n 0), (1, .getfield 39), (4, .bipush 7), (6, .iload_n 1), (7, .iconst 0), (8, .iconst 0), (9, .invokevirtual 58), (12, .aload_n 0), (13, .invokevirtual 62), (16, .ireturn)]
def am_c74 : List (Nat × Instr) := [(0, .aload_n 0), (1, .getfield 25), (4, .invokevirtual 66), (7, .aload_n 0), (8, .getfield 12), (11, .invokevirtual 70), (14, .aload_n 0), (15, .getfield 12), (18, .aload_n 0), (19, .getfield 39), (22, .aload_n 0), (23, .getfield 32), (26, .invokevirtual 74), (29, .istore_n 1), (30, .iload_n 1), (31, .iconst (-1)), (32, .if_icmp .ne 19), (35, .aload_n 0), (36, .getfield 32), (39, .iconst 0), (40, .putfield 78), (43, .new 81), (46, .dup), (47, .invokespecial 83), (50, .athrow), (51, .aload_n 0), (52, .getfield 25), (55, .invokevirtual 84), (58, .iload_n 1), (59, .ireturn)]
def am_c75 : List (Nat × Instr) := [(0, .aload_n 0), (1, .iload_n 1), (2, .invokevirtual 87), (5, .astore_n 3), (6, .iload_n 2), (7, .tableswitch 100 0 7 #[45, 50, 55, 60, 65, 70, 75, 80]), (52, .aload_n 3), (53, .getfield 91), (56, .ireturn), (57, .aload_n 3), (58, .getfield 96), (61, .ireturn), (62, .aload_n 3), (63, .getfield 99), (66, .ireturn), (67, .aload_n 3), (68, .getfield 102), (71, .ireturn), (72, .aload_n 3), (73, .getfield 105), (76, .ireturn), (77, .aload_n 3), (78, .getfield 108), (81, .ireturn), (82, .aload_n 3), (83, .getfield 111), (86, .ireturn), (87, .aload_n 3), (88, .aload_n 0), (89, .getfield 12), (92, .invokevirtual 114), (95, .invokevirtual 117), (98, .ifCond .eq 7), (101, .iconst 1), (102, .goto 4), (105, .iconst 0), (106, .ireturn), (107, .new 121), (110, .dup), (111, .invokespecial 123), (114, .athrow)]
def am_c76 : List (Nat × Instr) := [(0, .aload_n 0), (1, .iload_n 1), (2, .invokevirtual 124), (5, .astore_n 3), (6, .iload_n 2), (7, .lookupswitch 35 #[(0, 25), (1, 30)]), (32, .aload_n 3), (33, .getfield 128), (36, .ireturn), (37, .aload_n 3), (38, .getfield 133), (41, .ireturn), (42, .new 121), (45, .dup), (46, .invokespecial 123), (49, .athrow)]
def am_c77 : List (Nat × Instr) := [(0, .iload_n 1), (1, .iconst 1), (2, .if_icmp .lt 9), (5, .iload_n 1), (6, .bipush 8), (8, .if_icmp .le 11), (11, .new 121), (14, .dup), (15, .invokespecial 123), (18, .athrow), (19, .aload_n 0), (20, .getfield 12), (23, .getfield 136), (26, .iload_n 1), (27, .iaload), (28, .ireturn)]
def am_c78 : List (Nat × Instr) := [(0, .aload_n 0), (1, .getfield 12), (4, .iload_n 1), (5, .aload_n 0), (6, .iload_n 1), (7, .iload_n 2), (8, .invokevirtual 140), (11, .invokevirtual 144), (14, .ireturn)]
def am_c79 : List (Nat × Instr) := [(0, .aload_n 0), (1, .getfield 12), (4, .iload_n 1), (5, .aload_n 0), (6, .iload_n 1), (7, .iload_n 2), (8, .invokevirtual 140), (11, .invokevirtual 148), (14, .ireturn)]
def am_c80 : List (Nat × Instr) := [(0, .aload_n 0), (1, .iload_n 1), (2, .invokevirtual 124), (5, .getfield 133), (8, .istore_n 3), (9, .iload_n 2), (10, .ifCond .lt 10), (13, .iload_n 2), (14, .sipush 200), (17, .if_icmp .le 11), (20, .new 121), (23, .dup), (24, .invokespecial 123), (27, .athrow), (28, .iconst 1), (29, .istore 4), (31, .iload 4), (33, .iload_n 2), (34, .if_icmp .gt 31), (37, .aload_n 0), (38, .getfield 12), (41, .getfield 152), (44, .iload 4), (46, .iadd), (47, .bipush 6), (49, .irem), (50, .ifCond .ne 9), (53, .iload_n 3), (54, .iload_n 1), (55, .invokestatic 155), (58, .istore_n 3), (59, .iinc 4 1), (62, .goto (-31)), (65, .iload_n 3), (66, .ireturn)]
def am_c81 : List (Nat × Instr) := [(0, .aload_n 0), (1, .getfield 12), (4, .getfield 158), (7, .ifCond .ne 11), (10, .new 161), (13, .dup), (14, .invokespecial 163), (17, .athrow), (18, .iconst 0), (19, .istore_n 1), (20, .iconst 0), (21, .istore_n 2), (22, .iload_n 2), (23, .aload_n 0), (24, .getfield 12), (27, .getfield 158), (30, .if_icmp .ge 24), (33, .iload_n 1), (34, .aload_n 0), (35, .getfield 12), (38, .getfield 164), (41, .iload_n 2), (42, .aaload), (43, .getfield 96), (46, .iadd), (47, .istore_n 1), (48, .iinc 2 1), (51, .goto (-29)), (54, .iload_n 1), (55, .i2f), (56, .aload_n 0), (57, .getfield 12), (60, .getfield 158), (63, .i2f), (64, .fdiv), (65, .freturn)]
def am_c82 : List (Nat × Instr) := [(0, .aload_n 0), (1, .getfield 12), (4, .iload_n 1), (5, .invokevirtual 168), (8, .ifCond .ne 11), (11, .new 171), (14, .dup), (15, .invokespecial 173), (18, .athrow), (19, .aload_n 0), (20, .getfield 12), (23, .getfield 164), (26, .iload_n 1), (27, .aaload), (28, .areturn)]
def am_c83 : List (Nat × Instr) := [(0, .aload_n 0), (1, .getfield 12), (4, .iload_n 1), (5, .invokevirtual 174), (8, .ifCond .ne 11), (11, .new 171), (14, .dup), (15, .invokespecial 173), (18, .athrow), (19, .aload_n 0), (20, .getfield 12), (23, .getfield 177), (26, .iload_n 1), (27, .aaload), (28, .areturn)]
def am_c84 : List (Nat × Instr) := [(0, .aload_n 0), (1, .getfield 12), (4, .iload_n 1), (5, .invokevirtual 168), (8, .ifCond .ne 11), (11, .new 171), (14, .dup), (15, .invokespecial 173), (18, .athrow), (19, .iload_n 2), (20, .ifCond .eq 9), (23, .iload_n 1), (24, .iconst 1), (25, .iadd), (26, .goto 6), (29, .iload_n 1), (30, .iconst 1), (31, .isub), (32, .istore_n 3), (33, .aload_n 0), (34, .getfield 12), (37, .iload_n 3), (38, .invokevirtual 168), (41, .ifCond .ne 11), (44, .new 181), (47, .dup), (48, .invokespecial 183), (51, .athrow), (52, .iload_n 3), (53, .ireturn)]
def am_c85 : List (Nat × Instr) := [(0, .aload_n 0), (1, .iload_n 1), (2, .invokevirtual 184), (5, .astore_n 3), (6, .iload_n 2), (7, .tableswitch 94 0 8 #[49, 54, 59, 64, 69, 74, 79, 84, 89]), (56, .aload_n 3), (57, .getfield 188), (60, .ireturn), (61, .aload_n 3), (62, .getfield 193), (65, .ireturn), (66, .aload_n 3), (67, .getfield 196), (70, .ireturn), (71, .aload_n 3), (72, .getfield 199), (75, .ireturn), (76, .aload_n 3), (77, .invokevirtual 202), (80, .ireturn), (81, .aload_n 3), (82, .getfield 205), (85, .ireturn), (86, .aload_n 3), (87, .getfield 208), (90, .ireturn), (91, .aload_n 3), (92, .getfield 209), (95, .ireturn), (96, .aload_n 3), (97, .getfield 212), (100, .ireturn), (101, .new 121), (104, .dup), (105, .invokespecial 123), (108, .athrow)]
def am_c86 : List (Nat × Instr) := [(0, .aload_n 0), (1, .iload_n 1), (2, .invokevirtual 184), (5, .astore_n 3), (6, .iload_n 2), (7, .ifCond .lt 11), (10, .iload_n 2), (11, .aload_n 3), (12, .getfield 199), (15, .if_icmp .lt 11), (18, .new 171), (21, .dup), (22, .invokespecial 173), (25, .athrow), (26, .aload_n 3), (27, .getfield 215), (30, .iload_n 2), (31, .iaload), (32, .ireturn)]
def am_c87 : List (Nat × Instr) := [(0, .aload_n 0), (1, .iload_n 1), (2, .invokevirtual 184), (5, .astore_n 2), (6, .iconst 0), (7, .istore_n 3), (8, .iconst 0), (9, .istore 4), (11, .iload 4), (13, .aload_n 2), (14, .getfield 199), (17, .if_icmp .ge 31), (20, .aload_n 2), (21, .getfield 215), (24, .iload 4), (26, .iaload), (27, .ifCond .eq 15), (30, .iload_n 3), (31, .iconst 1), (32, .aload_n 2), (33, .getfield 215), (36, .iload 4), (38, .iaload), (39, .ishl), (40, .ior), (41, .istore_n 3), (42, .iinc 4 1), (45, .goto (-34)), (48, .iload_n 3), (49, .ireturn)]
def am_c88 : List (Nat × Instr) := [(0, .aload_n 0), (1, .iload_n 1), (2, .invokevirtual 87), (5, .astore_n 3), (6, .iload_n 2), (7, .ifCond .lt 11), (10, .iload_n 2), (11, .aload_n 3), (12, .getfield 105), (15, .if_icmp .lt 11), (18, .new 181), (21, .dup), (22, .invokespecial 183), (25, .athrow), (26, .aload_n 3), (27, .getfield 218), (30, .iload_n 2), (31, .iaload), (32, .ireturn)]
def am_c89 : List (Nat × Instr) := [(0, .iload_n 1), (1, .ifCond .lt 14), (4, .iload_n 1), (5, .aload_n 0), (6, .getfield 12), (9, .getfield 221), (12, .if_icmp .lt 11), (15, .new 181), (18, .dup), (19, .invokespecial 183), (22, .athrow), (23, .aload_n 0), (24, .getfield 12), (27, .getfield 224), (30, .iload_n 1), (31, .iaload), (32, .ireturn)]
def am_c90 : List (Nat × Instr) := [(0, .aload_n 0), (1, .aload_n 0), (2, .iload_n 1), (3, .invokevirtual 184), (6, .iload_n 1), (7, .invokevirtual 227), (10, .istore_n 2), (11, .iload_n 2), (12, .iconst (-1)), (13, .if_icmp .ne 11), (16, .new 181), (19, .dup), (20, .invokespecial 183), (23, .athrow), (24, .iload_n 2), (25, .ireturn)]
def am_c91 : List (Nat × Instr) := [(0, .aload_n 0), (1, .aload_n 0), (2, .iload_n 1), (3, .invokevirtual 184), (6, .iload_n 1), (7, .invokevirtual 227), (10, .iconst (-1)), (11, .if_icmp .ne 11), (14, .new 181), (17, .dup), (18, .invokespecial 183), (21, .athrow), (22, .aload_n 0), (23, .getfield 16), (26, .getfield 231), (29, .iload_n 1), (30, .aaload), (31, .invokevirtual 202), (34, .ireturn)]
def am_c92 : List (Nat × Instr) := [(0, .aload_n 1), (1, .getfield 209), (4, .ifCond .eq 5), (7, .iconst (-1)), (8, .ireturn), (9, .aload_n 0), (10, .getfield 16), (13, .aload_n 0), (14, .getfield 12), (17, .invokevirtual 70), (20, .iconst 1), (21, .istore_n 3), (22, .iload_n 3), (23, .sipush 400), (26, .if_icmp .gt 34), (29, .aload_n 0), (30, .getfield 16), (33, .invokevirtual 235), (36, .aload_n 0), (37, .getfield 16), (40, .getfield 231), (43, .iload_n 2), (44, .aaload), (45, .getfield 209), (48, .iconst 1), (49, .if_icmp .ne 5), (52, .iload_n 3), (53, .ireturn), (54, .iinc 3 1), (57, .goto (-35)), (60, .iconst (-1)), (61, .ireturn)]
def am_c93 : List (Nat × Instr) := [(0, .aload_n 0), (1, .getfield 12), (4, .iload_n 1), (5, .invokevirtual 238), (8, .ifCond .ne 11), (11, .new 171), (14, .dup), (15, .invokespecial 173), (18, .athrow), (19, .aload_n 0), (20, .getfield 12), (23, .getfield 231), (26, .iload_n 1), (27, .aaload), (28, .areturn)]
def am_c94 : List (Nat × Instr) := [(0, .iconst (-1)), (1, .istore_n 2), (2, .iconst 0), (3, .istore_n 3), (4, .iload_n 3), (5, .aload_n 0), (6, .getfield 12), (9, .getfield 241), (12, .if_icmp .ge 43), (15, .iload_n 2), (16, .iconst (-1)), (17, .if_icmp .ne 38), (20, .aload_n 0), (21, .getfield 12), (24, .getfield 231), (27, .iload_n 3), (28, .aaload), (29, .getfield 209), (32, .ifCond .ne 17), (35, .aload_n 0), (36, .getfield 12), (39, .iload_n 3), (40, .invokevirtual 244), (43, .iload_n 1), (44, .if_icmp .ne 5), (47, .iload_n 3), (48, .istore_n 2), (49, .iinc 3 1), (52, .goto (-48)), (55, .iload_n 2), (56, .iconst (-1)), (57, .if_icmp .ne 11), (60, .new 181), (63, .dup), (64, .invokespecial 183), (67, .athrow), (68, .iload_n 2), (69, .ireturn)]
def am_c95 : List (Nat × Instr) := [(0, .iconst 0), (1, .istore_n 1), (2, .iconst 0), (3, .istore_n 2), (4, .iload_n 2), (5, .aload_n 0), (6, .getfield 12), (9, .getfield 158), (12, .if_icmp .ge 24), (15, .iload_n 1), (16, .aload_n 0), (17, .getfield 12), (20, .getfield 164), (23, .iload_n 2), (24, .aaload), (25, .getfield 111), (28, .iadd), (29, .istore_n 1), (30, .iinc 2 1), (33, .goto (-29)), (36, .iload_n 1), (37, .ireturn)]
def am_c96 : List (Nat × Instr) := [(0, .iconst 0), (1, .istore_n 1), (2, .iconst 0), (3, .istore_n 2), (4, .iload_n 2), (5, .aload_n 0), (6, .getfield 12), (9, .getfield 241), (12, .if_icmp .ge 24), (15, .iload_n 1), (16, .aload_n 0), (17, .getfield 12), (20, .getfield 231), (23, .iload_n 2), (24, .aaload), (25, .invokevirtual 202), (28, .iadd), (29, .istore_n 1), (30, .iinc 2 1), (33, .goto (-29)), (36, .iload_n 1), (37, .ireturn)]
def am_c97 : List (Nat × Instr) := [(0, .aload_n 0), (1, .getfield 12), (4, .getfield 241), (7, .ifCond .ne 11), (10, .new 161), (13, .dup), (14, .invokespecial 163), (17, .athrow), (18, .iconst 0), (19, .istore_n 1), (20, .iconst 0), (21, .istore_n 2), (22, .iload_n 2), (23, .aload_n 0), (24, .getfield 12), (27, .getfield 241), (30, .if_icmp .ge 24), (33, .iload_n 1), (34, .aload_n 0), (35, .getfield 12), (38, .getfield 231), (41, .iload_n 2), (42, .aaload), (43, .getfield 199), (46, .iadd), (47, .istore_n 1), (48, .iinc 2 1), (51, .goto (-29)), (54, .aload_n 0), (55, .invokevirtual 248), (58, .i2d), (59, .iload_n 1), (60, .i2d), (61, .ddiv), (62, .dreturn)]
def am_c98 : List (Nat × Instr) := [(0, .aload_n 0), (1, .getfield 46), (4, .getfield 251), (7, .bipush 60), (9, .if_icmp .lt 11), (12, .new 252), (15, .dup), (16, .invokespecial 254), (19, .athrow), (20, .aload_n 0), (21, .getfield 46), (24, .iload_n 1), (25, .invokevirtual 255), (28, .aload_n 0), (29, .getfield 46), (32, .getfield 251), (35, .ireturn)]
def am_c99 : List (Nat × Instr) := [(0, .aload_n 0), (1, .aload_n 0), (2, .getfield 46), (5, .invokevirtual 259), (8, .putfield 50), (11, .aload_n 0), (12, .getfield 46), (15, .iconst 0), (16, .putfield 251), (19, .aload_n 0), (20, .getfield 50), (23, .iconst (-1)), (24, .if_icmp .eq 11), (27, .new 121), (30, .dup), (31, .invokespecial 123), (34, .athrow), (35, .aload_n 0), (36, .getfield 25), (39, .invokevirtual 66), (42, .aload_n 0), (43, .getfield 12), (46, .invokevirtual 70), (49, .iconst 0), (50, .istore_n 1), (51, .iload_n 1), (52, .aload_n 0), (53, .getfield 46), (56, .getfield 262), (59, .if_icmp .ge 63), (62, .aload_n 0), (63, .getfield 12), (66, .aload_n 0), (67, .getfield 46), (70, .getfield 265), (73, .iload_n 1), (74, .aaload), (75, .aload_n 0), (76, .getfield 32), (79, .invokevirtual 74), (82, .iconst (-1)), (83, .if_icmp .ne 33), (86, .aload_n 0), (87, .getfield 32), (90, .iload_n 1), (91, .putfield 78), (94, .aload_n 0), (95, .getfield 12), (98, .aload_n 0), (99, .getfield 25), (102, .invokevirtual 66), (105, .invokevirtual 70), (108, .new 81), (111, .dup), (112, .invokespecial 83), (115, .athrow), (116, .iinc 1 1), (119, .goto (-68)), (122, .aload_n 0), (123, .getfield 25), (126, .invokevirtual 84), (129, .aload_n 0), (130, .getfield 46), (133, .getfield 262), (136, .ireturn)]
def am_c100 : List (Nat × Instr) := [(0, .aload_n 0), (1, .getfield 50), (4, .ireturn)]
def am_c101 : List (Nat × Instr) := [(0, .iload_n 1), (1, .ifCond .lt 8), (4, .iload_n 1), (5, .iconst 2), (6, .if_icmp .le 11), (9, .new 121), (12, .dup), (13, .invokespecial 123), (16, .athrow), (17, .aload_n 0), (18, .getfield 32), (21, .getfield 269), (24, .ifCond .ne 11), (27, .new 181), (30, .dup), (31, .invokespecial 183), (34, .athrow), (35, .iload_n 1), (36, .lookupswitch 44 #[(0, 28), (1, 36)]), (64, .aload_n 0), (65, .getfield 32), (68, .getfield 269), (71, .ireturn), (72, .aload_n 0), (73, .getfield 32), (76, .getfield 272), (79, .ireturn), (80, .aload_n 0), (81, .getfield 32), (84, .getfield 78), (87, .ireturn)]
def am_c102 : List (Nat × Instr) := [(0, .aload_n 0), (1, .iload_n 1), (2, .invokevirtual 184), (5, .astore_n 2), (6, .aload_n 0), (7, .iconst 0), (8, .putfield 275), (11, .aload_n 0), (12, .aload_n 2), (13, .getfield 188), (16, .invokevirtual 278), (19, .aload_n 0), (20, .bipush 62), (22, .invokevirtual 282), (25, .aload_n 0), (26, .aload_n 2), (27, .getfield 193), (30, .invokevirtual 278), (33, .aload_n 0), (34, .bipush 58), (36, .invokevirtual 282), (39, .iconst 0), (40, .istore_n 3), (41, .iload_n 3), (42, .aload_n 2), (43, .getfield 199), (46, .if_icmp .ge 37), (49, .aload_n 2), (50, .getfield 215), (53, .iload_n 3), (54, .iaload), (55, .ifCond .ne 12), (58, .aload_n 0), (59, .bipush 63), (61, .invokevirtual 282), (64, .goto 13), (67, .aload_n 0), (68, .aload_n 2), (69, .getfield 215), (72, .iload_n 3), (73, .iaload), (74, .invokevirtual 278), (77, .iinc 3 1), (80, .goto (-39)), (83, .aload_n 2), (84, .getfield 209), (87, .ifCond .ne 20), (90, .aload_n 0), (91, .bipush 64), (93, .invokevirtual 282), (96, .aload_n 0), (97, .aload_n 2), (98, .getfield 196), (101, .invokevirtual 278), (104, .goto 17), (107, .aload_n 2), (108, .getfield 209), (111, .iconst 2), (112, .if_icmp .ne 9), (115, .aload_n 0), (116, .bipush 120), (118, .invokevirtual 282), (121, .aload_n 0), (122, .getfield 275), (125, .ireturn)]
def am_c103 : List (Nat × Instr) := [(0, .aload_n 0), (1, .bipush 48), (3, .iload_n 1), (4, .iadd), (5, .i2c), (6, .invokevirtual 282), (9, .return_)]
def am_c104 : List (Nat × Instr) := [(0, .aload_n 0), (1, .getfield 275), (4, .bipush 14), (6, .if_icmp .ge 23), (9, .aload_n 0), (10, .getfield 54), (13, .aload_n 0), (14, .getfield 275), (17, .iload_n 1), (18, .castore), (19, .aload_n 0), (20, .dup), (21, .getfield 275), (24, .iconst 1), (25, .iadd), (26, .putfield 275), (29, .return_)]
def am_c105 : List (Nat × Instr) := [(0, .iload_n 1), (1, .ifCond .lt 11), (4, .iload_n 1), (5, .aload_n 0), (6, .getfield 275), (9, .if_icmp .lt 11), (12, .new 171), (15, .dup), (16, .invokespecial 173), (19, .athrow), (20, .aload_n 0), (21, .getfield 54), (24, .iload_n 1), (25, .caload), (26, .ireturn)]
def am_c106 : List (Nat × Instr) := [(0, .iload_n 1), (1, .tableswitch 162 0 11 #[63, 71, 79, 87, 95, 103, 112, 121, 130, 138, 146, 154]), (64, .aload_n 0), (65, .getfield 12), (68, .getfield 152), (71, .ireturn), (72, .aload_n 0), (73, .getfield 12), (76, .invokevirtual 114), (79, .ireturn), (80, .aload_n 0), (81, .getfield 12), (84, .getfield 158), (87, .ireturn), (88, .aload_n 0), (89, .getfield 12), (92, .invokevirtual 285), (95, .ireturn), (96, .aload_n 0), (97, .getfield 12), (100, .getfield 241), (103, .ireturn), (104, .aload_n 0), (105, .getfield 12), (108, .iconst 0), (109, .invokevirtual 288), (112, .ireturn), (113, .aload_n 0), (114, .getfield 12), (117, .iconst 1), (118, .invokevirtual 288), (121, .ireturn), (122, .aload_n 0), (123, .getfield 12), (126, .iconst 2), (127, .invokevirtual 288), (130, .ireturn), (131, .aload_n 0), (132, .getfield 12), (135, .invokevirtual 291), (138, .ireturn), (139, .aload_n 0), (140, .getfield 12), (143, .invokevirtual 294), (146, .ireturn), (147, .aload_n 0), (148, .getfield 25), (151, .getfield 297), (154, .ireturn), (155, .aload_n 0), (156, .getfield 46), (159, .getfield 251), (162, .ireturn), (163, .new 121), (166, .dup), (167, .invokespecial 123), (170, .athrow)]
def am_c107 : List (Nat × Instr) := [(0, .aload_n 0), (1, .getfield 25), (4, .getfield 297), (7, .ifCond .ne 11), (10, .new 252), (13, .dup), (14, .invokespecial 254), (17, .athrow), (18, .aload_n 0), (19, .getfield 12), (22, .aload_n 0), (23, .getfield 25), (26, .invokevirtual 300), (29, .invokevirtual 70), (32, .aload_n 0), (33, .getfield 25), (36, .getfield 297), (39, .ireturn)]
def am_c108 : List (Nat × Instr) := [(0, .aload_n 0), (1, .getfield 19), (4, .aload_n 0), (5, .getfield 12), (8, .invokevirtual 70), (11, .aload_n 0), (12, .iconst 1), (13, .putfield 303), (16, .aload_n 0), (17, .getfield 12), (20, .getfield 152), (23, .ireturn)]
def am_c109 : List (Nat × Instr) := [(0, .aload_n 0), (1, .getfield 303), (4, .ifCond .ne 11), (7, .new 252), (10, .dup), (11, .invokespecial 254), (14, .athrow), (15, .aload_n 0), (16, .getfield 12), (19, .aload_n 0), (20, .getfield 19), (23, .invokevirtual 70), (26, .aload_n 0), (27, .getfield 25), (30, .iconst 0), (31, .putfield 297), (34, .aload_n 0), (35, .getfield 12), (38, .getfield 152), (41, .ireturn)]
def am_c110 : List (Nat × Instr) := [(0, .iload_n 0), (1, .ifCond .lt 13), (4, .iload_n 0), (5, .bipush 9), (7, .if_icmp .gt 7), (10, .iconst 1), (11, .goto 4), (14, .iconst 0), (15, .ireturn)]
def am_c111 : List (Nat × Instr) := [(0, .iload_n 0), (1, .ifCond .lt 13), (4, .iload_n 0), (5, .bipush 24), (7, .if_icmp .ge 7), (10, .iconst 1), (11, .goto 4), (14, .iconst 0), (15, .ireturn)]
def am_c112 : List (Nat × Instr) := [(0, .iconst 3), (1, .iload_n 0), (2, .imul), (3, .iload_n 1), (4, .iadd), (5, .iconst 1), (6, .iadd), (7, .bipush 10), (9, .irem), (10, .ireturn)]
def am_c113 : List (Nat × Instr) := [(0, .aload_n 0), (1, .invokespecial 3), (4, .aload_n 0), (5, .sipush 364), (8, .newarray .int), (10, .putfield 9), (13, .aload_n 0), (14, .sipush 364), (17, .newarray .int), (19, .putfield 13), (22, .aload_n 0), (23, .sipush 364), (26, .newarray .int), (28, .putfield 16), (31, .aload_n 0), (32, .sipush 2912), (35, .newarray .int), (37, .putfield 19), (40, .aload_n 0), (41, .sipush 364), (44, .newarray .int), (46, .putfield 22), (49, .aload_n 0), (50, .bipush 20), (52, .newarray .char), (54, .putfield 25), (57, .aload_n 0), (58, .bipush 60), (60, .newarray .char), (62, .putfield 29), (65, .aload_n 0), (66, .iconst 3), (67, .newarray .int), (69, .putfield 32), (72, .aload_n 0), (73, .iconst (-1)), (74, .putfield 35), (77, .return_)]
def am_c114 : List (Nat × Instr) := [(0, .aload_n 0), (1, .getfield 39), (4, .ireturn)]
def am_c115 : List (Nat × Instr) := [(0, .aload_n 0), (1, .iload_n 1), (2, .putfield 39), (5, .iconst 0), (6, .ireturn)]
def am_c116 : List (Nat × Instr) := [(0, .iload_n 0), (1, .iload_n 1), (2, .if_icmp .lt 12), (5, .iload_n 0), (6, .iload_n 2), (7, .if_icmp .gt 7), (10, .iconst 1), (11, .goto 4), (14, .iconst 0), (15, .ireturn)]
def am_c117 : List (Nat × Instr) := [(0, .aload_n 0), (1, .iconst 0), (2, .putfield 39), (5, .aload_n 0), (6, .iconst 0), (7, .putfield 42), (10, .iconst 0), (11, .istore_n 1), (12, .iload_n 1), (13, .sipush 364), (16, .if_icmp .ge 21), (19, .aload_n 0), (20, .getfield 13), (23, .iload_n 1), (24, .aload_n 0), (25, .getfield 9), (28, .iload_n 1), (29, .iaload), (30, .iastore), (31, .iinc 1 1), (34, .goto (-22)), (37, .return_)]
def am_c118 : List (Nat × Instr) := [(0, .iconst 0), (1, .istore_n 1), (2, .iload_n 1), (3, .sipush 364), (6, .if_icmp .ge 21), (9, .aload_n 0), (10, .getfield 9), (13, .iload_n 1), (14, .aload_n 0), (15, .getfield 13), (18, .iload_n 1), (19, .iaload), (20, .iastore), (21, .iinc 1 1), (24, .goto (-22)), (27, .return_)]
def am_c119 : List (Nat × Instr) := [(0, .iconst 0), (1, .istore_n 1), (2, .iload_n 1), (3, .sipush 364), (6, .if_icmp .ge 21), (9, .aload_n 0), (10, .getfield 16), (13, .iload_n 1), (14, .aload_n 0), (15, .getfield 9), (18, .iload_n 1), (19, .iaload), (20, .iastore), (21, .iinc 1 1), (24, .goto (-22)), (27, .return_)]
def am_c120 : List (Nat × Instr) := [(0, .iconst 0), (1, .istore_n 1), (2, .iload_n 1), (3, .sipush 364), (6, .if_icmp .ge 21), (9, .aload_n 0), (10, .getfield 9), (13, .iload_n 1), (14, .aload_n 0), (15, .getfield 16), (18, .iload_n 1), (19, .iaload), (20, .iastore), (21, .iinc 1 1), (24, .goto (-22)), (27, .return_)]
def am_c121 : List (Nat × Instr) := [(0, .aload_n 0), (1, .getfield 45), (4, .bipush 8), (6, .if_icmp .ne 44), (9, .iconst 0), (10, .istore_n 2), (11, .iload_n 2), (12, .sipush 2548), (15, .if_icmp .ge 25), (18, .aload_n 0), (19, .getfield 19), (22, .iload_n 2), (23, .aload_n 0), (24, .getfield 19), (27, .sipush 364), (30, .iload_n 2), (31, .iadd), (32, .iaload), (33, .iastore), (34, .iinc 2 1), (37, .goto (-26)), (40, .aload_n 0), (41, .dup), (42, .getfield 45), (45, .iconst 1), (46, .isub), (47, .putfield 45), (50, .iconst 0), (51, .istore_n 2), (52, .iload_n 2), (53, .sipush 364), (56, .if_icmp .ge 30), (59, .aload_n 0), (60, .getfield 19), (63, .sipush 364), (66, .aload_n 0), (67, .getfield 45), (70, .imul), (71, .iload_n 2), (72, .iadd), (73, .aload_n 0), (74, .getfield 13), (77, .iload_n 2), (78, .iaload), (79, .iastore), (80, .iinc 2 1), (83, .goto (-31)), (86, .aload_n 0), (87, .dup), (88, .getfield 45), (91, .iconst 1), (92, .iadd), (93, .putfield 45), (96, .iload_n 1), (97, .ireturn)]
def am_c122 : List (Nat × Instr) := [(0, .aload_n 0), (1, .iload_n 1), (2, .putfield 48), (5, .aload_n 0), (6, .iload_n 2), (7, .putfield 51), (10, .aload_n 0), (11, .aload_n 0), (12, .getfield 42), (15, .putfield 54), (18, .iconst 0), (19, .ireturn)]
def am_c123 : List (Nat × Instr) := [(0, .aload_n 0), (1, .iload_n 1), (2, .putfield 57), (5, .iconst 1), (6, .ireturn)]
def am_c124 : List (Nat × Instr) := [(0, .iload_n 1), (1, .ifCond .eq 14), (4, .aload_n 0), (5, .aload_n 0), (6, .getfield 57), (9, .invokevirtual 60), (12, .goto 8), (15, .aload_n 0), (16, .iconst 1), (17, .invokevirtual 64), (20, .ireturn)]
def am_c125 : List (Nat × Instr) := [(0, .iload_n 1), (1, .iconst 0), (2, .aload_n 0), (3, .getfield 9), (6, .iconst 1), (7, .iaload), (8, .iconst 1), (9, .isub), (10, .invokestatic 67), (13, .ireturn)]
def am_c126 : List (Nat × Instr) := [(0, .iload_n 1), (1, .iconst 0), (2, .aload_n 0), (3, .getfield 9), (6, .iconst 1), (7, .iaload), (8, .iconst 2), (9, .isub), (10, .invokestatic 67), (13, .ireturn)]
def am_c127 : List (Nat × Instr) := [(0, .iload_n 1), (1, .iconst 0), (2, .aload_n 0), (3, .getfield 9), (6, .iconst 2), (7, .iaload), (8, .iconst 1), (9, .isub), (10, .invokestatic 67), (13, .ireturn)]
def am_c128 : List (Nat × Instr) := [(0, .aload_n 0), (1, .getfield 9), (4, .bipush 12), (6, .bipush 6), (8, .iload_n 1), (9, .imul), (10, .iadd), (11, .iload_n 2), (12, .iadd), (13, .iaload), (14, .ireturn)]
def am_c129 : List (Nat × Instr) := [(0, .aload_n 0), (1, .getfield 9), (4, .bipush 60), (6, .bipush 19), (8, .iload_n 1), (9, .imul), (10, .iadd), (11, .iload_n 2), (12, .iadd), (13, .iaload), (14, .ireturn)]
def am_c130 : List (Nat × Instr) := [(0, .aload_n 0), (1, .getfield 9), (4, .bipush 60), (6, .bipush 19), (8, .iload_n 1), (9, .imul), (10, .iadd), (11, .iload_n 2), (12, .iadd), (13, .iload_n 3), (14, .iastore), (15, .return_)]
def am_c131 : List (Nat × Instr) := [(0, .aload_n 0), (1, .getfield 9), (4, .bipush 48), (6, .iconst 2), (7, .iload_n 1), (8, .imul), (9, .iadd), (10, .iconst 1), (11, .iadd), (12, .iaload), (13, .ireturn)]
def am_c132_0 : List (Nat × Instr) := [(0, .aload_n 0), (1, .invokevirtual 71), (4, .aload_n 0), (5, .getfield 9), (8, .iconst 1), (9, .iaload), (10, .istore 4), (12, .iload_n 1), (13, .iconst 0), (14, .bipush 9), (16, .invokestatic 67), (19, .ifCond .eq 28), (22, .iload_n 2), (23, .iconst 0), (24, .bipush 9), (26, .invokestatic 67), (29, .ifCond .eq 18), (32, .iload 4), (34, .ifCond .le 24), (37, .iload_n 3), (38, .iconst 1), (39, .bipush 9), (41, .invokestatic 67), (44, .ifCond .ne 14), (47, .aload_n 0), (48, .aload_n 0), (49, .iconst 1), (50, .iconst 0), (51, .invokevirtual 74), (54, .invokevirtual 78), (57, .ireturn), (58, .iload 4), (60, .bipush 6), (62, .if_icmp .ne 15), (65, .aload_n 0), (66, .aload_n 0), (67, .iconst 2), (68, .bipush 6), (70, .invokevirtual 74), (73, .invokevirtual 78)]
def am_c132_1 : List (Nat × Instr) := [(76, .ireturn), (77, .iconst 0), (78, .istore 5), (80, .iload 5), (82, .bipush 6), (84, .if_icmp .ge 26), (87, .aload_n 0), (88, .getfield 9), (91, .bipush 12), (93, .bipush 6), (95, .iload 4), (97, .imul), (98, .iadd), (99, .iload 5), (101, .iadd), (102, .iconst 0), (103, .iastore), (104, .iinc 5 1), (107, .goto (-27)), (110, .aload_n 0), (111, .getfield 9), (114, .bipush 12), (116, .bipush 6), (118, .iload 4), (120, .imul), (121, .iadd), (122, .iload_n 1), (123, .iastore), (124, .aload_n 0), (125, .getfield 9), (128, .bipush 12), (130, .bipush 6), (132, .iload 4), (134, .imul), (135, .iadd), (136, .iconst 1), (137, .iadd), (138, .iload_n 2), (139, .iastore), (140, .iload 4)]
def am_c132_2 : List (Nat × Instr) := [(142, .ifCond .le 35), (145, .aload_n 0), (146, .getfield 9), (149, .bipush 48), (151, .iconst 2), (152, .iload 4), (154, .iconst 1), (155, .isub), (156, .imul), (157, .iadd), (158, .iload_n 3), (159, .iastore), (160, .aload_n 0), (161, .getfield 9), (164, .bipush 48), (166, .iconst 2), (167, .iload 4), (169, .iconst 1), (170, .isub), (171, .imul), (172, .iadd), (173, .iconst 1), (174, .iadd), (175, .iconst 0), (176, .iastore), (177, .aload_n 0), (178, .getfield 9), (181, .iconst 1), (182, .dup2), (183, .iaload), (184, .iconst 1), (185, .iadd), (186, .iastore), (187, .aload_n 0), (188, .iload 4), (190, .invokevirtual 60), (193, .ireturn)]
def am_c132 : List (Nat × Instr) := am_c132_0 ++ (am_c132_1 ++ (am_c132_2))
def am_c133 : List (Nat × Instr) := [(0, .aload_n 0), (1, .invokevirtual 71), (4, .iload_n 1), (5, .iconst 1), (6, .bipush 8), (8, .invokestatic 67), (11, .ifCond .eq 14), (14, .iload_n 2), (15, .iconst 1), (16, .sipush 150), (19, .invokestatic 67), (22, .ifCond .ne 14), (25, .aload_n 0), (26, .aload_n 0), (27, .iconst 1), (28, .iconst 0), (29, .invokevirtual 74), (32, .invokevirtual 78), (35, .ireturn), (36, .iconst 1), (37, .istore_n 3), (38, .iload_n 3), (39, .bipush 8), (41, .if_icmp .gt 40), (44, .iload_n 3), (45, .iload_n 1), (46, .if_icmp .eq 29), (49, .aload_n 0), (50, .getfield 9), (53, .iconst 4), (54, .iload_n 3), (55, .iadd), (56, .iconst 1), (57, .isub), (58, .iaload), (59, .iload_n 2), (60, .if_icmp .ne 15), (63, .aload_n 0), (64, .aload_n 0), (65, .bipush 6), (67, .iload_n 3), (68, .invokevirtual 74), (71, .invokevirtual 78), (74, .ireturn), (75, .iinc 3 1), (78, .goto (-40)), (81, .aload_n 0), (82, .getfield 9), (85, .iconst 4), (86, .iload_n 1), (87, .iadd), (88, .iconst 1), (89, .isub), (90, .iaload), (91, .istore_n 3), (92, .aload_n 0), (93, .getfield 9), (96, .iconst 4), (97, .iload_n 1), (98, .iadd), (99, .iconst 1), (100, .isub), (101, .iload_n 2), (102, .iastore), (103, .aload_n 0), (104, .iload_n 3), (105, .invokevirtual 60), (108, .ireturn)]
def am_c134 : List (Nat × Instr) := [(0, .aload_n 0), (1, .iload_n 1), (2, .invokevirtual 82), (5, .ifCond .ne 10), (8, .aload_n 0), (9, .iconst 3), (10, .iload_n 1), (11, .invokevirtual 74), (14, .ireturn), (15, .iload_n 2), (16, .iconst 0), (17, .bipush 23), (19, .invokestatic 67), (22, .ifCond .eq 13), (25, .iload_n 3), (26, .iconst 0), (27, .bipush 23), (29, .invokestatic 67), (32, .ifCond .ne 10), (35, .aload_n 0), (36, .iconst 1), (37, .iconst 0), (38, .invokevirtual 74), (41, .ireturn), (42, .aload_n 0), (43, .getfield 9), (46, .bipush 12), (48, .bipush 6), (50, .iload_n 1), (51, .imul), (52, .iadd), (53, .iconst 2), (54, .iadd), (55, .iload_n 2), (56, .iastore), (57, .aload_n 0), (58, .getfield 9), (61, .bipush 12), (63, .bipush 6), (65, .iload_n 1), (66, .imul), (67, .iadd), (68, .iconst 3), (69, .iadd), (70, .iload_n 3), (71, .iastore), (72, .aload_n 0), (73, .iload_n 3), (74, .iload_n 2), (75, .isub), (76, .bipush 24), (78, .iadd), (79, .bipush 24), (81, .irem), (82, .invokevirtual 86), (85, .ireturn)]
def am_c135 : List (Nat × Instr) := [(0, .aload_n 0), (1, .invokevirtual 71), (4, .aload_n 0), (5, .aload_n 0), (6, .iload_n 1), (7, .iload_n 2), (8, .iload_n 3), (9, .invokevirtual 89), (12, .invokevirtual 78), (15, .ireturn)]
def am_c136 : List (Nat × Instr) := [(0, .aload_n 0), (1, .iload_n 1), (2, .invokevirtual 92), (5, .ifCond .ne 10), (8, .aload_n 0), (9, .iconst 3), (10, .iload_n 1), (11, .invokevirtual 74), (14, .ireturn), (15, .iload_n 2), (16, .iconst 0), (17, .bipush 9), (19, .invokestatic 67), (22, .ifCond .ne 10), (25, .aload_n 0), (26, .iconst 1), (27, .iconst 0), (28, .invokevirtual 74), (31, .ireturn), (32, .aload_n 0), (33, .iload_n 1), (34, .invokevirtual 95), (37, .istore_n 3), (38, .aload_n 0), (39, .getfield 9), (42, .bipush 48), (44, .iconst 2), (45, .iload_n 1), (46, .imul), (47, .iadd), (48, .iconst 1), (49, .iadd), (50, .iload_n 2), (51, .iastore), (52, .aload_n 0), (53, .iload_n 3), (54, .invokevirtual 86), (57, .ireturn)]
def am_c137 : List (Nat × Instr) := [(0, .aload_n 0), (1, .invokevirtual 71), (4, .aload_n 0), (5, .aload_n 0), (6, .iload_n 1), (7, .iload_n 2), (8, .invokevirtual 98), (11, .invokevirtual 78), (14, .ireturn)]
def am_c138 : List (Nat × Instr) := [(0, .aload_n 0), (1, .iload_n 1), (2, .invokevirtual 82), (5, .ifCond .ne 10), (8, .aload_n 0), (9, .iconst 3), (10, .iload_n 1), (11, .invokevirtual 74), (14, .ireturn), (15, .iload_n 2), (16, .iconst 0), (17, .bipush 9), (19, .invokestatic 67), (22, .ifCond .ne 10), (25, .aload_n 0), (26, .iconst 1), (27, .iconst 0), (28, .invokevirtual 74), (31, .ireturn), (32, .aload_n 0), (33, .iload_n 1), (34, .iconst 1), (35, .invokevirtual 101), (38, .istore_n 3), (39, .aload_n 0), (40, .getfield 9), (43, .bipush 12), (45, .bipush 6), (47, .iload_n 1), (48, .imul), (49, .iadd), (50, .iconst 1), (51, .iadd), (52, .iload_n 2), (53, .iastore), (54, .aload_n 0), (55, .iload_n 3), (56, .invokevirtual 86), (59, .ireturn)]
def am_c139 : List (Nat × Instr) := [(0, .aload_n 0), (1, .invokevirtual 71), (4, .aload_n 0), (5, .aload_n 0), (6, .iload_n 1), (7, .iload_n 2), (8, .invokevirtual 105), (11, .invokevirtual 78), (14, .ireturn)]
def am_c140_0 : List (Nat × Instr) := [(0, .aload_n 0), (1, .iload_n 1), (2, .invokevirtual 82), (5, .ifCond .ne 10), (8, .aload_n 0), (9, .iconst 3), (10, .iload_n 1), (11, .invokevirtual 74), (14, .ireturn), (15, .aload_n 0), (16, .iload_n 2), (17, .invokevirtual 82), (20, .ifCond .ne 10), (23, .aload_n 0), (24, .iconst 3), (25, .iload_n 2), (26, .invokevirtual 74), (29, .ireturn), (30, .iload_n 1), (31, .iload_n 2), (32, .if_icmp .ne 10), (35, .aload_n 0), (36, .iconst 5), (37, .iload_n 1), (38, .invokevirtual 74), (41, .ireturn), (42, .iload_n 3), (43, .iconst 1), (44, .ldc 108), (46, .invokestatic 67), (49, .ifCond .ne 10), (52, .aload_n 0), (53, .iconst 1), (54, .iconst 0), (55, .invokevirtual 74), (58, .ireturn), (59, .iconst 0), (60, .istore 4), (62, .iload_n 3), (63, .istore 5)]
def am_c140_1 : List (Nat × Instr) := [(65, .iload 5), (67, .ifCond .le 37), (70, .iload 5), (72, .bipush 10), (74, .irem), (75, .iconst 1), (76, .bipush 8), (78, .invokestatic 67), (81, .ifCond .ne 10), (84, .aload_n 0), (85, .iconst 1), (86, .iconst 0), (87, .invokevirtual 74), (90, .ireturn), (91, .iinc 4 1), (94, .iload 5), (96, .bipush 10), (98, .idiv), (99, .istore 5), (101, .goto (-36)), (104, .iconst 0), (105, .istore 5), (107, .iload_n 3), (108, .istore 6), (110, .iload 6), (112, .ifCond .le 37), (115, .aload_n 0), (116, .getfield 9), (119, .iconst 4), (120, .iload 6), (122, .bipush 10), (124, .irem), (125, .iadd), (126, .iconst 1), (127, .isub), (128, .iaload), (129, .ifCond .ne 10), (132, .iload 6), (134, .bipush 10), (136, .irem)]
def am_c140_2 : List (Nat × Instr) := [(137, .istore 5), (139, .iload 6), (141, .bipush 10), (143, .idiv), (144, .istore 6), (146, .goto (-36)), (149, .iload 5), (151, .ifCond .le 11), (154, .aload_n 0), (155, .iconst 4), (156, .iload 5), (158, .invokevirtual 74), (161, .ireturn), (162, .aload_n 0), (163, .getfield 9), (166, .iconst 2), (167, .iaload), (168, .istore 6), (170, .iload 6), (172, .bipush 16), (174, .if_icmp .ne 11), (177, .aload_n 0), (178, .iconst 2), (179, .bipush 16), (181, .invokevirtual 74), (184, .ireturn), (185, .aload_n 0), (186, .getfield 9), (189, .iconst 2), (190, .dup2), (191, .iaload), (192, .iconst 1), (193, .iadd), (194, .iastore), (195, .iconst 0), (196, .istore 7), (198, .iload 7), (200, .bipush 19), (202, .if_icmp .ge 18), (205, .aload_n 0)]
def am_c140_3 : List (Nat × Instr) := [(206, .iload 6), (208, .iload 7), (210, .iconst 0), (211, .invokevirtual 109), (214, .iinc 7 1), (217, .goto (-19)), (220, .aload_n 0), (221, .iload 6), (223, .iconst 0), (224, .iload_n 1), (225, .invokevirtual 109), (228, .aload_n 0), (229, .iload 6), (231, .iconst 1), (232, .iload_n 2), (233, .invokevirtual 109), (236, .aload_n 0), (237, .iload 6), (239, .iconst 2), (240, .iload_n 1), (241, .invokevirtual 109), (244, .aload_n 0), (245, .iload 6), (247, .iconst 3), (248, .iload 4), (250, .invokevirtual 109), (253, .aload_n 0), (254, .iload 6), (256, .bipush 7), (258, .aload_n 0), (259, .getfield 9), (262, .iconst 0), (263, .iaload), (264, .invokevirtual 109), (267, .aload_n 0), (268, .iload 6), (270, .bipush 8), (272, .aload_n 0), (273, .getfield 9), (276, .iconst 3)]
def am_c140_4 : List (Nat × Instr) := [(277, .dup2), (278, .iaload), (279, .dup_x2), (280, .iconst 1), (281, .iadd), (282, .iastore), (283, .invokevirtual 109), (286, .aload_n 0), (287, .iload 6), (289, .bipush 9), (291, .iconst 1), (292, .invokevirtual 109), (295, .iload_n 3), (296, .istore 7), (298, .iload 4), (300, .iconst 1), (301, .isub), (302, .istore 8), (304, .iload 8), (306, .ifCond .lt 32), (309, .aload_n 0), (310, .iload 6), (312, .bipush 11), (314, .iload 8), (316, .iadd), (317, .iload 7), (319, .bipush 10), (321, .irem), (322, .invokevirtual 109), (325, .iload 7), (327, .bipush 10), (329, .idiv), (330, .istore 7), (332, .iinc 8 (-1)), (335, .goto (-31)), (338, .aload_n 0), (339, .iload 6), (341, .invokevirtual 86), (344, .ireturn)]
def am_c140 : List (Nat × Instr) := am_c140_0 ++ (am_c140_1 ++ (am_c140_2 ++ (am_c140_3 ++ (am_c140_4))))
def am_c141 : List (Nat × Instr) := [(0, .aload_n 0), (1, .invokevirtual 71), (4, .aload_n 0), (5, .aload_n 0), (6, .iload_n 1), (7, .iload_n 2), (8, .iload_n 3), (9, .invokevirtual 113), (12, .invokevirtual 78), (15, .ireturn)]
def am_c142 : List (Nat × Instr) := [(0, .aload_n 0), (1, .iload_n 1), (2, .invokevirtual 116), (5, .ifCond .ne 10), (8, .aload_n 0), (9, .iconst 3), (10, .iload_n 1), (11, .invokevirtual 74), (14, .ireturn), (15, .aload_n 0), (16, .iload_n 1), (17, .bipush 6), (19, .invokevirtual 119), (22, .ifCond .eq 17), (25, .aload_n 0), (26, .bipush 7), (28, .aload_n 0), (29, .iload_n 1), (30, .bipush 6), (32, .invokevirtual 119), (35, .invokevirtual 74), (38, .ireturn), (39, .aload_n 0), (40, .iload_n 1), (41, .bipush 6), (43, .iconst 2), (44, .invokevirtual 109), (47, .aload_n 0), (48, .aload_n 0), (49, .iload_n 1), (50, .iconst 2), (51, .invokevirtual 119), (54, .invokevirtual 86), (57, .ireturn)]
def am_c143 : List (Nat × Instr) := [(0, .aload_n 0), (1, .invokevirtual 71), (4, .aload_n 0), (5, .aload_n 0), (6, .iload_n 1), (7, .invokevirtual 122), (10, .invokevirtual 78), (13, .ireturn)]
def am_c144 : List (Nat × Instr) := [(0, .aload_n 0), (1, .getfield 9), (4, .iconst 0), (5, .iaload), (6, .bipush 24), (8, .irem), (9, .istore_n 2), (10, .aload_n 0), (11, .iload_n 1), (12, .iconst 2), (13, .invokevirtual 101), (16, .istore_n 3), (17, .aload_n 0), (18, .iload_n 1), (19, .iconst 3), (20, .invokevirtual 101), (23, .istore 4), (25, .iload_n 3), (26, .iload 4), (28, .if_icmp .ne 5), (31, .iconst 0), (32, .ireturn), (33, .iload_n 3), (34, .iload 4), (36, .if_icmp .ge 22), (39, .iload_n 2), (40, .iload_n 3), (41, .if_icmp .lt 13), (44, .iload_n 2), (45, .iload 4), (47, .if_icmp .ge 7), (50, .iconst 1), (51, .goto 23), (54, .iconst 0), (55, .goto 19), (58, .iload_n 2), (59, .iload_n 3), (60, .if_icmp .ge 9), (63, .iload_n 2), (64, .iload 4), (66, .if_icmp .ge 7), (69, .iconst 1), (70, .goto 4), (73, .iconst 0), (74, .ireturn)]
def am_c145 : List (Nat × Instr) := [(0, .aload_n 0), (1, .iload_n 1), (2, .bipush 6), (4, .invokevirtual 119), (7, .ifCond .ne 17), (10, .aload_n 0), (11, .iload_n 1), (12, .iconst 2), (13, .invokevirtual 119), (16, .iload_n 2), (17, .if_icmp .ne 7), (20, .iconst 1), (21, .goto 4), (24, .iconst 0), (25, .ireturn)]
def am_c146 : List (Nat × Instr) := [(0, .iconst 0), (1, .istore_n 3), (2, .iload_n 3), (3, .aload_n 0), (4, .getfield 9), (7, .iconst 2), (8, .iaload), (9, .if_icmp .ge 83), (12, .aload_n 0), (13, .iload_n 3), (14, .iload_n 1), (15, .invokevirtual 125), (18, .ifCond .ne 6), (21, .goto 65), (24, .iconst 0), (25, .istore 4), (27, .iconst 0), (28, .istore 5), (30, .iload 5), (32, .aload_n 0), (33, .getfield 9), (36, .iconst 2), (37, .iaload), (38, .if_icmp .ge 40), (41, .aload_n 0), (42, .iload 5), (44, .iload_n 1), (45, .invokevirtual 125), (48, .ifCond .eq 24), (51, .aload_n 0), (52, .iload 5), (54, .bipush 8), (56, .invokevirtual 119), (59, .aload_n 0), (60, .iload_n 3), (61, .bipush 8), (63, .invokevirtual 119), (66, .if_icmp .ge 6), (69, .iinc 4 1), (72, .iinc 5 1), (75, .goto (-45)), (78, .iload 4), (80, .iload_n 2), (81, .if_icmp .ne 5), (84, .iload_n 3), (85, .ireturn), (86, .iinc 3 1), (89, .goto (-87)), (92, .iconst (-1)), (93, .ireturn)]
def am_c147 : List (Nat × Instr) := [(0, .iload_n 1), (1, .iload_n 2), (2, .invokestatic 128), (5, .istore_n 3), (6, .bipush 24), (8, .aload_n 0), (9, .iload_n 1), (10, .iconst 0), (11, .invokevirtual 101), (14, .isub), (15, .aload_n 0), (16, .iload_n 2), (17, .iconst 1), (18, .invokevirtual 101), (21, .iadd), (22, .iconst 2), (23, .aload_n 0), (24, .getfield 9), (27, .bipush 48), (29, .iconst 2), (30, .iload_n 3), (31, .imul), (32, .iadd), (33, .iaload), (34, .imul), (35, .isub), (36, .aload_n 0), (37, .iload_n 3), (38, .invokevirtual 95), (41, .isub), (42, .ireturn)]
def am_c148 : List (Nat × Instr) := [(0, .aload_n 0), (1, .iload_n 1), (2, .iload_n 2), (3, .invokevirtual 133), (6, .bipush 10), (8, .if_icmp .lt 16), (11, .aload_n 0), (12, .iload_n 2), (13, .iconst 1), (14, .invokevirtual 101), (17, .ifCond .le 7), (20, .iconst 1), (21, .goto 4), (24, .iconst 0), (25, .ireturn)]
def am_c149 : List (Nat × Instr) := [(0, .iconst 0), (1, .istore_n 2), (2, .iconst 0), (3, .istore_n 3), (4, .iload_n 3), (5, .aload_n 0), (6, .iload_n 1), (7, .iconst 3), (8, .invokevirtual 119), (11, .if_icmp .ge 24), (14, .aload_n 0), (15, .iload_n 1), (16, .bipush 11), (18, .iload_n 3), (19, .iadd), (20, .invokevirtual 119), (23, .ifCond .ne 6), (26, .iinc 2 1), (29, .iinc 3 1), (32, .goto (-28)), (35, .iload_n 2), (36, .ireturn)]
def am_c150 : List (Nat × Instr) := [(0, .aload_n 0), (1, .iload_n 1), (2, .iconst 2), (3, .invokevirtual 119), (6, .aload_n 0), (7, .iload_n 1), (8, .iconst 1), (9, .invokevirtual 119), (12, .aload_n 0), (13, .iload_n 1), (14, .iconst 2), (15, .invokevirtual 119), (18, .if_icmp .le 7), (21, .iconst 1), (22, .goto 4), (25, .iconst (-1)), (26, .iadd), (27, .ireturn)]
def am_c151_0 : List (Nat × Instr) := [(0, .aload_n 0), (1, .iload_n 1), (2, .invokevirtual 136), (5, .istore_n 3), (6, .aload_n 0), (7, .iload_n 1), (8, .bipush 11), (10, .aload_n 0), (11, .iload_n 1), (12, .iconst 4), (13, .invokevirtual 119), (16, .iadd), (17, .invokevirtual 119), (20, .istore 4), (22, .aload_n 0), (23, .getfield 9), (26, .bipush 12), (28, .bipush 6), (30, .aload_n 0), (31, .iload_n 1), (32, .iconst 2), (33, .invokevirtual 119), (36, .imul), (37, .iadd), (38, .iconst 4), (39, .iadd), (40, .dup2), (41, .iaload), (42, .iconst 1), (43, .iadd), (44, .iastore), (45, .iload_n 2), (46, .ifCond .eq 17), (49, .aload_n 0), (50, .aload_n 0), (51, .iload_n 1), (52, .iconst 2), (53, .invokevirtual 119), (56, .iload_n 3), (57, .invokevirtual 139)]
def am_c151_1 : List (Nat × Instr) := [(60, .ifCond .ne 11), (63, .aload_n 0), (64, .iload_n 1), (65, .bipush 9), (67, .iconst 0), (68, .invokevirtual 109), (71, .aload_n 0), (72, .iload_n 1), (73, .iconst 5), (74, .aload_n 0), (75, .iload_n 1), (76, .iconst 5), (77, .invokevirtual 119), (80, .iconst 1), (81, .iadd), (82, .invokevirtual 109), (85, .iload 4), (87, .ifCond .ne 7), (90, .iconst 1), (91, .goto 18), (94, .aload_n 0), (95, .getfield 9), (98, .iconst 4), (99, .iload 4), (101, .iadd), (102, .iconst 1), (103, .isub), (104, .iaload), (105, .iconst 4), (106, .irem), (107, .iconst 1), (108, .iadd), (109, .istore 5), (111, .aload_n 0), (112, .iload_n 1), (113, .iconst 5), (114, .invokevirtual 119), (117, .iload 5), (119, .if_icmp .ge 4), (122, .return_)]
def am_c151_2 : List (Nat × Instr) := [(123, .iload 4), (125, .ifCond .le 46), (128, .aload_n 0), (129, .iload_n 1), (130, .bipush 9), (132, .invokevirtual 119), (135, .ifCond .ne 36), (138, .aload_n 0), (139, .iload_n 1), (140, .bipush 11), (142, .aload_n 0), (143, .iload_n 1), (144, .iconst 4), (145, .invokevirtual 119), (148, .iadd), (149, .iconst 0), (150, .invokevirtual 109), (153, .aload_n 0), (154, .getfield 9), (157, .bipush 12), (159, .bipush 6), (161, .iload_n 3), (162, .imul), (163, .iadd), (164, .iconst 5), (165, .iadd), (166, .dup2), (167, .iaload), (168, .iconst 1), (169, .iadd), (170, .iastore), (171, .aload_n 0), (172, .iload_n 1), (173, .iconst 4), (174, .aload_n 0), (175, .iload_n 1), (176, .iconst 4), (177, .invokevirtual 119), (180, .iconst 1), (181, .iadd)]
def am_c151_3 : List (Nat × Instr) := [(182, .invokevirtual 109), (185, .aload_n 0), (186, .iload_n 1), (187, .iconst 5), (188, .iconst 0), (189, .invokevirtual 109), (192, .aload_n 0), (193, .iload_n 1), (194, .bipush 9), (196, .iconst 1), (197, .invokevirtual 109), (200, .aload_n 0), (201, .iload_n 1), (202, .iconst 4), (203, .invokevirtual 119), (206, .aload_n 0), (207, .iload_n 1), (208, .iconst 3), (209, .invokevirtual 119), (212, .if_icmp .ge 4), (215, .return_), (216, .aload_n 0), (217, .iload_n 1), (218, .iconst 4), (219, .iconst 0), (220, .invokevirtual 109), (223, .aload_n 0), (224, .iload_n 1), (225, .bipush 10), (227, .iconst 1), (228, .invokevirtual 109), (231, .return_)]
def am_c151 : List (Nat × Instr) := am_c151_0 ++ (am_c151_1 ++ (am_c151_2 ++ (am_c151_3)))
def am_c152_0 : List (Nat × Instr) := [(0, .iconst 0), (1, .istore_n 1), (2, .iconst 0), (3, .istore_n 2), (4, .iload_n 2), (5, .aload_n 0), (6, .getfield 9), (9, .iconst 1), (10, .iaload), (11, .if_icmp .ge 66), (14, .aload_n 0), (15, .iload_n 2), (16, .invokevirtual 142), (19, .ifCond .eq 7), (22, .iconst (-1)), (23, .goto 9), (26, .aload_n 0), (27, .iload_n 2), (28, .iconst 0), (29, .invokevirtual 145), (32, .istore_n 3), (33, .iload_n 3), (34, .ifCond .ge 6), (37, .goto 34), (40, .iconst 1), (41, .aload_n 0), (42, .iload_n 3), (43, .invokevirtual 136), (46, .ishl), (47, .istore 4), (49, .aload_n 0), (50, .iload_n 3), (51, .iload_n 1), (52, .iload 4), (54, .iand), (55, .ifCond .ne 7), (58, .iconst 1), (59, .goto 4), (62, .iconst 0), (63, .invokevirtual 148)]
def am_c152_1 : List (Nat × Instr) := [(66, .iload_n 1), (67, .iload 4), (69, .ior), (70, .istore_n 1), (71, .iinc 2 1), (74, .goto (-70)), (77, .iconst 0), (78, .istore_n 2), (79, .iconst 0), (80, .istore_n 3), (81, .iload_n 3), (82, .aload_n 0), (83, .getfield 9), (86, .iconst 1), (87, .iaload), (88, .if_icmp .ge 83), (91, .iconst 0), (92, .istore 4), (94, .iload 4), (96, .aload_n 0), (97, .getfield 9), (100, .iconst 2), (101, .iaload), (102, .if_icmp .ge 63), (105, .aload_n 0), (106, .iload 4), (108, .bipush 10), (110, .invokevirtual 119), (113, .iconst 1), (114, .if_icmp .ne 45), (117, .aload_n 0), (118, .iload 4), (120, .iconst 2), (121, .invokevirtual 119), (124, .iload_n 3), (125, .if_icmp .eq 6), (128, .goto 31), (131, .aload_n 0), (132, .iload 4), (134, .bipush 10)]
def am_c152_2 : List (Nat × Instr) := [(136, .iconst 2), (137, .invokevirtual 109), (140, .aload_n 0), (141, .iload 4), (143, .bipush 8), (145, .aload_n 0), (146, .getfield 9), (149, .iconst 3), (150, .dup2), (151, .iaload), (152, .dup_x2), (153, .iconst 1), (154, .iadd), (155, .iastore), (156, .invokevirtual 109), (159, .iinc 4 1), (162, .goto (-68)), (165, .iinc 3 1), (168, .goto (-87)), (171, .iconst 0), (172, .istore_n 3), (173, .iload_n 3), (174, .aload_n 0), (175, .getfield 9), (178, .iconst 2), (179, .iaload), (180, .if_icmp .ge 71), (183, .aload_n 0), (184, .iload_n 3), (185, .bipush 10), (187, .invokevirtual 119), (190, .iconst 2), (191, .if_icmp .eq 6), (194, .goto 51), (197, .aload_n 0), (198, .iload_n 3), (199, .bipush 10), (201, .iconst 0), (202, .invokevirtual 109), (205, .aload_n 0)]
def am_c152_3 : List (Nat × Instr) := [(206, .iload_n 3), (207, .iconst 2), (208, .aload_n 0), (209, .iload_n 3), (210, .invokevirtual 136), (213, .invokevirtual 109), (216, .aload_n 0), (217, .iload_n 3), (218, .iconst 2), (219, .invokevirtual 119), (222, .aload_n 0), (223, .iload_n 3), (224, .iconst 1), (225, .invokevirtual 119), (228, .if_icmp .eq 6), (231, .goto 14), (234, .aload_n 0), (235, .iload_n 3), (236, .bipush 6), (238, .iconst 1), (239, .invokevirtual 109), (242, .iinc 2 1), (245, .iinc 3 1), (248, .goto (-75)), (251, .aload_n 0), (252, .getfield 9), (255, .iconst 0), (256, .dup2), (257, .iaload), (258, .iconst 1), (259, .iadd), (260, .iastore), (261, .aload_n 0), (262, .getfield 9), (265, .iconst 0), (266, .iaload), (267, .bipush 6), (269, .irem), (270, .ifCond .ne 45), (273, .iconst 0)]
def am_c152_4 : List (Nat × Instr) := [(274, .istore_n 3), (275, .iload_n 3), (276, .aload_n 0), (277, .getfield 9), (280, .iconst 1), (281, .iaload), (282, .iconst 1), (283, .isub), (284, .if_icmp .ge 31), (287, .aload_n 0), (288, .getfield 9), (291, .bipush 48), (293, .iconst 2), (294, .iload_n 3), (295, .imul), (296, .iadd), (297, .iconst 1), (298, .iadd), (299, .iload_n 3), (300, .aload_n 0), (301, .iload_n 3), (302, .invokevirtual 95), (305, .invokestatic 152), (308, .iastore), (309, .iinc 3 1), (312, .goto (-37)), (315, .iload_n 2), (316, .ireturn)]
def am_c152 : List (Nat × Instr) := am_c152_0 ++ (am_c152_1 ++ (am_c152_2 ++ (am_c152_3 ++ (am_c152_4))))
def am_c153 : List (Nat × Instr) := [(0, .iconst 3), (1, .iload_n 1), (2, .imul), (3, .iload_n 0), (4, .iadd), (5, .iconst 1), (6, .iadd), (7, .bipush 10), (9, .irem), (10, .ireturn)]
def am_c154 : List (Nat × Instr) := [(0, .iload_n 1), (1, .iconst 1), (2, .bipush 96), (4, .invokestatic 67), (7, .ifCond .ne 10), (10, .aload_n 0), (11, .iconst 1), (12, .iconst 0), (13, .invokevirtual 74), (16, .ireturn), (17, .iconst 0), (18, .istore_n 2), (19, .iconst 0), (20, .istore_n 3), (21, .iload_n 3), (22, .iload_n 1), (23, .if_icmp .ge 16), (26, .iload_n 2), (27, .aload_n 0), (28, .invokevirtual 155), (31, .iadd), (32, .istore_n 2), (33, .iinc 3 1), (36, .goto (-15)), (39, .aload_n 0), (40, .iload_n 2), (41, .invokevirtual 86), (44, .ireturn)]
def am_c155 : List (Nat × Instr) := [(0, .aload_n 0), (1, .invokevirtual 71), (4, .aload_n 0), (5, .aload_n 0), (6, .iload_n 1), (7, .invokevirtual 159), (10, .invokevirtual 78), (13, .ireturn)]
def am_c156 : List (Nat × Instr) := [(0, .iconst 0), (1, .istore_n 2), (2, .iconst 0), (3, .istore_n 3), (4, .iload_n 3), (5, .aload_n 0), (6, .getfield 9), (9, .iconst 2), (10, .iaload), (11, .if_icmp .ge 23), (14, .aload_n 0), (15, .iload_n 3), (16, .bipush 6), (18, .invokevirtual 119), (21, .iload_n 1), (22, .if_icmp .ne 6), (25, .iinc 2 1), (28, .iinc 3 1), (31, .goto (-27)), (34, .iload_n 2), (35, .ireturn)]
def am_c157 : List (Nat × Instr) := [(0, .aload_n 0), (1, .iconst 0), (2, .putfield 39), (5, .aload_n 0), (6, .iload_n 1), (7, .invokevirtual 82), (10, .ifCond .ne 9), (13, .aload_n 0), (14, .iconst 1), (15, .invokevirtual 64), (18, .ireturn), (19, .iconst 0), (20, .istore_n 3), (21, .iload_n 2), (22, .tableswitch 116 0 7 #[46, 46, 46, 46, 53, 88, 95, 102]), (68, .aload_n 0), (69, .iload_n 1), (70, .iload_n 2), (71, .invokevirtual 101), (74, .ireturn), (75, .iconst 0), (76, .istore 4), (78, .iload 4), (80, .aload_n 0), (81, .getfield 9), (84, .iconst 2), (85, .iaload), (86, .if_icmp .ge 22), (89, .aload_n 0), (90, .iload 4), (92, .iload_n 1), (93, .invokevirtual 125), (96, .ifCond .eq 6), (99, .iinc 3 1), (102, .iinc 4 1), (105, .goto (-27)), (108, .iload_n 3), (109, .ireturn), (110, .aload_n 0), (111, .iload_n 1), (112, .iconst 4), (113, .invokevirtual 101), (116, .ireturn), (117, .aload_n 0), (118, .iload_n 1), (119, .iconst 5), (120, .invokevirtual 101), (123, .ireturn), (124, .aload_n 0), (125, .iload_n 1), (126, .invokevirtual 142), (129, .ifCond .eq 7), (132, .iconst 1), (133, .goto 4), (136, .iconst 0), (137, .ireturn), (138, .aload_n 0), (139, .iconst 2), (140, .invokevirtual 64), (143, .ireturn)]
def am_c158 : List (Nat × Instr) := [(0, .aload_n 0), (1, .iconst 0), (2, .putfield 39), (5, .aload_n 0), (6, .iload_n 1), (7, .invokevirtual 92), (10, .ifCond .ne 9), (13, .aload_n 0), (14, .iconst 1), (15, .invokevirtual 64), (18, .ireturn), (19, .iload_n 2), (20, .iconst 0), (21, .iconst 1), (22, .invokestatic 67), (25, .ifCond .eq 19), (28, .aload_n 0), (29, .getfield 9), (32, .bipush 48), (34, .iconst 2), (35, .iload_n 1), (36, .imul), (37, .iadd), (38, .iload_n 2), (39, .iadd), (40, .iaload), (41, .goto 8), (44, .aload_n 0), (45, .iconst 2), (46, .invokevirtual 64), (49, .ireturn)]
def am_c159 : List (Nat × Instr) := [(0, .aload_n 0), (1, .iconst 0), (2, .putfield 39), (5, .iload_n 1), (6, .iconst 1), (7, .bipush 8), (9, .invokestatic 67), (12, .ifCond .eq 16), (15, .aload_n 0), (16, .getfield 9), (19, .iconst 4), (20, .iload_n 1), (21, .iadd), (22, .iconst 1), (23, .isub), (24, .iaload), (25, .goto 8), (28, .aload_n 0), (29, .iconst 1), (30, .invokevirtual 64), (33, .ireturn)]
def am_c160 : List (Nat × Instr) := [(0, .aload_n 0), (1, .iconst 0), (2, .putfield 39), (5, .aload_n 0), (6, .iload_n 1), (7, .invokevirtual 116), (10, .ifCond .ne 9), (13, .aload_n 0), (14, .iconst 1), (15, .invokevirtual 64), (18, .ireturn), (19, .iload_n 2), (20, .tableswitch 116 0 8 #[52, 59, 66, 73, 80, 86, 93, 100, 108]), (72, .aload_n 0), (73, .iload_n 1), (74, .iconst 0), (75, .invokevirtual 119), (78, .ireturn), (79, .aload_n 0), (80, .iload_n 1), (81, .iconst 1), (82, .invokevirtual 119), (85, .ireturn), (86, .aload_n 0), (87, .iload_n 1), (88, .iconst 2), (89, .invokevirtual 119), (92, .ireturn), (93, .aload_n 0), (94, .iload_n 1), (95, .iconst 3), (96, .invokevirtual 119), (99, .ireturn), (100, .aload_n 0), (101, .iload_n 1), (102, .invokevirtual 162), (105, .ireturn), (106, .aload_n 0), (107, .iload_n 1), (108, .iconst 4), (109, .invokevirtual 119), (112, .ireturn), (113, .aload_n 0), (114, .iload_n 1), (115, .iconst 5), (116, .invokevirtual 119), (119, .ireturn), (120, .aload_n 0), (121, .iload_n 1), (122, .bipush 6), (124, .invokevirtual 119), (127, .ireturn), (128, .aload_n 0), (129, .iload_n 1), (130, .bipush 7), (132, .invokevirtual 119), (135, .ireturn), (136, .aload_n 0), (137, .iconst 2), (138, .invokevirtual 64), (141, .ireturn)]
def am_c161 : List (Nat × Instr) := [(0, .aload_n 0), (1, .iconst 0), (2, .putfield 39), (5, .aload_n 0), (6, .iload_n 1), (7, .invokevirtual 116), (10, .ifCond .eq 31), (13, .iload_n 2), (14, .iconst 0), (15, .aload_n 0), (16, .iload_n 1), (17, .iconst 3), (18, .invokevirtual 119), (21, .iconst 1), (22, .isub), (23, .invokestatic 67), (26, .ifCond .eq 15), (29, .aload_n 0), (30, .iload_n 1), (31, .bipush 11), (33, .iload_n 2), (34, .iadd), (35, .invokevirtual 119), (38, .goto 8), (41, .aload_n 0), (42, .iconst 1), (43, .invokevirtual 64), (46, .ireturn)]
def am_c162 : List (Nat × Instr) := [(0, .aload_n 0), (1, .iconst 0), (2, .putfield 39), (5, .aload_n 0), (6, .iload_n 1), (7, .invokevirtual 116), (10, .ifCond .ne 9), (13, .aload_n 0), (14, .iconst 1), (15, .invokevirtual 64), (18, .ireturn), (19, .iconst 0), (20, .istore_n 2), (21, .iconst 0), (22, .istore_n 3), (23, .iload_n 3), (24, .aload_n 0), (25, .iload_n 1), (26, .iconst 3), (27, .invokevirtual 119), (30, .if_icmp .ge 35), (33, .aload_n 0), (34, .iload_n 1), (35, .bipush 11), (37, .iload_n 3), (38, .iadd), (39, .invokevirtual 119), (42, .ifCond .le 17), (45, .iload_n 2), (46, .iconst 1), (47, .aload_n 0), (48, .iload_n 1), (49, .bipush 11), (51, .iload_n 3), (52, .iadd), (53, .invokevirtual 119), (56, .ishl), (57, .ior), (58, .istore_n 2), (59, .iinc 3 1), (62, .goto (-39)), (65, .iload_n 2), (66, .ireturn)]
def am_c163 : List (Nat × Instr) := [(0, .aload_n 0), (1, .iconst 0), (2, .putfield 39), (5, .aload_n 0), (6, .iload_n 1), (7, .invokevirtual 82), (10, .ifCond .ne 9), (13, .aload_n 0), (14, .iconst 1), (15, .invokevirtual 64), (18, .ireturn), (19, .aload_n 0), (20, .iload_n 1), (21, .iload_n 2), (22, .invokevirtual 145), (25, .istore_n 3), (26, .iload_n 3), (27, .ifCond .ge 11), (30, .aload_n 0), (31, .iconst 2), (32, .invokevirtual 64), (35, .goto 4), (38, .iload_n 3), (39, .ireturn)]
def am_c164 : List (Nat × Instr) := [(0, .aload_n 0), (1, .iconst 0), (2, .putfield 39), (5, .iconst 0), (6, .istore_n 2), (7, .iload_n 2), (8, .aload_n 0), (9, .getfield 9), (12, .iconst 2), (13, .iaload), (14, .if_icmp .ge 85), (17, .aload_n 0), (18, .iload_n 2), (19, .bipush 6), (21, .invokevirtual 119), (24, .iconst 1), (25, .if_icmp .eq 6), (28, .goto 65), (31, .iconst 0), (32, .istore_n 3), (33, .iconst 0), (34, .istore 4), (36, .iload 4), (38, .aload_n 0), (39, .getfield 9), (42, .iconst 2), (43, .iaload), (44, .if_icmp .ge 42), (47, .aload_n 0), (48, .iload 4), (50, .bipush 6), (52, .invokevirtual 119), (55, .iconst 1), (56, .if_icmp .ne 24), (59, .aload_n 0), (60, .iload 4), (62, .bipush 8), (64, .invokevirtual 119), (67, .aload_n 0), (68, .iload_n 2), (69, .bipush 8), (71, .invokevirtual 119), (74, .if_icmp .ge 6), (77, .iinc 3 1), (80, .iinc 4 1), (83, .goto (-47)), (86, .iload_n 3), (87, .iload_n 1), (88, .if_icmp .ne 5), (91, .iload_n 2), (92, .ireturn), (93, .iinc 2 1), (96, .goto (-89)), (99, .aload_n 0), (100, .iconst 1), (101, .invokevirtual 64), (104, .ireturn)]
def am_c165 : List (Nat × Instr) := [(0, .aload_n 0), (1, .iconst 0), (2, .putfield 39), (5, .aload_n 0), (6, .iload_n 1), (7, .invokevirtual 82), (10, .ifCond .ne 9), (13, .aload_n 0), (14, .iconst 1), (15, .invokevirtual 64), (18, .ireturn), (19, .iload_n 1), (20, .iload_n 2), (21, .ifCond .eq 7), (24, .iconst 1), (25, .goto 4), (28, .iconst (-1)), (29, .iadd), (30, .istore_n 3), (31, .aload_n 0), (32, .iload_n 3), (33, .invokevirtual 82), (36, .ifCond .eq 12), (39, .aload_n 0), (40, .iload_n 1), (41, .iload_n 3), (42, .invokevirtual 133), (45, .goto 8), (48, .aload_n 0), (49, .iconst 2), (50, .invokevirtual 64), (53, .ireturn)]
def am_c166 : List (Nat × Instr) := [(0, .aload_n 0), (1, .iconst 0), (2, .putfield 39), (5, .iload_n 1), (6, .iload_n 2), (7, .ifCond .eq 7), (10, .iconst 1), (11, .goto 4), (14, .iconst (-1)), (15, .iadd), (16, .istore_n 3), (17, .aload_n 0), (18, .iload_n 1), (19, .invokevirtual 82), (22, .ifCond .ne 17), (25, .aload_n 0), (26, .iconst 1), (27, .invokevirtual 64), (30, .ifCond .le 7), (33, .iconst 1), (34, .goto 4), (37, .iconst 0), (38, .ireturn), (39, .aload_n 0), (40, .iload_n 3), (41, .invokevirtual 82), (44, .ifCond .eq 12), (47, .aload_n 0), (48, .iload_n 1), (49, .iload_n 3), (50, .invokevirtual 139), (53, .goto 16), (56, .aload_n 0), (57, .iconst 2), (58, .invokevirtual 64), (61, .ifCond .le 7), (64, .iconst 1), (65, .goto 4), (68, .iconst 0), (69, .ireturn)]
def am_c167 : List (Nat × Instr) := [(0, .aload_n 0), (1, .iconst 0), (2, .putfield 39), (5, .aload_n 0), (6, .iload_n 1), (7, .invokevirtual 92), (10, .ifCond .ne 9), (13, .aload_n 0), (14, .iconst 1), (15, .invokevirtual 64), (18, .ireturn), (19, .iload_n 2), (20, .iconst 0), (21, .sipush 200), (24, .invokestatic 67), (27, .ifCond .ne 9), (30, .aload_n 0), (31, .iconst 2), (32, .invokevirtual 64), (35, .ireturn), (36, .aload_n 0), (37, .iload_n 1), (38, .invokevirtual 95), (41, .istore_n 3), (42, .iconst 1), (43, .istore 4), (45, .iload 4), (47, .iload_n 2), (48, .if_icmp .gt 30), (51, .aload_n 0), (52, .getfield 9), (55, .iconst 0), (56, .iaload), (57, .iload 4), (59, .iadd), (60, .bipush 6), (62, .irem), (63, .ifCond .ne 9), (66, .iload_n 1), (67, .iload_n 3), (68, .invokestatic 152), (71, .istore_n 3), (72, .iinc 4 1), (75, .goto (-30)), (78, .iload_n 3), (79, .ireturn)]
def am_c168 : List (Nat × Instr) := [(0, .aload_n 0), (1, .iconst 0), (2, .putfield 39), (5, .aload_n 0), (6, .iload_n 1), (7, .invokevirtual 116), (10, .ifCond .ne 9), (13, .aload_n 0), (14, .iconst 1), (15, .invokevirtual 64), (18, .ireturn), (19, .aload_n 0), (20, .iload_n 1), (21, .bipush 6), (23, .invokevirtual 119), (26, .ifCond .eq 9), (29, .aload_n 0), (30, .iconst 2), (31, .invokevirtual 64), (34, .ireturn), (35, .aload_n 0), (36, .invokevirtual 165), (39, .iconst 0), (40, .istore_n 3), (41, .iload_n 3), (42, .sipush 400), (45, .if_icmp .ge 25), (48, .aload_n 0), (49, .iload_n 1), (50, .bipush 6), (52, .invokevirtual 119), (55, .ifCond .ne 15), (58, .aload_n 0), (59, .invokevirtual 155), (62, .istore 4), (64, .iinc 3 1), (67, .goto (-26)), (70, .aload_n 0), (71, .iload_n 1), (72, .bipush 6), (74, .invokevirtual 119), (77, .iconst 1), (78, .if_icmp .ne 7), (81, .iconst 1), (82, .goto 4), (85, .iconst 0), (86, .istore 4), (88, .aload_n 0), (89, .iload_n 1), (90, .invokevirtual 162), (93, .istore 5), (95, .aload_n 0), (96, .invokevirtual 168), (99, .iload 4), (101, .ifCond .ne 9), (104, .aload_n 0), (105, .iconst 2), (106, .invokevirtual 64), (109, .ireturn), (110, .iload_n 2), (111, .ifCond .ne 7), (114, .iload_n 3), (115, .goto 5), (118, .iload 5), (120, .ireturn)]
def am_c169 : List (Nat × Instr) := [(0, .aload_n 0), (1, .iload_n 1), (2, .iconst 0), (3, .invokevirtual 171), (6, .ireturn)]
def am_c170 : List (Nat × Instr) := [(0, .aload_n 0), (1, .iload_n 1), (2, .iconst 1), (3, .invokevirtual 171), (6, .ireturn)]
def am_c171 : List (Nat × Instr) := [(0, .aload_n 0), (1, .iload_n 1), (2, .invokevirtual 162), (5, .aload_n 0), (6, .iload_n 2), (7, .invokevirtual 162), (10, .if_icmp .eq 22), (13, .aload_n 0), (14, .iload_n 1), (15, .invokevirtual 162), (18, .aload_n 0), (19, .iload_n 2), (20, .invokevirtual 162), (23, .if_icmp .le 7), (26, .iconst 1), (27, .goto 4), (30, .iconst 0), (31, .ireturn), (32, .aload_n 0), (33, .iload_n 1), (34, .bipush 7), (36, .invokevirtual 119), (39, .aload_n 0), (40, .iload_n 2), (41, .bipush 7), (43, .invokevirtual 119), (46, .if_icmp .eq 28), (49, .aload_n 0), (50, .iload_n 1), (51, .bipush 7), (53, .invokevirtual 119), (56, .aload_n 0), (57, .iload_n 2), (58, .bipush 7), (60, .invokevirtual 119), (63, .if_icmp .ge 7), (66, .iconst 1), (67, .goto 17), (70, .iconst 0), (71, .goto 13), (74, .iload_n 1), (75, .iload_n 2), (76, .if_icmp .ge 7), (79, .iconst 1), (80, .goto 4), (83, .iconst 0), (84, .ireturn)]
def am_c172 : List (Nat × Instr) := [(0, .aload_n 0), (1, .iconst 0), (2, .putfield 39), (5, .iconst 0), (6, .istore_n 2), (7, .iload_n 2), (8, .aload_n 0), (9, .getfield 9), (12, .iconst 2), (13, .iaload), (14, .if_icmp .ge 81), (17, .aload_n 0), (18, .iload_n 2), (19, .bipush 6), (21, .invokevirtual 119), (24, .ifCond .eq 6), (27, .goto 62), (30, .iconst 0), (31, .istore_n 3), (32, .iconst 0), (33, .istore 4), (35, .iload 4), (37, .aload_n 0), (38, .getfield 9), (41, .iconst 2), (42, .iaload), (43, .if_icmp .ge 39), (46, .iload 4), (48, .iload_n 2), (49, .if_icmp .eq 27), (52, .aload_n 0), (53, .iload 4), (55, .bipush 6), (57, .invokevirtual 119), (60, .ifCond .ne 16), (63, .aload_n 0), (64, .iload 4), (66, .iload_n 2), (67, .invokevirtual 174), (70, .ifCond .eq 6), (73, .iinc 3 1), (76, .iinc 4 1), (79, .goto (-44)), (82, .iload_n 3), (83, .iload_n 1), (84, .if_icmp .ne 5), (87, .iload_n 2), (88, .ireturn), (89, .iinc 2 1), (92, .goto (-85)), (95, .aload_n 0), (96, .iconst 1), (97, .invokevirtual 64), (100, .ireturn)]
def am_c173 : List (Nat × Instr) := [(0, .aload_n 0), (1, .iconst 0), (2, .putfield 39), (5, .iconst 0), (6, .istore_n 1), (7, .iconst 0), (8, .istore_n 2), (9, .iload_n 2), (10, .aload_n 0), (11, .getfield 9), (14, .iconst 1), (15, .iaload), (16, .if_icmp .ge 18), (19, .iload_n 1), (20, .aload_n 0), (21, .iload_n 2), (22, .iconst 5), (23, .invokevirtual 101), (26, .iadd), (27, .istore_n 1), (28, .iinc 2 1), (31, .goto (-22)), (34, .iload_n 1), (35, .ireturn)]
def am_c174 : List (Nat × Instr) := [(0, .iconst 0), (1, .istore_n 1), (2, .iconst 0), (3, .istore_n 2), (4, .iload_n 2), (5, .aload_n 0), (6, .getfield 9), (9, .iconst 2), (10, .iaload), (11, .if_icmp .ge 17), (14, .iload_n 1), (15, .aload_n 0), (16, .iload_n 2), (17, .invokevirtual 162), (20, .iadd), (21, .istore_n 1), (22, .iinc 2 1), (25, .goto (-21)), (28, .iload_n 1), (29, .ireturn)]
def am_c175 : List (Nat × Instr) := [(0, .aload_n 0), (1, .iconst 0), (2, .putfield 39), (5, .aload_n 0), (6, .invokevirtual 177), (9, .ireturn)]
def am_c176 : List (Nat × Instr) := [(0, .aload_n 0), (1, .iconst 0), (2, .putfield 39), (5, .aload_n 0), (6, .getfield 180), (9, .bipush 60), (11, .if_icmp .ne 9), (14, .aload_n 0), (15, .iconst 1), (16, .invokevirtual 64), (19, .ireturn), (20, .aload_n 0), (21, .getfield 29), (24, .aload_n 0), (25, .dup), (26, .getfield 180), (29, .dup_x1), (30, .iconst 1), (31, .iadd), (32, .putfield 180), (35, .iload_n 1), (36, .castore), (37, .aload_n 0), (38, .getfield 180), (41, .ireturn)]
def am_c177 : List (Nat × Instr) := [(0, .aload_n 0), (1, .getfield 183), (4, .aload_n 0), (5, .getfield 180), (8, .if_icmp .eq 16), (11, .aload_n 0), (12, .getfield 29), (15, .aload_n 0), (16, .getfield 183), (19, .caload), (20, .iload_n 1), (21, .if_icmp .eq 5), (24, .iconst 0), (25, .ireturn), (26, .aload_n 0), (27, .dup), (28, .getfield 183), (31, .iconst 1), (32, .iadd), (33, .putfield 183), (36, .iconst 1), (37, .ireturn)]
def am_c178 : List (Nat × Instr) := [(0, .iconst 0), (1, .istore 5), (3, .aload_n 0), (4, .getfield 32), (7, .iload_n 1), (8, .iconst 0), (9, .iastore), (10, .iload 5), (12, .iload_n 2), (13, .if_icmp .ge 73), (16, .aload_n 0), (17, .getfield 183), (20, .aload_n 0), (21, .getfield 180), (24, .if_icmp .ge 62), (27, .aload_n 0), (28, .getfield 29), (31, .aload_n 0), (32, .getfield 183), (35, .caload), (36, .iload_n 3), (37, .iload 4), (39, .invokestatic 67), (42, .ifCond .eq 44), (45, .aload_n 0), (46, .getfield 32), (49, .iload_n 1), (50, .bipush 10), (52, .aload_n 0), (53, .getfield 32), (56, .iload_n 1), (57, .iaload), (58, .imul), (59, .aload_n 0), (60, .getfield 29), (63, .aload_n 0), (64, .dup), (65, .getfield 183), (68, .dup_x1), (69, .iconst 1), (70, .iadd), (71, .putfield 183), (74, .caload), (75, .iadd), (76, .bipush 48), (78, .isub), (79, .iastore), (80, .iinc 5 1), (83, .goto (-73)), (86, .iload 5), (88, .ifCond .le 7), (91, .iconst 1), (92, .goto 4), (95, .iconst 0), (96, .ireturn)]
def am_c179 : List (Nat × Instr) := [(0, .aload_n 0), (1, .iload_n 1), (2, .iconst 1), (3, .bipush 48), (5, .bipush 57), (7, .invokevirtual 186), (10, .ireturn)]
def am_c180 : List (Nat × Instr) := [(0, .aload_n 0), (1, .iload_n 1), (2, .iconst 2), (3, .bipush 48), (5, .bipush 57), (7, .invokevirtual 186), (10, .ireturn)]
def am_c181_0 : List (Nat × Instr) := [(0, .aload_n 0), (1, .getfield 183), (4, .aload_n 0), (5, .getfield 180), (8, .if_icmp .ne 5), (11, .iconst 0), (12, .ireturn), (13, .aload_n 0), (14, .aload_n 0), (15, .getfield 29), (18, .aload_n 0), (19, .getfield 183), (22, .caload), (23, .putfield 190), (26, .aload_n 0), (27, .getfield 190), (30, .tableswitch 273 100 119 #[158, 232, 273, 273, 158, 273, 273, 273, 273, 273, 273, 273, 273, 174, 273, 94, 273, 273, 273, 232]), (124, .aload_n 0), (125, .dup), (126, .getfield 183), (129, .iconst 1), (130, .iadd), (131, .putfield 183), (134, .aload_n 0), (135, .iconst 0), (136, .invokevirtual 194), (139, .ifCond .eq 47), (142, .aload_n 0), (143, .bipush 62), (145, .invokevirtual 197), (148, .ifCond .eq 38), (151, .aload_n 0), (152, .iconst 1), (153, .invokevirtual 194), (156, .ifCond .eq 30), (159, .aload_n 0), (160, .bipush 58), (162, .invokevirtual 197), (165, .ifCond .eq 21), (168, .aload_n 0)]
def am_c181_1 : List (Nat × Instr) := [(169, .iconst 2), (170, .bipush 8), (172, .bipush 49), (174, .bipush 56), (176, .invokevirtual 186), (179, .ifCond .eq 7), (182, .iconst 1), (183, .goto 4), (186, .iconst 0), (187, .ireturn), (188, .aload_n 0), (189, .dup), (190, .getfield 183), (193, .iconst 1), (194, .iadd), (195, .putfield 183), (198, .aload_n 0), (199, .iconst 0), (200, .invokevirtual 201), (203, .ireturn), (204, .aload_n 0), (205, .dup), (206, .getfield 183), (209, .iconst 1), (210, .iadd), (211, .putfield 183), (214, .aload_n 0), (215, .iconst 0), (216, .invokevirtual 194), (219, .ifCond .eq 41), (222, .aload_n 0), (223, .bipush 58), (225, .invokevirtual 197), (228, .ifCond .eq 32), (231, .aload_n 0), (232, .iconst 1), (233, .invokevirtual 201), (236, .ifCond .eq 24), (239, .aload_n 0), (240, .bipush 45)]
def am_c181_2 : List (Nat × Instr) := [(242, .invokevirtual 197), (245, .ifCond .eq 15), (248, .aload_n 0), (249, .iconst 2), (250, .invokevirtual 201), (253, .ifCond .eq 7), (256, .iconst 1), (257, .goto 4), (260, .iconst 0), (261, .ireturn), (262, .aload_n 0), (263, .dup), (264, .getfield 183), (267, .iconst 1), (268, .iadd), (269, .putfield 183), (272, .aload_n 0), (273, .iconst 0), (274, .invokevirtual 194), (277, .ifCond .eq 24), (280, .aload_n 0), (281, .bipush 61), (283, .invokevirtual 197), (286, .ifCond .eq 15), (289, .aload_n 0), (290, .iconst 1), (291, .invokevirtual 194), (294, .ifCond .eq 7), (297, .iconst 1), (298, .goto 4), (301, .iconst 0), (302, .ireturn), (303, .iconst 0), (304, .ireturn)]
def am_c181 : List (Nat × Instr) := am_c181_0 ++ (am_c181_1 ++ (am_c181_2))
def am_c182 : List (Nat × Instr) := [(0, .aload_n 0), (1, .getfield 190), (4, .lookupswitch 137 #[(100, 86), (104, 75), (113, 97), (115, 52), (119, 120)]), (56, .aload_n 0), (57, .aload_n 0), (58, .getfield 32), (61, .iconst 0), (62, .iaload), (63, .aload_n 0), (64, .getfield 32), (67, .iconst 1), (68, .iaload), (69, .aload_n 0), (70, .getfield 32), (73, .iconst 2), (74, .iaload), (75, .invokevirtual 113), (78, .ireturn), (79, .aload_n 0), (80, .aload_n 0), (81, .getfield 32), (84, .iconst 0), (85, .iaload), (86, .invokevirtual 159), (89, .ireturn), (90, .aload_n 0), (91, .aload_n 0), (92, .getfield 32), (95, .iconst 0), (96, .iaload), (97, .invokevirtual 122), (100, .ireturn), (101, .aload_n 0), (102, .aload_n 0), (103, .getfield 32), (106, .iconst 0), (107, .iaload), (108, .aload_n 0), (109, .getfield 32), (112, .iconst 1), (113, .iaload), (114, .aload_n 0), (115, .getfield 32), (118, .iconst 2), (119, .iaload), (120, .invokevirtual 89), (123, .ireturn), (124, .aload_n 0), (125, .aload_n 0), (126, .getfield 32), (129, .iconst 0), (130, .iaload), (131, .aload_n 0), (132, .getfield 32), (135, .iconst 1), (136, .iaload), (137, .invokevirtual 98), (140, .ireturn), (141, .aload_n 0), (142, .aload_n 0), (143, .getfield 32), (146, .iconst 0), (147, .iaload), (148, .aload_n 0), (149, .getfield 32), (152, .iconst 1), (153, .iaload), (154, .invokevirtual 105), (157, .ireturn)]
def am_c183 : List (Nat × Instr) := [(0, .aload_n 0), (1, .invokevirtual 71), (4, .aload_n 0), (5, .iconst 0), (6, .putfield 183), (9, .aload_n 0), (10, .invokevirtual 204), (13, .istore_n 1), (14, .iload_n 1), (15, .ifCond .eq 39), (18, .aload_n 0), (19, .getfield 183), (22, .aload_n 0), (23, .getfield 180), (26, .if_icmp .ge 28), (29, .aload_n 0), (30, .bipush 59), (32, .invokevirtual 197), (35, .ifCond .eq 14), (38, .aload_n 0), (39, .invokevirtual 204), (42, .ifCond .eq 7), (45, .iconst 1), (46, .goto 4), (49, .iconst 0), (50, .istore_n 1), (51, .goto (-37)), (54, .aload_n 0), (55, .iload_n 1), (56, .ifCond .eq 7), (59, .iconst (-1)), (60, .goto 7), (63, .aload_n 0), (64, .getfield 183), (67, .putfield 35), (70, .iload_n 1), (71, .ifCond .ne 14), (74, .aload_n 0), (75, .iconst 0), (76, .putfield 180), (79, .aload_n 0), (80, .iconst 1), (81, .invokevirtual 64), (84, .ireturn), (85, .aload_n 0), (86, .iconst 0), (87, .putfield 183), (90, .iconst 0), (91, .istore_n 2), (92, .iconst 1), (93, .istore_n 3), (94, .iload_n 3), (95, .ifCond .eq 47), (98, .aload_n 0), (99, .invokevirtual 204), (102, .istore_n 1), (103, .aload_n 0), (104, .iload_n 2), (105, .putfield 42), (108, .aload_n 0), (109, .invokevirtual 208), (112, .istore_n 1), (113, .iload_n 1), (114, .ifCond .eq 6), (117, .iinc 2 1), (120, .iload_n 1), (121, .ifCond .eq 16), (124, .aload_n 0), (125, .bipush 59), (127, .invokevirtual 197), (130, .ifCond .eq 7), (133, .iconst 1), (134, .goto 4), (137, .iconst 0), (138, .istore_n 3), (139, .goto (-45)), (142, .aload_n 0), (143, .iconst 0), (144, .putfield 180), (147, .iload_n 1), (148, .ifCond .eq 9), (151, .aload_n 0), (152, .iload_n 2), (153, .invokevirtual 60), (156, .ireturn), (157, .aload_n 0), (158, .invokevirtual 211), (161, .aload_n 0), (162, .iconst 2), (163, .invokevirtual 64), (166, .ireturn)]
def am_c184 : List (Nat × Instr) := [(0, .aload_n 0), (1, .iconst 0), (2, .putfield 39), (5, .aload_n 0), (6, .getfield 35), (9, .ireturn)]
def am_c185 : List (Nat × Instr) := [(0, .aload_n 0), (1, .iconst 0), (2, .putfield 39), (5, .iload_n 1), (6, .iconst 0), (7, .iconst 2), (8, .invokestatic 67), (11, .ifCond .ne 9), (14, .aload_n 0), (15, .iconst 1), (16, .invokevirtual 64), (19, .ireturn), (20, .aload_n 0), (21, .getfield 48), (24, .ifCond .ne 9), (27, .aload_n 0), (28, .iconst 2), (29, .invokevirtual 64), (32, .ireturn), (33, .iload_n 1), (34, .ifCond .ne 10), (37, .aload_n 0), (38, .getfield 48), (41, .goto 19), (44, .iload_n 1), (45, .iconst 1), (46, .if_icmp .ne 10), (49, .aload_n 0), (50, .getfield 51), (53, .goto 7), (56, .aload_n 0), (57, .getfield 54), (60, .ireturn)]
def am_c186 : List (Nat × Instr) := [(0, .aload_n 0), (1, .getfield 25), (4, .aload_n 0), (5, .dup), (6, .getfield 214), (9, .dup_x1), (10, .iconst 1), (11, .iadd), (12, .putfield 214), (15, .iload_n 1), (16, .castore), (17, .return_)]
def am_c187 : List (Nat × Instr) := [(0, .aload_n 0), (1, .iconst 0), (2, .putfield 39), (5, .aload_n 0), (6, .iload_n 1), (7, .invokevirtual 116), (10, .ifCond .ne 9), (13, .aload_n 0), (14, .iconst 1), (15, .invokevirtual 64), (18, .ireturn), (19, .aload_n 0), (20, .iconst 0), (21, .putfield 214), (24, .aload_n 0), (25, .bipush 48), (27, .aload_n 0), (28, .iload_n 1), (29, .iconst 0), (30, .invokevirtual 119), (33, .iadd), (34, .i2c), (35, .invokevirtual 217), (38, .aload_n 0), (39, .bipush 62), (41, .invokevirtual 217), (44, .aload_n 0), (45, .bipush 48), (47, .aload_n 0), (48, .iload_n 1), (49, .iconst 1), (50, .invokevirtual 119), (53, .iadd), (54, .i2c), (55, .invokevirtual 217), (58, .aload_n 0), (59, .bipush 58), (61, .invokevirtual 217), (64, .iconst 0), (65, .istore_n 2), (66, .iload_n 2), (67, .aload_n 0), (68, .iload_n 1), (69, .iconst 3), (70, .invokevirtual 119), (73, .if_icmp .ge 43), (76, .aload_n 0), (77, .aload_n 0), (78, .iload_n 1), (79, .bipush 11), (81, .iload_n 2), (82, .iadd), (83, .invokevirtual 119), (86, .ifCond .ne 8), (89, .bipush 63), (91, .goto 16), (94, .bipush 48), (96, .aload_n 0), (97, .iload_n 1), (98, .bipush 11), (100, .iload_n 2), (101, .iadd), (102, .invokevirtual 119), (105, .iadd), (106, .i2c), (107, .invokevirtual 217), (110, .iinc 2 1), (113, .goto (-47)), (116, .aload_n 0), (117, .iload_n 1), (118, .bipush 6), (120, .invokevirtual 119), (123, .iconst 2), (124, .if_icmp .ne 9), (127, .aload_n 0), (128, .bipush 120), (130, .invokevirtual 217), (133, .aload_n 0), (134, .iload_n 1), (135, .bipush 6), (137, .invokevirtual 119), (140, .ifCond .ne 23), (143, .aload_n 0), (144, .bipush 64), (146, .invokevirtual 217), (149, .aload_n 0), (150, .bipush 48), (152, .aload_n 0), (153, .iload_n 1), (154, .iconst 2), (155, .invokevirtual 119), (158, .iadd), (159, .i2c), (160, .invokevirtual 217), (163, .aload_n 0), (164, .getfield 214), (167, .ireturn)]
def am_c188 : List (Nat × Instr) := [(0, .aload_n 0), (1, .iconst 0), (2, .putfield 39), (5, .iload_n 1), (6, .iconst 0), (7, .aload_n 0), (8, .getfield 214), (11, .iconst 1), (12, .isub), (13, .invokestatic 67), (16, .ifCond .eq 12), (19, .aload_n 0), (20, .getfield 25), (23, .iload_n 1), (24, .caload), (25, .goto 9), (28, .aload_n 0), (29, .iconst 1), (30, .invokevirtual 64), (33, .i2c), (34, .ireturn)]
def am_c189 : List (Nat × Instr) := [(0, .aload_n 0), (1, .iconst 0), (2, .putfield 39), (5, .aload_n 0), (6, .getfield 9), (9, .iconst 1), (10, .iaload), (11, .istore_n 1), (12, .iload_n 1), (13, .ifCond .ne 10), (16, .aload_n 0), (17, .iconst 1), (18, .invokevirtual 64), (21, .i2f), (22, .freturn), (23, .iconst 0), (24, .istore_n 2), (25, .iconst 0), (26, .istore_n 3), (27, .iload_n 3), (28, .iload_n 1), (29, .if_icmp .ge 18), (32, .iload_n 2), (33, .aload_n 0), (34, .iload_n 3), (35, .iconst 1), (36, .invokevirtual 101), (39, .iadd), (40, .istore_n 2), (41, .iinc 3 1), (44, .goto (-17)), (47, .iload_n 2), (48, .i2f), (49, .iload_n 1), (50, .i2f), (51, .fdiv), (52, .freturn)]
def am_c190 : List (Nat × Instr) := [(0, .aload_n 0), (1, .iconst 0), (2, .putfield 39), (5, .iconst 0), (6, .istore_n 1), (7, .iconst 0), (8, .istore_n 2), (9, .iload_n 2), (10, .aload_n 0), (11, .getfield 9), (14, .iconst 2), (15, .iaload), (16, .if_icmp .ge 18), (19, .iload_n 1), (20, .aload_n 0), (21, .iload_n 2), (22, .iconst 3), (23, .invokevirtual 119), (26, .iadd), (27, .istore_n 1), (28, .iinc 2 1), (31, .goto (-22)), (34, .iload_n 1), (35, .ifCond .ne 12), (38, .aload_n 0), (39, .iconst 1), (40, .invokevirtual 64), (43, .i2d), (44, .goto 11), (47, .aload_n 0), (48, .invokevirtual 177), (51, .i2d), (52, .iload_n 1), (53, .i2d), (54, .ddiv), (55, .dreturn)]
def am_c191 : List (Nat × Instr) := [(0, .aload_n 0), (1, .iconst 0), (2, .putfield 39), (5, .iconst 0), (6, .istore_n 2), (7, .iload_n 1), (8, .tableswitch 203 0 11 #[64, 71, 81, 88, 118, 125, 125, 125, 133, 162, 193, 198]), (72, .aload_n 0), (73, .getfield 9), (76, .iconst 0), (77, .iaload), (78, .ireturn), (79, .aload_n 0), (80, .getfield 9), (83, .iconst 0), (84, .iaload), (85, .bipush 24), (87, .irem), (88, .ireturn), (89, .aload_n 0), (90, .getfield 9), (93, .iconst 1), (94, .iaload), (95, .ireturn), (96, .iconst 0), (97, .istore_n 3), (98, .iload_n 3), (99, .bipush 8), (101, .if_icmp .ge 23), (104, .aload_n 0), (105, .getfield 9), (108, .iconst 4), (109, .iload_n 3), (110, .iadd), (111, .iaload), (112, .ifCond .le 6), (115, .iinc 2 1), (118, .iinc 3 1), (121, .goto (-23)), (124, .iload_n 2), (125, .ireturn), (126, .aload_n 0), (127, .getfield 9), (130, .iconst 2), (131, .iaload), (132, .ireturn), (133, .aload_n 0), (134, .iload_n 1), (135, .iconst 5), (136, .isub), (137, .invokevirtual 221), (140, .ireturn), (141, .iconst 0), (142, .istore_n 3), (143, .iload_n 3), (144, .aload_n 0), (145, .getfield 9), (148, .iconst 1), (149, .iaload), (150, .if_icmp .ge 18), (153, .iload_n 2), (154, .aload_n 0), (155, .iload_n 3), (156, .iconst 4), (157, .invokevirtual 101), (160, .iadd), (161, .istore_n 2), (162, .iinc 3 1), (165, .goto (-22)), (168, .iload_n 2), (169, .ireturn), (170, .iconst 0), (171, .istore_n 3), (172, .iload_n 3), (173, .aload_n 0), (174, .getfield 9), (177, .iconst 1), (178, .iaload), (179, .if_icmp .ge 20), (182, .aload_n 0), (183, .iload_n 3), (184, .invokevirtual 142), (187, .ifCond .eq 6), (190, .iinc 2 1), (193, .iinc 3 1), (196, .goto (-24)), (199, .iload_n 2), (200, .ireturn), (201, .aload_n 0), (202, .getfield 45), (205, .ireturn), (206, .aload_n 0), (207, .getfield 180), (210, .ireturn), (211, .aload_n 0), (212, .iconst 1), (213, .invokevirtual 64), (216, .ireturn)]
def am_c192 : List (Nat × Instr) := [(0, .aload_n 0), (1, .iconst 0), (2, .putfield 39), (5, .aload_n 0), (6, .getfield 45), (9, .ifCond .ne 9), (12, .aload_n 0), (13, .iconst 1), (14, .invokevirtual 64), (17, .ireturn), (18, .aload_n 0), (19, .dup), (20, .getfield 45), (23, .iconst 1), (24, .isub), (25, .putfield 45), (28, .iconst 0), (29, .istore_n 1), (30, .iload_n 1), (31, .sipush 364), (34, .if_icmp .ge 30), (37, .aload_n 0), (38, .getfield 9), (41, .iload_n 1), (42, .aload_n 0), (43, .getfield 19), (46, .sipush 364), (49, .aload_n 0), (50, .getfield 45), (53, .imul), (54, .iload_n 1), (55, .iadd), (56, .iaload), (57, .iastore), (58, .iinc 1 1), (61, .goto (-31)), (64, .aload_n 0), (65, .getfield 45), (68, .ireturn)]
def am_c193 : List (Nat × Instr) := [(0, .aload_n 0), (1, .iconst 0), (2, .putfield 39), (5, .aload_n 0), (6, .iconst 1), (7, .putfield 224), (10, .iconst 0), (11, .istore_n 1), (12, .iload_n 1), (13, .sipush 364), (16, .if_icmp .ge 21), (19, .aload_n 0), (20, .getfield 22), (23, .iload_n 1), (24, .aload_n 0), (25, .getfield 9), (28, .iload_n 1), (29, .iaload), (30, .iastore), (31, .iinc 1 1), (34, .goto (-22)), (37, .aload_n 0), (38, .getfield 9), (41, .iconst 0), (42, .iaload), (43, .ireturn)]
def am_c194 : List (Nat × Instr) := [(0, .aload_n 0), (1, .iconst 0), (2, .putfield 39), (5, .aload_n 0), (6, .getfield 224), (9, .ifCond .ne 9), (12, .aload_n 0), (13, .iconst 1), (14, .invokevirtual 64), (17, .ireturn), (18, .iconst 0), (19, .istore_n 1), (20, .iload_n 1), (21, .sipush 364), (24, .if_icmp .ge 21), (27, .aload_n 0), (28, .getfield 9), (31, .iload_n 1), (32, .aload_n 0), (33, .getfield 22), (36, .iload_n 1), (37, .iaload), (38, .iastore), (39, .iinc 1 1), (42, .goto (-22)), (45, .aload_n 0), (46, .iconst 0), (47, .putfield 45), (50, .aload_n 0), (51, .getfield 9), (54, .iconst 0), (55, .iaload), (56, .ireturn)]
def am_c195 : List (Nat × Instr) := [(0, .aload 4), (2, .iconst 0), (3, .aload_n 0), (4, .iload_n 1), (5, .iload_n 2), (6, .iload_n 3), (7, .invokevirtual 7), (10, .i2l), (11, .lastore), (12, .goto 7), (15, .astore 5), (17, .iconst 1), (18, .ireturn), (19, .iconst 0), (20, .ireturn)]
def am_c196 : List (Nat × Instr) := [(0, .aload_n 3), (1, .iconst 0), (2, .aload_n 0), (3, .iload_n 1), (4, .iload_n 2), (5, .invokevirtual 15), (8, .i2l), (9, .lastore), (10, .goto 7), (13, .astore 4), (15, .iconst 1), (16, .ireturn), (17, .iconst 0), (18, .ireturn)]
def am_c197 : List (Nat × Instr) := [(0, .aload 4), (2, .iconst 0), (3, .aload_n 0), (4, .iload_n 1), (5, .iload_n 2), (6, .iload_n 3), (7, .invokevirtual 19), (10, .i2l), (11, .lastore), (12, .goto 7), (15, .astore 5), (17, .iconst 1), (18, .ireturn), (19, .iconst 0), (20, .ireturn)]
def am_c198 : List (Nat × Instr) := [(0, .aload_n 3), (1, .iconst 0), (2, .aload_n 0), (3, .iload_n 1), (4, .iload_n 2), (5, .invokevirtual 22), (8, .i2l), (9, .lastore), (10, .goto 7), (13, .astore 4), (15, .iconst 1), (16, .ireturn), (17, .iconst 0), (18, .ireturn)]
def am_c199 : List (Nat × Instr) := [(0, .aload_n 3), (1, .iconst 0), (2, .aload_n 0), (3, .iload_n 1), (4, .iload_n 2), (5, .invokevirtual 25), (8, .i2l), (9, .lastore), (10, .goto 7), (13, .astore 4), (15, .iconst 1), (16, .ireturn), (17, .iconst 0), (18, .ireturn)]
def am_c200 : List (Nat × Instr) := [(0, .aload 4), (2, .iconst 0), (3, .aload_n 0), (4, .iload_n 1), (5, .iload_n 2), (6, .iload_n 3), (7, .invokevirtual 28), (10, .i2l), (11, .lastore), (12, .goto 7), (15, .astore 5), (17, .iconst 1), (18, .ireturn), (19, .iconst 0), (20, .ireturn)]
def am_c201 : List (Nat × Instr) := [(0, .aload_n 2), (1, .iconst 0), (2, .aload_n 0), (3, .iload_n 1), (4, .invokevirtual 31), (7, .i2l), (8, .lastore), (9, .goto 6), (12, .astore_n 3), (13, .iconst 1), (14, .ireturn), (15, .iconst 0), (16, .ireturn)]
def am_c202 : List (Nat × Instr) := [(0, .aload_n 2), (1, .iconst 0), (2, .aload_n 0), (3, .iload_n 1), (4, .invokevirtual 35), (7, .i2l), (8, .lastore), (9, .goto 6), (12, .astore_n 3), (13, .iconst 1), (14, .ireturn), (15, .iconst 0), (16, .ireturn)]
def am_c203 : List (Nat × Instr) := [(0, .aload_n 3), (1, .iconst 0), (2, .aload_n 0), (3, .iload_n 1), (4, .iload_n 2), (5, .invokevirtual 38), (8, .i2l), (9, .lastore), (10, .goto 11), (13, .astore 4), (15, .iconst 1), (16, .ireturn), (17, .astore 4), (19, .iconst 2), (20, .ireturn), (21, .iconst 0), (22, .ireturn)]
def am_c204 : List (Nat × Instr) := [(0, .aload_n 3), (1, .iconst 0), (2, .aload_n 0), (3, .iload_n 1), (4, .iload_n 2), (5, .invokevirtual 45), (8, .i2l), (9, .lastore), (10, .goto 11), (13, .astore 4), (15, .iconst 1), (16, .ireturn), (17, .astore 4), (19, .iconst 2), (20, .ireturn), (21, .iconst 0), (22, .ireturn)]
def am_c205 : List (Nat × Instr) := [(0, .aload_n 2), (1, .iconst 0), (2, .aload_n 0), (3, .iload_n 1), (4, .invokevirtual 48), (7, .i2l), (8, .lastore), (9, .goto 6), (12, .astore_n 3), (13, .iconst 1), (14, .ireturn), (15, .iconst 0), (16, .ireturn)]
def am_c206 : List (Nat × Instr) := [(0, .aload_n 3), (1, .iconst 0), (2, .aload_n 0), (3, .iload_n 1), (4, .iload_n 2), (5, .invokevirtual 51), (8, .i2l), (9, .lastore), (10, .goto 11), (13, .astore 4), (15, .iconst 1), (16, .ireturn), (17, .astore 4), (19, .iconst 2), (20, .ireturn), (21, .iconst 0), (22, .ireturn)]
def am_c207 : List (Nat × Instr) := [(0, .aload_n 3), (1, .iconst 0), (2, .aload_n 0), (3, .iload_n 1), (4, .iload_n 2), (5, .invokevirtual 54), (8, .i2l), (9, .lastore), (10, .goto 7), (13, .astore 4), (15, .iconst 1), (16, .ireturn), (17, .iconst 0), (18, .ireturn)]
def am_c208 : List (Nat × Instr) := [(0, .aload_n 2), (1, .iconst 0), (2, .aload_n 0), (3, .iload_n 1), (4, .invokevirtual 57), (7, .i2l), (8, .lastore), (9, .goto 6), (12, .astore_n 3), (13, .iconst 1), (14, .ireturn), (15, .iconst 0), (16, .ireturn)]
def am_c209 : List (Nat × Instr) := [(0, .aload_n 3), (1, .iconst 0), (2, .aload_n 0), (3, .iload_n 1), (4, .iload_n 2), (5, .invokevirtual 60), (8, .i2l), (9, .lastore), (10, .goto 11), (13, .astore 4), (15, .iconst 1), (16, .ireturn), (17, .astore 4), (19, .iconst 2), (20, .ireturn), (21, .iconst 0), (22, .ireturn)]
def am_c210 : List (Nat × Instr) := [(0, .aload_n 2), (1, .iconst 0), (2, .aload_n 0), (3, .iload_n 1), (4, .invokevirtual 65), (7, .i2l), (8, .lastore), (9, .goto 6), (12, .astore_n 3), (13, .iconst 1), (14, .ireturn), (15, .iconst 0), (16, .ireturn)]
def am_c211 : List (Nat × Instr) := [(0, .aload_n 3), (1, .iconst 0), (2, .aload_n 0), (3, .iload_n 1), (4, .iload_n 2), (5, .invokevirtual 68), (8, .i2l), (9, .lastore), (10, .goto 11), (13, .astore 4), (15, .iconst 1), (16, .ireturn), (17, .astore 4), (19, .iconst 2), (20, .ireturn), (21, .iconst 0), (22, .ireturn)]
def am_c212 : List (Nat × Instr) := [(0, .aload_n 3), (1, .iconst 0), (2, .aload_n 0), (3, .iload_n 1), (4, .iload_n 2), (5, .invokevirtual 72), (8, .ifCond .eq 7), (11, .lconst 1), (12, .goto 4), (15, .lconst 0), (16, .lastore), (17, .goto 11), (20, .astore 4), (22, .iconst 1), (23, .ireturn), (24, .astore 4), (26, .iconst 2), (27, .ireturn), (28, .iconst 0), (29, .ireturn)]
def am_c213 : List (Nat × Instr) := [(0, .aload_n 3), (1, .iconst 0), (2, .aload_n 0), (3, .iload_n 1), (4, .iload_n 2), (5, .invokevirtual 76), (8, .i2l), (9, .lastore), (10, .goto 11), (13, .astore 4), (15, .iconst 1), (16, .ireturn), (17, .astore 4), (19, .iconst 2), (20, .ireturn), (21, .iconst 0), (22, .ireturn)]
def am_c214 : List (Nat × Instr) := [(0, .aload_n 2), (1, .iconst 0), (2, .aload_n 0), (3, .iload_n 1), (4, .invokevirtual 79), (7, .i2l), (8, .lastore), (9, .goto 9), (12, .astore_n 3), (13, .iconst 1), (14, .ireturn), (15, .astore_n 3), (16, .iconst 2), (17, .ireturn), (18, .iconst 0), (19, .ireturn)]
def am_c215 : List (Nat × Instr) := [(0, .aload_n 2), (1, .iconst 0), (2, .aload_n 0), (3, .iload_n 1), (4, .invokevirtual 82), (7, .i2l), (8, .lastore), (9, .goto 9), (12, .astore_n 3), (13, .iconst 1), (14, .ireturn), (15, .astore_n 3), (16, .iconst 2), (17, .ireturn), (18, .iconst 0), (19, .ireturn)]
def am_c216 : List (Nat × Instr) := [(0, .aload_n 2), (1, .iconst 0), (2, .aload_n 0), (3, .iload_n 1), (4, .invokevirtual 85), (7, .i2l), (8, .lastore), (9, .goto 6), (12, .astore_n 3), (13, .iconst 1), (14, .ireturn), (15, .iconst 0), (16, .ireturn)]
def am_c217 : List (Nat × Instr) := [(0, .aload_n 2), (1, .iconst 0), (2, .aload_n 0), (3, .iload_n 1), (4, .invokevirtual 88), (7, .i2l), (8, .lastore), (9, .goto 6), (12, .astore_n 3), (13, .iconst 1), (14, .ireturn), (15, .iconst 0), (16, .ireturn)]
def am_c218 : List (Nat × Instr) := [(0, .aload_n 1), (1, .iconst 0), (2, .aload_n 0), (3, .invokevirtual 94), (6, .i2l), (7, .lastore), (8, .goto 9), (11, .astore_n 2), (12, .iconst 1), (13, .ireturn), (14, .astore_n 2), (15, .iconst 2), (16, .ireturn), (17, .iconst 0), (18, .ireturn)]
def am_c219 : List (Nat × Instr) := [(0, .aload_n 2), (1, .iconst 0), (2, .aload_n 0), (3, .iload_n 1), (4, .invokevirtual 98), (7, .i2l), (8, .lastore), (9, .goto 9), (12, .astore_n 3), (13, .iconst 1), (14, .ireturn), (15, .astore_n 3), (16, .iconst 2), (17, .ireturn), (18, .iconst 0), (19, .ireturn)]
def am_c220 : List (Nat × Instr) := [(0, .aload_n 2), (1, .iconst 0), (2, .aload_n 0), (3, .iload_n 1), (4, .invokevirtual 101), (7, .i2l), (8, .lastore), (9, .goto 6), (12, .astore_n 3), (13, .iconst 1), (14, .ireturn), (15, .iconst 0), (16, .ireturn)]
def am_c221 : List (Nat × Instr) := [(0, .aload_n 2), (1, .iconst 0), (2, .aload_n 0), (3, .iload_n 1), (4, .invokevirtual 104), (7, .i2l), (8, .lastore), (9, .goto 6), (12, .astore_n 3), (13, .iconst 1), (14, .ireturn), (15, .iconst 0), (16, .ireturn)]
def am_c222 : List (Nat × Instr) := [(0, .aload_n 1), (1, .iconst 0), (2, .aload_n 0), (3, .invokevirtual 108), (6, .f2d), (7, .dastore), (8, .goto 6), (11, .astore_n 2), (12, .iconst 1), (13, .ireturn), (14, .iconst 0), (15, .ireturn)]
def am_c223 : List (Nat × Instr) := [(0, .aload_n 1), (1, .iconst 0), (2, .aload_n 0), (3, .invokevirtual 114), (6, .dastore), (7, .goto 6), (10, .astore_n 2), (11, .iconst 1), (12, .ireturn), (13, .iconst 0), (14, .ireturn)]
def am_c224 : List (Nat × Instr) := [(0, .aload_n 2), (1, .iconst 0), (2, .aload_n 0), (3, .iload_n 1), (4, .invokevirtual 118), (7, .i2l), (8, .lastore), (9, .goto 6), (12, .astore_n 3), (13, .iconst 1), (14, .ireturn), (15, .iconst 0), (16, .ireturn)]
def am_c225 : List (Nat × Instr) := [(0, .aload_n 1), (1, .iconst 0), (2, .aload_n 0), (3, .invokevirtual 121), (6, .i2l), (7, .lastore), (8, .goto 6), (11, .astore_n 2), (12, .iconst 1), (13, .ireturn), (14, .iconst 0), (15, .ireturn)]
def am_c226 : List (Nat × Instr) := [(0, .aload_n 1), (1, .iconst 0), (2, .aload_n 0), (3, .invokevirtual 124), (6, .i2l), (7, .lastore), (8, .goto 6), (11, .astore_n 2), (12, .iconst 1), (13, .ireturn), (14, .iconst 0), (15, .ireturn)]
def am_c227_0 : List (Nat × Instr) := [(0, .new 8), (3, .dup), (4, .invokespecial 127), (7, .astore_n 1), (8, .new 128), (11, .dup), (12, .invokespecial 130), (15, .astore_n 2), (16, .iconst 1), (17, .newarray .long), (19, .astore_n 3), (20, .iconst 1), (21, .newarray .double), (23, .astore 4), (25, .iconst 0), (26, .istore 5), (28, .iload 5), (30, .aload_n 0), (31, .arraylength), (32, .iconst 4), (33, .isub), (34, .if_icmp .gt 2248), (37, .aload_n 0), (38, .iload 5), (40, .iaload), (41, .bipush 63), (43, .iand), (44, .tableswitch 2232 0 35 #[160, 240, 308, 388, 456, 524, 604, 660, 716, 784, 852, 908, 976, 1044, 1100, 1168, 1224, 1308, 1399, 1467, 1523, 1579, 1635, 1648, 1661, 1719, 1763, 1776, 1832, 1888, 1944, 2010, 2075, 2131, 2175, 2188]), (204, .aload_n 1), (205, .aload_n 0), (206, .iload 5), (208, .iconst 1), (209, .iadd), (210, .iaload), (211, .aload_n 0), (212, .iload 5), (214, .iconst 2), (215, .iadd), (216, .iaload), (217, .aload_n 0)]
def am_c227_1 : List (Nat × Instr) := [(218, .iload 5), (220, .iconst 3), (221, .iadd), (222, .iaload), (223, .aload_n 3), (224, .invokestatic 131), (227, .istore 6), (229, .aload_n 2), (230, .aload_n 0), (231, .iload 5), (233, .iconst 1), (234, .iadd), (235, .iaload), (236, .aload_n 0), (237, .iload 5), (239, .iconst 2), (240, .iadd), (241, .iaload), (242, .aload_n 0), (243, .iload 5), (245, .iconst 3), (246, .iadd), (247, .iaload), (248, .invokevirtual 136), (251, .istore 7), (253, .aload_n 2), (254, .invokevirtual 137), (257, .iload 6), (259, .if_icmp .eq 5), (262, .iconst 0), (263, .ireturn), (264, .iload 6), (266, .ifCond .ne 15), (269, .aload_n 3), (270, .iconst 0), (271, .laload), (272, .iload 7), (274, .i2l), (275, .lcmp), (276, .ifCond .eq 5)]
def am_c227_2 : List (Nat × Instr) := [(279, .iconst 0), (280, .ireturn), (281, .goto 1995), (284, .aload_n 1), (285, .aload_n 0), (286, .iload 5), (288, .iconst 1), (289, .iadd), (290, .iaload), (291, .aload_n 0), (292, .iload 5), (294, .iconst 2), (295, .iadd), (296, .iaload), (297, .aload_n 3), (298, .invokestatic 140), (301, .istore 6), (303, .aload_n 2), (304, .aload_n 0), (305, .iload 5), (307, .iconst 1), (308, .iadd), (309, .iaload), (310, .aload_n 0), (311, .iload 5), (313, .iconst 2), (314, .iadd), (315, .iaload), (316, .invokevirtual 143), (319, .istore 7), (321, .aload_n 2), (322, .invokevirtual 137), (325, .iload 6), (327, .if_icmp .eq 5), (330, .iconst 0), (331, .ireturn), (332, .iload 6), (334, .ifCond .ne 15), (337, .aload_n 3), (338, .iconst 0)]
def am_c227_3 : List (Nat × Instr) := [(339, .laload), (340, .iload 7), (342, .i2l), (343, .lcmp), (344, .ifCond .eq 5), (347, .iconst 0), (348, .ireturn), (349, .goto 1927), (352, .aload_n 1), (353, .aload_n 0), (354, .iload 5), (356, .iconst 1), (357, .iadd), (358, .iaload), (359, .aload_n 0), (360, .iload 5), (362, .iconst 2), (363, .iadd), (364, .iaload), (365, .aload_n 0), (366, .iload 5), (368, .iconst 3), (369, .iadd), (370, .iaload), (371, .aload_n 3), (372, .invokestatic 144), (375, .istore 6), (377, .aload_n 2), (378, .aload_n 0), (379, .iload 5), (381, .iconst 1), (382, .iadd), (383, .iaload), (384, .aload_n 0), (385, .iload 5), (387, .iconst 2), (388, .iadd), (389, .iaload), (390, .aload_n 0), (391, .iload 5)]
def am_c227_4 : List (Nat × Instr) := [(393, .iconst 3), (394, .iadd), (395, .iaload), (396, .invokevirtual 146), (399, .istore 7), (401, .aload_n 2), (402, .invokevirtual 137), (405, .iload 6), (407, .if_icmp .eq 5), (410, .iconst 0), (411, .ireturn), (412, .iload 6), (414, .ifCond .ne 15), (417, .aload_n 3), (418, .iconst 0), (419, .laload), (420, .iload 7), (422, .i2l), (423, .lcmp), (424, .ifCond .eq 5), (427, .iconst 0), (428, .ireturn), (429, .goto 1847), (432, .aload_n 1), (433, .aload_n 0), (434, .iload 5), (436, .iconst 1), (437, .iadd), (438, .iaload), (439, .aload_n 0), (440, .iload 5), (442, .iconst 2), (443, .iadd), (444, .iaload), (445, .aload_n 3), (446, .invokestatic 147), (449, .istore 6), (451, .aload_n 2), (452, .aload_n 0), (453, .iload 5)]
def am_c227_5 : List (Nat × Instr) := [(455, .iconst 1), (456, .iadd), (457, .iaload), (458, .aload_n 0), (459, .iload 5), (461, .iconst 2), (462, .iadd), (463, .iaload), (464, .invokevirtual 149), (467, .istore 7), (469, .aload_n 2), (470, .invokevirtual 137), (473, .iload 6), (475, .if_icmp .eq 5), (478, .iconst 0), (479, .ireturn), (480, .iload 6), (482, .ifCond .ne 15), (485, .aload_n 3), (486, .iconst 0), (487, .laload), (488, .iload 7), (490, .i2l), (491, .lcmp), (492, .ifCond .eq 5), (495, .iconst 0), (496, .ireturn), (497, .goto 1779), (500, .aload_n 1), (501, .aload_n 0), (502, .iload 5), (504, .iconst 1), (505, .iadd), (506, .iaload), (507, .aload_n 0), (508, .iload 5), (510, .iconst 2), (511, .iadd), (512, .iaload), (513, .aload_n 3)]
def am_c227_6 : List (Nat × Instr) := [(514, .invokestatic 150), (517, .istore 6), (519, .aload_n 2), (520, .aload_n 0), (521, .iload 5), (523, .iconst 1), (524, .iadd), (525, .iaload), (526, .aload_n 0), (527, .iload 5), (529, .iconst 2), (530, .iadd), (531, .iaload), (532, .invokevirtual 152), (535, .istore 7), (537, .aload_n 2), (538, .invokevirtual 137), (541, .iload 6), (543, .if_icmp .eq 5), (546, .iconst 0), (547, .ireturn), (548, .iload 6), (550, .ifCond .ne 15), (553, .aload_n 3), (554, .iconst 0), (555, .laload), (556, .iload 7), (558, .i2l), (559, .lcmp), (560, .ifCond .eq 5), (563, .iconst 0), (564, .ireturn), (565, .goto 1711), (568, .aload_n 1), (569, .aload_n 0), (570, .iload 5), (572, .iconst 1), (573, .iadd), (574, .iaload), (575, .aload_n 0)]
def am_c227_7 : List (Nat × Instr) := [(576, .iload 5), (578, .iconst 2), (579, .iadd), (580, .iaload), (581, .aload_n 0), (582, .iload 5), (584, .iconst 3), (585, .iadd), (586, .iaload), (587, .aload_n 3), (588, .invokestatic 153), (591, .istore 6), (593, .aload_n 2), (594, .aload_n 0), (595, .iload 5), (597, .iconst 1), (598, .iadd), (599, .iaload), (600, .aload_n 0), (601, .iload 5), (603, .iconst 2), (604, .iadd), (605, .iaload), (606, .aload_n 0), (607, .iload 5), (609, .iconst 3), (610, .iadd), (611, .iaload), (612, .invokevirtual 155), (615, .istore 7), (617, .aload_n 2), (618, .invokevirtual 137), (621, .iload 6), (623, .if_icmp .eq 5), (626, .iconst 0), (627, .ireturn), (628, .iload 6), (630, .ifCond .ne 15), (633, .aload_n 3), (634, .iconst 0)]
def am_c227_8 : List (Nat × Instr) := [(635, .laload), (636, .iload 7), (638, .i2l), (639, .lcmp), (640, .ifCond .eq 5), (643, .iconst 0), (644, .ireturn), (645, .goto 1631), (648, .aload_n 1), (649, .aload_n 0), (650, .iload 5), (652, .iconst 1), (653, .iadd), (654, .iaload), (655, .aload_n 3), (656, .invokestatic 156), (659, .istore 6), (661, .aload_n 2), (662, .aload_n 0), (663, .iload 5), (665, .iconst 1), (666, .iadd), (667, .iaload), (668, .invokevirtual 159), (671, .istore 7), (673, .aload_n 2), (674, .invokevirtual 137), (677, .iload 6), (679, .if_icmp .eq 5), (682, .iconst 0), (683, .ireturn), (684, .iload 6), (686, .ifCond .ne 15), (689, .aload_n 3), (690, .iconst 0), (691, .laload), (692, .iload 7), (694, .i2l), (695, .lcmp), (696, .ifCond .eq 5)]
def am_c227_9 : List (Nat × Instr) := [(699, .iconst 0), (700, .ireturn), (701, .goto 1575), (704, .aload_n 1), (705, .aload_n 0), (706, .iload 5), (708, .iconst 1), (709, .iadd), (710, .iaload), (711, .aload_n 3), (712, .invokestatic 160), (715, .istore 6), (717, .aload_n 2), (718, .aload_n 0), (719, .iload 5), (721, .iconst 1), (722, .iadd), (723, .iaload), (724, .invokevirtual 162), (727, .istore 7), (729, .aload_n 2), (730, .invokevirtual 137), (733, .iload 6), (735, .if_icmp .eq 5), (738, .iconst 0), (739, .ireturn), (740, .iload 6), (742, .ifCond .ne 15), (745, .aload_n 3), (746, .iconst 0), (747, .laload), (748, .iload 7), (750, .i2l), (751, .lcmp), (752, .ifCond .eq 5), (755, .iconst 0), (756, .ireturn), (757, .goto 1519), (760, .aload_n 1), (761, .aload_n 0)]
def am_c227_10 : List (Nat × Instr) := [(762, .iload 5), (764, .iconst 1), (765, .iadd), (766, .iaload), (767, .aload_n 0), (768, .iload 5), (770, .iconst 2), (771, .iadd), (772, .iaload), (773, .aload_n 3), (774, .invokestatic 163), (777, .istore 6), (779, .aload_n 2), (780, .aload_n 0), (781, .iload 5), (783, .iconst 1), (784, .iadd), (785, .iaload), (786, .aload_n 0), (787, .iload 5), (789, .iconst 2), (790, .iadd), (791, .iaload), (792, .invokevirtual 165), (795, .istore 7), (797, .aload_n 2), (798, .invokevirtual 137), (801, .iload 6), (803, .if_icmp .eq 5), (806, .iconst 0), (807, .ireturn), (808, .iload 6), (810, .ifCond .ne 15), (813, .aload_n 3), (814, .iconst 0), (815, .laload), (816, .iload 7), (818, .i2l), (819, .lcmp), (820, .ifCond .eq 5)]
def am_c227_11 : List (Nat × Instr) := [(823, .iconst 0), (824, .ireturn), (825, .goto 1451), (828, .aload_n 1), (829, .aload_n 0), (830, .iload 5), (832, .iconst 1), (833, .iadd), (834, .iaload), (835, .aload_n 0), (836, .iload 5), (838, .iconst 2), (839, .iadd), (840, .iaload), (841, .aload_n 3), (842, .invokestatic 166), (845, .istore 6), (847, .aload_n 2), (848, .aload_n 0), (849, .iload 5), (851, .iconst 1), (852, .iadd), (853, .iaload), (854, .aload_n 0), (855, .iload 5), (857, .iconst 2), (858, .iadd), (859, .iaload), (860, .invokevirtual 168), (863, .istore 7), (865, .aload_n 2), (866, .invokevirtual 137), (869, .iload 6), (871, .if_icmp .eq 5), (874, .iconst 0), (875, .ireturn), (876, .iload 6), (878, .ifCond .ne 15), (881, .aload_n 3), (882, .iconst 0)]
def am_c227_12 : List (Nat × Instr) := [(883, .laload), (884, .iload 7), (886, .i2l), (887, .lcmp), (888, .ifCond .eq 5), (891, .iconst 0), (892, .ireturn), (893, .goto 1383), (896, .aload_n 1), (897, .aload_n 0), (898, .iload 5), (900, .iconst 1), (901, .iadd), (902, .iaload), (903, .aload_n 3), (904, .invokestatic 169), (907, .istore 6), (909, .aload_n 2), (910, .aload_n 0), (911, .iload 5), (913, .iconst 1), (914, .iadd), (915, .iaload), (916, .invokevirtual 171), (919, .istore 7), (921, .aload_n 2), (922, .invokevirtual 137), (925, .iload 6), (927, .if_icmp .eq 5), (930, .iconst 0), (931, .ireturn), (932, .iload 6), (934, .ifCond .ne 15), (937, .aload_n 3), (938, .iconst 0), (939, .laload), (940, .iload 7), (942, .i2l), (943, .lcmp), (944, .ifCond .eq 5)]
def am_c227_13 : List (Nat × Instr) := [(947, .iconst 0), (948, .ireturn), (949, .goto 1327), (952, .aload_n 1), (953, .aload_n 0), (954, .iload 5), (956, .iconst 1), (957, .iadd), (958, .iaload), (959, .aload_n 0), (960, .iload 5), (962, .iconst 2), (963, .iadd), (964, .iaload), (965, .aload_n 3), (966, .invokestatic 172), (969, .istore 6), (971, .aload_n 2), (972, .aload_n 0), (973, .iload 5), (975, .iconst 1), (976, .iadd), (977, .iaload), (978, .aload_n 0), (979, .iload 5), (981, .iconst 2), (982, .iadd), (983, .iaload), (984, .invokevirtual 174), (987, .istore 7), (989, .aload_n 2), (990, .invokevirtual 137), (993, .iload 6), (995, .if_icmp .eq 5), (998, .iconst 0), (999, .ireturn), (1000, .iload 6), (1002, .ifCond .ne 15), (1005, .aload_n 3), (1006, .iconst 0)]
def am_c227_14 : List (Nat × Instr) := [(1007, .laload), (1008, .iload 7), (1010, .i2l), (1011, .lcmp), (1012, .ifCond .eq 5), (1015, .iconst 0), (1016, .ireturn), (1017, .goto 1259), (1020, .aload_n 1), (1021, .aload_n 0), (1022, .iload 5), (1024, .iconst 1), (1025, .iadd), (1026, .iaload), (1027, .aload_n 0), (1028, .iload 5), (1030, .iconst 2), (1031, .iadd), (1032, .iaload), (1033, .aload_n 3), (1034, .invokestatic 175), (1037, .istore 6), (1039, .aload_n 2), (1040, .aload_n 0), (1041, .iload 5), (1043, .iconst 1), (1044, .iadd), (1045, .iaload), (1046, .aload_n 0), (1047, .iload 5), (1049, .iconst 2), (1050, .iadd), (1051, .iaload), (1052, .invokevirtual 177), (1055, .istore 7), (1057, .aload_n 2), (1058, .invokevirtual 137), (1061, .iload 6), (1063, .if_icmp .eq 5), (1066, .iconst 0)]
def am_c227_15 : List (Nat × Instr) := [(1067, .ireturn), (1068, .iload 6), (1070, .ifCond .ne 15), (1073, .aload_n 3), (1074, .iconst 0), (1075, .laload), (1076, .iload 7), (1078, .i2l), (1079, .lcmp), (1080, .ifCond .eq 5), (1083, .iconst 0), (1084, .ireturn), (1085, .goto 1191), (1088, .aload_n 1), (1089, .aload_n 0), (1090, .iload 5), (1092, .iconst 1), (1093, .iadd), (1094, .iaload), (1095, .aload_n 3), (1096, .invokestatic 178), (1099, .istore 6), (1101, .aload_n 2), (1102, .aload_n 0), (1103, .iload 5), (1105, .iconst 1), (1106, .iadd), (1107, .iaload), (1108, .invokevirtual 180), (1111, .istore 7), (1113, .aload_n 2), (1114, .invokevirtual 137), (1117, .iload 6), (1119, .if_icmp .eq 5), (1122, .iconst 0), (1123, .ireturn), (1124, .iload 6), (1126, .ifCond .ne 15), (1129, .aload_n 3), (1130, .iconst 0)]
def am_c227_16 : List (Nat × Instr) := [(1131, .laload), (1132, .iload 7), (1134, .i2l), (1135, .lcmp), (1136, .ifCond .eq 5), (1139, .iconst 0), (1140, .ireturn), (1141, .goto 1135), (1144, .aload_n 1), (1145, .aload_n 0), (1146, .iload 5), (1148, .iconst 1), (1149, .iadd), (1150, .iaload), (1151, .aload_n 0), (1152, .iload 5), (1154, .iconst 2), (1155, .iadd), (1156, .iaload), (1157, .aload_n 3), (1158, .invokestatic 181), (1161, .istore 6), (1163, .aload_n 2), (1164, .aload_n 0), (1165, .iload 5), (1167, .iconst 1), (1168, .iadd), (1169, .iaload), (1170, .aload_n 0), (1171, .iload 5), (1173, .iconst 2), (1174, .iadd), (1175, .iaload), (1176, .invokevirtual 183), (1179, .istore 7), (1181, .aload_n 2), (1182, .invokevirtual 137), (1185, .iload 6), (1187, .if_icmp .eq 5), (1190, .iconst 0)]
def am_c227_17 : List (Nat × Instr) := [(1191, .ireturn), (1192, .iload 6), (1194, .ifCond .ne 15), (1197, .aload_n 3), (1198, .iconst 0), (1199, .laload), (1200, .iload 7), (1202, .i2l), (1203, .lcmp), (1204, .ifCond .eq 5), (1207, .iconst 0), (1208, .ireturn), (1209, .goto 1067), (1212, .aload_n 1), (1213, .aload_n 0), (1214, .iload 5), (1216, .iconst 1), (1217, .iadd), (1218, .iaload), (1219, .aload_n 3), (1220, .invokestatic 184), (1223, .istore 6), (1225, .aload_n 2), (1226, .aload_n 0), (1227, .iload 5), (1229, .iconst 1), (1230, .iadd), (1231, .iaload), (1232, .invokevirtual 186), (1235, .istore 7), (1237, .aload_n 2), (1238, .invokevirtual 137), (1241, .iload 6), (1243, .if_icmp .eq 5), (1246, .iconst 0), (1247, .ireturn), (1248, .iload 6), (1250, .ifCond .ne 15), (1253, .aload_n 3), (1254, .iconst 0)]
def am_c227_18 : List (Nat × Instr) := [(1255, .laload), (1256, .iload 7), (1258, .i2l), (1259, .lcmp), (1260, .ifCond .eq 5), (1263, .iconst 0), (1264, .ireturn), (1265, .goto 1011), (1268, .aload_n 1), (1269, .aload_n 0), (1270, .iload 5), (1272, .iconst 1), (1273, .iadd), (1274, .iaload), (1275, .aload_n 0), (1276, .iload 5), (1278, .iconst 2), (1279, .iadd), (1280, .iaload), (1281, .ifCond .eq 7), (1284, .iconst 1), (1285, .goto 4), (1288, .iconst 0), (1289, .aload_n 3), (1290, .invokestatic 187), (1293, .istore 6), (1295, .aload_n 2), (1296, .aload_n 0), (1297, .iload 5), (1299, .iconst 1), (1300, .iadd), (1301, .iaload), (1302, .aload_n 0), (1303, .iload 5), (1305, .iconst 2), (1306, .iadd), (1307, .iaload), (1308, .ifCond .eq 7), (1311, .iconst 1), (1312, .goto 4)]
def am_c227_19 : List (Nat × Instr) := [(1315, .iconst 0), (1316, .invokevirtual 190), (1319, .istore 7), (1321, .aload_n 2), (1322, .invokevirtual 137), (1325, .iload 6), (1327, .if_icmp .eq 5), (1330, .iconst 0), (1331, .ireturn), (1332, .iload 6), (1334, .ifCond .ne 15), (1337, .aload_n 3), (1338, .iconst 0), (1339, .laload), (1340, .iload 7), (1342, .i2l), (1343, .lcmp), (1344, .ifCond .eq 5), (1347, .iconst 0), (1348, .ireturn), (1349, .goto 927), (1352, .aload_n 1), (1353, .aload_n 0), (1354, .iload 5), (1356, .iconst 1), (1357, .iadd), (1358, .iaload), (1359, .aload_n 0), (1360, .iload 5), (1362, .iconst 2), (1363, .iadd), (1364, .iaload), (1365, .ifCond .eq 7), (1368, .iconst 1), (1369, .goto 4), (1372, .iconst 0), (1373, .aload_n 3), (1374, .invokestatic 191), (1377, .istore 6), (1379, .aload_n 2)]
def am_c227_20 : List (Nat × Instr) := [(1380, .aload_n 0), (1381, .iload 5), (1383, .iconst 1), (1384, .iadd), (1385, .iaload), (1386, .aload_n 0), (1387, .iload 5), (1389, .iconst 2), (1390, .iadd), (1391, .iaload), (1392, .ifCond .eq 7), (1395, .iconst 1), (1396, .goto 4), (1399, .iconst 0), (1400, .invokevirtual 193), (1403, .istore 7), (1405, .aload_n 2), (1406, .invokevirtual 137), (1409, .iload 6), (1411, .if_icmp .eq 5), (1414, .iconst 0), (1415, .ireturn), (1416, .iload 6), (1418, .ifCond .ne 22), (1421, .aload_n 3), (1422, .iconst 0), (1423, .laload), (1424, .iload 7), (1426, .ifCond .eq 7), (1429, .lconst 1), (1430, .goto 4), (1433, .lconst 0), (1434, .lcmp), (1435, .ifCond .eq 5), (1438, .iconst 0), (1439, .ireturn), (1440, .goto 836), (1443, .aload_n 1), (1444, .aload_n 0), (1445, .iload 5)]
def am_c227_21 : List (Nat × Instr) := [(1447, .iconst 1), (1448, .iadd), (1449, .iaload), (1450, .aload_n 0), (1451, .iload 5), (1453, .iconst 2), (1454, .iadd), (1455, .iaload), (1456, .aload_n 3), (1457, .invokestatic 194), (1460, .istore 6), (1462, .aload_n 2), (1463, .aload_n 0), (1464, .iload 5), (1466, .iconst 1), (1467, .iadd), (1468, .iaload), (1469, .aload_n 0), (1470, .iload 5), (1472, .iconst 2), (1473, .iadd), (1474, .iaload), (1475, .invokevirtual 196), (1478, .istore 7), (1480, .aload_n 2), (1481, .invokevirtual 137), (1484, .iload 6), (1486, .if_icmp .eq 5), (1489, .iconst 0), (1490, .ireturn), (1491, .iload 6), (1493, .ifCond .ne 15), (1496, .aload_n 3), (1497, .iconst 0), (1498, .laload), (1499, .iload 7), (1501, .i2l), (1502, .lcmp), (1503, .ifCond .eq 5), (1506, .iconst 0)]
def am_c227_22 : List (Nat × Instr) := [(1507, .ireturn), (1508, .goto 768), (1511, .aload_n 1), (1512, .aload_n 0), (1513, .iload 5), (1515, .iconst 1), (1516, .iadd), (1517, .iaload), (1518, .aload_n 3), (1519, .invokestatic 197), (1522, .istore 6), (1524, .aload_n 2), (1525, .aload_n 0), (1526, .iload 5), (1528, .iconst 1), (1529, .iadd), (1530, .iaload), (1531, .invokevirtual 199), (1534, .istore 7), (1536, .aload_n 2), (1537, .invokevirtual 137), (1540, .iload 6), (1542, .if_icmp .eq 5), (1545, .iconst 0), (1546, .ireturn), (1547, .iload 6), (1549, .ifCond .ne 15), (1552, .aload_n 3), (1553, .iconst 0), (1554, .laload), (1555, .iload 7), (1557, .i2l), (1558, .lcmp), (1559, .ifCond .eq 5), (1562, .iconst 0), (1563, .ireturn), (1564, .goto 712), (1567, .aload_n 1), (1568, .aload_n 0), (1569, .iload 5)]
def am_c227_23 : List (Nat × Instr) := [(1571, .iconst 1), (1572, .iadd), (1573, .iaload), (1574, .aload_n 3), (1575, .invokestatic 200), (1578, .istore 6), (1580, .aload_n 2), (1581, .aload_n 0), (1582, .iload 5), (1584, .iconst 1), (1585, .iadd), (1586, .iaload), (1587, .invokevirtual 202), (1590, .istore 7), (1592, .aload_n 2), (1593, .invokevirtual 137), (1596, .iload 6), (1598, .if_icmp .eq 5), (1601, .iconst 0), (1602, .ireturn), (1603, .iload 6), (1605, .ifCond .ne 15), (1608, .aload_n 3), (1609, .iconst 0), (1610, .laload), (1611, .iload 7), (1613, .i2l), (1614, .lcmp), (1615, .ifCond .eq 5), (1618, .iconst 0), (1619, .ireturn), (1620, .goto 656), (1623, .aload_n 1), (1624, .aload_n 0), (1625, .iload 5), (1627, .iconst 1), (1628, .iadd), (1629, .iaload), (1630, .aload_n 3), (1631, .invokestatic 203)]
def am_c227_24 : List (Nat × Instr) := [(1634, .istore 6), (1636, .aload_n 2), (1637, .aload_n 0), (1638, .iload 5), (1640, .iconst 1), (1641, .iadd), (1642, .iaload), (1643, .invokevirtual 205), (1646, .istore 7), (1648, .aload_n 2), (1649, .invokevirtual 137), (1652, .iload 6), (1654, .if_icmp .eq 5), (1657, .iconst 0), (1658, .ireturn), (1659, .iload 6), (1661, .ifCond .ne 15), (1664, .aload_n 3), (1665, .iconst 0), (1666, .laload), (1667, .iload 7), (1669, .i2l), (1670, .lcmp), (1671, .ifCond .eq 5), (1674, .iconst 0), (1675, .ireturn), (1676, .goto 600), (1679, .aload_n 1), (1680, .invokevirtual 206), (1683, .aload_n 2), (1684, .invokevirtual 209), (1687, .if_icmp .eq 589), (1690, .iconst 0), (1691, .ireturn), (1692, .aload_n 1), (1693, .invokevirtual 210), (1696, .aload_n 2), (1697, .invokevirtual 213), (1700, .if_icmp .eq 576), (1703, .iconst 0)]
def am_c227_25 : List (Nat × Instr) := [(1704, .ireturn), (1705, .aload_n 1), (1706, .aload_n 0), (1707, .iload 5), (1709, .iconst 1), (1710, .iadd), (1711, .iaload), (1712, .i2c), (1713, .aload_n 3), (1714, .invokestatic 214), (1717, .istore 6), (1719, .aload_n 2), (1720, .aload_n 0), (1721, .iload 5), (1723, .iconst 1), (1724, .iadd), (1725, .iaload), (1726, .i2c), (1727, .invokevirtual 217), (1730, .istore 7), (1732, .aload_n 2), (1733, .invokevirtual 137), (1736, .iload 6), (1738, .if_icmp .eq 5), (1741, .iconst 0), (1742, .ireturn), (1743, .iload 6), (1745, .ifCond .ne 15), (1748, .aload_n 3), (1749, .iconst 0), (1750, .laload), (1751, .iload 7), (1753, .i2l), (1754, .lcmp), (1755, .ifCond .eq 5), (1758, .iconst 0), (1759, .ireturn), (1760, .goto 516), (1763, .aload_n 1), (1764, .aload_n 3)]
def am_c227_26 : List (Nat × Instr) := [(1765, .invokestatic 218), (1768, .istore 6), (1770, .aload_n 2), (1771, .invokevirtual 221), (1774, .istore 7), (1776, .aload_n 2), (1777, .invokevirtual 137), (1780, .iload 6), (1782, .if_icmp .eq 5), (1785, .iconst 0), (1786, .ireturn), (1787, .iload 6), (1789, .ifCond .ne 15), (1792, .aload_n 3), (1793, .iconst 0), (1794, .laload), (1795, .iload 7), (1797, .i2l), (1798, .lcmp), (1799, .ifCond .eq 5), (1802, .iconst 0), (1803, .ireturn), (1804, .goto 472), (1807, .aload_n 1), (1808, .invokevirtual 222), (1811, .aload_n 2), (1812, .invokevirtual 225), (1815, .if_icmp .eq 461), (1818, .iconst 0), (1819, .ireturn), (1820, .aload_n 1), (1821, .aload_n 0), (1822, .iload 5), (1824, .iconst 1), (1825, .iadd), (1826, .iaload), (1827, .aload_n 3), (1828, .invokestatic 226), (1831, .istore 6), (1833, .aload_n 2)]
def am_c227_27 : List (Nat × Instr) := [(1834, .aload_n 0), (1835, .iload 5), (1837, .iconst 1), (1838, .iadd), (1839, .iaload), (1840, .invokevirtual 228), (1843, .istore 7), (1845, .aload_n 2), (1846, .invokevirtual 137), (1849, .iload 6), (1851, .if_icmp .eq 5), (1854, .iconst 0), (1855, .ireturn), (1856, .iload 6), (1858, .ifCond .ne 15), (1861, .aload_n 3), (1862, .iconst 0), (1863, .laload), (1864, .iload 7), (1866, .i2l), (1867, .lcmp), (1868, .ifCond .eq 5), (1871, .iconst 0), (1872, .ireturn), (1873, .goto 403), (1876, .aload_n 1), (1877, .aload_n 0), (1878, .iload 5), (1880, .iconst 1), (1881, .iadd), (1882, .iaload), (1883, .aload_n 3), (1884, .invokestatic 229), (1887, .istore 6), (1889, .aload_n 2), (1890, .aload_n 0), (1891, .iload 5), (1893, .iconst 1), (1894, .iadd), (1895, .iaload)]
def am_c227_28 : List (Nat × Instr) := [(1896, .invokevirtual 231), (1899, .istore 7), (1901, .aload_n 2), (1902, .invokevirtual 137), (1905, .iload 6), (1907, .if_icmp .eq 5), (1910, .iconst 0), (1911, .ireturn), (1912, .iload 6), (1914, .ifCond .ne 15), (1917, .aload_n 3), (1918, .iconst 0), (1919, .laload), (1920, .iload 7), (1922, .i2l), (1923, .lcmp), (1924, .ifCond .eq 5), (1927, .iconst 0), (1928, .ireturn), (1929, .goto 347), (1932, .aload_n 1), (1933, .aload_n 0), (1934, .iload 5), (1936, .iconst 1), (1937, .iadd), (1938, .iaload), (1939, .aload_n 3), (1940, .invokestatic 232), (1943, .istore 6), (1945, .aload_n 2), (1946, .aload_n 0), (1947, .iload 5), (1949, .iconst 1), (1950, .iadd), (1951, .iaload), (1952, .invokevirtual 234), (1955, .istore 7), (1957, .aload_n 2), (1958, .invokevirtual 137), (1961, .iload 6)]
def am_c227_29 : List (Nat × Instr) := [(1963, .if_icmp .eq 5), (1966, .iconst 0), (1967, .ireturn), (1968, .iload 6), (1970, .ifCond .ne 15), (1973, .aload_n 3), (1974, .iconst 0), (1975, .laload), (1976, .iload 7), (1978, .i2l), (1979, .lcmp), (1980, .ifCond .eq 5), (1983, .iconst 0), (1984, .ireturn), (1985, .goto 291), (1988, .aload_n 1), (1989, .aload 4), (1991, .invokestatic 235), (1994, .istore 6), (1996, .aload_n 2), (1997, .invokevirtual 238), (2000, .fstore 7), (2002, .aload_n 2), (2003, .invokevirtual 137), (2006, .iload 6), (2008, .if_icmp .eq 5), (2011, .iconst 0), (2012, .ireturn), (2013, .iload 6), (2015, .ifCond .ne 36), (2018, .aload 4), (2020, .iconst 0), (2021, .daload), (2022, .fload 7), (2024, .f2d), (2025, .dcmp .l), (2026, .ifCond .eq 25), (2029, .aload 4), (2031, .iconst 0), (2032, .daload)]
def am_c227_30 : List (Nat × Instr) := [(2033, .aload 4), (2035, .iconst 0), (2036, .daload), (2037, .dcmp .l), (2038, .ifCond .eq 11), (2041, .fload 7), (2043, .fload 7), (2045, .fcmp .l), (2046, .ifCond .ne 5), (2049, .iconst 0), (2050, .ireturn), (2051, .goto 225), (2054, .aload_n 1), (2055, .aload 4), (2057, .invokestatic 239), (2060, .istore 6), (2062, .aload_n 2), (2063, .invokevirtual 241), (2066, .dstore 7), (2068, .aload_n 2), (2069, .invokevirtual 137), (2072, .iload 6), (2074, .if_icmp .eq 5), (2077, .iconst 0), (2078, .ireturn), (2079, .iload 6), (2081, .ifCond .ne 35), (2084, .aload 4), (2086, .iconst 0), (2087, .daload), (2088, .dload 7), (2090, .dcmp .l), (2091, .ifCond .eq 25), (2094, .aload 4), (2096, .iconst 0), (2097, .daload), (2098, .aload 4), (2100, .iconst 0), (2101, .daload), (2102, .dcmp .l)]
def am_c227_31 : List (Nat × Instr) := [(2103, .ifCond .eq 11), (2106, .dload 7), (2108, .dload 7), (2110, .dcmp .l), (2111, .ifCond .ne 5), (2114, .iconst 0), (2115, .ireturn), (2116, .goto 160), (2119, .aload_n 1), (2120, .aload_n 0), (2121, .iload 5), (2123, .iconst 1), (2124, .iadd), (2125, .iaload), (2126, .aload_n 3), (2127, .invokestatic 242), (2130, .istore 6), (2132, .aload_n 2), (2133, .aload_n 0), (2134, .iload 5), (2136, .iconst 1), (2137, .iadd), (2138, .iaload), (2139, .invokevirtual 244), (2142, .istore 7), (2144, .aload_n 2), (2145, .invokevirtual 137), (2148, .iload 6), (2150, .if_icmp .eq 5), (2153, .iconst 0), (2154, .ireturn), (2155, .iload 6), (2157, .ifCond .ne 15), (2160, .aload_n 3), (2161, .iconst 0), (2162, .laload), (2163, .iload 7), (2165, .i2l), (2166, .lcmp), (2167, .ifCond .eq 5)]
def am_c227_32 : List (Nat × Instr) := [(2170, .iconst 0), (2171, .ireturn), (2172, .goto 104), (2175, .aload_n 1), (2176, .aload_n 3), (2177, .invokestatic 245), (2180, .istore 6), (2182, .aload_n 2), (2183, .invokevirtual 247), (2186, .istore 7), (2188, .aload_n 2), (2189, .invokevirtual 137), (2192, .iload 6), (2194, .if_icmp .eq 5), (2197, .iconst 0), (2198, .ireturn), (2199, .iload 6), (2201, .ifCond .ne 15), (2204, .aload_n 3), (2205, .iconst 0), (2206, .laload), (2207, .iload 7), (2209, .i2l), (2210, .lcmp), (2211, .ifCond .eq 5), (2214, .iconst 0), (2215, .ireturn), (2216, .goto 60), (2219, .aload_n 1), (2220, .invokevirtual 248), (2223, .aload_n 2), (2224, .invokevirtual 251), (2227, .if_icmp .eq 49), (2230, .iconst 0), (2231, .ireturn), (2232, .aload_n 1), (2233, .aload_n 3), (2234, .invokestatic 252), (2237, .istore 6), (2239, .aload_n 2)]
def am_c227_33 : List (Nat × Instr) := [(2240, .invokevirtual 254), (2243, .istore 7), (2245, .aload_n 2), (2246, .invokevirtual 137), (2249, .iload 6), (2251, .if_icmp .eq 5), (2254, .iconst 0), (2255, .ireturn), (2256, .iload 6), (2258, .ifCond .ne 15), (2261, .aload_n 3), (2262, .iconst 0), (2263, .laload), (2264, .iload 7), (2266, .i2l), (2267, .lcmp), (2268, .ifCond .eq 5), (2271, .iconst 0), (2272, .ireturn), (2273, .goto 3), (2276, .iinc 5 4), (2279, .goto (-2251)), (2282, .iconst 1), (2283, .ireturn)]
def am_c227 : List (Nat × Instr) := am_c227_0 ++ (am_c227_1 ++ (am_c227_2 ++ (am_c227_3 ++ (am_c227_4 ++ (am_c227_5 ++ (am_c227_6 ++ (am_c227_7 ++ (am_c227_8 ++ (am_c227_9 ++ (am_c227_10 ++ (am_c227_11 ++ (am_c227_12 ++ (am_c227_13 ++ (am_c227_14 ++ (am_c227_15 ++ (am_c227_16 ++ (am_c227_17 ++ (am_c227_18 ++ (am_c227_19 ++ (am_c227_20 ++ (am_c227_21 ++ (am_c227_22 ++ (am_c227_23 ++ (am_c227_24 ++ (am_c227_25 ++ (am_c227_26 ++ (am_c227_27 ++ (am_c227_28 ++ (am_c227_29 ++ (am_c227_30 ++ (am_c227_31 ++ (am_c227_32 ++ (am_c227_33)))))))))))))))))))))))))))))))))
def am_code : Nat → List (Nat × Instr) := fun k => match k with
  | 0 => am_c0
  | 1 => am_c1
  | 2 => am_c2
  | 3 => am_c3
  | 4 => am_c4
  | 5 => am_c5
  | 6 => am_c6
  | 7 => am_c7
  | 8 => am_c8
  | 9 => am_c9
  | 10 => am_c10
  | 11 => am_c11
  | 12 => am_c12
  | 13 => am_c13
  | 14 => am_c14
  | 15 => am_c15
  | 16 => am_c16
  | 17 => am_c17
  | 18 => am_c18
  | 19 => am_c19
  | 20 => am_c20
  | 21 => am_c21
  | 22 => am_c22
  | 23 => am_c23
  | 24 => am_c24
  | 25 => am_c25
  | 26 => am_c26
  | 27 => am_c27
  | 28 => am_c28
  | 29 => am_c29
  | 30 => am_c30
  | 31 => am_c31
  | 32 => am_c32
  | 33 => am_c33
  | 34 => am_c34
  | 35 => am_c35
  | 36 => am_c36
  | 37 => am_c37
  | 38 => am_c38
  | 39 => am_c39
  | 40 => am_c40
  | 41 => am_c41
  | 42 => am_c42
  | 43 => am_c43
  | 44 => am_c44
  | 45 => am_c45
  | 46 => am_c46
  | 47 => am_c47
  | 48 => am_c48
  | 49 => am_c49
  | 50 => am_c50
  | 51 => am_c51
  | 52 => am_c52
  | 53 => am_c53
  | 54 => am_c54
  | 55 => am_c55
  | 56 => am_c56
  | 57 => am_c57
  | 58 => am_c58
  | 59 => am_c59
  | 60 => am_c60
  | 61 => am_c61
  | 62 => am_c62
  | 63 => am_c63
  | 64 => am_c64
  | 65 => am_c65
  | 66 => am_c66
  | 67 => am_c67
  | 68 => am_c68
  | 69 => am_c69
  | 70 => am_c70
  | 71 => am_c71
  | 72 => am_c72
  | 73 => am_c73
  | 74 => am_c74
  | 75 => am_c75
  | 76 => am_c76
  | 77 => am_c77
  | 78 => am_c78
  | 79 => am_c79
  | 80 => am_c80
  | 81 => am_c81
  | 82 => am_c82
  | 83 => am_c83
  | 84 => am_c84
  | 85 => am_c85
  | 86 => am_c86
  | 87 => am_c87
  | 88 => am_c88
  | 89 => am_c89
  | 90 => am_c90
  | 91 => am_c91
  | 92 => am_c92
  | 93 => am_c93
  | 94 => am_c94
  | 95 => am_c95
  | 96 => am_c96
  | 97 => am_c97
  | 98 => am_c98
  | 99 => am_c99
  | 100 => am_c100
  | 101 => am_c101
  | 102 => am_c102
  | 103 => am_c103
  | 104 => am_c104
  | 105 => am_c105
  | 106 => am_c106
  | 107 => am_c107
  | 108 => am_c108
  | 109 => am_c109
  | 110 => am_c110
  | 111 => am_c111
  | 112 => am_c112
  | 113 => am_c113
  | 114 => am_c114
  | 115 => am_c115
  | 116 => am_c116
  | 117 => am_c117
  | 118 => am_c118
  | 119 => am_c119
  | 120 => am_c120
  | 121 => am_c121
  | 122 => am_c122
  | 123 => am_c123
  | 124 => am_c124
  | 125 => am_c125
  | 126 => am_c126
  | 127 => am_c127
  | 128 => am_c128
  | 129 => am_c129
  | 130 => am_c130
  | 131 => am_c131
  | 132 => am_c132
  | 133 => am_c133
  | 134 => am_c134
  | 135 => am_c135
  | 136 => am_c136
  | 137 => am_c137
  | 138 => am_c138
  | 139 => am_c139
  | 140 => am_c140
  | 141 => am_c141
  | 142 => am_c142
  | 143 => am_c143
  | 144 => am_c144
  | 145 => am_c145
  | 146 => am_c146
  | 147 => am_c147
  | 148 => am_c148
  | 149 => am_c149
  | 150 => am_c150
  | 151 => am_c151
  | 152 => am_c152
  | 153 => am_c153
  | 154 => am_c154
  | 155 => am_c155
  | 156 => am_c156
  | 157 => am_c157
  | 158 => am_c158
  | 159 => am_c159
  | 160 => am_c160
  | 161 => am_c161
  | 162 => am_c162
  | 163 => am_c163
  | 164 => am_c164
  | 165 => am_c165
  | 166 => am_c166
  | 167 => am_c167
  | 168 => am_c168
  | 169 => am_c169
  | 170 => am_c170
  | 171 => am_c171
  | 172 => am_c172
  | 173 => am_c173
  | 174 => am_c174
  | 175 => am_c175
  | 176 => am_c176
  | 177 => am_c177
  | 178 => am_c178
  | 179 => am_c179
  | 180 => am_c180
  | 181 => am_c181
  | 182 => am_c182
  | 183 => am_c183
  | 184 => am_c184
  | 185 => am_c185
  | 186 => am_c186
  | 187 => am_c187
  | 188 => am_c188
  | 189 => am_c189
  | 190 => am_c190
  | 191 => am_c191
  | 192 => am_c192
  | 193 => am_c193
  | 194 => am_c194
  | 195 => am_c195
  | 196 => am_c196
  | 197 => am_c197
  | 198 => am_c198
  | 199 => am_c199
  | 200 => am_c200
  | 201 => am_c201
  | 202 => am_c202
  | 203 => am_c203
  | 204 => am_c204
  | 205 => am_c205
  | 206 => am_c206
  | 207 => am_c207
  | 208 => am_c208
  | 209 => am_c209
  | 210 => am_c210
  | 211 => am_c211
  | 212 => am_c212
  | 213 => am_c213
  | 214 => am_c214
  | 215 => am_c215
  | 216 => am_c216
  | 217 => am_c217
  | 218 => am_c218
  | 219 => am_c219
  | 220 => am_c220
  | 221 => am_c221
  | 222 => am_c222
  | 223 => am_c223
  | 224 => am_c224
  | 225 => am_c225
  | 226 => am_c226
  | 227 => am_c227
  | _ => []
def am_own : Nat → Nat := fun k => match k with
  | 0 => 0
  | 1 => 0
  | 2 => 1
  | 3 => 1
  | 4 => 1
  | 5 => 1
  | 6 => 1
  | 7 => 1
  | 8 => 1
  | 9 => 1
  | 10 => 1
  | 11 => 1
  | 12 => 1
  | 13 => 1
  | 14 => 1
  | 15 => 2
  | 16 => 2
  | 17 => 2
  | 18 => 2
  | 19 => 2
  | 20 => 2
  | 21 => 3
  | 22 => 3
  | 23 => 3
  | 24 => 3
  | 25 => 4
  | 26 => 4
  | 27 => 4
  | 28 => 4
  | 29 => 4
  | 30 => 4
  | 31 => 4
  | 32 => 4
  | 33 => 5
  | 34 => 5
  | 35 => 5
  | 36 => 5
  | 37 => 5
  | 38 => 5
  | 39 => 5
  | 40 => 5
  | 41 => 5
  | 42 => 5
  | 43 => 5
  | 44 => 5
  | 45 => 5
  | 46 => 5
  | 47 => 5
  | 48 => 5
  | 49 => 5
  | 50 => 5
  | 51 => 5
  | 52 => 5
  | 53 => 5
  | 54 => 5
  | 55 => 5
  | 56 => 5
  | 57 => 5
  | 58 => 5
  | 59 => 5
  | 60 => 5
  | 61 => 5
  | 62 => 6
  | 63 => 6
  | 64 => 7
  | 65 => 8
  | 66 => 8
  | 67 => 8
  | 68 => 8
  | 69 => 8
  | 70 => 8
  | 71 => 8
  | 72 => 8
  | 73 => 8
  | 74 => 8
  | 75 => 8
  | 76 => 8
  | 77 => 8
  | 78 => 8
  | 79 => 8
  | 80 => 8
  | 81 => 8
  | 82 => 8
  | 83 => 8
  | 84 => 8
  | 85 => 8
  | 86 => 8
  | 87 => 8
  | 88 => 8
  | 89 => 8
  | 90 => 8
  | 91 => 8
  | 92 => 8
  | 93 => 8
  | 94 => 8
  | 95 => 8
  | 96 => 8
  | 97 => 8
  | 98 => 8
  | 99 => 8
  | 100 => 8
  | 101 => 8
  | 102 => 8
  | 103 => 8
  | 104 => 8
  | 105 => 8
  | 106 => 8
  | 107 => 8
  | 108 => 8
  | 109 => 8
  | 110 => 8
  | 111 => 8
  | 112 => 8
  | 113 => 9
  | 114 => 9
  | 115 => 9
  | 116 => 9
  | 117 => 9
  | 118 => 9
  | 119 => 9
  | 120 => 9
  | 121 => 9
  | 122 => 9
  | 123 => 9
  | 124 => 9
  | 125 => 9
  | 126 => 9
  | 127 => 9
  | 128 => 9
  | 129 => 9
  | 130 => 9
  | 131 => 9
  | 132 => 9
  | 133 => 9
  | 134 => 9
  | 135 => 9
  | 136 => 9
  | 137 => 9
  | 138 => 9
  | 139 => 9
  | 140 => 9
  | 141 => 9
  | 142 => 9
  | 143 => 9
  | 144 => 9
  | 145 => 9
  | 146 => 9
  | 147 => 9
  | 148 => 9
  | 149 => 9
  | 150 => 9
  | 151 => 9
  | 152 => 9
  | 153 => 9
  | 154 => 9
  | 155 => 9
  | 156 => 9
  | 157 => 9
  | 158 => 9
  | 159 => 9
  | 160 => 9
  | 161 => 9
  | 162 => 9
  | 163 => 9
  | 164 => 9
  | 165 => 9
  | 166 => 9
  | 167 => 9
  | 168 => 9
  | 169 => 9
  | 170 => 9
  | 171 => 9
  | 172 => 9
  | 173 => 9
  | 174 => 9
  | 175 => 9
  | 176 => 9
  | 177 => 9
  | 178 => 9
  | 179 => 9
  | 180 => 9
  | 181 => 9
  | 182 => 9
  | 183 => 9
  | 184 => 9
  | 185 => 9
  | 186 => 9
  | 187 => 9
  | 188 => 9
  | 189 => 9
  | 190 => 9
  | 191 => 9
  | 192 => 9
  | 193 => 9
  | 194 => 9
  | 195 => 10
  | 196 => 10
  | 197 => 10
  | 198 => 10
  | 199 => 10
  | 200 => 10
  | 201 => 10
  | 202 => 10
  | 203 => 10
  | 204 => 10
  | 205 => 10
  | 206 => 10
  | 207 => 10
  | 208 => 10
  | 209 => 10
  | 210 => 10
  | 211 => 10
  | 212 => 10
  | 213 => 10
  | 214 => 10
  | 215 => 10
  | 216 => 10
  | 217 => 10
  | 218 => 10
  | 219 => 10
  | 220 => 10
  | 221 => 10
  | 222 => 10
  | 223 => 10
  | 224 => 10
  | 225 => 10
  | 226 => 10
  | 227 => 10
  | _ => 10
def am_y : Nat → MethodName := fun k => match k with
  | 0 => yX0_init
  | 1 => yX0_set
  | 2 => yX1_init
  | 3 => yX1_add
  | 4 => yX1_read
  | 5 => yX1_readCommand
  | 6 => yX1_readSend
  | 7 => yX1_readOneNumber
  | 8 => yX1_readSilence
  | 9 => yX1_readSetting
  | 10 => yX1_nextCharacter
  | 11 => yX1_readCharacter
  | 12 => yX1_readDigit
  | 13 => yX1_readNumber
  | 14 => yX1_readSigns
  | 15 => yX2_init
  | 16 => yX2_begin
  | 17 => yX2_takeFrom
  | 18 => yX2_isSilentAt
  | 19 => yX2_join
  | 20 => yX2_leave
  | 21 => yX3_init
  | 22 => yX3_spare
  | 23 => yX3_keepSpare
  | 24 => yX3_takeLatest
  | 25 => yX4_init
  | 26 => yX4_begin
  | 27 => yX4_takeFrom
  | 28 => yX4_makeDue
  | 29 => yX4_isRungOut
  | 30 => yX4_dueSign
  | 31 => yX4_nextConvent
  | 32 => yX4_lostSigns
  | 33 => yX5_init
  | 34 => yX5_takeFrom
  | 35 => yX5_hasConvent
  | 36 => yX5_hasRidge
  | 37 => yX5_hasMessage
  | 38 => yX5_hourOfDay
  | 39 => yX5_carryOut
  | 40 => yX5_addConvent
  | 41 => yX5_givePsalm
  | 42 => yX5_setSilence
  | 43 => yX5_setWind
  | 44 => yX5_setEar
  | 45 => yX5_addMessage
  | 46 => yX5_spell
  | 47 => yX5_dropMessage
  | 48 => yX5_passHours
  | 49 => yX5_passHour
  | 50 => yX5_ring
  | 51 => yX5_moveOn
  | 52 => yX5_arrive
  | 53 => yX5_beginNextHour
  | 54 => yX5_strengthBetween
  | 55 => yX5_isHeardBetween
  | 56 => yX5_countAheadInRank
  | 57 => yX5_isAheadInRank
  | 58 => yX5_countSignsWithPsalm
  | 59 => yX5_countMessages
  | 60 => yX5_countHoursRung
  | 61 => yX5_countSilentConvents
  | 62 => yX6_init
  | 63 => yX6_because
  | 64 => yX7_init
  | 65 => yX8_init
  | 66 => yX8_convent
  | 67 => yX8_code
  | 68 => yX8_silence
  | 69 => yX8_wind
  | 70 => yX8_ear
  | 71 => yX8_send
  | 72 => yX8_drop
  | 73 => yX8_hours
  | 74 => yX8_changeBySingle
  | 75 => yX8_conventOf
  | 76 => yX8_ridgeOf
  | 77 => yX8_psalm
  | 78 => yX8_strength
  | 79 => yX8_hears
  | 80 => yX8_windIn
  | 81 => yX8_meanEar
  | 82 => yX8_askedConvent
  | 83 => yX8_askedRidge
  | 84 => yX8_askedNeighbour
  | 85 => yX8_messageOf
  | 86 => yX8_sign
  | 87 => yX8_signs
  | 88 => yX8_waiting
  | 89 => yX8_arrived
  | 90 => yX8_arrivesIn
  | 91 => yX8_wouldLose
  | 92 => yX8_hoursUntilArrived
  | 93 => yX8_askedMessage
  | 94 => yX8_ranked
  | 95 => yX8_lost
  | 96 => yX8_lostAgain
  | 97 => yX8_lostShare
  | 98 => yX8_append
  | 99 => yX8_commands
  | 100 => yX8_faultPosition
  | 101 => yX8_reason
  | 102 => yX8_line
  | 103 => yX8_writeDigit
  | 104 => yX8_write
  | 105 => yX8_character
  | 106 => yX8_account
  | 107 => yX8_undo
  | 108 => yX8_save
  | 109 => yX8_restore
  | 110 => yX8_isDigit
  | 111 => yX8_isHourOfDay
  | 112 => yX8_turnedWind
  | 113 => yX9_init
  | 114 => yX9_thrown
  | 115 => yX9_raises
  | 116 => yX9_in
  | 117 => yX9_tries
  | 118 => yX9_comesBack
  | 119 => yX9_thinks
  | 120 => yX9_thinksNoMore
  | 121 => yX9_keeps
  | 122 => yX9_refuses
  | 123 => yX9_does
  | 124 => yX9_ends
  | 125 => yX9_isConvent
  | 126 => yX9_isRidge
  | 127 => yX9_isMessage
  | 128 => yX9_ofConvent
  | 129 => yX9_of
  | 130 => yX9_sets
  | 131 => yX9_wind
  | 132 => yX9_convent
  | 133 => yX9_code
  | 134 => yX9_silences
  | 135 => yX9_silence
  | 136 => yX9_winds
  | 137 => yX9_wind_
  | 138 => yX9_ears
  | 139 => yX9_ear
  | 140 => yX9_sends
  | 141 => yX9_send
  | 142 => yX9_drops
  | 143 => yX9_drop
  | 144 => yX9_isSilent
  | 145 => yX9_waitsAt
  | 146 => yX9_waitingAt
  | 147 => yX9_strengthAt
  | 148 => yX9_isHeard
  | 149 => yX9_lostOf
  | 150 => yX9_nextOf
  | 151 => yX9_rings
  | 152 => yX9_goes
  | 153 => yX9_turned
  | 154 => yX9_passes
  | 155 => yX9_hours
  | 156 => yX9_countIn
  | 157 => yX9_conventOf
  | 158 => yX9_ridgeOf
  | 159 => yX9_psalm
  | 160 => yX9_messageOf
  | 161 => yX9_sign
  | 162 => yX9_signs
  | 163 => yX9_waiting
  | 164 => yX9_arrived
  | 165 => yX9_strength
  | 166 => yX9_hears
  | 167 => yX9_windIn
  | 168 => yX9_would
  | 169 => yX9_arrivesIn
  | 170 => yX9_wouldLose
  | 171 => yX9_isAhead
  | 172 => yX9_ranked
  | 173 => yX9_lost
  | 174 => yX9_allLost
  | 175 => yX9_lostAgain
  | 176 => yX9_append
  | 177 => yX9_isNext
  | 178 => yX9_digits
  | 179 => yX9_digit
  | 180 => yX9_number
  | 181 => yX9_isCommand
  | 182 => yX9_carries
  | 183 => yX9_commands
  | 184 => yX9_faultPosition
  | 185 => yX9_reason
  | 186 => yX9_writes
  | 187 => yX9_line
  | 188 => yX9_character
  | 189 => yX9_meanEar
  | 190 => yX9_lostShare
  | 191 => yX9_account
  | 192 => yX9_undo
  | 193 => yX9_save
  | 194 => yX9_restore
  | 195 => yL_convent
  | 196 => yL_code
  | 197 => yL_silence
  | 198 => yL_wind
  | 199 => yL_ear
  | 200 => yL_send
  | 201 => yL_drop
  | 202 => yL_hours
  | 203 => yL_conventOf
  | 204 => yL_ridgeOf
  | 205 => yL_psalm
  | 206 => yL_messageOf
  | 207 => yL_sign
  | 208 => yL_signs
  | 209 => yL_waiting
  | 210 => yL_arrived
  | 211 => yL_strength
  | 212 => yL_hears
  | 213 => yL_windIn
  | 214 => yL_arrivesIn
  | 215 => yL_wouldLose
  | 216 => yL_ranked
  | 217 => yL_append
  | 218 => yL_commands
  | 219 => yL_reason
  | 220 => yL_line
  | 221 => yL_character
  | 222 => yL_meanEar
  | 223 => yL_lostShare
  | 224 => yL_account
  | 225 => yL_undo
  | 226 => yL_restore
  | 227 => yL_law
  | _ => yL_law
def am_by : Nat → ByteArray := fun k => match k with
  | 0 => cX0_init
  | 1 => cX0_set
  | 2 => cX1_init
  | 3 => cX1_add
  | 4 => cX1_read
  | 5 => cX1_readCommand
  | 6 => cX1_readSend
  | 7 => cX1_readOneNumber
  | 8 => cX1_readSilence
  | 9 => cX1_readSetting
  | 10 => cX1_nextCharacter
  | 11 => cX1_readCharacter
  | 12 => cX1_readDigit
  | 13 => cX1_readNumber
  | 14 => cX1_readSigns
  | 15 => cX2_init
  | 16 => cX2_begin
  | 17 => cX2_takeFrom
  | 18 => cX2_isSilentAt
  | 19 => cX2_join
  | 20 => cX2_leave
  | 21 => cX3_init
  | 22 => cX3_spare
  | 23 => cX3_keepSpare
  | 24 => cX3_takeLatest
  | 25 => cX4_init
  | 26 => cX4_begin
  | 27 => cX4_takeFrom
  | 28 => cX4_makeDue
  | 29 => cX4_isRungOut
  | 30 => cX4_dueSign
  | 31 => cX4_nextConvent
  | 32 => cX4_lostSigns
  | 33 => cX5_init
  | 34 => cX5_takeFrom
  | 35 => cX5_hasConvent
  | 36 => cX5_hasRidge
  | 37 => cX5_hasMessage
  | 38 => cX5_hourOfDay
  | 39 => cX5_carryOut
  | 40 => cX5_addConvent
  | 41 => cX5_givePsalm
  | 42 => cX5_setSilence
  | 43 => cX5_setWind
  | 44 => cX5_setEar
  | 45 => cX5_addMessage
  | 46 => cX5_spell
  | 47 => cX5_dropMessage
  | 48 => cX5_passHours
  | 49 => cX5_passHour
  | 50 => cX5_ring
  | 51 => cX5_moveOn
  | 52 => cX5_arrive
  | 53 => cX5_beginNextHour
  | 54 => cX5_strengthBetween
  | 55 => cX5_isHeardBetween
  | 56 => cX5_countAheadInRank
  | 57 => cX5_isAheadInRank
  | 58 => cX5_countSignsWithPsalm
  | 59 => cX5_countMessages
  | 60 => cX5_countHoursRung
  | 61 => cX5_countSilentConvents
  | 62 => cX6_init
  | 63 => cX6_because
  | 64 => cX7_init
  | 65 => cX8_init
  | 66 => cX8_convent
  | 67 => cX8_code
  | 68 => cX8_silence
  | 69 => cX8_wind
  | 70 => cX8_ear
  | 71 => cX8_send
  | 72 => cX8_drop
  | 73 => cX8_hours
  | 74 => cX8_changeBySingle
  | 75 => cX8_conventOf
  | 76 => cX8_ridgeOf
  | 77 => cX8_psalm
  | 78 => cX8_strength
  | 79 => cX8_hears
  | 80 => cX8_windIn
  | 81 => cX8_meanEar
  | 82 => cX8_askedConvent
  | 83 => cX8_askedRidge
  | 84 => cX8_askedNeighbour
  | 85 => cX8_messageOf
  | 86 => cX8_sign
  | 87 => cX8_signs
  | 88 => cX8_waiting
  | 89 => cX8_arrived
  | 90 => cX8_arrivesIn
  | 91 => cX8_wouldLose
  | 92 => cX8_hoursUntilArrived
  | 93 => cX8_askedMessage
  | 94 => cX8_ranked
  | 95 => cX8_lost
  | 96 => cX8_lostAgain
  | 97 => cX8_lostShare
  | 98 => cX8_append
  | 99 => cX8_commands
  | 100 => cX8_faultPosition
  | 101 => cX8_reason
  | 102 => cX8_line
  | 103 => cX8_writeDigit
  | 104 => cX8_write
  | 105 => cX8_character
  | 106 => cX8_account
  | 107 => cX8_undo
  | 108 => cX8_save
  | 109 => cX8_restore
  | 110 => cX8_isDigit
  | 111 => cX8_isHourOfDay
  | 112 => cX8_turnedWind
  | 113 => cX9_init
  | 114 => cX9_thrown
  | 115 => cX9_raises
  | 116 => cX9_in
  | 117 => cX9_tries
  | 118 => cX9_comesBack
  | 119 => cX9_thinks
  | 120 => cX9_thinksNoMore
  | 121 => cX9_keeps
  | 122 => cX9_refuses
  | 123 => cX9_does
  | 124 => cX9_ends
  | 125 => cX9_isConvent
  | 126 => cX9_isRidge
  | 127 => cX9_isMessage
  | 128 => cX9_ofConvent
  | 129 => cX9_of
  | 130 => cX9_sets
  | 131 => cX9_wind
  | 132 => cX9_convent
  | 133 => cX9_code
  | 134 => cX9_silences
  | 135 => cX9_silence
  | 136 => cX9_winds
  | 137 => cX9_wind_
  | 138 => cX9_ears
  | 139 => cX9_ear
  | 140 => cX9_sends
  | 141 => cX9_send
  | 142 => cX9_drops
  | 143 => cX9_drop
  | 144 => cX9_isSilent
  | 145 => cX9_waitsAt
  | 146 => cX9_waitingAt
  | 147 => cX9_strengthAt
  | 148 => cX9_isHeard
  | 149 => cX9_lostOf
  | 150 => cX9_nextOf
  | 151 => cX9_rings
  | 152 => cX9_goes
  | 153 => cX9_turned
  | 154 => cX9_passes
  | 155 => cX9_hours
  | 156 => cX9_countIn
  | 157 => cX9_conventOf
  | 158 => cX9_ridgeOf
  | 159 => cX9_psalm
  | 160 => cX9_messageOf
  | 161 => cX9_sign
  | 162 => cX9_signs
  | 163 => cX9_waiting
  | 164 => cX9_arrived
  | 165 => cX9_strength
  | 166 => cX9_hears
  | 167 => cX9_windIn
  | 168 => cX9_would
  | 169 => cX9_arrivesIn
  | 170 => cX9_wouldLose
  | 171 => cX9_isAhead
  | 172 => cX9_ranked
  | 173 => cX9_lost
  | 174 => cX9_allLost
  | 175 => cX9_lostAgain
  | 176 => cX9_append
  | 177 => cX9_isNext
  | 178 => cX9_digits
  | 179 => cX9_digit
  | 180 => cX9_number
  | 181 => cX9_isCommand
  | 182 => cX9_carries
  | 183 => cX9_commands
  | 184 => cX9_faultPosition
  | 185 => cX9_reason
  | 186 => cX9_writes
  | 187 => cX9_line
  | 188 => cX9_character
  | 189 => cX9_meanEar
  | 190 => cX9_lostShare
  | 191 => cX9_account
  | 192 => cX9_undo
  | 193 => cX9_save
  | 194 => cX9_restore
  | 195 => cL_convent
  | 196 => cL_code
  | 197 => cL_silence
  | 198 => cL_wind
  | 199 => cL_ear
  | 200 => cL_send
  | 201 => cL_drop
  | 202 => cL_hours
  | 203 => cL_conventOf
  | 204 => cL_ridgeOf
  | 205 => cL_psalm
  | 206 => cL_messageOf
  | 207 => cL_sign
  | 208 => cL_signs
  | 209 => cL_waiting
  | 210 => cL_arrived
  | 211 => cL_strength
  | 212 => cL_hears
  | 213 => cL_windIn
  | 214 => cL_arrivesIn
  | 215 => cL_wouldLose
  | 216 => cL_ranked
  | 217 => cL_append
  | 218 => cL_commands
  | 219 => cL_reason
  | 220 => cL_line
  | 221 => cL_character
  | 222 => cL_meanEar
  | 223 => cL_lostShare
  | 224 => cL_account
  | 225 => cL_undo
  | 226 => cL_restore
  | 227 => cL_law
  | _ => cL_law
def am_mL : Nat → Nat := fun k => match k with
  | 0 => 1
  | 1 => 5
  | 2 => 2
  | 3 => 2
  | 4 => 3
  | 5 => 2
  | 6 => 5
  | 7 => 4
  | 8 => 5
  | 9 => 5
  | 10 => 1
  | 11 => 2
  | 12 => 4
  | 13 => 3
  | 14 => 4
  | 15 => 1
  | 16 => 3
  | 17 => 2
  | 18 => 2
  | 19 => 2
  | 20 => 4
  | 21 => 2
  | 22 => 1
  | 23 => 1
  | 24 => 1
  | 25 => 1
  | 26 => 4
  | 27 => 2
  | 28 => 2
  | 29 => 1
  | 30 => 1
  | 31 => 1
  | 32 => 3
  | 33 => 2
  | 34 => 3
  | 35 => 2
  | 36 => 2
  | 37 => 2
  | 38 => 1
  | 39 => 3
  | 40 => 7
  | 41 => 5
  | 42 => 5
  | 43 => 5
  | 44 => 5
  | 45 => 7
  | 46 => 7
  | 47 => 4
  | 48 => 5
  | 49 => 9
  | 50 => 5
  | 51 => 3
  | 52 => 2
  | 53 => 2
  | 54 => 4
  | 55 => 3
  | 56 => 4
  | 57 => 5
  | 58 => 3
  | 59 => 4
  | 60 => 3
  | 61 => 3
  | 62 => 1
  | 63 => 3
  | 64 => 1
  | 65 => 1
  | 66 => 4
  | 67 => 3
  | 68 => 4
  | 69 => 3
  | 70 => 3
  | 71 => 4
  | 72 => 2
  | 73 => 2
  | 74 => 2
  | 75 => 4
  | 76 => 4
  | 77 => 2
  | 78 => 3
  | 79 => 3
  | 80 => 5
  | 81 => 3
  | 82 => 2
  | 83 => 2
  | 84 => 4
  | 85 => 4
  | 86 => 4
  | 87 => 5
  | 88 => 4
  | 89 => 2
  | 90 => 3
  | 91 => 2
  | 92 => 4
  | 93 => 2
  | 94 => 4
  | 95 => 3
  | 96 => 3
  | 97 => 3
  | 98 => 2
  | 99 => 2
  | 100 => 1
  | 101 => 2
  | 102 => 4
  | 103 => 2
  | 104 => 2
  | 105 => 2
  | 106 => 2
  | 107 => 1
  | 108 => 1
  | 109 => 1
  | 110 => 1
  | 111 => 1
  | 112 => 2
  | 113 => 1
  | 114 => 1
  | 115 => 2
  | 116 => 3
  | 117 => 2
  | 118 => 2
  | 119 => 2
  | 120 => 2
  | 121 => 3
  | 122 => 3
  | 123 => 2
  | 124 => 2
  | 125 => 2
  | 126 => 2
  | 127 => 2
  | 128 => 3
  | 129 => 3
  | 130 => 4
  | 131 => 2
  | 132 => 6
  | 133 => 4
  | 134 => 4
  | 135 => 4
  | 136 => 4
  | 137 => 3
  | 138 => 4
  | 139 => 3
  | 140 => 9
  | 141 => 4
  | 142 => 2
  | 143 => 2
  | 144 => 5
  | 145 => 3
  | 146 => 6
  | 147 => 4
  | 148 => 3
  | 149 => 4
  | 150 => 2
  | 151 => 6
  | 152 => 5
  | 153 => 2
  | 154 => 4
  | 155 => 2
  | 156 => 4
  | 157 => 5
  | 158 => 3
  | 159 => 2
  | 160 => 3
  | 161 => 3
  | 162 => 4
  | 163 => 4
  | 164 => 5
  | 165 => 4
  | 166 => 4
  | 167 => 5
  | 168 => 6
  | 169 => 2
  | 170 => 2
  | 171 => 3
  | 172 => 5
  | 173 => 3
  | 174 => 3
  | 175 => 1
  | 176 => 2
  | 177 => 2
  | 178 => 6
  | 179 => 2
  | 180 => 2
  | 181 => 1
  | 182 => 1
  | 183 => 4
  | 184 => 1
  | 185 => 2
  | 186 => 2
  | 187 => 3
  | 188 => 2
  | 189 => 4
  | 190 => 3
  | 191 => 4
  | 192 => 2
  | 193 => 2
  | 194 => 2
  | 195 => 6
  | 196 => 5
  | 197 => 6
  | 198 => 5
  | 199 => 5
  | 200 => 6
  | 201 => 4
  | 202 => 4
  | 203 => 5
  | 204 => 5
  | 205 => 4
  | 206 => 5
  | 207 => 5
  | 208 => 4
  | 209 => 5
  | 210 => 4
  | 211 => 5
  | 212 => 5
  | 213 => 5
  | 214 => 4
  | 215 => 4
  | 216 => 4
  | 217 => 4
  | 218 => 3
  | 219 => 4
  | 220 => 4
  | 221 => 4
  | 222 => 3
  | 223 => 3
  | 224 => 4
  | 225 => 3
  | 226 => 3
  | 227 => 9
  | _ => 9
def am_ret : Nat → Option FieldType := fun k => match k with
  | 0 => none
  | 1 => none
  | 2 => none
  | 3 => none
  | 4 => (some .int)
  | 5 => (some .boolean)
  | 6 => (some .boolean)
  | 7 => (some .boolean)
  | 8 => (some .boolean)
  | 9 => (some .boolean)
  | 10 => (some .int)
  | 11 => (some .boolean)
  | 12 => (some .int)
  | 13 => (some .int)
  | 14 => (some .int)
  | 15 => none
  | 16 => none
  | 17 => none
  | 18 => (some .boolean)
  | 19 => none
  | 20 => none
  | 21 => none
  | 22 => (some (.object "BellTelegraph$Network"))
  | 23 => none
  | 24 => (some (.object "BellTelegraph$Network"))
  | 25 => none
  | 26 => none
  | 27 => none
  | 28 => none
  | 29 => (some .boolean)
  | 30 => (some .int)
  | 31 => (some .int)
  | 32 => (some .int)
  | 33 => none
  | 34 => none
  | 35 => (some .boolean)
  | 36 => (some .boolean)
  | 37 => (some .boolean)
  | 38 => (some .int)
  | 39 => (some .int)
  | 40 => (some .int)
  | 41 => (some .int)
  | 42 => (some .int)
  | 43 => (some .int)
  | 44 => (some .int)
  | 45 => (some .int)
  | 46 => (some .int)
  | 47 => (some .int)
  | 48 => (some .int)
  | 49 => none
  | 50 => none
  | 51 => none
  | 52 => none
  | 53 => none
  | 54 => (some .int)
  | 55 => (some .boolean)
  | 56 => (some .int)
  | 57 => (some .boolean)
  | 58 => (some .int)
  | 59 => (some .int)
  | 60 => (some .int)
  | 61 => (some .int)
  | 62 => none
  | 63 => (some .int)
  | 64 => none
  | 65 => none
  | 66 => (some .int)
  | 67 => (some .int)
  | 68 => (some .int)
  | 69 => (some .int)
  | 70 => (some .int)
  | 71 => (some .int)
  | 72 => (some .int)
  | 73 => (some .int)
  | 74 => (some .int)
  | 75 => (some .int)
  | 76 => (some .int)
  | 77 => (some .int)
  | 78 => (some .int)
  | 79 => (some .boolean)
  | 80 => (some .int)
  | 81 => (some .float)
  | 82 => (some (.object "BellTelegraph$Convent"))
  | 83 => (some (.object "BellTelegraph$Ridge"))
  | 84 => (some .int)
  | 85 => (some .int)
  | 86 => (some .int)
  | 87 => (some .int)
  | 88 => (some .int)
  | 89 => (some .int)
  | 90 => (some .int)
  | 91 => (some .int)
  | 92 => (some .int)
  | 93 => (some (.object "BellTelegraph$Message"))
  | 94 => (some .int)
  | 95 => (some .int)
  | 96 => (some .int)
  | 97 => (some .double)
  | 98 => (some .int)
  | 99 => (some .int)
  | 100 => (some .int)
  | 101 => (some .int)
  | 102 => (some .int)
  | 103 => none
  | 104 => none
  | 105 => (some .char)
  | 106 => (some .int)
  | 107 => (some .int)
  | 108 => (some .int)
  | 109 => (some .int)
  | 110 => (some .boolean)
  | 111 => (some .boolean)
  | 112 => (some .int)
  | 113 => none
  | 114 => (some .int)
  | 115 => (some .int)
  | 116 => (some .boolean)
  | 117 => none
  | 118 => none
  | 119 => none
  | 120 => none
  | 121 => (some .int)
  | 122 => (some .boolean)
  | 123 => (some .boolean)
  | 124 => (some .int)
  | 125 => (some .boolean)
  | 126 => (some .boolean)
  | 127 => (some .boolean)
  | 128 => (some .int)
  | 129 => (some .int)
  | 130 => none
  | 131 => (some .int)
  | 132 => (some .int)
  | 133 => (some .int)
  | 134 => (some .boolean)
  | 135 => (some .int)
  | 136 => (some .boolean)
  | 137 => (some .int)
  | 138 => (some .boolean)
  | 139 => (some .int)
  | 140 => (some .boolean)
  | 141 => (some .int)
  | 142 => (some .boolean)
  | 143 => (some .int)
  | 144 => (some .boolean)
  | 145 => (some .boolean)
  | 146 => (some .int)
  | 147 => (some .int)
  | 148 => (some .boolean)
  | 149 => (some .int)
  | 150 => (some .int)
  | 151 => none
  | 152 => (some .int)
  | 153 => (some .int)
  | 154 => (some .boolean)
  | 155 => (some .int)
  | 156 => (some .int)
  | 157 => (some .int)
  | 158 => (some .int)
  | 159 => (some .int)
  | 160 => (some .int)
  | 161 => (some .int)
  | 162 => (some .int)
  | 163 => (some .int)
  | 164 => (some .int)
  | 165 => (some .int)
  | 166 => (some .boolean)
  | 167 => (some .int)
  | 168 => (some .int)
  | 169 => (some .int)
  | 170 => (some .int)
  | 171 => (some .boolean)
  | 172 => (some .int)
  | 173 => (some .int)
  | 174 => (some .int)
  | 175 => (some .int)
  | 176 => (some .int)
  | 177 => (some .boolean)
  | 178 => (some .boolean)
  | 179 => (some .boolean)
  | 180 => (some .boolean)
  | 181 => (some .boolean)
  | 182 => (some .boolean)
  | 183 => (some .int)
  | 184 => (some .int)
  | 185 => (some .int)
  | 186 => none
  | 187 => (some .int)
  | 188 => (some .char)
  | 189 => (some .float)
  | 190 => (some .double)
  | 191 => (some .int)
  | 192 => (some .int)
  | 193 => (some .int)
  | 194 => (some .int)
  | 195 => (some .int)
  | 196 => (some .int)
  | 197 => (some .int)
  | 198 => (some .int)
  | 199 => (some .int)
  | 200 => (some .int)
  | 201 => (some .int)
  | 202 => (some .int)
  | 203 => (some .int)
  | 204 => (some .int)
  | 205 => (some .int)
  | 206 => (some .int)
  | 207 => (some .int)
  | 208 => (some .int)
  | 209 => (some .int)
  | 210 => (some .int)
  | 211 => (some .int)
  | 212 => (some .int)
  | 213 => (some .int)
  | 214 => (some .int)
  | 215 => (some .int)
  | 216 => (some .int)
  | 217 => (some .int)
  | 218 => (some .int)
  | 219 => (some .int)
  | 220 => (some .int)
  | 221 => (some .int)
  | 222 => (some .int)
  | 223 => (some .int)
  | 224 => (some .int)
  | 225 => (some .int)
  | 226 => (some .int)
  | 227 => (some .boolean)
  | _ => none
def am_rt : Nat → Nat := fun k => match k with
  | 0 => 0
  | 1 => 0
  | 2 => 0
  | 3 => 0
  | 4 => 1
  | 5 => 2
  | 6 => 2
  | 7 => 2
  | 8 => 2
  | 9 => 2
  | 10 => 1
  | 11 => 2
  | 12 => 1
  | 13 => 1
  | 14 => 1
  | 15 => 0
  | 16 => 0
  | 17 => 0
  | 18 => 2
  | 19 => 0
  | 20 => 0
  | 21 => 0
  | 22 => 6
  | 23 => 0
  | 24 => 6
  | 25 => 0
  | 26 => 0
  | 27 => 0
  | 28 => 0
  | 29 => 2
  | 30 => 1
  | 31 => 1
  | 32 => 1
  | 33 => 0
  | 34 => 0
  | 35 => 2
  | 36 => 2
  | 37 => 2
  | 38 => 1
  | 39 => 1
  | 40 => 1
  | 41 => 1
  | 42 => 1
  | 43 => 1
  | 44 => 1
  | 45 => 1
  | 46 => 1
  | 47 => 1
  | 48 => 1
  | 49 => 0
  | 50 => 0
  | 51 => 0
  | 52 => 0
  | 53 => 0
  | 54 => 1
  | 55 => 2
  | 56 => 1
  | 57 => 2
  | 58 => 1
  | 59 => 1
  | 60 => 1
  | 61 => 1
  | 62 => 0
  | 63 => 1
  | 64 => 0
  | 65 => 0
  | 66 => 1
  | 67 => 1
  | 68 => 1
  | 69 => 1
  | 70 => 1
  | 71 => 1
  | 72 => 1
  | 73 => 1
  | 74 => 1
  | 75 => 1
  | 76 => 1
  | 77 => 1
  | 78 => 1
  | 79 => 2
  | 80 => 1
  | 81 => 4
  | 82 => 6
  | 83 => 6
  | 84 => 1
  | 85 => 1
  | 86 => 1
  | 87 => 1
  | 88 => 1
  | 89 => 1
  | 90 => 1
  | 91 => 1
  | 92 => 1
  | 93 => 6
  | 94 => 1
  | 95 => 1
  | 96 => 1
  | 97 => 5
  | 98 => 1
  | 99 => 1
  | 100 => 1
  | 101 => 1
  | 102 => 1
  | 103 => 0
  | 104 => 0
  | 105 => 3
  | 106 => 1
  | 107 => 1
  | 108 => 1
  | 109 => 1
  | 110 => 2
  | 111 => 2
  | 112 => 1
  | 113 => 0
  | 114 => 1
  | 115 => 1
  | 116 => 2
  | 117 => 0
  | 118 => 0
  | 119 => 0
  | 120 => 0
  | 121 => 1
  | 122 => 2
  | 123 => 2
  | 124 => 1
  | 125 => 2
  | 126 => 2
  | 127 => 2
  | 128 => 1
  | 129 => 1
  | 130 => 0
  | 131 => 1
  | 132 => 1
  | 133 => 1
  | 134 => 2
  | 135 => 1
  | 136 => 2
  | 137 => 1
  | 138 => 2
  | 139 => 1
  | 140 => 2
  | 141 => 1
  | 142 => 2
  | 143 => 1
  | 144 => 2
  | 145 => 2
  | 146 => 1
  | 147 => 1
  | 148 => 2
  | 149 => 1
  | 150 => 1
  | 151 => 0
  | 152 => 1
  | 153 => 1
  | 154 => 2
  | 155 => 1
  | 156 => 1
  | 157 => 1
  | 158 => 1
  | 159 => 1
  | 160 => 1
  | 161 => 1
  | 162 => 1
  | 163 => 1
  | 164 => 1
  | 165 => 1
  | 166 => 2
  | 167 => 1
  | 168 => 1
  | 169 => 1
  | 170 => 1
  | 171 => 2
  | 172 => 1
  | 173 => 1
  | 174 => 1
  | 175 => 1
  | 176 => 1
  | 177 => 2
  | 178 => 2
  | 179 => 2
  | 180 => 2
  | 181 => 2
  | 182 => 2
  | 183 => 1
  | 184 => 1
  | 185 => 1
  | 186 => 0
  | 187 => 1
  | 188 => 3
  | 189 => 4
  | 190 => 5
  | 191 => 1
  | 192 => 1
  | 193 => 1
  | 194 => 1
  | 195 => 1
  | 196 => 1
  | 197 => 1
  | 198 => 1
  | 199 => 1
  | 200 => 1
  | 201 => 1
  | 202 => 1
  | 203 => 1
  | 204 => 1
  | 205 => 1
  | 206 => 1
  | 207 => 1
  | 208 => 1
  | 209 => 1
  | 210 => 1
  | 211 => 1
  | 212 => 1
  | 213 => 1
  | 214 => 1
  | 215 => 1
  | 216 => 1
  | 217 => 1
  | 218 => 1
  | 219 => 1
  | 220 => 1
  | 221 => 1
  | 222 => 1
  | 223 => 1
  | 224 => 1
  | 225 => 1
  | 226 => 1
  | 227 => 2
  | _ => 9
def am_na : Nat → Nat := fun k => match k with
  | 0 => 0
  | 1 => 4
  | 2 => 0
  | 3 => 1
  | 4 => 0
  | 5 => 0
  | 6 => 1
  | 7 => 2
  | 8 => 1
  | 9 => 2
  | 10 => 0
  | 11 => 1
  | 12 => 2
  | 13 => 0
  | 14 => 0
  | 15 => 0
  | 16 => 2
  | 17 => 1
  | 18 => 1
  | 19 => 1
  | 20 => 1
  | 21 => 0
  | 22 => 0
  | 23 => 0
  | 24 => 0
  | 25 => 0
  | 26 => 3
  | 27 => 1
  | 28 => 1
  | 29 => 0
  | 30 => 0
  | 31 => 0
  | 32 => 0
  | 33 => 0
  | 34 => 1
  | 35 => 1
  | 36 => 1
  | 37 => 1
  | 38 => 0
  | 39 => 2
  | 40 => 4
  | 41 => 3
  | 42 => 4
  | 43 => 3
  | 44 => 3
  | 45 => 4
  | 46 => 1
  | 47 => 2
  | 48 => 2
  | 49 => 0
  | 50 => 3
  | 51 => 1
  | 52 => 1
  | 53 => 0
  | 54 => 2
  | 55 => 2
  | 56 => 1
  | 57 => 2
  | 58 => 0
  | 59 => 1
  | 60 => 0
  | 61 => 0
  | 62 => 0
  | 63 => 2
  | 64 => 0
  | 65 => 0
  | 66 => 3
  | 67 => 2
  | 68 => 3
  | 69 => 2
  | 70 => 2
  | 71 => 3
  | 72 => 1
  | 73 => 1
  | 74 => 0
  | 75 => 2
  | 76 => 2
  | 77 => 1
  | 78 => 2
  | 79 => 2
  | 80 => 2
  | 81 => 0
  | 82 => 1
  | 83 => 1
  | 84 => 2
  | 85 => 2
  | 86 => 2
  | 87 => 1
  | 88 => 2
  | 89 => 1
  | 90 => 1
  | 91 => 1
  | 92 => 2
  | 93 => 1
  | 94 => 1
  | 95 => 0
  | 96 => 0
  | 97 => 0
  | 98 => 1
  | 99 => 0
  | 100 => 0
  | 101 => 1
  | 102 => 1
  | 103 => 1
  | 104 => 1
  | 105 => 1
  | 106 => 1
  | 107 => 0
  | 108 => 0
  | 109 => 0
  | 110 => 1
  | 111 => 1
  | 112 => 2
  | 113 => 0
  | 114 => 0
  | 115 => 1
  | 116 => 3
  | 117 => 0
  | 118 => 0
  | 119 => 0
  | 120 => 0
  | 121 => 1
  | 122 => 2
  | 123 => 1
  | 124 => 1
  | 125 => 1
  | 126 => 1
  | 127 => 1
  | 128 => 2
  | 129 => 2
  | 130 => 3
  | 131 => 1
  | 132 => 3
  | 133 => 2
  | 134 => 3
  | 135 => 3
  | 136 => 2
  | 137 => 2
  | 138 => 2
  | 139 => 2
  | 140 => 3
  | 141 => 3
  | 142 => 1
  | 143 => 1
  | 144 => 1
  | 145 => 2
  | 146 => 2
  | 147 => 2
  | 148 => 2
  | 149 => 1
  | 150 => 1
  | 151 => 2
  | 152 => 0
  | 153 => 2
  | 154 => 1
  | 155 => 1
  | 156 => 1
  | 157 => 2
  | 158 => 2
  | 159 => 1
  | 160 => 2
  | 161 => 2
  | 162 => 1
  | 163 => 2
  | 164 => 1
  | 165 => 2
  | 166 => 2
  | 167 => 2
  | 168 => 2
  | 169 => 1
  | 170 => 1
  | 171 => 2
  | 172 => 1
  | 173 => 0
  | 174 => 0
  | 175 => 0
  | 176 => 1
  | 177 => 1
  | 178 => 4
  | 179 => 1
  | 180 => 1
  | 181 => 0
  | 182 => 0
  | 183 => 0
  | 184 => 0
  | 185 => 1
  | 186 => 1
  | 187 => 1
  | 188 => 1
  | 189 => 0
  | 190 => 0
  | 191 => 1
  | 192 => 0
  | 193 => 0
  | 194 => 0
  | 195 => 5
  | 196 => 4
  | 197 => 5
  | 198 => 4
  | 199 => 4
  | 200 => 5
  | 201 => 3
  | 202 => 3
  | 203 => 4
  | 204 => 4
  | 205 => 3
  | 206 => 4
  | 207 => 4
  | 208 => 3
  | 209 => 4
  | 210 => 3
  | 211 => 4
  | 212 => 4
  | 213 => 4
  | 214 => 3
  | 215 => 3
  | 216 => 3
  | 217 => 3
  | 218 => 2
  | 219 => 3
  | 220 => 3
  | 221 => 3
  | 222 => 2
  | 223 => 2
  | 224 => 3
  | 225 => 2
  | 226 => 2
  | 227 => 1
  | _ => 0
def am_ini : Nat → Bool := fun k => match k with
  | 0 => true
  | 1 => false
  | 2 => true
  | 3 => false
  | 4 => false
  | 5 => false
  | 6 => false
  | 7 => false
  | 8 => false
  | 9 => false
  | 10 => false
  | 11 => false
  | 12 => false
  | 13 => false
  | 14 => false
  | 15 => true
  | 16 => false
  | 17 => false
  | 18 => false
  | 19 => false
  | 20 => false
  | 21 => true
  | 22 => false
  | 23 => false
  | 24 => false
  | 25 => true
  | 26 => false
  | 27 => false
  | 28 => false
  | 29 => false
  | 30 => false
  | 31 => false
  | 32 => false
  | 33 => true
  | 34 => false
  | 35 => false
  | 36 => false
  | 37 => false
  | 38 => false
  | 39 => false
  | 40 => false
  | 41 => false
  | 42 => false
  | 43 => false
  | 44 => false
  | 45 => false
  | 46 => false
  | 47 => false
  | 48 => false
  | 49 => false
  | 50 => false
  | 51 => false
  | 52 => false
  | 53 => false
  | 54 => false
  | 55 => false
  | 56 => false
  | 57 => false
  | 58 => false
  | 59 => false
  | 60 => false
  | 61 => false
  | 62 => true
  | 63 => false
  | 64 => true
  | 65 => true
  | 66 => false
  | 67 => false
  | 68 => false
  | 69 => false
  | 70 => false
  | 71 => false
  | 72 => false
  | 73 => false
  | 74 => false
  | 75 => false
  | 76 => false
  | 77 => false
  | 78 => false
  | 79 => false
  | 80 => false
  | 81 => false
  | 82 => false
  | 83 => false
  | 84 => false
  | 85 => false
  | 86 => false
  | 87 => false
  | 88 => false
  | 89 => false
  | 90 => false
  | 91 => false
  | 92 => false
  | 93 => false
  | 94 => false
  | 95 => false
  | 96 => false
  | 97 => false
  | 98 => false
  | 99 => false
  | 100 => false
  | 101 => false
  | 102 => false
  | 103 => false
  | 104 => false
  | 105 => false
  | 106 => false
  | 107 => false
  | 108 => false
  | 109 => false
  | 110 => false
  | 111 => false
  | 112 => false
  | 113 => true
  | 114 => false
  | 115 => false
  | 116 => false
  | 117 => false
  | 118 => false
  | 119 => false
  | 120 => false
  | 121 => false
  | 122 => false
  | 123 => false
  | 124 => false
  | 125 => false
  | 126 => false
  | 127 => false
  | 128 => false
  | 129 => false
  | 130 => false
  | 131 => false
  | 132 => false
  | 133 => false
  | 134 => false
  | 135 => false
  | 136 => false
  | 137 => false
  | 138 => false
  | 139 => false
  | 140 => false
  | 141 => false
  | 142 => false
  | 143 => false
  | 144 => false
  | 145 => false
  | 146 => false
  | 147 => false
  | 148 => false
  | 149 => false
  | 150 => false
  | 151 => false
  | 152 => false
  | 153 => false
  | 154 => false
  | 155 => false
  | 156 => false
  | 157 => false
  | 158 => false
  | 159 => false
  | 160 => false
  | 161 => false
  | 162 => false
  | 163 => false
  | 164 => false
  | 165 => false
  | 166 => false
  | 167 => false
  | 168 => false
  | 169 => false
  | 170 => false
  | 171 => false
  | 172 => false
  | 173 => false
  | 174 => false
  | 175 => false
  | 176 => false
  | 177 => false
  | 178 => false
  | 179 => false
  | 180 => false
  | 181 => false
  | 182 => false
  | 183 => false
  | 184 => false
  | 185 => false
  | 186 => false
  | 187 => false
  | 188 => false
  | 189 => false
  | 190 => false
  | 191 => false
  | 192 => false
  | 193 => false
  | 194 => false
  | 195 => false
  | 196 => false
  | 197 => false
  | 198 => false
  | 199 => false
  | 200 => false
  | 201 => false
  | 202 => false
  | 203 => false
  | 204 => false
  | 205 => false
  | 206 => false
  | 207 => false
  | 208 => false
  | 209 => false
  | 210 => false
  | 211 => false
  | 212 => false
  | 213 => false
  | 214 => false
  | 215 => false
  | 216 => false
  | 217 => false
  | 218 => false
  | 219 => false
  | 220 => false
  | 221 => false
  | 222 => false
  | 223 => false
  | 224 => false
  | 225 => false
  | 226 => false
  | 227 => false
  | _ => false
def am_hh : Nat → List (Nat × Nat × Nat × Nat) := fun k => match k with
  | 0 => []
  | 1 => []
  | 2 => []
  | 3 => []
  | 4 => []
  | 5 => []
  | 6 => []
  | 7 => []
  | 8 => []
  | 9 => []
  | 10 => []
  | 11 => []
  | 12 => []
  | 13 => []
  | 14 => []
  | 15 => []
  | 16 => []
  | 17 => []
  | 18 => []
  | 19 => []
  | 20 => []
  | 21 => []
  | 22 => []
  | 23 => []
  | 24 => []
  | 25 => []
  | 26 => []
  | 27 => []
  | 28 => []
  | 29 => []
  | 30 => []
  | 31 => []
  | 32 => []
  | 33 => []
  | 34 => []
  | 35 => []
  | 36 => []
  | 37 => []
  | 38 => []
  | 39 => []
  | 40 => []
  | 41 => []
  | 42 => []
  | 43 => []
  | 44 => []
  | 45 => []
  | 46 => []
  | 47 => []
  | 48 => []
  | 49 => []
  | 50 => []
  | 51 => []
  | 52 => []
  | 53 => []
  | 54 => []
  | 55 => []
  | 56 => []
  | 57 => []
  | 58 => []
  | 59 => []
  | 60 => []
  | 61 => []
  | 62 => []
  | 63 => []
  | 64 => []
  | 65 => []
  | 66 => []
  | 67 => []
  | 68 => []
  | 69 => []
  | 70 => []
  | 71 => []
  | 72 => []
  | 73 => []
  | 74 => []
  | 75 => []
  | 76 => []
  | 77 => []
  | 78 => []
  | 79 => []
  | 80 => []
  | 81 => []
  | 82 => []
  | 83 => []
  | 84 => []
  | 85 => []
  | 86 => []
  | 87 => []
  | 88 => []
  | 89 => []
  | 90 => []
  | 91 => []
  | 92 => []
  | 93 => []
  | 94 => []
  | 95 => []
  | 96 => []
  | 97 => []
  | 98 => []
  | 99 => []
  | 100 => []
  | 101 => []
  | 102 => []
  | 103 => []
  | 104 => []
  | 105 => []
  | 106 => []
  | 107 => []
  | 108 => []
  | 109 => []
  | 110 => []
  | 111 => []
  | 112 => []
  | 113 => []
  | 114 => []
  | 115 => []
  | 116 => []
  | 117 => []
  | 118 => []
  | 119 => []
  | 120 => []
  | 121 => []
  | 122 => []
  | 123 => []
  | 124 => []
  | 125 => []
  | 126 => []
  | 127 => []
  | 128 => []
  | 129 => []
  | 130 => []
  | 131 => []
  | 132 => []
  | 133 => []
  | 134 => []
  | 135 => []
  | 136 => []
  | 137 => []
  | 138 => []
  | 139 => []
  | 140 => []
  | 141 => []
  | 142 => []
  | 143 => []
  | 144 => []
  | 145 => []
  | 146 => []
  | 147 => []
  | 148 => []
  | 149 => []
  | 150 => []
  | 151 => []
  | 152 => []
  | 153 => []
  | 154 => []
  | 155 => []
  | 156 => []
  | 157 => []
  | 158 => []
  | 159 => []
  | 160 => []
  | 161 => []
  | 162 => []
  | 163 => []
  | 164 => []
  | 165 => []
  | 166 => []
  | 167 => []
  | 168 => []
  | 169 => []
  | 170 => []
  | 171 => []
  | 172 => []
  | 173 => []
  | 174 => []
  | 175 => []
  | 176 => []
  | 177 => []
  | 178 => []
  | 179 => []
  | 180 => []
  | 181 => []
  | 182 => []
  | 183 => []
  | 184 => []
  | 185 => []
  | 186 => []
  | 187 => []
  | 188 => []
  | 189 => []
  | 190 => []
  | 191 => []
  | 192 => []
  | 193 => []
  | 194 => []
  | 195 => [(0, 12, 15, 13)]
  | 196 => [(0, 10, 13, 13)]
  | 197 => [(0, 12, 15, 13)]
  | 198 => [(0, 10, 13, 13)]
  | 199 => [(0, 10, 13, 13)]
  | 200 => [(0, 12, 15, 13)]
  | 201 => [(0, 9, 12, 13)]
  | 202 => [(0, 9, 12, 13)]
  | 203 => [(0, 10, 13, 41), (0, 10, 17, 43)]
  | 204 => [(0, 10, 13, 41), (0, 10, 17, 43)]
  | 205 => [(0, 9, 12, 43)]
  | 206 => [(0, 10, 13, 41), (0, 10, 17, 43)]
  | 207 => [(0, 10, 13, 41)]
  | 208 => [(0, 9, 12, 41)]
  | 209 => [(0, 10, 13, 41), (0, 10, 17, 63)]
  | 210 => [(0, 9, 12, 63)]
  | 211 => [(0, 10, 13, 41), (0, 10, 17, 63)]
  | 212 => [(0, 17, 20, 41), (0, 17, 24, 63)]
  | 213 => [(0, 10, 13, 41), (0, 10, 17, 43)]
  | 214 => [(0, 9, 12, 41), (0, 9, 15, 63)]
  | 215 => [(0, 9, 12, 41), (0, 9, 15, 63)]
  | 216 => [(0, 9, 12, 63)]
  | 217 => [(0, 9, 12, 92)]
  | 218 => [(0, 8, 11, 43), (0, 8, 14, 13)]
  | 219 => [(0, 9, 12, 43), (0, 9, 15, 63)]
  | 220 => [(0, 9, 12, 41)]
  | 221 => [(0, 9, 12, 41)]
  | 222 => [(0, 8, 11, 112)]
  | 223 => [(0, 7, 10, 112)]
  | 224 => [(0, 9, 12, 43)]
  | 225 => [(0, 8, 11, 92)]
  | 226 => [(0, 8, 11, 92)]
  | 227 => []
  | _ => []
def am_tr (z : Nat) : Bool := (am_hh z).isEmpty
def am_hs : Nat → List (Nat × Nat × Nat × Nat × Nat) := fun k => match k with
  | 0 => []
  | 1 => []
  | 2 => []
  | 3 => []
  | 4 => []
  | 5 => []
  | 6 => []
  | 7 => []
  | 8 => []
  | 9 => []
  | 10 => []
  | 11 => []
  | 12 => []
  | 13 => []
  | 14 => []
  | 15 => []
  | 16 => []
  | 17 => []
  | 18 => []
  | 19 => []
  | 20 => []
  | 21 => []
  | 22 => []
  | 23 => []
  | 24 => []
  | 25 => []
  | 26 => []
  | 27 => []
  | 28 => []
  | 29 => []
  | 30 => []
  | 31 => []
  | 32 => []
  | 33 => []
  | 34 => []
  | 35 => []
  | 36 => []
  | 37 => []
  | 38 => []
  | 39 => []
  | 40 => []
  | 41 => []
  | 42 => []
  | 43 => []
  | 44 => []
  | 45 => []
  | 46 => []
  | 47 => []
  | 48 => []
  | 49 => []
  | 50 => []
  | 51 => []
  | 52 => []
  | 53 => []
  | 54 => []
  | 55 => []
  | 56 => []
  | 57 => []
  | 58 => []
  | 59 => []
  | 60 => []
  | 61 => []
  | 62 => []
  | 63 => []
  | 64 => []
  | 65 => []
  | 66 => []
  | 67 => []
  | 68 => []
  | 69 => []
  | 70 => []
  | 71 => []
  | 72 => []
  | 73 => []
  | 74 => []
  | 75 => []
  | 76 => []
  | 77 => []
  | 78 => []
  | 79 => []
  | 80 => []
  | 81 => []
  | 82 => []
  | 83 => []
  | 84 => []
  | 85 => []
  | 86 => []
  | 87 => []
  | 88 => []
  | 89 => []
  | 90 => []
  | 91 => []
  | 92 => []
  | 93 => []
  | 94 => []
  | 95 => []
  | 96 => []
  | 97 => []
  | 98 => []
  | 99 => []
  | 100 => []
  | 101 => []
  | 102 => []
  | 103 => []
  | 104 => []
  | 105 => []
  | 106 => []
  | 107 => []
  | 108 => []
  | 109 => []
  | 110 => []
  | 111 => []
  | 112 => []
  | 113 => []
  | 114 => []
  | 115 => []
  | 116 => []
  | 117 => []
  | 118 => []
  | 119 => []
  | 120 => []
  | 121 => []
  | 122 => []
  | 123 => []
  | 124 => []
  | 125 => []
  | 126 => []
  | 127 => []
  | 128 => []
  | 129 => []
  | 130 => []
  | 131 => []
  | 132 => []
  | 133 => []
  | 134 => []
  | 135 => []
  | 136 => []
  | 137 => []
  | 138 => []
  | 139 => []
  | 140 => []
  | 141 => []
  | 142 => []
  | 143 => []
  | 144 => []
  | 145 => []
  | 146 => []
  | 147 => []
  | 148 => []
  | 149 => []
  | 150 => []
  | 151 => []
  | 152 => []
  | 153 => []
  | 154 => []
  | 155 => []
  | 156 => []
  | 157 => []
  | 158 => []
  | 159 => []
  | 160 => []
  | 161 => []
  | 162 => []
  | 163 => []
  | 164 => []
  | 165 => []
  | 166 => []
  | 167 => []
  | 168 => []
  | 169 => []
  | 170 => []
  | 171 => []
  | 172 => []
  | 173 => []
  | 174 => []
  | 175 => []
  | 176 => []
  | 177 => []
  | 178 => []
  | 179 => []
  | 180 => []
  | 181 => []
  | 182 => []
  | 183 => []
  | 184 => []
  | 185 => []
  | 186 => []
  | 187 => []
  | 188 => []
  | 189 => []
  | 190 => []
  | 191 => []
  | 192 => []
  | 193 => []
  | 194 => []
  | 195 => [(0, 12, 0, 17, 5)]
  | 196 => [(0, 10, 0, 15, 4)]
  | 197 => [(0, 12, 0, 17, 5)]
  | 198 => [(0, 10, 0, 15, 4)]
  | 199 => [(0, 10, 0, 15, 4)]
  | 200 => [(0, 12, 0, 17, 5)]
  | 201 => [(0, 9, 0, 13, 3)]
  | 202 => [(0, 9, 0, 13, 3)]
  | 203 => [(0, 10, 1, 15, 4), (0, 10, 2, 19, 4)]
  | 204 => [(0, 10, 1, 15, 4), (0, 10, 2, 19, 4)]
  | 205 => [(0, 9, 2, 13, 3)]
  | 206 => [(0, 10, 1, 15, 4), (0, 10, 2, 19, 4)]
  | 207 => [(0, 10, 1, 15, 4)]
  | 208 => [(0, 9, 1, 13, 3)]
  | 209 => [(0, 10, 1, 15, 4), (0, 10, 3, 19, 4)]
  | 210 => [(0, 9, 3, 13, 3)]
  | 211 => [(0, 10, 1, 15, 4), (0, 10, 3, 19, 4)]
  | 212 => [(0, 17, 1, 22, 4), (0, 17, 3, 26, 4)]
  | 213 => [(0, 10, 1, 15, 4), (0, 10, 2, 19, 4)]
  | 214 => [(0, 9, 1, 13, 3), (0, 9, 3, 16, 3)]
  | 215 => [(0, 9, 1, 13, 3), (0, 9, 3, 16, 3)]
  | 216 => [(0, 9, 3, 13, 3)]
  | 217 => [(0, 9, 4, 13, 3)]
  | 218 => [(0, 8, 2, 12, 2), (0, 8, 0, 15, 2)]
  | 219 => [(0, 9, 2, 13, 3), (0, 9, 3, 16, 3)]
  | 220 => [(0, 9, 1, 13, 3)]
  | 221 => [(0, 9, 1, 13, 3)]
  | 222 => [(0, 8, 5, 12, 2)]
  | 223 => [(0, 7, 5, 11, 2)]
  | 224 => [(0, 9, 2, 13, 3)]
  | 225 => [(0, 8, 4, 12, 2)]
  | 226 => [(0, 8, 4, 12, 2)]
  | 227 => []
  | _ => []
def am_hf (t : List (Nat × Nat × Nat × Nat × Nat)) (pc E : Nat) : Option (Nat × Nat) := match t with
  | [] => none
  | q :: t => if q.1 ≤ pc ∧ pc < q.2.1 ∧ q.2.2.1 = E then some q.2.2.2 else am_hf t pc E
def am_hd (z pc E : Nat) : Option (Nat × Nat) := am_hf (am_hs z) pc E
def am_fi (t : List (Nat × Instr)) (pc : Nat) : Option Instr := match t with
  | [] => none
  | q :: t => if q.1 = pc then some q.2 else am_fi t pc
def am_cd (z pc : Nat) : Option Instr := am_fi (am_code z) pc
end
section
/-! THE TABLES AGAINST THE STATEMENT'S WORDS (by gens.py) -/
def am_gw (w : Cond) : Bool := goodWord w || (match w with
  | .castable .. => true
  | .methodLinkNest .. => true
  | .arrayOver (.object _) => true
  | .declares _ => true
  | _ => false)
def am_W : List Cond := lw_tbl.filter am_gw
def am_at (i : Nat) (w : Cond) : Bool := decide (lw_tbl[i]? = some w) && am_gw w
theorem am_at_in {i : Nat} {w : Cond} (h : am_at i w = true) : w ∈ am_W := by
  simp only [am_at, Bool.and_eq_true, decide_eq_true_eq] at h
  exact List.mem_filter.mpr ⟨List.mem_of_getElem? h.1, h.2⟩
def am_al2 {α : Type} (f : α → Nat → Bool) : List α → List Nat → Bool
  | [], _ => true
  | a :: l, i :: is => f a i && am_al2 f l is
  | _ :: _, [] => false
theorem am_al2_in {α : Type} {f : α → Nat → Bool} : ∀ {l : List α} {is : List Nat}, am_al2 f l is = true → ∀ a ∈ l, ∃ i, f a i = true
  | [], _, _, _, h => by cases h
  | _ :: _, [], h, _, _ => by cases h
  | b :: l, i :: is, h, a, ha => by
    simp only [am_al2, Bool.and_eq_true] at h
    rcases List.mem_cons.mp ha with rfl | ha
    · exact ⟨i, h.1⟩
    · exact am_al2_in h.2 a ha
theorem am_look_in {β : Type} : ∀ {t : List (Nat × Nat × β)} {a b : Nat} {v : β}, am_look t a b = some v → (a, b, v) ∈ t
  | [], _, _, _, h => by cases h
  | q :: t, a, b, v, h => by
    unfold am_look at h
    split at h
    · rename_i hq
      obtain ⟨q1, q2, q3⟩ := q
      obtain ⟨rfl, rfl⟩ := hq
      cases h
      exact List.mem_cons_self
    · exact List.mem_cons_of_mem _ (am_look_in h)
def am_flw (q : Nat × Nat × Nat × Nat) (i : Nat) : Bool := am_at i (.fieldLink (am_cR q.1) q.2.1 (am_cR q.2.2.1) (am_cT q.2.2.1 q.2.2.2).2.1 (am_cT q.2.2.1 q.2.2.2).2.2.1) && decide (q.2.2.2 < am_cN q.2.2.1) && decide (q.2.2.1 < 10) && decide ((am_cT q.2.2.1 q.2.2.2).1 = am_cR q.2.2.1)
theorem am_fl_ok : am_al2 am_flw am_fl_t [297, 299, 301, 303, 323, 326, 324, 330, 328, 121, 100, 103, 106, 109, 112, 115, 118, 262, 263, 264, 186, 161, 163, 166, 169, 172, 175, 178, 181, 183, 214, 216, 218, 222, 226, 228, 229, 210, 212, 147, 149, 220, 224, 298, 300, 302, 304, 107, 110, 105, 184, 187, 170, 167, 120, 122, 114, 176, 179, 182, 117, 164, 102, 174, 279, 281, 343, 344, 345, 347, 348, 349, 350, 351, 352, 283, 101, 104, 108, 111, 119, 113, 116, 148, 150, 219, 211, 213, 215, 217, 162, 165, 168, 185, 177, 180, 171, 173, 188, 123, 225, 227, 223, 221, 325, 329, 327, 280, 282, 353, 265, 346, 1096, 1097, 1098, 1099, 1101, 1103, 1105, 1109, 1110, 1116, 1111, 1100, 1112, 1113, 1114, 1115, 1106, 1107, 1108, 1104, 1102] = true := by decide +kernel
def am_clw (ci : Nat) (l : List Nat) : Bool := am_al2 (fun w i => am_at i w) (u_ws (am_cR ci) (am_cT ci) (am_cN ci)) l
theorem am_cl_ok0 : am_clw 0 [305, 307, 309, 311] = true := by decide +kernel
theorem am_cl_ok1 : am_clw 1 [331, 333, 335, 337, 339] = true := by decide +kernel
theorem am_cl_ok2 : am_clw 2 [124, 126, 128, 130, 132, 134, 136, 138] = true := by decide +kernel
theorem am_cl_ok3 : am_clw 3 [266, 268, 270] = true := by decide +kernel
theorem am_cl_ok4 : am_clw 4 [189, 191, 193, 195, 197, 199, 201, 203, 205, 207] = true := by decide +kernel
theorem am_cl_ok5 : am_clw 5 [230, 232, 234, 236, 238, 240, 242, 244, 246, 248, 250] = true := by decide +kernel
theorem am_cl_ok6 : am_clw 6 [284, 286, 288] = true := by decide +kernel
theorem am_cl_ok7 : am_clw 7 [151, 153] = true := by decide +kernel
theorem am_cl_ok8 : am_clw 8 [354, 356, 358, 360, 362, 364, 366, 368, 370, 372, 374] = true := by decide +kernel
theorem am_cl_ok9 : am_clw 9 [1117, 1119, 1121, 1123, 1125, 1127, 1129, 1131, 1133, 1135, 1137, 1139, 1141, 1143, 1145, 1147, 1149, 1151, 1153, 1155, 1157] = true := by decide +kernel
theorem am_cl_in : ∀ ci, ci < 10 → ∀ w ∈ u_ws (am_cR ci) (am_cT ci) (am_cN ci), w ∈ am_W := by
  have key : ∀ ci l, am_clw ci l = true → ∀ w ∈ u_ws (am_cR ci) (am_cT ci) (am_cN ci), w ∈ am_W := by
    intro ci l h w hw
    obtain ⟨i, hi⟩ := am_al2_in h w hw
    exact am_at_in hi
  intro ci h
  match ci, h with
  | 0, _ => exact key _ _ am_cl_ok0
  | 1, _ => exact key _ _ am_cl_ok1
  | 2, _ => exact key _ _ am_cl_ok2
  | 3, _ => exact key _ _ am_cl_ok3
  | 4, _ => exact key _ _ am_cl_ok4
  | 5, _ => exact key _ _ am_cl_ok5
  | 6, _ => exact key _ _ am_cl_ok6
  | 7, _ => exact key _ _ am_cl_ok7
  | 8, _ => exact key _ _ am_cl_ok8
  | 9, _ => exact key _ _ am_cl_ok9
  | n + 10, h => exact absurd h (by omega)
theorem am_cY_ok : ∀ ci, ci < 10 → ∀ k, k < am_cN ci → parseFieldDescriptor (am_cT ci k).2.2.1 = some (am_cY ci k) := by
  intro ci h
  match ci, h with
  | 0, _ => exact tyX0_ok
  | 1, _ => exact tyX1_ok
  | 2, _ => exact tyX2_ok
  | 3, _ => exact tyX3_ok
  | 4, _ => exact tyX4_ok
  | 5, _ => exact tyX5_ok
  | 6, _ => exact tyX6_ok
  | 7, _ => exact tyX7_ok
  | 8, _ => exact tyX8_ok
  | 9, _ => exact tyX9_ok
  | n + 10, h => exact absurd h (by omega)
theorem am_nm_ok : ∀ ci, ci < 10 → ∀ a, a < am_cN ci → ∀ b, b < am_cN ci → a ≠ b → (am_cT ci a).2.1 ≠ (am_cT ci b).2.1 := by
  intro ci h
  match ci, h with
  | 0, _ => exact nmX0
  | 1, _ => exact nmX1
  | 2, _ => exact nmX2
  | 3, _ => exact nmX3
  | 4, _ => exact nmX4
  | 5, _ => exact nmX5
  | 6, _ => exact nmX6
  | 7, _ => exact nmX7
  | 8, _ => exact nmX8
  | 9, _ => exact nmX9
  | n + 10, h => exact absurd h (by omega)
theorem am_cl_at : ∀ ci, ci < 10 → am_cl[ci]? = some (am_cR ci, am_cT ci, am_cN ci) := by
  intro ci h
  match ci, h with
  | 0, _ => rfl
  | 1, _ => rfl
  | 2, _ => rfl
  | 3, _ => rfl
  | 4, _ => rfl
  | 5, _ => rfl
  | 6, _ => rfl
  | 7, _ => rfl
  | 8, _ => rfl
  | 9, _ => rfl
  | n + 10, h => exact absurd h (by omega)
theorem am_ins_ok : am_al2 (fun ci i => am_at i (.instantiable (am_cR ci) (am_cN ci))) (List.range 10) [292, 315, 95, 254, 156, 84, 274, 142, 76, 1091] = true := by decide +kernel
theorem am_init_ok : am_al2 (fun ci i => am_at i (.initialized (am_cR ci))) (List.range 11) [59, 60, 54, 57, 56, 53, 58, 55, 52, 61, 51] = true := by decide +kernel
end
section
def am_cw (z : Nat) : Cond := if am_tr z = true then .code (am_y z) (am_by z) (am_mL z) (am_ret z) else .codeWith (am_y z) (am_by z) (am_mL z) (am_ret z) (am_hh z)
/-- 0 static, 1 by its class, 2 a constructor -/
def am_ks : Nat → Nat := fun k => match k with
  | 0 => 2
  | 1 => 1
  | 2 => 2
  | 3 => 1
  | 4 => 1
  | 5 => 1
  | 6 => 1
  | 7 => 1
  | 8 => 1
  | 9 => 1
  | 10 => 1
  | 11 => 1
  | 12 => 1
  | 13 => 1
  | 14 => 1
  | 15 => 2
  | 16 => 1
  | 17 => 1
  | 18 => 1
  | 19 => 1
  | 20 => 1
  | 21 => 2
  | 22 => 1
  | 23 => 1
  | 24 => 1
  | 25 => 2
  | 26 => 1
  | 27 => 1
  | 28 => 1
  | 29 => 1
  | 30 => 1
  | 31 => 1
  | 32 => 1
  | 33 => 2
  | 34 => 1
  | 35 => 1
  | 36 => 1
  | 37 => 1
  | 38 => 1
  | 39 => 1
  | 40 => 1
  | 41 => 1
  | 42 => 1
  | 43 => 1
  | 44 => 1
  | 45 => 1
  | 46 => 1
  | 47 => 1
  | 48 => 1
  | 49 => 1
  | 50 => 1
  | 51 => 1
  | 52 => 1
  | 53 => 1
  | 54 => 1
  | 55 => 1
  | 56 => 1
  | 57 => 1
  | 58 => 1
  | 59 => 1
  | 60 => 1
  | 61 => 1
  | 62 => 2
  | 63 => 1
  | 64 => 2
  | 65 => 2
  | 66 => 1
  | 67 => 1
  | 68 => 1
  | 69 => 1
  | 70 => 1
  | 71 => 1
  | 72 => 1
  | 73 => 1
  | 74 => 1
  | 75 => 1
  | 76 => 1
  | 77 => 1
  | 78 => 1
  | 79 => 1
  | 80 => 1
  | 81 => 1
  | 82 => 1
  | 83 => 1
  | 84 => 1
  | 85 => 1
  | 86 => 1
  | 87 => 1
  | 88 => 1
  | 89 => 1
  | 90 => 1
  | 91 => 1
  | 92 => 1
  | 93 => 1
  | 94 => 1
  | 95 => 1
  | 96 => 1
  | 97 => 1
  | 98 => 1
  | 99 => 1
  | 100 => 1
  | 101 => 1
  | 102 => 1
  | 103 => 1
  | 104 => 1
  | 105 => 1
  | 106 => 1
  | 107 => 1
  | 108 => 1
  | 109 => 1
  | 110 => 0
  | 111 => 0
  | 112 => 0
  | 113 => 2
  | 114 => 1
  | 115 => 1
  | 116 => 0
  | 117 => 1
  | 118 => 1
  | 119 => 1
  | 120 => 1
  | 121 => 1
  | 122 => 1
  | 123 => 1
  | 124 => 1
  | 125 => 1
  | 126 => 1
  | 127 => 1
  | 128 => 1
  | 129 => 1
  | 130 => 1
  | 131 => 1
  | 132 => 1
  | 133 => 1
  | 134 => 1
  | 135 => 1
  | 136 => 1
  | 137 => 1
  | 138 => 1
  | 139 => 1
  | 140 => 1
  | 141 => 1
  | 142 => 1
  | 143 => 1
  | 144 => 1
  | 145 => 1
  | 146 => 1
  | 147 => 1
  | 148 => 1
  | 149 => 1
  | 150 => 1
  | 151 => 1
  | 152 => 1
  | 153 => 0
  | 154 => 1
  | 155 => 1
  | 156 => 1
  | 157 => 1
  | 158 => 1
  | 159 => 1
  | 160 => 1
  | 161 => 1
  | 162 => 1
  | 163 => 1
  | 164 => 1
  | 165 => 1
  | 166 => 1
  | 167 => 1
  | 168 => 1
  | 169 => 1
  | 170 => 1
  | 171 => 1
  | 172 => 1
  | 173 => 1
  | 174 => 1
  | 175 => 1
  | 176 => 1
  | 177 => 1
  | 178 => 1
  | 179 => 1
  | 180 => 1
  | 181 => 1
  | 182 => 1
  | 183 => 1
  | 184 => 1
  | 185 => 1
  | 186 => 1
  | 187 => 1
  | 188 => 1
  | 189 => 1
  | 190 => 1
  | 191 => 1
  | 192 => 1
  | 193 => 1
  | 194 => 1
  | 195 => 0
  | 196 => 0
  | 197 => 0
  | 198 => 0
  | 199 => 0
  | 200 => 0
  | 201 => 0
  | 202 => 0
  | 203 => 0
  | 204 => 0
  | 205 => 0
  | 206 => 0
  | 207 => 0
  | 208 => 0
  | 209 => 0
  | 210 => 0
  | 211 => 0
  | 212 => 0
  | 213 => 0
  | 214 => 0
  | 215 => 0
  | 216 => 0
  | 217 => 0
  | 218 => 0
  | 219 => 0
  | 220 => 0
  | 221 => 0
  | 222 => 0
  | 223 => 0
  | 224 => 0
  | 225 => 0
  | 226 => 0
  | 227 => 0
  | _ => 9
def am_zw (z : Nat) (q : Nat × Nat × Nat) : Bool := am_at q.1 (am_cw z) && (match am_ks z with
  | 0 => am_at q.2.1 (.static (am_y z))
  | 1 => am_at q.2.1 (.instanceMethod (am_y z)) && am_at q.2.2 (.selects (am_cR (am_own z)) (am_y z) (am_y z))
  | 2 => am_at q.2.1 (.instanceMethod (am_y z)) && decide ((am_y z).name = "<init>")
  | _ => false)
  && decide ((am_y z).cls = am_cR (am_own z)) && decide ((am_y z).cls ≠ "java/lang/invoke/MethodHandle") && decide ((am_y z).cls ≠ "java/lang/invoke/VarHandle") && decide ((parseMethodDescriptor (am_y z).desc).map (fun d => d.parameters.length) = some (am_na z)) && plainName (am_y z).cls && decide (am_own z < 11) && (am_ini z == (am_ks z == 2)) && decide (am_mL z ≤ 12) && decide (am_na z + (if am_ks z = 0 then 0 else 1) ≤ am_mL z)
  && (match am_rt z, am_ret z with
  | 0, none => true
  | 1, some .int => true
  | 2, some .boolean => true
  | 3, some .char => true
  | 4, some .float => true
  | 5, some .double => true
  | 6, some (.object _) => true
  | _, _ => false)
theorem am_zw0 : am_zw 0 (295, 294, 0) = true := by decide +kernel
theorem am_zw1 : am_zw 1 (425, 423, 424) = true := by decide +kernel
theorem am_zw2 : am_zw 2 (318, 317, 0) = true := by decide +kernel
theorem am_zw3 : am_zw 3 (933, 931, 932) = true := by decide +kernel
theorem am_zw4 : am_zw 4 (944, 942, 943) = true := by decide +kernel
theorem am_zw5 : am_zw 5 (948, 946, 947) = true := by decide +kernel
theorem am_zw6 : am_zw 6 (956, 954, 955) = true := by decide +kernel
theorem am_zw7 : am_zw 7 (973, 971, 972) = true := by decide +kernel
theorem am_zw8 : am_zw 8 (981, 979, 980) = true := by decide +kernel
theorem am_zw9 : am_zw 9 (985, 983, 984) = true := by decide +kernel
theorem am_zw10 : am_zw 10 (952, 950, 951) = true := by decide +kernel
theorem am_zw11 : am_zw 11 (964, 962, 963) = true := by decide +kernel
theorem am_zw12 : am_zw 12 (960, 958, 959) = true := by decide +kernel
theorem am_zw13 : am_zw 13 (977, 975, 976) = true := by decide +kernel
theorem am_zw14 : am_zw 14 (968, 966, 967) = true := by decide +kernel
theorem am_zw15 : am_zw 15 (98, 97, 0) = true := by decide +kernel
theorem am_zw16 : am_zw 16 (452, 450, 451) = true := by decide +kernel
theorem am_zw17 : am_zw 17 (404, 402, 403) = true := by decide +kernel
theorem am_zw18 : am_zw 18 (528, 526, 527) = true := by decide +kernel
theorem am_zw19 : am_zw 19 (500, 498, 499) = true := by decide +kernel
theorem am_zw20 : am_zw 20 (512, 510, 511) = true := by decide +kernel
theorem am_zw21 : am_zw 21 (257, 256, 0) = true := by decide +kernel
theorem am_zw22 : am_zw 22 (433, 431, 432) = true := by decide +kernel
theorem am_zw23 : am_zw 23 (641, 639, 640) = true := by decide +kernel
theorem am_zw24 : am_zw 24 (1082, 1080, 1081) = true := by decide +kernel
theorem am_zw25 : am_zw 25 (159, 158, 0) = true := by decide +kernel
theorem am_zw26 : am_zw 26 (492, 490, 491) = true := by decide +kernel
theorem am_zw27 : am_zw 27 (412, 410, 411) = true := by decide +kernel
theorem am_zw28 : am_zw 28 (496, 494, 495) = true := by decide +kernel
theorem am_zw29 : am_zw 29 (552, 550, 551) = true := by decide +kernel
theorem am_zw30 : am_zw 30 (548, 546, 547) = true := by decide +kernel
theorem am_zw31 : am_zw 31 (532, 530, 531) = true := by decide +kernel
theorem am_zw32 : am_zw 32 (388, 386, 387) = true := by decide +kernel
theorem am_zw33 : am_zw 33 (87, 86, 0) = true := by decide +kernel
theorem am_zw34 : am_zw 34 (400, 398, 399) = true := by decide +kernel
theorem am_zw35 : am_zw 35 (464, 462, 463) = true := by decide +kernel
theorem am_zw36 : am_zw 36 (475, 473, 474) = true := by decide +kernel
theorem am_zw37 : am_zw 37 (508, 506, 507) = true := by decide +kernel
theorem am_zw38 : am_zw 38 (524, 522, 523) = true := by decide +kernel
theorem am_zw39 : am_zw 39 (437, 435, 436) = true := by decide +kernel
theorem am_zw40 : am_zw 40 (441, 439, 440) = true := by decide +kernel
theorem am_zw41 : am_zw 41 (456, 454, 455) = true := by decide +kernel
theorem am_zw42 : am_zw 42 (460, 458, 459) = true := by decide +kernel
theorem am_zw43 : am_zw 43 (471, 469, 470) = true := by decide +kernel
theorem am_zw44 : am_zw 44 (479, 477, 478) = true := by decide +kernel
theorem am_zw45 : am_zw 45 (483, 481, 482) = true := by decide +kernel
theorem am_zw46 : am_zw 46 (487, 485, 486) = true := by decide +kernel
theorem am_zw47 : am_zw 47 (504, 502, 503) = true := by decide +kernel
theorem am_zw48 : am_zw 48 (516, 514, 515) = true := by decide +kernel
theorem am_zw49 : am_zw 49 (520, 518, 519) = true := by decide +kernel
theorem am_zw50 : am_zw 50 (544, 542, 543) = true := by decide +kernel
theorem am_zw51 : am_zw 51 (558, 556, 557) = true := by decide +kernel
theorem am_zw52 : am_zw 52 (562, 560, 561) = true := by decide +kernel
theorem am_zw53 : am_zw 53 (566, 564, 565) = true := by decide +kernel
theorem am_zw54 : am_zw 54 (540, 538, 539) = true := by decide +kernel
theorem am_zw55 : am_zw 55 (536, 534, 535) = true := by decide +kernel
theorem am_zw56 : am_zw 56 (901, 899, 900) = true := by decide +kernel
theorem am_zw57 : am_zw 57 (905, 903, 904) = true := by decide +kernel
theorem am_zw58 : am_zw 58 (1059, 1057, 1058) = true := by decide +kernel
theorem am_zw59 : am_zw 59 (1063, 1061, 1062) = true := by decide +kernel
theorem am_zw60 : am_zw 60 (1067, 1065, 1066) = true := by decide +kernel
theorem am_zw61 : am_zw 61 (1071, 1069, 1070) = true := by decide +kernel
theorem am_zw62 : am_zw 62 (277, 276, 0) = true := by decide +kernel
theorem am_zw63 : am_zw 63 (448, 446, 447) = true := by decide +kernel
theorem am_zw64 : am_zw 64 (145, 144, 0) = true := by decide +kernel
theorem am_zw65 : am_zw 65 (79, 78, 0) = true := by decide +kernel
theorem am_zw66 : am_zw 66 (421, 419, 420) = true := by decide +kernel
theorem am_zw67 : am_zw 67 (648, 646, 647) = true := by decide +kernel
theorem am_zw68 : am_zw 68 (655, 653, 654) = true := by decide +kernel
theorem am_zw69 : am_zw 69 (662, 660, 661) = true := by decide +kernel
theorem am_zw70 : am_zw 70 (669, 667, 668) = true := by decide +kernel
theorem am_zw71 : am_zw 71 (676, 674, 675) = true := by decide +kernel
theorem am_zw72 : am_zw 72 (683, 681, 682) = true := by decide +kernel
theorem am_zw73 : am_zw 73 (690, 688, 689) = true := by decide +kernel
theorem am_zw74 : am_zw 74 (429, 428, 0) = true := by decide +kernel
theorem am_zw75 : am_zw 75 (731, 729, 730) = true := by decide +kernel
theorem am_zw76 : am_zw 76 (775, 773, 774) = true := by decide +kernel
theorem am_zw77 : am_zw 77 (787, 785, 786) = true := by decide +kernel
theorem am_zw78 : am_zw 78 (850, 848, 849) = true := by decide +kernel
theorem am_zw79 : am_zw 79 (862, 860, 861) = true := by decide +kernel
theorem am_zw80 : am_zw 80 (870, 868, 869) = true := by decide +kernel
theorem am_zw81 : am_zw 81 (1035, 1033, 1034) = true := by decide +kernel
theorem am_zw82 : am_zw 82 (735, 734, 2) = true := by decide +kernel
theorem am_zw83 : am_zw 83 (779, 778, 3) = true := by decide +kernel
theorem am_zw84 : am_zw 84 (854, 853, 5) = true := by decide +kernel
theorem am_zw85 : am_zw 85 (794, 792, 793) = true := by decide +kernel
theorem am_zw86 : am_zw 86 (806, 804, 805) = true := by decide +kernel
theorem am_zw87 : am_zw 87 (813, 811, 812) = true := by decide +kernel
theorem am_zw88 : am_zw 88 (821, 819, 820) = true := by decide +kernel
theorem am_zw89 : am_zw 89 (843, 841, 842) = true := by decide +kernel
theorem am_zw90 : am_zw 90 (878, 876, 877) = true := by decide +kernel
theorem am_zw91 : am_zw 91 (890, 888, 889) = true := by decide +kernel
theorem am_zw92 : am_zw 92 (882, 881, 6) = true := by decide +kernel
theorem am_zw93 : am_zw 93 (798, 797, 4) = true := by decide +kernel
theorem am_zw94 : am_zw 94 (897, 895, 896) = true := by decide +kernel
theorem am_zw95 : am_zw 95 (380, 378, 379) = true := by decide +kernel
theorem am_zw96 : am_zw 96 (384, 382, 383) = true := by decide +kernel
theorem am_zw97 : am_zw 97 (1047, 1045, 1046) = true := by decide +kernel
theorem am_zw98 : am_zw 98 (914, 912, 913) = true := by decide +kernel
theorem am_zw99 : am_zw 99 (940, 938, 939) = true := by decide +kernel
theorem am_zw100 : am_zw 100 (392, 390, 391) = true := by decide +kernel
theorem am_zw101 : am_zw 101 (992, 990, 991) = true := by decide +kernel
theorem am_zw102 : am_zw 102 (999, 997, 998) = true := by decide +kernel
theorem am_zw103 : am_zw 103 (1003, 1002, 7) = true := by decide +kernel
theorem am_zw104 : am_zw 104 (1007, 1006, 8) = true := by decide +kernel
theorem am_zw105 : am_zw 105 (1014, 1012, 1013) = true := by decide +kernel
theorem am_zw106 : am_zw 106 (1055, 1053, 1054) = true := by decide +kernel
theorem am_zw107 : am_zw 107 (1078, 1076, 1077) = true := by decide +kernel
theorem am_zw108 : am_zw 108 (396, 394, 395) = true := by decide +kernel
theorem am_zw109 : am_zw 109 (1089, 1087, 1088) = true := by decide +kernel
theorem am_zw110 : am_zw 110 (444, 443, 0) = true := by decide +kernel
theorem am_zw111 : am_zw 111 (467, 466, 0) = true := by decide +kernel
theorem am_zw112 : am_zw 112 (569, 568, 0) = true := by decide +kernel
theorem am_zw113 : am_zw 113 (1094, 1093, 0) = true := by decide +kernel
theorem am_zw114 : am_zw 114 (1163, 1161, 1162) = true := by decide +kernel
theorem am_zw115 : am_zw 115 (1190, 1189, 13) = true := by decide +kernel
theorem am_zw116 : am_zw 116 (1174, 1173, 0) = true := by decide +kernel
theorem am_zw117 : am_zw 117 (1171, 1170, 9) = true := by decide +kernel
theorem am_zw118 : am_zw 118 (1437, 1436, 48) = true := by decide +kernel
theorem am_zw119 : am_zw 119 (1373, 1372, 38) = true := by decide +kernel
theorem am_zw120 : am_zw 120 (1377, 1376, 39) = true := by decide +kernel
theorem am_zw121 : am_zw 121 (1186, 1185, 12) = true := by decide +kernel
theorem am_zw122 : am_zw 122 (1178, 1177, 10) = true := by decide +kernel
theorem am_zw123 : am_zw 123 (1210, 1209, 16) = true := by decide +kernel
theorem am_zw124 : am_zw 124 (1182, 1181, 11) = true := by decide +kernel
theorem am_zw125 : am_zw 125 (1206, 1205, 15) = true := by decide +kernel
theorem am_zw126 : am_zw 126 (1222, 1221, 18) = true := by decide +kernel
theorem am_zw127 : am_zw 127 (1263, 1262, 25) = true := by decide +kernel
theorem am_zw128 : am_zw 128 (1238, 1237, 21) = true := by decide +kernel
theorem am_zw129 : am_zw 129 (1267, 1266, 26) = true := by decide +kernel
theorem am_zw130 : am_zw 130 (1251, 1250, 23) = true := by decide +kernel
theorem am_zw131 : am_zw 131 (1226, 1225, 19) = true := by decide +kernel
theorem am_zw132 : am_zw 132 (1167, 1165, 1166) = true := by decide +kernel
theorem am_zw133 : am_zw 133 (1194, 1192, 1193) = true := by decide +kernel
theorem am_zw134 : am_zw 134 (1202, 1201, 14) = true := by decide +kernel
theorem am_zw135 : am_zw 135 (1198, 1196, 1197) = true := by decide +kernel
theorem am_zw136 : am_zw 136 (1218, 1217, 17) = true := by decide +kernel
theorem am_zw137 : am_zw 137 (1214, 1212, 1213) = true := by decide +kernel
theorem am_zw138 : am_zw 138 (1234, 1233, 20) = true := by decide +kernel
theorem am_zw139 : am_zw 139 (1230, 1228, 1229) = true := by decide +kernel
theorem am_zw140 : am_zw 140 (1246, 1245, 22) = true := by decide +kernel
theorem am_zw141 : am_zw 141 (1242, 1240, 1241) = true := by decide +kernel
theorem am_zw142 : am_zw 142 (1259, 1258, 24) = true := by decide +kernel
theorem am_zw143 : am_zw 143 (1255, 1253, 1254) = true := by decide +kernel
theorem am_zw144 : am_zw 144 (1283, 1282, 29) = true := by decide +kernel
theorem am_zw145 : am_zw 145 (1291, 1290, 31) = true := by decide +kernel
theorem am_zw146 : am_zw 146 (1287, 1286, 30) = true := by decide +kernel
theorem am_zw147 : am_zw 147 (1307, 1306, 35) = true := by decide +kernel
theorem am_zw148 : am_zw 148 (1303, 1302, 34) = true := by decide +kernel
theorem am_zw149 : am_zw 149 (1333, 1332, 36) = true := by decide +kernel
theorem am_zw150 : am_zw 150 (1295, 1294, 32) = true := by decide +kernel
theorem am_zw151 : am_zw 151 (1299, 1298, 33) = true := by decide +kernel
theorem am_zw152 : am_zw 152 (1279, 1278, 28) = true := by decide +kernel
theorem am_zw153 : am_zw 153 (1313, 1312, 0) = true := by decide +kernel
theorem am_zw154 : am_zw 154 (1275, 1274, 27) = true := by decide +kernel
theorem am_zw155 : am_zw 155 (1271, 1269, 1270) = true := by decide +kernel
theorem am_zw156 : am_zw 156 (1473, 1472, 50) = true := by decide +kernel
theorem am_zw157 : am_zw 157 (1317, 1315, 1316) = true := by decide +kernel
theorem am_zw158 : am_zw 158 (1321, 1319, 1320) = true := by decide +kernel
theorem am_zw159 : am_zw 159 (1325, 1323, 1324) = true := by decide +kernel
theorem am_zw160 : am_zw 160 (1329, 1327, 1328) = true := by decide +kernel
theorem am_zw161 : am_zw 161 (1337, 1335, 1336) = true := by decide +kernel
theorem am_zw162 : am_zw 162 (1341, 1339, 1340) = true := by decide +kernel
theorem am_zw163 : am_zw 163 (1345, 1343, 1344) = true := by decide +kernel
theorem am_zw164 : am_zw 164 (1349, 1347, 1348) = true := by decide +kernel
theorem am_zw165 : am_zw 165 (1353, 1351, 1352) = true := by decide +kernel
theorem am_zw166 : am_zw 166 (1357, 1355, 1356) = true := by decide +kernel
theorem am_zw167 : am_zw 167 (1361, 1359, 1360) = true := by decide +kernel
theorem am_zw168 : am_zw 168 (1369, 1368, 37) = true := by decide +kernel
theorem am_zw169 : am_zw 169 (1365, 1363, 1364) = true := by decide +kernel
theorem am_zw170 : am_zw 170 (1381, 1379, 1380) = true := by decide +kernel
theorem am_zw171 : am_zw 171 (1389, 1388, 40) = true := by decide +kernel
theorem am_zw172 : am_zw 172 (1385, 1383, 1384) = true := by decide +kernel
theorem am_zw173 : am_zw 173 (1393, 1391, 1392) = true := by decide +kernel
theorem am_zw174 : am_zw 174 (1401, 1400, 41) = true := by decide +kernel
theorem am_zw175 : am_zw 175 (1397, 1395, 1396) = true := by decide +kernel
theorem am_zw176 : am_zw 176 (1405, 1403, 1404) = true := by decide +kernel
theorem am_zw177 : am_zw 177 (1425, 1424, 45) = true := by decide +kernel
theorem am_zw178 : am_zw 178 (1421, 1420, 44) = true := by decide +kernel
theorem am_zw179 : am_zw 179 (1417, 1416, 43) = true := by decide +kernel
theorem am_zw180 : am_zw 180 (1429, 1428, 46) = true := by decide +kernel
theorem am_zw181 : am_zw 181 (1413, 1412, 42) = true := by decide +kernel
theorem am_zw182 : am_zw 182 (1433, 1432, 47) = true := by decide +kernel
theorem am_zw183 : am_zw 183 (1409, 1407, 1408) = true := by decide +kernel
theorem am_zw184 : am_zw 184 (1441, 1439, 1440) = true := by decide +kernel
theorem am_zw185 : am_zw 185 (1445, 1443, 1444) = true := by decide +kernel
theorem am_zw186 : am_zw 186 (1453, 1452, 49) = true := by decide +kernel
theorem am_zw187 : am_zw 187 (1449, 1447, 1448) = true := by decide +kernel
theorem am_zw188 : am_zw 188 (1457, 1455, 1456) = true := by decide +kernel
theorem am_zw189 : am_zw 189 (1461, 1459, 1460) = true := by decide +kernel
theorem am_zw190 : am_zw 190 (1465, 1463, 1464) = true := by decide +kernel
theorem am_zw191 : am_zw 191 (1469, 1467, 1468) = true := by decide +kernel
theorem am_zw192 : am_zw 192 (1477, 1475, 1476) = true := by decide +kernel
theorem am_zw193 : am_zw 193 (1481, 1479, 1480) = true := by decide +kernel
theorem am_zw194 : am_zw 194 (1485, 1483, 1484) = true := by decide +kernel
theorem am_zw195 : am_zw 195 (416, 415, 0) = true := by decide +kernel
theorem am_zw196 : am_zw 196 (644, 643, 0) = true := by decide +kernel
theorem am_zw197 : am_zw 197 (651, 650, 0) = true := by decide +kernel
theorem am_zw198 : am_zw 198 (658, 657, 0) = true := by decide +kernel
theorem am_zw199 : am_zw 199 (665, 664, 0) = true := by decide +kernel
theorem am_zw200 : am_zw 200 (672, 671, 0) = true := by decide +kernel
theorem am_zw201 : am_zw 201 (679, 678, 0) = true := by decide +kernel
theorem am_zw202 : am_zw 202 (686, 685, 0) = true := by decide +kernel
theorem am_zw203 : am_zw 203 (693, 692, 0) = true := by decide +kernel
theorem am_zw204 : am_zw 204 (771, 770, 0) = true := by decide +kernel
theorem am_zw205 : am_zw 205 (783, 782, 0) = true := by decide +kernel
theorem am_zw206 : am_zw 206 (790, 789, 0) = true := by decide +kernel
theorem am_zw207 : am_zw 207 (802, 801, 0) = true := by decide +kernel
theorem am_zw208 : am_zw 208 (809, 808, 0) = true := by decide +kernel
theorem am_zw209 : am_zw 209 (816, 815, 0) = true := by decide +kernel
theorem am_zw210 : am_zw 210 (839, 838, 0) = true := by decide +kernel
theorem am_zw211 : am_zw 211 (846, 845, 0) = true := by decide +kernel
theorem am_zw212 : am_zw 212 (858, 857, 0) = true := by decide +kernel
theorem am_zw213 : am_zw 213 (866, 865, 0) = true := by decide +kernel
theorem am_zw214 : am_zw 214 (874, 873, 0) = true := by decide +kernel
theorem am_zw215 : am_zw 215 (886, 885, 0) = true := by decide +kernel
theorem am_zw216 : am_zw 216 (893, 892, 0) = true := by decide +kernel
theorem am_zw217 : am_zw 217 (909, 908, 0) = true := by decide +kernel
theorem am_zw218 : am_zw 218 (936, 935, 0) = true := by decide +kernel
theorem am_zw219 : am_zw 219 (988, 987, 0) = true := by decide +kernel
theorem am_zw220 : am_zw 220 (995, 994, 0) = true := by decide +kernel
theorem am_zw221 : am_zw 221 (1010, 1009, 0) = true := by decide +kernel
theorem am_zw222 : am_zw 222 (1017, 1016, 0) = true := by decide +kernel
theorem am_zw223 : am_zw 223 (1043, 1042, 0) = true := by decide +kernel
theorem am_zw224 : am_zw 224 (1051, 1050, 0) = true := by decide +kernel
theorem am_zw225 : am_zw 225 (1074, 1073, 0) = true := by decide +kernel
theorem am_zw226 : am_zw 226 (1085, 1084, 0) = true := by decide +kernel
theorem am_zw_ok : ∀ z, z < 227 → ∃ q, am_zw z q = true := fun z h => match z, h with
  | 0, _ => ⟨_, am_zw0⟩
  | 1, _ => ⟨_, am_zw1⟩
  | 2, _ => ⟨_, am_zw2⟩
  | 3, _ => ⟨_, am_zw3⟩
  | 4, _ => ⟨_, am_zw4⟩
  | 5, _ => ⟨_, am_zw5⟩
  | 6, _ => ⟨_, am_zw6⟩
  | 7, _ => ⟨_, am_zw7⟩
  | 8, _ => ⟨_, am_zw8⟩
  | 9, _ => ⟨_, am_zw9⟩
  | 10, _ => ⟨_, am_zw10⟩
  | 11, _ => ⟨_, am_zw11⟩
  | 12, _ => ⟨_, am_zw12⟩
  | 13, _ => ⟨_, am_zw13⟩
  | 14, _ => ⟨_, am_zw14⟩
  | 15, _ => ⟨_, am_zw15⟩
  | 16, _ => ⟨_, am_zw16⟩
  | 17, _ => ⟨_, am_zw17⟩
  | 18, _ => ⟨_, am_zw18⟩
  | 19, _ => ⟨_, am_zw19⟩
  | 20, _ => ⟨_, am_zw20⟩
  | 21, _ => ⟨_, am_zw21⟩
  | 22, _ => ⟨_, am_zw22⟩
  | 23, _ => ⟨_, am_zw23⟩
  | 24, _ => ⟨_, am_zw24⟩
  | 25, _ => ⟨_, am_zw25⟩
  | 26, _ => ⟨_, am_zw26⟩
  | 27, _ => ⟨_, am_zw27⟩
  | 28, _ => ⟨_, am_zw28⟩
  | 29, _ => ⟨_, am_zw29⟩
  | 30, _ => ⟨_, am_zw30⟩
  | 31, _ => ⟨_, am_zw31⟩
  | 32, _ => ⟨_, am_zw32⟩
  | 33, _ => ⟨_, am_zw33⟩
  | 34, _ => ⟨_, am_zw34⟩
  | 35, _ => ⟨_, am_zw35⟩
  | 36, _ => ⟨_, am_zw36⟩
  | 37, _ => ⟨_, am_zw37⟩
  | 38, _ => ⟨_, am_zw38⟩
  | 39, _ => ⟨_, am_zw39⟩
  | 40, _ => ⟨_, am_zw40⟩
  | 41, _ => ⟨_, am_zw41⟩
  | 42, _ => ⟨_, am_zw42⟩
  | 43, _ => ⟨_, am_zw43⟩
  | 44, _ => ⟨_, am_zw44⟩
  | 45, _ => ⟨_, am_zw45⟩
  | 46, _ => ⟨_, am_zw46⟩
  | 47, _ => ⟨_, am_zw47⟩
  | 48, _ => ⟨_, am_zw48⟩
  | 49, _ => ⟨_, am_zw49⟩
  | 50, _ => ⟨_, am_zw50⟩
  | 51, _ => ⟨_, am_zw51⟩
  | 52, _ => ⟨_, am_zw52⟩
  | 53, _ => ⟨_, am_zw53⟩
  | 54, _ => ⟨_, am_zw54⟩
  | 55, _ => ⟨_, am_zw55⟩
  | 56, _ => ⟨_, am_zw56⟩
  | 57, _ => ⟨_, am_zw57⟩
  | 58, _ => ⟨_, am_zw58⟩
  | 59, _ => ⟨_, am_zw59⟩
  | 60, _ => ⟨_, am_zw60⟩
  | 61, _ => ⟨_, am_zw61⟩
  | 62, _ => ⟨_, am_zw62⟩
  | 63, _ => ⟨_, am_zw63⟩
  | 64, _ => ⟨_, am_zw64⟩
  | 65, _ => ⟨_, am_zw65⟩
  | 66, _ => ⟨_, am_zw66⟩
  | 67, _ => ⟨_, am_zw67⟩
  | 68, _ => ⟨_, am_zw68⟩
  | 69, _ => ⟨_, am_zw69⟩
  | 70, _ => ⟨_, am_zw70⟩
  | 71, _ => ⟨_, am_zw71⟩
  | 72, _ => ⟨_, am_zw72⟩
  | 73, _ => ⟨_, am_zw73⟩
  | 74, _ => ⟨_, am_zw74⟩
  | 75, _ => ⟨_, am_zw75⟩
  | 76, _ => ⟨_, am_zw76⟩
  | 77, _ => ⟨_, am_zw77⟩
  | 78, _ => ⟨_, am_zw78⟩
  | 79, _ => ⟨_, am_zw79⟩
  | 80, _ => ⟨_, am_zw80⟩
  | 81, _ => ⟨_, am_zw81⟩
  | 82, _ => ⟨_, am_zw82⟩
  | 83, _ => ⟨_, am_zw83⟩
  | 84, _ => ⟨_, am_zw84⟩
  | 85, _ => ⟨_, am_zw85⟩
  | 86, _ => ⟨_, am_zw86⟩
  | 87, _ => ⟨_, am_zw87⟩
  | 88, _ => ⟨_, am_zw88⟩
  | 89, _ => ⟨_, am_zw89⟩
  | 90, _ => ⟨_, am_zw90⟩
  | 91, _ => ⟨_, am_zw91⟩
  | 92, _ => ⟨_, am_zw92⟩
  | 93, _ => ⟨_, am_zw93⟩
  | 94, _ => ⟨_, am_zw94⟩
  | 95, _ => ⟨_, am_zw95⟩
  | 96, _ => ⟨_, am_zw96⟩
  | 97, _ => ⟨_, am_zw97⟩
  | 98, _ => ⟨_, am_zw98⟩
  | 99, _ => ⟨_, am_zw99⟩
  | 100, _ => ⟨_, am_zw100⟩
  | 101, _ => ⟨_, am_zw101⟩
  | 102, _ => ⟨_, am_zw102⟩
  | 103, _ => ⟨_, am_zw103⟩
  | 104, _ => ⟨_, am_zw104⟩
  | 105, _ => ⟨_, am_zw105⟩
  | 106, _ => ⟨_, am_zw106⟩
  | 107, _ => ⟨_, am_zw107⟩
  | 108, _ => ⟨_, am_zw108⟩
  | 109, _ => ⟨_, am_zw109⟩
  | 110, _ => ⟨_, am_zw110⟩
  | 111, _ => ⟨_, am_zw111⟩
  | 112, _ => ⟨_, am_zw112⟩
  | 113, _ => ⟨_, am_zw113⟩
  | 114, _ => ⟨_, am_zw114⟩
  | 115, _ => ⟨_, am_zw115⟩
  | 116, _ => ⟨_, am_zw116⟩
  | 117, _ => ⟨_, am_zw117⟩
  | 118, _ => ⟨_, am_zw118⟩
  | 119, _ => ⟨_, am_zw119⟩
  | 120, _ => ⟨_, am_zw120⟩
  | 121, _ => ⟨_, am_zw121⟩
  | 122, _ => ⟨_, am_zw122⟩
  | 123, _ => ⟨_, am_zw123⟩
  | 124, _ => ⟨_, am_zw124⟩
  | 125, _ => ⟨_, am_zw125⟩
  | 126, _ => ⟨_, am_zw126⟩
  | 127, _ => ⟨_, am_zw127⟩
  | 128, _ => ⟨_, am_zw128⟩
  | 129, _ => ⟨_, am_zw129⟩
  | 130, _ => ⟨_, am_zw130⟩
  | 131, _ => ⟨_, am_zw131⟩
  | 132, _ => ⟨_, am_zw132⟩
  | 133, _ => ⟨_, am_zw133⟩
  | 134, _ => ⟨_, am_zw134⟩
  | 135, _ => ⟨_, am_zw135⟩
  | 136, _ => ⟨_, am_zw136⟩
  | 137, _ => ⟨_, am_zw137⟩
  | 138, _ => ⟨_, am_zw138⟩
  | 139, _ => ⟨_, am_zw139⟩
  | 140, _ => ⟨_, am_zw140⟩
  | 141, _ => ⟨_, am_zw141⟩
  | 142, _ => ⟨_, am_zw142⟩
  | 143, _ => ⟨_, am_zw143⟩
  | 144, _ => ⟨_, am_zw144⟩
  | 145, _ => ⟨_, am_zw145⟩
  | 146, _ => ⟨_, am_zw146⟩
  | 147, _ => ⟨_, am_zw147⟩
  | 148, _ => ⟨_, am_zw148⟩
  | 149, _ => ⟨_, am_zw149⟩
  | 150, _ => ⟨_, am_zw150⟩
  | 151, _ => ⟨_, am_zw151⟩
  | 152, _ => ⟨_, am_zw152⟩
  | 153, _ => ⟨_, am_zw153⟩
  | 154, _ => ⟨_, am_zw154⟩
  | 155, _ => ⟨_, am_zw155⟩
  | 156, _ => ⟨_, am_zw156⟩
  | 157, _ => ⟨_, am_zw157⟩
  | 158, _ => ⟨_, am_zw158⟩
  | 159, _ => ⟨_, am_zw159⟩
  | 160, _ => ⟨_, am_zw160⟩
  | 161, _ => ⟨_, am_zw161⟩
  | 162, _ => ⟨_, am_zw162⟩
  | 163, _ => ⟨_, am_zw163⟩
  | 164, _ => ⟨_, am_zw164⟩
  | 165, _ => ⟨_, am_zw165⟩
  | 166, _ => ⟨_, am_zw166⟩
  | 167, _ => ⟨_, am_zw167⟩
  | 168, _ => ⟨_, am_zw168⟩
  | 169, _ => ⟨_, am_zw169⟩
  | 170, _ => ⟨_, am_zw170⟩
  | 171, _ => ⟨_, am_zw171⟩
  | 172, _ => ⟨_, am_zw172⟩
  | 173, _ => ⟨_, am_zw173⟩
  | 174, _ => ⟨_, am_zw174⟩
  | 175, _ => ⟨_, am_zw175⟩
  | 176, _ => ⟨_, am_zw176⟩
  | 177, _ => ⟨_, am_zw177⟩
  | 178, _ => ⟨_, am_zw178⟩
  | 179, _ => ⟨_, am_zw179⟩
  | 180, _ => ⟨_, am_zw180⟩
  | 181, _ => ⟨_, am_zw181⟩
  | 182, _ => ⟨_, am_zw182⟩
  | 183, _ => ⟨_, am_zw183⟩
  | 184, _ => ⟨_, am_zw184⟩
  | 185, _ => ⟨_, am_zw185⟩
  | 186, _ => ⟨_, am_zw186⟩
  | 187, _ => ⟨_, am_zw187⟩
  | 188, _ => ⟨_, am_zw188⟩
  | 189, _ => ⟨_, am_zw189⟩
  | 190, _ => ⟨_, am_zw190⟩
  | 191, _ => ⟨_, am_zw191⟩
  | 192, _ => ⟨_, am_zw192⟩
  | 193, _ => ⟨_, am_zw193⟩
  | 194, _ => ⟨_, am_zw194⟩
  | 195, _ => ⟨_, am_zw195⟩
  | 196, _ => ⟨_, am_zw196⟩
  | 197, _ => ⟨_, am_zw197⟩
  | 198, _ => ⟨_, am_zw198⟩
  | 199, _ => ⟨_, am_zw199⟩
  | 200, _ => ⟨_, am_zw200⟩
  | 201, _ => ⟨_, am_zw201⟩
  | 202, _ => ⟨_, am_zw202⟩
  | 203, _ => ⟨_, am_zw203⟩
  | 204, _ => ⟨_, am_zw204⟩
  | 205, _ => ⟨_, am_zw205⟩
  | 206, _ => ⟨_, am_zw206⟩
  | 207, _ => ⟨_, am_zw207⟩
  | 208, _ => ⟨_, am_zw208⟩
  | 209, _ => ⟨_, am_zw209⟩
  | 210, _ => ⟨_, am_zw210⟩
  | 211, _ => ⟨_, am_zw211⟩
  | 212, _ => ⟨_, am_zw212⟩
  | 213, _ => ⟨_, am_zw213⟩
  | 214, _ => ⟨_, am_zw214⟩
  | 215, _ => ⟨_, am_zw215⟩
  | 216, _ => ⟨_, am_zw216⟩
  | 217, _ => ⟨_, am_zw217⟩
  | 218, _ => ⟨_, am_zw218⟩
  | 219, _ => ⟨_, am_zw219⟩
  | 220, _ => ⟨_, am_zw220⟩
  | 221, _ => ⟨_, am_zw221⟩
  | 222, _ => ⟨_, am_zw222⟩
  | 223, _ => ⟨_, am_zw223⟩
  | 224, _ => ⟨_, am_zw224⟩
  | 225, _ => ⟨_, am_zw225⟩
  | 226, _ => ⟨_, am_zw226⟩
  | n + 227, h => absurd h (by omega)
end
section
def am_mlw (q : Nat × Nat × Nat × Nat) (i : Nat) : Bool := decide (q.1 < 11) && (match q.2.2.1 with
  | 0 => am_at i (.methodLink (am_cR q.1) q.2.1 (am_y q.2.2.2)) && am_ks q.2.2.2 == 1 && decide (q.2.2.2 < 227) && am_tr q.2.2.2
  | 1 => am_at i (.methodLink (am_cR q.1) q.2.1 (am_y q.2.2.2)) && am_ks q.2.2.2 == 0 && decide (q.2.2.2 < 227)
  | 2 => am_at i (.methodLink (am_cR q.1) q.2.1 (am_y q.2.2.2)) && am_ks q.2.2.2 == 2 && decide (q.2.2.2 < 227) && am_tr q.2.2.2
  | 3 => am_at i (.methodLinkNest (am_cR q.1) q.2.1 (am_y q.2.2.2) "BellTelegraph") && am_ks q.2.2.2 == 2 && decide (q.2.2.2 < 227) && am_tr q.2.2.2
  | 4 => am_at i (.methodLinkNest (am_cR q.1) q.2.1 (am_y q.2.2.2) "BellTelegraph") && am_ks q.2.2.2 == 0 && decide (q.2.2.2 < 227) && am_tr q.2.2.2
  | 5 => am_at i (.methodLink (am_cR q.1) q.2.1 objectInit)
  | 6 => am_at i (.methodLink (am_cR q.1) q.2.1 Lib.Math.min.name)
  | 7 => am_at i (.methodLink (am_cR q.1) q.2.1 arraycopyName)
  | _ => false)
theorem am_ml_ok : am_al2 am_mlw am_ml_t [296, 319, 322, 945, 961, 949, 953, 970, 978, 982, 957, 965, 969, 974, 99, 405, 258, 261, 160, 493, 413, 549, 88, 96, 143, 157, 401, 408, 409, 438, 453, 457, 468, 476, 480, 501, 513, 442, 445, 449, 461, 465, 472, 484, 489, 497, 505, 509, 517, 521, 525, 529, 533, 541, 554, 555, 563, 545, 553, 559, 567, 537, 902, 906, 278, 146, 80, 85, 255, 275, 293, 316, 422, 426, 430, 397, 434, 638, 732, 752, 753, 776, 851, 855, 863, 871, 736, 780, 795, 385, 879, 883, 799, 898, 1048, 930, 941, 1000, 1004, 1056, 1060, 1064, 1068, 1079, 1095, 1183, 1187, 1172, 1168, 1175, 1179, 1203, 1207, 1199, 1219, 1223, 1215, 1235, 1231, 1248, 1243, 1260, 1264, 1256, 1288, 1308, 1304, 1292, 1300, 1280, 1284, 1296, 1311, 1276, 1272, 1330, 1370, 1374, 1366, 1386, 1398, 1418, 1414, 1422, 1426, 1410, 1430, 1434, 1450, 1470, 418, 645, 652, 659, 666, 673, 680, 687, 728, 772, 784, 791, 803, 810, 818, 840, 847, 859, 867, 875, 887, 894, 911, 937, 989, 996, 1011, 1032, 1044, 1052, 1075, 1086, 77, 1092, 414, 1164, 1160, 642, 1191, 649, 1195, 656, 1211, 663, 1227, 670, 1239, 677, 1252, 684, 1268, 691, 1314, 769, 1318, 781, 1322, 788, 1326, 800, 1334, 807, 1338, 814, 1342, 837, 1346, 844, 1350, 856, 1354, 864, 1358, 872, 1362, 884, 1378, 891, 1382, 377, 1390, 381, 1394, 907, 1402, 934, 1406, 389, 1438, 986, 1442, 993, 1446, 1008, 1454, 1015, 1458, 1041, 1462, 1049, 1466, 1072, 1474, 393, 1478, 1083, 1482] = true := by decide +kernel
theorem am_kc_ok : am_al2 (fun (q : Nat × Nat × Int32) i => am_at i (.constant (am_cR q.1) q.2.1 q.2.2)) am_kc_t [488, 1247] = true := by decide +kernel
end
section
def am_xn : List String := ["java/lang/RuntimeException", "java/lang/Exception"]
def am_eic : List (Nat × Nat) := [(0, 83), (1, 173), (2, 123), (3, 183), (4, 254), (5, 163)]
def am_nww (q : Nat × Nat × (Nat ⊕ (Nat × Nat))) (i : Nat) : Bool := decide (q.1 < 11) && (match q.2.2 with
  | .inl ci => am_at i (.classLink (am_cR q.1) q.2.1 (am_cR ci)) && decide (ci < 10)
  | .inr (E, ic) => am_at i (.classLink (am_cR q.1) q.2.1 (am_en E)) && decide (E < 6) && decide ((E, ic) ∈ am_eic) && decide (q.1 = 8))
theorem am_nw_ok : am_al2 am_nww am_nw_t [320, 259, 89, 91, 93, 83, 253, 273, 291, 314, 570, 754, 1036, 737, 822, 915, 75, 1090] = true := by decide +kernel
theorem am_aw_ok : am_al2 (fun (q : Nat × Nat × Nat) i => am_at i (.classLink (am_cR q.1) q.2.1 (am_cR q.2.2)) && decide (q.2.2 < 10)) am_aw_t [320, 259, 89, 91, 93] = true := by decide +kernel
theorem am_ao_ok : am_al2 (fun (ci i : Nat) => am_at i (.arrayOver (.object (am_cR ci)))) [0, 2, 4, 5, 7] [321, 90, 94, 260, 92] = true := by decide +kernel
theorem am_ac_ok : am_al2 (fun (t : FieldType) i => am_at i (.arrayClass t)) [.int, .char, .long, .double] [141, 342, 1486, 1487] = true := by decide +kernel
def am_ob : List Cond := [.instanceMethod objectInit, .code objectInit ⟨#[0xb1]⟩ 1 none, .static Lib.Math.min.name, .initialized "java/lang/Math", .code Lib.Math.min.name Lib.Math.min.code 2 (some .int), .native arraycopyName, .static arraycopyName, .initialized "java/lang/System"]
theorem am_ob_ok : am_al2 (fun w i => am_at i w) am_ob [81, 82, 1309, 67, 1310, 407, 406, 62] = true := by decide +kernel
theorem am_ex_ok0 : ((Cond.classLink (am_cR 8) 0 (am_en 0) :: Cond.initialized (am_en 0) :: vx_at0 (am_cR 8) 83 (am_en 0) am_xn).all vx_ot && (Cond.initialized (am_en 0) :: vx_at0 (am_cR 8) 83 (am_en 0) am_xn).all (fun w => decide (w ∈ am_W))) = true := by decide +kernel
theorem am_ex_ok1 : ((Cond.classLink (am_cR 8) 0 (am_en 1) :: Cond.initialized (am_en 1) :: vx_at0 (am_cR 8) 173 (am_en 1) am_xn).all vx_ot && (Cond.initialized (am_en 1) :: vx_at0 (am_cR 8) 173 (am_en 1) am_xn).all (fun w => decide (w ∈ am_W))) = true := by decide +kernel
theorem am_ex_ok2 : ((Cond.classLink (am_cR 8) 0 (am_en 2) :: Cond.initialized (am_en 2) :: vx_at0 (am_cR 8) 123 (am_en 2) am_xn).all vx_ot && (Cond.initialized (am_en 2) :: vx_at0 (am_cR 8) 123 (am_en 2) am_xn).all (fun w => decide (w ∈ am_W))) = true := by decide +kernel
theorem am_ex_ok3 : ((Cond.classLink (am_cR 8) 0 (am_en 3) :: Cond.initialized (am_en 3) :: vx_at0 (am_cR 8) 183 (am_en 3) am_xn).all vx_ot && (Cond.initialized (am_en 3) :: vx_at0 (am_cR 8) 183 (am_en 3) am_xn).all (fun w => decide (w ∈ am_W))) = true := by decide +kernel
theorem am_ex_ok4 : ((Cond.classLink (am_cR 8) 0 (am_en 4) :: Cond.initialized (am_en 4) :: vx_at0 (am_cR 8) 254 (am_en 4) am_xn).all vx_ot && (Cond.initialized (am_en 4) :: vx_at0 (am_cR 8) 254 (am_en 4) am_xn).all (fun w => decide (w ∈ am_W))) = true := by decide +kernel
theorem am_ex_ok5 : ((Cond.classLink (am_cR 8) 0 (am_en 5) :: Cond.initialized (am_en 5) :: vx_at0 (am_cR 8) 163 (am_en 5) am_xn).all vx_ot && (Cond.initialized (am_en 5) :: vx_at0 (am_cR 8) 163 (am_en 5) am_xn).all (fun w => decide (w ∈ am_W))) = true := by decide +kernel
end
section
/-- an entry of a table of handlers: its class's word, what stands at its target -/
def am_he (z : Nat) (q : Nat × Nat × Nat × Nat) (h : Nat × Nat × Nat × Nat × Nat) (i : Nat) : Bool := decide (q.1 = h.1) && decide (q.2.1 = h.2.1) && decide (q.2.2.2 ≠ 0) && decide (h.2.2.1 < 6) && am_at i (.classLink (am_cR 10) q.2.2.2 (am_en h.2.2.1)) && decide (am_own z = 10) &&
  (match am_cd z q.2.2.1 with
  | some (.astore_n j) => decide (j.val = h.2.2.2.2) && decide (q.2.2.1 + 1 = h.2.2.2.1)
  | some (.astore j) => decide (j = h.2.2.2.2) && decide (q.2.2.1 + 2 = h.2.2.2.1)
  | _ => false)
def am_hes (z : Nat) : List (Nat × Nat × Nat × Nat) → List (Nat × Nat × Nat × Nat × Nat) → List Nat → Bool
  | [], [], _ => true
  | q :: qs, h :: hs, i :: is => am_he z q h i && am_hes z qs hs is
  | _, _, _ => false
/-- an exception that passes by a handler of another class -/
def am_ncs : List (Nat × Nat) := [(2, 1), (3, 1), (0, 2), (3, 2)]
/-- at each call with a table: whoever may come is caught by an entry, and passes by those before -/
def am_hps (z : Nat) : Bool := match am_hs z with
  | [] => true
  | [_] => true
  | [a, b] => decide ((b.2.2.1, a.2.2.1) ∈ am_ncs)
  | _ => false
theorem am_hk195 : (am_hes 195 (am_hh 195) (am_hs 195) [417] && am_hps 195) = true := by decide +kernel
theorem am_hk196 : (am_hes 196 (am_hh 196) (am_hs 196) [417] && am_hps 196) = true := by decide +kernel
theorem am_hk197 : (am_hes 197 (am_hh 197) (am_hs 197) [417] && am_hps 197) = true := by decide +kernel
theorem am_hk198 : (am_hes 198 (am_hh 198) (am_hs 198) [417] && am_hps 198) = true := by decide +kernel
theorem am_hk199 : (am_hes 199 (am_hh 199) (am_hs 199) [417] && am_hps 199) = true := by decide +kernel
theorem am_hk200 : (am_hes 200 (am_hh 200) (am_hs 200) [417] && am_hps 200) = true := by decide +kernel
theorem am_hk201 : (am_hes 201 (am_hh 201) (am_hs 201) [417] && am_hps 201) = true := by decide +kernel
theorem am_hk202 : (am_hes 202 (am_hh 202) (am_hs 202) [417] && am_hps 202) = true := by decide +kernel
theorem am_hk203 : (am_hes 203 (am_hh 203) (am_hs 203) [694, 727] && am_hps 203) = true := by decide +kernel
theorem am_hk204 : (am_hes 204 (am_hh 204) (am_hs 204) [694, 727] && am_hps 204) = true := by decide +kernel
theorem am_hk205 : (am_hes 205 (am_hh 205) (am_hs 205) [727] && am_hps 205) = true := by decide +kernel
theorem am_hk206 : (am_hes 206 (am_hh 206) (am_hs 206) [694, 727] && am_hps 206) = true := by decide +kernel
theorem am_hk207 : (am_hes 207 (am_hh 207) (am_hs 207) [694] && am_hps 207) = true := by decide +kernel
theorem am_hk208 : (am_hes 208 (am_hh 208) (am_hs 208) [694] && am_hps 208) = true := by decide +kernel
theorem am_hk209 : (am_hes 209 (am_hh 209) (am_hs 209) [694, 817] && am_hps 209) = true := by decide +kernel
theorem am_hk210 : (am_hes 210 (am_hh 210) (am_hs 210) [817] && am_hps 210) = true := by decide +kernel
theorem am_hk211 : (am_hes 211 (am_hh 211) (am_hs 211) [694, 817] && am_hps 211) = true := by decide +kernel
theorem am_hk212 : (am_hes 212 (am_hh 212) (am_hs 212) [694, 817] && am_hps 212) = true := by decide +kernel
theorem am_hk213 : (am_hes 213 (am_hh 213) (am_hs 213) [694, 727] && am_hps 213) = true := by decide +kernel
theorem am_hk214 : (am_hes 214 (am_hh 214) (am_hs 214) [694, 817] && am_hps 214) = true := by decide +kernel
theorem am_hk215 : (am_hes 215 (am_hh 215) (am_hs 215) [694, 817] && am_hps 215) = true := by decide +kernel
theorem am_hk216 : (am_hes 216 (am_hh 216) (am_hs 216) [817] && am_hps 216) = true := by decide +kernel
theorem am_hk217 : (am_hes 217 (am_hh 217) (am_hs 217) [910] && am_hps 217) = true := by decide +kernel
theorem am_hk218 : (am_hes 218 (am_hh 218) (am_hs 218) [727, 417] && am_hps 218) = true := by decide +kernel
theorem am_hk219 : (am_hes 219 (am_hh 219) (am_hs 219) [727, 817] && am_hps 219) = true := by decide +kernel
theorem am_hk220 : (am_hes 220 (am_hh 220) (am_hs 220) [694] && am_hps 220) = true := by decide +kernel
theorem am_hk221 : (am_hes 221 (am_hh 221) (am_hs 221) [694] && am_hps 221) = true := by decide +kernel
theorem am_hk222 : (am_hes 222 (am_hh 222) (am_hs 222) [1018] && am_hps 222) = true := by decide +kernel
theorem am_hk223 : (am_hes 223 (am_hh 223) (am_hs 223) [1018] && am_hps 223) = true := by decide +kernel
theorem am_hk224 : (am_hes 224 (am_hh 224) (am_hs 224) [727] && am_hps 224) = true := by decide +kernel
theorem am_hk225 : (am_hes 225 (am_hh 225) (am_hs 225) [910] && am_hps 225) = true := by decide +kernel
theorem am_hk226 : (am_hes 226 (am_hh 226) (am_hs 226) [910] && am_hps 226) = true := by decide +kernel
theorem am_hk_ok : ∀ z, ∃ is, (am_hes z (am_hh z) (am_hs z) is && am_hps z) = true := fun z => match z with
  | 0 => ⟨[], rfl⟩
  | 1 => ⟨[], rfl⟩
  | 2 => ⟨[], rfl⟩
  | 3 => ⟨[], rfl⟩
  | 4 => ⟨[], rfl⟩
  | 5 => ⟨[], rfl⟩
  | 6 => ⟨[], rfl⟩
  | 7 => ⟨[], rfl⟩
  | 8 => ⟨[], rfl⟩
  | 9 => ⟨[], rfl⟩
  | 10 => ⟨[], rfl⟩
  | 11 => ⟨[], rfl⟩
  | 12 => ⟨[], rfl⟩
  | 13 => ⟨[], rfl⟩
  | 14 => ⟨[], rfl⟩
  | 15 => ⟨[], rfl⟩
  | 16 => ⟨[], rfl⟩
  | 17 => ⟨[], rfl⟩
  | 18 => ⟨[], rfl⟩
  | 19 => ⟨[], rfl⟩
  | 20 => ⟨[], rfl⟩
  | 21 => ⟨[], rfl⟩
  | 22 => ⟨[], rfl⟩
  | 23 => ⟨[], rfl⟩
  | 24 => ⟨[], rfl⟩
  | 25 => ⟨[], rfl⟩
  | 26 => ⟨[], rfl⟩
  | 27 => ⟨[], rfl⟩
  | 28 => ⟨[], rfl⟩
  | 29 => ⟨[], rfl⟩
  | 30 => ⟨[], rfl⟩
  | 31 => ⟨[], rfl⟩
  | 32 => ⟨[], rfl⟩
  | 33 => ⟨[], rfl⟩
  | 34 => ⟨[], rfl⟩
  | 35 => ⟨[], rfl⟩
  | 36 => ⟨[], rfl⟩
  | 37 => ⟨[], rfl⟩
  | 38 => ⟨[], rfl⟩
  | 39 => ⟨[], rfl⟩
  | 40 => ⟨[], rfl⟩
  | 41 => ⟨[], rfl⟩
  | 42 => ⟨[], rfl⟩
  | 43 => ⟨[], rfl⟩
  | 44 => ⟨[], rfl⟩
  | 45 => ⟨[], rfl⟩
  | 46 => ⟨[], rfl⟩
  | 47 => ⟨[], rfl⟩
  | 48 => ⟨[], rfl⟩
  | 49 => ⟨[], rfl⟩
  | 50 => ⟨[], rfl⟩
  | 51 => ⟨[], rfl⟩
  | 52 => ⟨[], rfl⟩
  | 53 => ⟨[], rfl⟩
  | 54 => ⟨[], rfl⟩
  | 55 => ⟨[], rfl⟩
  | 56 => ⟨[], rfl⟩
  | 57 => ⟨[], rfl⟩
  | 58 => ⟨[], rfl⟩
  | 59 => ⟨[], rfl⟩
  | 60 => ⟨[], rfl⟩
  | 61 => ⟨[], rfl⟩
  | 62 => ⟨[], rfl⟩
  | 63 => ⟨[], rfl⟩
  | 64 => ⟨[], rfl⟩
  | 65 => ⟨[], rfl⟩
  | 66 => ⟨[], rfl⟩
  | 67 => ⟨[], rfl⟩
  | 68 => ⟨[], rfl⟩
  | 69 => ⟨[], rfl⟩
  | 70 => ⟨[], rfl⟩
  | 71 => ⟨[], rfl⟩
  | 72 => ⟨[], rfl⟩
  | 73 => ⟨[], rfl⟩
  | 74 => ⟨[], rfl⟩
  | 75 => ⟨[], rfl⟩
  | 76 => ⟨[], rfl⟩
  | 77 => ⟨[], rfl⟩
  | 78 => ⟨[], rfl⟩
  | 79 => ⟨[], rfl⟩
  | 80 => ⟨[], rfl⟩
  | 81 => ⟨[], rfl⟩
  | 82 => ⟨[], rfl⟩
  | 83 => ⟨[], rfl⟩
  | 84 => ⟨[], rfl⟩
  | 85 => ⟨[], rfl⟩
  | 86 => ⟨[], rfl⟩
  | 87 => ⟨[], rfl⟩
  | 88 => ⟨[], rfl⟩
  | 89 => ⟨[], rfl⟩
  | 90 => ⟨[], rfl⟩
  | 91 => ⟨[], rfl⟩
  | 92 => ⟨[], rfl⟩
  | 93 => ⟨[], rfl⟩
  | 94 => ⟨[], rfl⟩
  | 95 => ⟨[], rfl⟩
  | 96 => ⟨[], rfl⟩
  | 97 => ⟨[], rfl⟩
  | 98 => ⟨[], rfl⟩
  | 99 => ⟨[], rfl⟩
  | 100 => ⟨[], rfl⟩
  | 101 => ⟨[], rfl⟩
  | 102 => ⟨[], rfl⟩
  | 103 => ⟨[], rfl⟩
  | 104 => ⟨[], rfl⟩
  | 105 => ⟨[], rfl⟩
  | 106 => ⟨[], rfl⟩
  | 107 => ⟨[], rfl⟩
  | 108 => ⟨[], rfl⟩
  | 109 => ⟨[], rfl⟩
  | 110 => ⟨[], rfl⟩
  | 111 => ⟨[], rfl⟩
  | 112 => ⟨[], rfl⟩
  | 113 => ⟨[], rfl⟩
  | 114 => ⟨[], rfl⟩
  | 115 => ⟨[], rfl⟩
  | 116 => ⟨[], rfl⟩
  | 117 => ⟨[], rfl⟩
  | 118 => ⟨[], rfl⟩
  | 119 => ⟨[], rfl⟩
  | 120 => ⟨[], rfl⟩
  | 121 => ⟨[], rfl⟩
  | 122 => ⟨[], rfl⟩
  | 123 => ⟨[], rfl⟩
  | 124 => ⟨[], rfl⟩
  | 125 => ⟨[], rfl⟩
  | 126 => ⟨[], rfl⟩
  | 127 => ⟨[], rfl⟩
  | 128 => ⟨[], rfl⟩
  | 129 => ⟨[], rfl⟩
  | 130 => ⟨[], rfl⟩
  | 131 => ⟨[], rfl⟩
  | 132 => ⟨[], rfl⟩
  | 133 => ⟨[], rfl⟩
  | 134 => ⟨[], rfl⟩
  | 135 => ⟨[], rfl⟩
  | 136 => ⟨[], rfl⟩
  | 137 => ⟨[], rfl⟩
  | 138 => ⟨[], rfl⟩
  | 139 => ⟨[], rfl⟩
  | 140 => ⟨[], rfl⟩
  | 141 => ⟨[], rfl⟩
  | 142 => ⟨[], rfl⟩
  | 143 => ⟨[], rfl⟩
  | 144 => ⟨[], rfl⟩
  | 145 => ⟨[], rfl⟩
  | 146 => ⟨[], rfl⟩
  | 147 => ⟨[], rfl⟩
  | 148 => ⟨[], rfl⟩
  | 149 => ⟨[], rfl⟩
  | 150 => ⟨[], rfl⟩
  | 151 => ⟨[], rfl⟩
  | 152 => ⟨[], rfl⟩
  | 153 => ⟨[], rfl⟩
  | 154 => ⟨[], rfl⟩
  | 155 => ⟨[], rfl⟩
  | 156 => ⟨[], rfl⟩
  | 157 => ⟨[], rfl⟩
  | 158 => ⟨[], rfl⟩
  | 159 => ⟨[], rfl⟩
  | 160 => ⟨[], rfl⟩
  | 161 => ⟨[], rfl⟩
  | 162 => ⟨[], rfl⟩
  | 163 => ⟨[], rfl⟩
  | 164 => ⟨[], rfl⟩
  | 165 => ⟨[], rfl⟩
  | 166 => ⟨[], rfl⟩
  | 167 => ⟨[], rfl⟩
  | 168 => ⟨[], rfl⟩
  | 169 => ⟨[], rfl⟩
  | 170 => ⟨[], rfl⟩
  | 171 => ⟨[], rfl⟩
  | 172 => ⟨[], rfl⟩
  | 173 => ⟨[], rfl⟩
  | 174 => ⟨[], rfl⟩
  | 175 => ⟨[], rfl⟩
  | 176 => ⟨[], rfl⟩
  | 177 => ⟨[], rfl⟩
  | 178 => ⟨[], rfl⟩
  | 179 => ⟨[], rfl⟩
  | 180 => ⟨[], rfl⟩
  | 181 => ⟨[], rfl⟩
  | 182 => ⟨[], rfl⟩
  | 183 => ⟨[], rfl⟩
  | 184 => ⟨[], rfl⟩
  | 185 => ⟨[], rfl⟩
  | 186 => ⟨[], rfl⟩
  | 187 => ⟨[], rfl⟩
  | 188 => ⟨[], rfl⟩
  | 189 => ⟨[], rfl⟩
  | 190 => ⟨[], rfl⟩
  | 191 => ⟨[], rfl⟩
  | 192 => ⟨[], rfl⟩
  | 193 => ⟨[], rfl⟩
  | 194 => ⟨[], rfl⟩
  | 195 => ⟨_, am_hk195⟩
  | 196 => ⟨_, am_hk196⟩
  | 197 => ⟨_, am_hk197⟩
  | 198 => ⟨_, am_hk198⟩
  | 199 => ⟨_, am_hk199⟩
  | 200 => ⟨_, am_hk200⟩
  | 201 => ⟨_, am_hk201⟩
  | 202 => ⟨_, am_hk202⟩
  | 203 => ⟨_, am_hk203⟩
  | 204 => ⟨_, am_hk204⟩
  | 205 => ⟨_, am_hk205⟩
  | 206 => ⟨_, am_hk206⟩
  | 207 => ⟨_, am_hk207⟩
  | 208 => ⟨_, am_hk208⟩
  | 209 => ⟨_, am_hk209⟩
  | 210 => ⟨_, am_hk210⟩
  | 211 => ⟨_, am_hk211⟩
  | 212 => ⟨_, am_hk212⟩
  | 213 => ⟨_, am_hk213⟩
  | 214 => ⟨_, am_hk214⟩
  | 215 => ⟨_, am_hk215⟩
  | 216 => ⟨_, am_hk216⟩
  | 217 => ⟨_, am_hk217⟩
  | 218 => ⟨_, am_hk218⟩
  | 219 => ⟨_, am_hk219⟩
  | 220 => ⟨_, am_hk220⟩
  | 221 => ⟨_, am_hk221⟩
  | 222 => ⟨_, am_hk222⟩
  | 223 => ⟨_, am_hk223⟩
  | 224 => ⟨_, am_hk224⟩
  | 225 => ⟨_, am_hk225⟩
  | 226 => ⟨_, am_hk226⟩
  | 227 => ⟨[], rfl⟩
  | _ + 228 => ⟨[], rfl⟩
theorem am_cas_ok : am_al2 (fun (k i : Nat) => am_at i (.castable (am_en k) (am_en k))) (List.range 6) [572, 739, 756, 824, 917, 1030] = true := by decide +kernel
def am_ln : Instr → Nat := fun i => match i with
  | .iload _ | .aload _ | .fload _ | .dload _ | .istore _ | .astore _ | .fstore _ | .dstore _ | .bipush _ | .ldc _ | .newarray _ => 2
  | .iinc _ _ | .sipush _ | .goto _ | .ifCond _ _ | .if_icmp _ _ | .getfield _ | .putfield _ | .invokevirtual _ | .invokespecial _ | .invokestatic _ | .new _ | .anewarray _ => 3
  | .tableswitch _ _ _ _ | .lookupswitch _ _ => 0
  | _ => 1
def am_dok (b : ByteArray) (q : Nat × Instr) : Bool := match decode b q.1 with
  | .ok (i, n) => decide (i = q.2) && (am_ln q.2 == 0 || am_ln q.2 == n)
  | _ => false
theorem am_dk0 : (am_code 0).all (am_dok (am_by 0)) = true := by decide +kernel
theorem am_dk1 : (am_code 1).all (am_dok (am_by 1)) = true := by decide +kernel
theorem am_dk2 : (am_code 2).all (am_dok (am_by 2)) = true := by decide +kernel
theorem am_dk3 : (am_code 3).all (am_dok (am_by 3)) = true := by decide +kernel
theorem am_dk4 : (am_code 4).all (am_dok (am_by 4)) = true := by decide +kernel
theorem am_dk5 : (am_code 5).all (am_dok (am_by 5)) = true := by decide +kernel
theorem am_dk6 : (am_code 6).all (am_dok (am_by 6)) = true := by decide +kernel
theorem am_dk7 : (am_code 7).all (am_dok (am_by 7)) = true := by decide +kernel
theorem am_dk8 : (am_code 8).all (am_dok (am_by 8)) = true := by decide +kernel
theorem am_dk9 : (am_code 9).all (am_dok (am_by 9)) = true := by decide +kernel
theorem am_dk10 : (am_code 10).all (am_dok (am_by 10)) = true := by decide +kernel
theorem am_dk11 : (am_code 11).all (am_dok (am_by 11)) = true := by decide +kernel
theorem am_dk12 : (am_code 12).all (am_dok (am_by 12)) = true := by decide +kernel
theorem am_dk13 : (am_code 13).all (am_dok (am_by 13)) = true := by decide +kernel
theorem am_dk14 : (am_code 14).all (am_dok (am_by 14)) = true := by decide +kernel
theorem am_dk15 : (am_code 15).all (am_dok (am_by 15)) = true := by decide +kernel
theorem am_dk16 : (am_code 16).all (am_dok (am_by 16)) = true := by decide +kernel
theorem am_dk17 : (am_code 17).all (am_dok (am_by 17)) = true := by decide +kernel
theorem am_dk18 : (am_code 18).all (am_dok (am_by 18)) = true := by decide +kernel
theorem am_dk19 : (am_code 19).all (am_dok (am_by 19)) = true := by decide +kernel
theorem am_dk20 : (am_code 20).all (am_dok (am_by 20)) = true := by decide +kernel
theorem am_dk21 : (am_code 21).all (am_dok (am_by 21)) = true := by decide +kernel
theorem am_dk22 : (am_code 22).all (am_dok (am_by 22)) = true := by decide +kernel
theorem am_dk23 : (am_code 23).all (am_dok (am_by 23)) = true := by decide +kernel
theorem am_dk24 : (am_code 24).all (am_dok (am_by 24)) = true := by decide +kernel
theorem am_dk25 : (am_code 25).all (am_dok (am_by 25)) = true := by decide +kernel
theorem am_dk26 : (am_code 26).all (am_dok (am_by 26)) = true := by decide +kernel
theorem am_dk27 : (am_code 27).all (am_dok (am_by 27)) = true := by decide +kernel
theorem am_dk28 : (am_code 28).all (am_dok (am_by 28)) = true := by decide +kernel
theorem am_dk29 : (am_code 29).all (am_dok (am_by 29)) = true := by decide +kernel
theorem am_dk30 : (am_code 30).all (am_dok (am_by 30)) = true := by decide +kernel
theorem am_dk31 : (am_code 31).all (am_dok (am_by 31)) = true := by decide +kernel
theorem am_dk32 : (am_code 32).all (am_dok (am_by 32)) = true := by decide +kernel
theorem am_dk33 : (am_code 33).all (am_dok (am_by 33)) = true := by decide +kernel
theorem am_dk34 : (am_code 34).all (am_dok (am_by 34)) = true := by decide +kernel
theorem am_dk35 : (am_code 35).all (am_dok (am_by 35)) = true := by decide +kernel
theorem am_dk36 : (am_code 36).all (am_dok (am_by 36)) = true := by decide +kernel
theorem am_dk37 : (am_code 37).all (am_dok (am_by 37)) = true := by decide +kernel
theorem am_dk38 : (am_code 38).all (am_dok (am_by 38)) = true := by decide +kernel
theorem am_dk39 : (am_code 39).all (am_dok (am_by 39)) = true := by decide +kernel
theorem am_dk40 : (am_code 40).all (am_dok (am_by 40)) = true := by decide +kernel
theorem am_dk41 : (am_code 41).all (am_dok (am_by 41)) = true := by decide +kernel
theorem am_dk42 : (am_code 42).all (am_dok (am_by 42)) = true := by decide +kernel
theorem am_dk43 : (am_code 43).all (am_dok (am_by 43)) = true := by decide +kernel
theorem am_dk44 : (am_code 44).all (am_dok (am_by 44)) = true := by decide +kernel
theorem am_dk45_0 : (am_c45_0).all (am_dok (am_by 45)) = true := by decide +kernel
theorem am_dk45_1 : (am_c45_1).all (am_dok (am_by 45)) = true := by decide +kernel
theorem am_dk45_2 : (am_c45_2).all (am_dok (am_by 45)) = true := by decide +kernel
theorem am_dk45 : (am_code 45).all (am_dok (am_by 45)) = true := by
  show (am_c45_0 ++ (am_c45_1 ++ (am_c45_2))).all _ = true
  simp only [List.all_append, am_dk45_0, am_dk45_1, am_dk45_2, Bool.and_self]
theorem am_dk46 : (am_code 46).all (am_dok (am_by 46)) = true := by decide +kernel
theorem am_dk47 : (am_code 47).all (am_dok (am_by 47)) = true := by decide +kernel
theorem am_dk48 : (am_code 48).all (am_dok (am_by 48)) = true := by decide +kernel
theorem am_dk49_0 : (am_c49_0).all (am_dok (am_by 49)) = true := by decide +kernel
theorem am_dk49_1 : (am_c49_1).all (am_dok (am_by 49)) = true := by decide +kernel
theorem am_dk49_2 : (am_c49_2).all (am_dok (am_by 49)) = true := by decide +kernel
theorem am_dk49 : (am_code 49).all (am_dok (am_by 49)) = true := by
  show (am_c49_0 ++ (am_c49_1 ++ (am_c49_2))).all _ = true
  simp only [List.all_append, am_dk49_0, am_dk49_1, am_dk49_2, Bool.and_self]
theorem am_dk50 : (am_code 50).all (am_dok (am_by 50)) = true := by decide +kernel
theorem am_dk51 : (am_code 51).all (am_dok (am_by 51)) = true := by decide +kernel
theorem am_dk52 : (am_code 52).all (am_dok (am_by 52)) = true := by decide +kernel
theorem am_dk53 : (am_code 53).all (am_dok (am_by 53)) = true := by decide +kernel
theorem am_dk54 : (am_code 54).all (am_dok (am_by 54)) = true := by decide +kernel
theorem am_dk55 : (am_code 55).all (am_dok (am_by 55)) = true := by decide +kernel
theorem am_dk56 : (am_code 56).all (am_dok (am_by 56)) = true := by decide +kernel
theorem am_dk57 : (am_code 57).all (am_dok (am_by 57)) = true := by decide +kernel
theorem am_dk58 : (am_code 58).all (am_dok (am_by 58)) = true := by decide +kernel
theorem am_dk59 : (am_code 59).all (am_dok (am_by 59)) = true := by decide +kernel
theorem am_dk60 : (am_code 60).all (am_dok (am_by 60)) = true := by decide +kernel
theorem am_dk61 : (am_code 61).all (am_dok (am_by 61)) = true := by decide +kernel
theorem am_dk62 : (am_code 62).all (am_dok (am_by 62)) = true := by decide +kernel
theorem am_dk63 : (am_code 63).all (am_dok (am_by 63)) = true := by decide +kernel
theorem am_dk64 : (am_code 64).all (am_dok (am_by 64)) = true := by decide +kernel
theorem am_dk65 : (am_code 65).all (am_dok (am_by 65)) = true := by decide +kernel
theorem am_dk66 : (am_code 66).all (am_dok (am_by 66)) = true := by decide +kernel
theorem am_dk67 : (am_code 67).all (am_dok (am_by 67)) = true := by decide +kernel
theorem am_dk68 : (am_code 68).all (am_dok (am_by 68)) = true := by decide +kernel
theorem am_dk69 : (am_code 69).all (am_dok (am_by 69)) = true := by decide +kernel
theorem am_dk70 : (am_code 70).all (am_dok (am_by 70)) = true := by decide +kernel
theorem am_dk71 : (am_code 71).all (am_dok (am_by 71)) = true := by decide +kernel
theorem am_dk72 : (am_code 72).all (am_dok (am_by 72)) = true := by decide +kernel
theorem am_dk73 : (am_code 73).all (am_dok (am_by 73)) = true := by decide +kernel
theorem am_dk74 : (am_code 74).all (am_dok (am_by 74)) = true := by decide +kernel
theorem am_dk75 : (am_code 75).all (am_dok (am_by 75)) = true := by decide +kernel
theorem am_dk76 : (am_code 76).all (am_dok (am_by 76)) = true := by decide +kernel
theorem am_dk77 : (am_code 77).all (am_dok (am_by 77)) = true := by decide +kernel
theorem am_dk78 : (am_code 78).all (am_dok (am_by 78)) = true := by decide +kernel
theorem am_dk79 : (am_code 79).all (am_dok (am_by 79)) = true := by decide +kernel
theorem am_dk80 : (am_code 80).all (am_dok (am_by 80)) = true := by decide +kernel
theorem am_dk81 : (am_code 81).all (am_dok (am_by 81)) = true := by decide +kernel
theorem am_dk82 : (am_code 82).all (am_dok (am_by 82)) = true := by decide +kernel
theorem am_dk83 : (am_code 83).all (am_dok (am_by 83)) = true := by decide +kernel
theorem am_dk84 : (am_code 84).all (am_dok (am_by 84)) = true := by decide +kernel
theorem am_dk85 : (am_code 85).all (am_dok (am_by 85)) = true := by decide +kernel
theorem am_dk86 : (am_code 86).all (am_dok (am_by 86)) = true := by decide +kernel
theorem am_dk87 : (am_code 87).all (am_dok (am_by 87)) = true := by decide +kernel
theorem am_dk88 : (am_code 88).all (am_dok (am_by 88)) = true := by decide +kernel
theorem am_dk89 : (am_code 89).all (am_dok (am_by 89)) = true := by decide +kernel
theorem am_dk90 : (am_code 90).all (am_dok (am_by 90)) = true := by decide +kernel
theorem am_dk91 : (am_code 91).all (am_dok (am_by 91)) = true := by decide +kernel
theorem am_dk92 : (am_code 92).all (am_dok (am_by 92)) = true := by decide +kernel
theorem am_dk93 : (am_code 93).all (am_dok (am_by 93)) = true := by decide +kernel
theorem am_dk94 : (am_code 94).all (am_dok (am_by 94)) = true := by decide +kernel
theorem am_dk95 : (am_code 95).all (am_dok (am_by 95)) = true := by decide +kernel
theorem am_dk96 : (am_code 96).all (am_dok (am_by 96)) = true := by decide +kernel
theorem am_dk97 : (am_code 97).all (am_dok (am_by 97)) = true := by decide +kernel
theorem am_dk98 : (am_code 98).all (am_dok (am_by 98)) = true := by decide +kernel
theorem am_dk99 : (am_code 99).all (am_dok (am_by 99)) = true := by decide +kernel
theorem am_dk100 : (am_code 100).all (am_dok (am_by 100)) = true := by decide +kernel
theorem am_dk101 : (am_code 101).all (am_dok (am_by 101)) = true := by decide +kernel
theorem am_dk102 : (am_code 102).all (am_dok (am_by 102)) = true := by decide +kernel
theorem am_dk103 : (am_code 103).all (am_dok (am_by 103)) = true := by decide +kernel
theorem am_dk104 : (am_code 104).all (am_dok (am_by 104)) = true := by decide +kernel
theorem am_dk105 : (am_code 105).all (am_dok (am_by 105)) = true := by decide +kernel
theorem am_dk106 : (am_code 106).all (am_dok (am_by 106)) = true := by decide +kernel
theorem am_dk107 : (am_code 107).all (am_dok (am_by 107)) = true := by decide +kernel
theorem am_dk108 : (am_code 108).all (am_dok (am_by 108)) = true := by decide +kernel
theorem am_dk109 : (am_code 109).all (am_dok (am_by 109)) = true := by decide +kernel
theorem am_dk110 : (am_code 110).all (am_dok (am_by 110)) = true := by decide +kernel
theorem am_dk111 : (am_code 111).all (am_dok (am_by 111)) = true := by decide +kernel
theorem am_dk112 : (am_code 112).all (am_dok (am_by 112)) = true := by decide +kernel
theorem am_dk113 : (am_code 113).all (am_dok (am_by 113)) = true := by decide +kernel
theorem am_dk114 : (am_code 114).all (am_dok (am_by 114)) = true := by decide +kernel
theorem am_dk115 : (am_code 115).all (am_dok (am_by 115)) = true := by decide +kernel
theorem am_dk116 : (am_code 116).all (am_dok (am_by 116)) = true := by decide +kernel
theorem am_dk117 : (am_code 117).all (am_dok (am_by 117)) = true := by decide +kernel
theorem am_dk118 : (am_code 118).all (am_dok (am_by 118)) = true := by decide +kernel
theorem am_dk119 : (am_code 119).all (am_dok (am_by 119)) = true := by decide +kernel
theorem am_dk120 : (am_code 120).all (am_dok (am_by 120)) = true := by decide +kernel
theorem am_dk121 : (am_code 121).all (am_dok (am_by 121)) = true := by decide +kernel
theorem am_dk122 : (am_code 122).all (am_dok (am_by 122)) = true := by decide +kernel
theorem am_dk123 : (am_code 123).all (am_dok (am_by 123)) = true := by decide +kernel
theorem am_dk124 : (am_code 124).all (am_dok (am_by 124)) = true := by decide +kernel
theorem am_dk125 : (am_code 125).all (am_dok (am_by 125)) = true := by decide +kernel
theorem am_dk126 : (am_code 126).all (am_dok (am_by 126)) = true := by decide +kernel
theorem am_dk127 : (am_code 127).all (am_dok (am_by 127)) = true := by decide +kernel
theorem am_dk128 : (am_code 128).all (am_dok (am_by 128)) = true := by decide +kernel
theorem am_dk129 : (am_code 129).all (am_dok (am_by 129)) = true := by decide +kernel
theorem am_dk130 : (am_code 130).all (am_dok (am_by 130)) = true := by decide +kernel
theorem am_dk131 : (am_code 131).all (am_dok (am_by 131)) = true := by decide +kernel
theorem am_dk132_0 : (am_c132_0).all (am_dok (am_by 132)) = true := by decide +kernel
theorem am_dk132_1 : (am_c132_1).all (am_dok (am_by 132)) = true := by decide +kernel
theorem am_dk132_2 : (am_c132_2).all (am_dok (am_by 132)) = true := by decide +kernel
theorem am_dk132 : (am_code 132).all (am_dok (am_by 132)) = true := by
  show (am_c132_0 ++ (am_c132_1 ++ (am_c132_2))).all _ = true
  simp only [List.all_append, am_dk132_0, am_dk132_1, am_dk132_2, Bool.and_self]
theorem am_dk133 : (am_code 133).all (am_dok (am_by 133)) = true := by decide +kernel
theorem am_dk134 : (am_code 134).all (am_dok (am_by 134)) = true := by decide +kernel
theorem am_dk135 : (am_code 135).all (am_dok (am_by 135)) = true := by decide +kernel
theorem am_dk136 : (am_code 136).all (am_dok (am_by 136)) = true := by decide +kernel
theorem am_dk137 : (am_code 137).all (am_dok (am_by 137)) = true := by decide +kernel
theorem am_dk138 : (am_code 138).all (am_dok (am_by 138)) = true := by decide +kernel
theorem am_dk139 : (am_code 139).all (am_dok (am_by 139)) = true := by decide +kernel
theorem am_dk140_0 : (am_c140_0).all (am_dok (am_by 140)) = true := by decide +kernel
theorem am_dk140_1 : (am_c140_1).all (am_dok (am_by 140)) = true := by decide +kernel
theorem am_dk140_2 : (am_c140_2).all (am_dok (am_by 140)) = true := by decide +kernel
theorem am_dk140_3 : (am_c140_3).all (am_dok (am_by 140)) = true := by decide +kernel
theorem am_dk140_4 : (am_c140_4).all (am_dok (am_by 140)) = true := by decide +kernel
theorem am_dk140 : (am_code 140).all (am_dok (am_by 140)) = true := by
  show (am_c140_0 ++ (am_c140_1 ++ (am_c140_2 ++ (am_c140_3 ++ (am_c140_4))))).all _ = true
  simp only [List.all_append, am_dk140_0, am_dk140_1, am_dk140_2, am_dk140_3, am_dk140_4, Bool.and_self]
theorem am_dk141 : (am_code 141).all (am_dok (am_by 141)) = true := by decide +kernel
theorem am_dk142 : (am_code 142).all (am_dok (am_by 142)) = true := by decide +kernel
theorem am_dk143 : (am_code 143).all (am_dok (am_by 143)) = true := by decide +kernel
theorem am_dk144 : (am_code 144).all (am_dok (am_by 144)) = true := by decide +kernel
theorem am_dk145 : (am_code 145).all (am_dok (am_by 145)) = true := by decide +kernel
theorem am_dk146 : (am_code 146).all (am_dok (am_by 146)) = true := by decide +kernel
theorem am_dk147 : (am_code 147).all (am_dok (am_by 147)) = true := by decide +kernel
theorem am_dk148 : (am_code 148).all (am_dok (am_by 148)) = true := by decide +kernel
theorem am_dk149 : (am_code 149).all (am_dok (am_by 149)) = true := by decide +kernel
theorem am_dk150 : (am_code 150).all (am_dok (am_by 150)) = true := by decide +kernel
theorem am_dk151_0 : (am_c151_0).all (am_dok (am_by 151)) = true := by decide +kernel
theorem am_dk151_1 : (am_c151_1).all (am_dok (am_by 151)) = true := by decide +kernel
theorem am_dk151_2 : (am_c151_2).all (am_dok (am_by 151)) = true := by decide +kernel
theorem am_dk151_3 : (am_c151_3).all (am_dok (am_by 151)) = true := by decide +kernel
theorem am_dk151 : (am_code 151).all (am_dok (am_by 151)) = true := by
  show (am_c151_0 ++ (am_c151_1 ++ (am_c151_2 ++ (am_c151_3)))).all _ = true
  simp only [List.all_append, am_dk151_0, am_dk151_1, am_dk151_2, am_dk151_3, Bool.and_self]
theorem am_dk152_0 : (am_c152_0).all (am_dok (am_by 152)) = true := by decide +kernel
theorem am_dk152_1 : (am_c152_1).all (am_dok (am_by 152)) = true := by decide +kernel
theorem am_dk152_2 : (am_c152_2).all (am_dok (am_by 152)) = true := by decide +kernel
theorem am_dk152_3 : (am_c152_3).all (am_dok (am_by 152)) = true := by decide +kernel
theorem am_dk152_4 : (am_c152_4).all (am_dok (am_by 152)) = true := by decide +kernel
theorem am_dk152 : (am_code 152).all (am_dok (am_by 152)) = true := by
  show (am_c152_0 ++ (am_c152_1 ++ (am_c152_2 ++ (am_c152_3 ++ (am_c152_4))))).all _ = true
  simp only [List.all_append, am_dk152_0, am_dk152_1, am_dk152_2, am_dk152_3, am_dk152_4, Bool.and_self]
theorem am_dk153 : (am_code 153).all (am_dok (am_by 153)) = true := by decide +kernel
theorem am_dk154 : (am_code 154).all (am_dok (am_by 154)) = true := by decide +kernel
theorem am_dk155 : (am_code 155).all (am_dok (am_by 155)) = true := by decide +kernel
theorem am_dk156 : (am_code 156).all (am_dok (am_by 156)) = true := by decide +kernel
theorem am_dk157 : (am_code 157).all (am_dok (am_by 157)) = true := by decide +kernel
theorem am_dk158 : (am_code 158).all (am_dok (am_by 158)) = true := by decide +kernel
theorem am_dk159 : (am_code 159).all (am_dok (am_by 159)) = true := by decide +kernel
theorem am_dk160 : (am_code 160).all (am_dok (am_by 160)) = true := by decide +kernel
theorem am_dk161 : (am_code 161).all (am_dok (am_by 161)) = true := by decide +kernel
theorem am_dk162 : (am_code 162).all (am_dok (am_by 162)) = true := by decide +kernel
theorem am_dk163 : (am_code 163).all (am_dok (am_by 163)) = true := by decide +kernel
theorem am_dk164 : (am_code 164).all (am_dok (am_by 164)) = true := by decide +kernel
theorem am_dk165 : (am_code 165).all (am_dok (am_by 165)) = true := by decide +kernel
theorem am_dk166 : (am_code 166).all (am_dok (am_by 166)) = true := by decide +kernel
theorem am_dk167 : (am_code 167).all (am_dok (am_by 167)) = true := by decide +kernel
theorem am_dk168 : (am_code 168).all (am_dok (am_by 168)) = true := by decide +kernel
theorem am_dk169 : (am_code 169).all (am_dok (am_by 169)) = true := by decide +kernel
theorem am_dk170 : (am_code 170).all (am_dok (am_by 170)) = true := by decide +kernel
theorem am_dk171 : (am_code 171).all (am_dok (am_by 171)) = true := by decide +kernel
theorem am_dk172 : (am_code 172).all (am_dok (am_by 172)) = true := by decide +kernel
theorem am_dk173 : (am_code 173).all (am_dok (am_by 173)) = true := by decide +kernel
theorem am_dk174 : (am_code 174).all (am_dok (am_by 174)) = true := by decide +kernel
theorem am_dk175 : (am_code 175).all (am_dok (am_by 175)) = true := by decide +kernel
theorem am_dk176 : (am_code 176).all (am_dok (am_by 176)) = true := by decide +kernel
theorem am_dk177 : (am_code 177).all (am_dok (am_by 177)) = true := by decide +kernel
theorem am_dk178 : (am_code 178).all (am_dok (am_by 178)) = true := by decide +kernel
theorem am_dk179 : (am_code 179).all (am_dok (am_by 179)) = true := by decide +kernel
theorem am_dk180 : (am_code 180).all (am_dok (am_by 180)) = true := by decide +kernel
theorem am_dk181_0 : (am_c181_0).all (am_dok (am_by 181)) = true := by decide +kernel
theorem am_dk181_1 : (am_c181_1).all (am_dok (am_by 181)) = true := by decide +kernel
theorem am_dk181_2 : (am_c181_2).all (am_dok (am_by 181)) = true := by decide +kernel
theorem am_dk181 : (am_code 181).all (am_dok (am_by 181)) = true := by
  show (am_c181_0 ++ (am_c181_1 ++ (am_c181_2))).all _ = true
  simp only [List.all_append, am_dk181_0, am_dk181_1, am_dk181_2, Bool.and_self]
theorem am_dk182 : (am_code 182).all (am_dok (am_by 182)) = true := by decide +kernel
theorem am_dk183 : (am_code 183).all (am_dok (am_by 183)) = true := by decide +kernel
theorem am_dk184 : (am_code 184).all (am_dok (am_by 184)) = true := by decide +kernel
theorem am_dk185 : (am_code 185).all (am_dok (am_by 185)) = true := by decide +kernel
theorem am_dk186 : (am_code 186).all (am_dok (am_by 186)) = true := by decide +kernel
theorem am_dk187 : (am_code 187).all (am_dok (am_by 187)) = true := by decide +kernel
theorem am_dk188 : (am_code 188).all (am_dok (am_by 188)) = true := by decide +kernel
theorem am_dk189 : (am_code 189).all (am_dok (am_by 189)) = true := by decide +kernel
theorem am_dk190 : (am_code 190).all (am_dok (am_by 190)) = true := by decide +kernel
theorem am_dk191 : (am_code 191).all (am_dok (am_by 191)) = true := by decide +kernel
theorem am_dk192 : (am_code 192).all (am_dok (am_by 192)) = true := by decide +kernel
theorem am_dk193 : (am_code 193).all (am_dok (am_by 193)) = true := by decide +kernel
theorem am_dk194 : (am_code 194).all (am_dok (am_by 194)) = true := by decide +kernel
theorem am_dk195 : (am_code 195).all (am_dok (am_by 195)) = true := by decide +kernel
theorem am_dk196 : (am_code 196).all (am_dok (am_by 196)) = true := by decide +kernel
theorem am_dk197 : (am_code 197).all (am_dok (am_by 197)) = true := by decide +kernel
theorem am_dk198 : (am_code 198).all (am_dok (am_by 198)) = true := by decide +kernel
theorem am_dk199 : (am_code 199).all (am_dok (am_by 199)) = true := by decide +kernel
theorem am_dk200 : (am_code 200).all (am_dok (am_by 200)) = true := by decide +kernel
theorem am_dk201 : (am_code 201).all (am_dok (am_by 201)) = true := by decide +kernel
theorem am_dk202 : (am_code 202).all (am_dok (am_by 202)) = true := by decide +kernel
theorem am_dk203 : (am_code 203).all (am_dok (am_by 203)) = true := by decide +kernel
theorem am_dk204 : (am_code 204).all (am_dok (am_by 204)) = true := by decide +kernel
theorem am_dk205 : (am_code 205).all (am_dok (am_by 205)) = true := by decide +kernel
theorem am_dk206 : (am_code 206).all (am_dok (am_by 206)) = true := by decide +kernel
theorem am_dk207 : (am_code 207).all (am_dok (am_by 207)) = true := by decide +kernel
theorem am_dk208 : (am_code 208).all (am_dok (am_by 208)) = true := by decide +kernel
theorem am_dk209 : (am_code 209).all (am_dok (am_by 209)) = true := by decide +kernel
theorem am_dk210 : (am_code 210).all (am_dok (am_by 210)) = true := by decide +kernel
theorem am_dk211 : (am_code 211).all (am_dok (am_by 211)) = true := by decide +kernel
theorem am_dk212 : (am_code 212).all (am_dok (am_by 212)) = true := by decide +kernel
theorem am_dk213 : (am_code 213).all (am_dok (am_by 213)) = true := by decide +kernel
theorem am_dk214 : (am_code 214).all (am_dok (am_by 214)) = true := by decide +kernel
theorem am_dk215 : (am_code 215).all (am_dok (am_by 215)) = true := by decide +kernel
theorem am_dk216 : (am_code 216).all (am_dok (am_by 216)) = true := by decide +kernel
theorem am_dk217 : (am_code 217).all (am_dok (am_by 217)) = true := by decide +kernel
theorem am_dk218 : (am_code 218).all (am_dok (am_by 218)) = true := by decide +kernel
theorem am_dk219 : (am_code 219).all (am_dok (am_by 219)) = true := by decide +kernel
theorem am_dk220 : (am_code 220).all (am_dok (am_by 220)) = true := by decide +kernel
theorem am_dk221 : (am_code 221).all (am_dok (am_by 221)) = true := by decide +kernel
theorem am_dk222 : (am_code 222).all (am_dok (am_by 222)) = true := by decide +kernel
theorem am_dk223 : (am_code 223).all (am_dok (am_by 223)) = true := by decide +kernel
theorem am_dk224 : (am_code 224).all (am_dok (am_by 224)) = true := by decide +kernel
theorem am_dk225 : (am_code 225).all (am_dok (am_by 225)) = true := by decide +kernel
theorem am_dk226 : (am_code 226).all (am_dok (am_by 226)) = true := by decide +kernel
end
section
theorem am_dk227_0 : (am_c227_0).all (am_dok (am_by 227)) = true := by decide +kernel
theorem am_dk227_1 : (am_c227_1).all (am_dok (am_by 227)) = true := by decide +kernel
theorem am_dk227_2 : (am_c227_2).all (am_dok (am_by 227)) = true := by decide +kernel
theorem am_dk227_3 : (am_c227_3).all (am_dok (am_by 227)) = true := by decide +kernel
theorem am_dk227_4 : (am_c227_4).all (am_dok (am_by 227)) = true := by decide +kernel
theorem am_dk227_5 : (am_c227_5).all (am_dok (am_by 227)) = true := by decide +kernel
theorem am_dk227_6 : (am_c227_6).all (am_dok (am_by 227)) = true := by decide +kernel
theorem am_dk227_7 : (am_c227_7).all (am_dok (am_by 227)) = true := by decide +kernel
theorem am_dk227_8 : (am_c227_8).all (am_dok (am_by 227)) = true := by decide +kernel
theorem am_dk227_9 : (am_c227_9).all (am_dok (am_by 227)) = true := by decide +kernel
theorem am_dk227_10 : (am_c227_10).all (am_dok (am_by 227)) = true := by decide +kernel
theorem am_dk227_11 : (am_c227_11).all (am_dok (am_by 227)) = true := by decide +kernel
theorem am_dk227_12 : (am_c227_12).all (am_dok (am_by 227)) = true := by decide +kernel
theorem am_dk227_13 : (am_c227_13).all (am_dok (am_by 227)) = true := by decide +kernel
theorem am_dk227_14 : (am_c227_14).all (am_dok (am_by 227)) = true := by decide +kernel
theorem am_dk227_15 : (am_c227_15).all (am_dok (am_by 227)) = true := by decide +kernel
theorem am_dk227_16 : (am_c227_16).all (am_dok (am_by 227)) = true := by decide +kernel
theorem am_dk227_17 : (am_c227_17).all (am_dok (am_by 227)) = true := by decide +kernel
theorem am_dk227_18 : (am_c227_18).all (am_dok (am_by 227)) = true := by decide +kernel
theorem am_dk227_19 : (am_c227_19).all (am_dok (am_by 227)) = true := by decide +kernel
theorem am_dk227_20 : (am_c227_20).all (am_dok (am_by 227)) = true := by decide +kernel
theorem am_dk227_21 : (am_c227_21).all (am_dok (am_by 227)) = true := by decide +kernel
theorem am_dk227_22 : (am_c227_22).all (am_dok (am_by 227)) = true := by decide +kernel
theorem am_dk227_23 : (am_c227_23).all (am_dok (am_by 227)) = true := by decide +kernel
theorem am_dk227_24 : (am_c227_24).all (am_dok (am_by 227)) = true := by decide +kernel
theorem am_dk227_25 : (am_c227_25).all (am_dok (am_by 227)) = true := by decide +kernel
theorem am_dk227_26 : (am_c227_26).all (am_dok (am_by 227)) = true := by decide +kernel
theorem am_dk227_27 : (am_c227_27).all (am_dok (am_by 227)) = true := by decide +kernel
theorem am_dk227_28 : (am_c227_28).all (am_dok (am_by 227)) = true := by decide +kernel
theorem am_dk227_29 : (am_c227_29).all (am_dok (am_by 227)) = true := by decide +kernel
theorem am_dk227_30 : (am_c227_30).all (am_dok (am_by 227)) = true := by decide +kernel
theorem am_dk227_31 : (am_c227_31).all (am_dok (am_by 227)) = true := by decide +kernel
theorem am_dk227_32 : (am_c227_32).all (am_dok (am_by 227)) = true := by decide +kernel
theorem am_dk227_33 : (am_c227_33).all (am_dok (am_by 227)) = true := by decide +kernel
theorem am_dk227 : (am_code 227).all (am_dok (am_by 227)) = true := by
  show (am_c227_0 ++ (am_c227_1 ++ (am_c227_2 ++ (am_c227_3 ++ (am_c227_4 ++ (am_c227_5 ++ (am_c227_6 ++ (am_c227_7 ++ (am_c227_8 ++ (am_c227_9 ++ (am_c227_10 ++ (am_c227_11 ++ (am_c227_12 ++ (am_c227_13 ++ (am_c227_14 ++ (am_c227_15 ++ (am_c227_16 ++ (am_c227_17 ++ (am_c227_18 ++ (am_c227_19 ++ (am_c227_20 ++ (am_c227_21 ++ (am_c227_22 ++ (am_c227_23 ++ (am_c227_24 ++ (am_c227_25 ++ (am_c227_26 ++ (am_c227_27 ++ (am_c227_28 ++ (am_c227_29 ++ (am_c227_30 ++ (am_c227_31 ++ (am_c227_32 ++ (am_c227_33)))))))))))))))))))))))))))))))))).all _ = true
  simp only [List.all_append, am_dk227_0, am_dk227_1, am_dk227_2, am_dk227_3, am_dk227_4, am_dk227_5, am_dk227_6, am_dk227_7, am_dk227_8, am_dk227_9, am_dk227_10, am_dk227_11, am_dk227_12, am_dk227_13, am_dk227_14, am_dk227_15, am_dk227_16, am_dk227_17, am_dk227_18, am_dk227_19, am_dk227_20, am_dk227_21, am_dk227_22, am_dk227_23, am_dk227_24, am_dk227_25, am_dk227_26, am_dk227_27, am_dk227_28, am_dk227_29, am_dk227_30, am_dk227_31, am_dk227_32, am_dk227_33, Bool.and_self]
theorem am_dk : ∀ z, (am_code z).all (am_dok (am_by z)) = true := fun z => match z with
  | 0 => am_dk0
  | 1 => am_dk1
  | 2 => am_dk2
  | 3 => am_dk3
  | 4 => am_dk4
  | 5 => am_dk5
  | 6 => am_dk6
  | 7 => am_dk7
  | 8 => am_dk8
  | 9 => am_dk9
  | 10 => am_dk10
  | 11 => am_dk11
  | 12 => am_dk12
  | 13 => am_dk13
  | 14 => am_dk14
  | 15 => am_dk15
  | 16 => am_dk16
  | 17 => am_dk17
  | 18 => am_dk18
  | 19 => am_dk19
  | 20 => am_dk20
  | 21 => am_dk21
  | 22 => am_dk22
  | 23 => am_dk23
  | 24 => am_dk24
  | 25 => am_dk25
  | 26 => am_dk26
  | 27 => am_dk27
  | 28 => am_dk28
  | 29 => am_dk29
  | 30 => am_dk30
  | 31 => am_dk31
  | 32 => am_dk32
  | 33 => am_dk33
  | 34 => am_dk34
  | 35 => am_dk35
  | 36 => am_dk36
  | 37 => am_dk37
  | 38 => am_dk38
  | 39 => am_dk39
  | 40 => am_dk40
  | 41 => am_dk41
  | 42 => am_dk42
  | 43 => am_dk43
  | 44 => am_dk44
  | 45 => am_dk45
  | 46 => am_dk46
  | 47 => am_dk47
  | 48 => am_dk48
  | 49 => am_dk49
  | 50 => am_dk50
  | 51 => am_dk51
  | 52 => am_dk52
  | 53 => am_dk53
  | 54 => am_dk54
  | 55 => am_dk55
  | 56 => am_dk56
  | 57 => am_dk57
  | 58 => am_dk58
  | 59 => am_dk59
  | 60 => am_dk60
  | 61 => am_dk61
  | 62 => am_dk62
  | 63 => am_dk63
  | 64 => am_dk64
  | 65 => am_dk65
  | 66 => am_dk66
  | 67 => am_dk67
  | 68 => am_dk68
  | 69 => am_dk69
  | 70 => am_dk70
  | 71 => am_dk71
  | 72 => am_dk72
  | 73 => am_dk73
  | 74 => am_dk74
  | 75 => am_dk75
  | 76 => am_dk76
  | 77 => am_dk77
  | 78 => am_dk78
  | 79 => am_dk79
  | 80 => am_dk80
  | 81 => am_dk81
  | 82 => am_dk82
  | 83 => am_dk83
  | 84 => am_dk84
  | 85 => am_dk85
  | 86 => am_dk86
  | 87 => am_dk87
  | 88 => am_dk88
  | 89 => am_dk89
  | 90 => am_dk90
  | 91 => am_dk91
  | 92 => am_dk92
  | 93 => am_dk93
  | 94 => am_dk94
  | 95 => am_dk95
  | 96 => am_dk96
  | 97 => am_dk97
  | 98 => am_dk98
  | 99 => am_dk99
  | 100 => am_dk100
  | 101 => am_dk101
  | 102 => am_dk102
  | 103 => am_dk103
  | 104 => am_dk104
  | 105 => am_dk105
  | 106 => am_dk106
  | 107 => am_dk107
  | 108 => am_dk108
  | 109 => am_dk109
  | 110 => am_dk110
  | 111 => am_dk111
  | 112 => am_dk112
  | 113 => am_dk113
  | 114 => am_dk114
  | 115 => am_dk115
  | 116 => am_dk116
  | 117 => am_dk117
  | 118 => am_dk118
  | 119 => am_dk119
  | 120 => am_dk120
  | 121 => am_dk121
  | 122 => am_dk122
  | 123 => am_dk123
  | 124 => am_dk124
  | 125 => am_dk125
  | 126 => am_dk126
  | 127 => am_dk127
  | 128 => am_dk128
  | 129 => am_dk129
  | 130 => am_dk130
  | 131 => am_dk131
  | 132 => am_dk132
  | 133 => am_dk133
  | 134 => am_dk134
  | 135 => am_dk135
  | 136 => am_dk136
  | 137 => am_dk137
  | 138 => am_dk138
  | 139 => am_dk139
  | 140 => am_dk140
  | 141 => am_dk141
  | 142 => am_dk142
  | 143 => am_dk143
  | 144 => am_dk144
  | 145 => am_dk145
  | 146 => am_dk146
  | 147 => am_dk147
  | 148 => am_dk148
  | 149 => am_dk149
  | 150 => am_dk150
  | 151 => am_dk151
  | 152 => am_dk152
  | 153 => am_dk153
  | 154 => am_dk154
  | 155 => am_dk155
  | 156 => am_dk156
  | 157 => am_dk157
  | 158 => am_dk158
  | 159 => am_dk159
  | 160 => am_dk160
  | 161 => am_dk161
  | 162 => am_dk162
  | 163 => am_dk163
  | 164 => am_dk164
  | 165 => am_dk165
  | 166 => am_dk166
  | 167 => am_dk167
  | 168 => am_dk168
  | 169 => am_dk169
  | 170 => am_dk170
  | 171 => am_dk171
  | 172 => am_dk172
  | 173 => am_dk173
  | 174 => am_dk174
  | 175 => am_dk175
  | 176 => am_dk176
  | 177 => am_dk177
  | 178 => am_dk178
  | 179 => am_dk179
  | 180 => am_dk180
  | 181 => am_dk181
  | 182 => am_dk182
  | 183 => am_dk183
  | 184 => am_dk184
  | 185 => am_dk185
  | 186 => am_dk186
  | 187 => am_dk187
  | 188 => am_dk188
  | 189 => am_dk189
  | 190 => am_dk190
  | 191 => am_dk191
  | 192 => am_dk192
  | 193 => am_dk193
  | 194 => am_dk194
  | 195 => am_dk195
  | 196 => am_dk196
  | 197 => am_dk197
  | 198 => am_dk198
  | 199 => am_dk199
  | 200 => am_dk200
  | 201 => am_dk201
  | 202 => am_dk202
  | 203 => am_dk203
  | 204 => am_dk204
  | 205 => am_dk205
  | 206 => am_dk206
  | 207 => am_dk207
  | 208 => am_dk208
  | 209 => am_dk209
  | 210 => am_dk210
  | 211 => am_dk211
  | 212 => am_dk212
  | 213 => am_dk213
  | 214 => am_dk214
  | 215 => am_dk215
  | 216 => am_dk216
  | 217 => am_dk217
  | 218 => am_dk218
  | 219 => am_dk219
  | 220 => am_dk220
  | 221 => am_dk221
  | 222 => am_dk222
  | 223 => am_dk223
  | 224 => am_dk224
  | 225 => am_dk225
  | 226 => am_dk226
  | 227 => am_dk227
  | _ + 228 => rfl
end
section
/-! AN ABSTRACT MACHINE over the places of this system: a place is (kind, network, number); what the places hold are ints (am_M), where their references lead is am_T. -/
abbrev am_L : Type := Nat × Nat × Nat
abbrev am_V : Type := Value ⊕ Option am_L
abbrev am_M : Type := am_L → Nat → Int32
abbrev am_T : Type := am_L → Nat → Option am_L
abbrev am_X : Type := am_T × Option Nat × Nat × Nat × Int64 × UInt64
abbrev am_R : Type := (Option am_V ⊕ Nat) × am_M × am_X
abbrev am_S : Type := List (Option am_V)
abbrev am_I (x : Int32) : am_V := .inl (.int x)
abbrev am_P (l : am_L) : am_V := .inr (some l)
def am_set (M : am_M) (l : am_L) (j : Nat) (x : Int32) : am_M := fun l' j' => if l' = l ∧ j' = j then x else M l' j'
def am_setT (M : am_T) (l : am_L) (j : Nat) (x : Option am_L) : am_T := fun l' j' => if l' = l ∧ j' = j then x else M l' j'
def am_cp (M : am_M) (s d : am_L) (sp dp n : Nat) : am_M := fun l' j' => if l' = d then va_cpy (M s) (M d) sp dp n j' else M l' j'
/-- kinds: (0, class) an object; (1, n) ints; (2, n) chars; (3, class, n) references; 4 a long; 5 a double; 6 the script -/
def am_kd (l : am_L) : Nat × Nat × Nat := match l.1 with
  | 0 => (6, 0, 0) | 1 => (4, 1, 0) | 2 => (5, 1, 0) | 3 => (0, 8, 0) | 4 => (0, 3, 0) | 5 => (3, 5, 9) | 6 => (0, 6, 0) | 7 => (0, 0, 0) | 8 => (0, 1, 0) | 9 => (2, 60, 0) | 10 => (3, 0, 20)
  | 11 => (0, 0, 0) | 12 => (2, 14, 0) | 13 => (0, 5, 0) | 14 => (3, 2, 6) | 15 => (3, 7, 5) | 16 => (1, 9, 0) | 17 => (3, 4, 16) | 18 => (1, 16, 0) | 19 => (1, 6, 0) | 20 => (1, 8, 0)
  | 21 => (0, 2, 0) | 22 => (1, 16, 0) | 23 => (0, 7, 0) | 24 => (0, 4, 0) | 25 => (1, 8, 0) | 30 => (0, 9, 0) | 31 => (1, 364, 0) | 32 => (1, 364, 0) | 33 => (1, 364, 0) | 34 => (1, 2912, 0) | 35 => (1, 364, 0)
  | 36 => (2, 20, 0) | 37 => (2, 60, 0) | 38 => (1, 3, 0) | _ => (9, 0, 0)
def am_ok (l : am_L) : Bool := match l.1 with
  | 0 => l.2.1 == 0 && l.2.2 == 0 | 1 => l.2.1 == 0 && l.2.2 == 0 | 2 => l.2.1 == 0 && l.2.2 == 0 | 3 => l.2.1 == 0 && l.2.2 == 0 | 4 => l.2.1 == 0 && l.2.2 == 0 | 5 => l.2.1 == 0 && l.2.2 == 0 | 6 => l.2.1 == 0 && l.2.2 == 0 | 7 => l.2.1 == 0 && l.2.2 == 0 | 8 => l.2.1 == 0 && l.2.2 == 0 | 9 => l.2.1 == 0 && l.2.2 == 0 | 10 => l.2.1 == 0 && l.2.2 == 0
  | 11 => l.2.1 == 0 && decide (l.2.2 < 20) | 12 => l.2.1 == 0 && l.2.2 == 0
  | 13 => decide (l.2.1 < 12) && l.2.2 == 0 | 14 => decide (l.2.1 < 12) && l.2.2 == 0 | 15 => decide (l.2.1 < 12) && l.2.2 == 0 | 16 => decide (l.2.1 < 12) && l.2.2 == 0 | 17 => decide (l.2.1 < 12) && l.2.2 == 0 | 18 => decide (l.2.1 < 12) && l.2.2 == 0 | 19 => decide (l.2.1 < 12) && l.2.2 == 0 | 20 => decide (l.2.1 < 12) && l.2.2 == 0
  | 21 => decide (l.2.1 < 12) && decide (l.2.2 < 6) | 22 => decide (l.2.1 < 12) && decide (l.2.2 < 6) | 23 => decide (l.2.1 < 12) && decide (l.2.2 < 5) | 24 => decide (l.2.1 < 12) && decide (l.2.2 < 16) | 25 => decide (l.2.1 < 12) && decide (l.2.2 < 16)
  | 30 => l.2.1 == 0 && l.2.2 == 0 | 31 => l.2.1 == 0 && l.2.2 == 0 | 32 => l.2.1 == 0 && l.2.2 == 0 | 33 => l.2.1 == 0 && l.2.2 == 0 | 34 => l.2.1 == 0 && l.2.2 == 0 | 35 => l.2.1 == 0 && l.2.2 == 0 | 36 => l.2.1 == 0 && l.2.2 == 0 | 37 => l.2.1 == 0 && l.2.2 == 0 | 38 => l.2.1 == 0 && l.2.2 == 0
  | _ => false
def am_nb (n : Nat) : Nat := if n < 3 then 1 + 57 * n else 3 + 57 * n
def am_ad (l : am_L) : Nat := match l.1 with
  | 1 => 722 | 2 => 723 | 3 => 0 | 4 => 172 | 5 => 173 | 6 => 687 | 7 => 688 | 8 => 689 | 9 => 690 | 10 => 691 | 11 => 692 + l.2.2 | 12 => 712
  | 13 => am_nb l.2.1 | 14 => am_nb l.2.1 + 1 | 15 => am_nb l.2.1 + 2 | 16 => am_nb l.2.1 + 3 | 17 => am_nb l.2.1 + 4 | 18 => am_nb l.2.1 + 5 | 19 => am_nb l.2.1 + 6 | 20 => am_nb l.2.1 + 7
  | 21 => am_nb l.2.1 + 8 + 2 * l.2.2 | 22 => am_nb l.2.1 + 9 + 2 * l.2.2 | 23 => am_nb l.2.1 + 20 + l.2.2 | 24 => am_nb l.2.1 + 25 + 2 * l.2.2 | 25 => am_nb l.2.1 + 26 + 2 * l.2.2
  | 30 => 713 | 31 => 714 | 32 => 715 | 33 => 716 | 34 => 717 | 35 => 718 | 36 => 719 | 37 => 720 | 38 => 721 | _ => 0
def am_lr (n r : Nat) : am_L :=
  if r < 8 then (13 + r, n, 0) else if r < 20 then (21 + (r - 8) % 2, n, (r - 8) / 2) else if r < 25 then (23, n, r - 20) else (24 + (r - 25) % 2, n, (r - 25) / 2)
/-- the place that is laid at this number -/
def am_lo (a : Nat) : am_L :=
  if a = 0 then (3, 0, 0) else if a < 172 then am_lr ((a - 1) / 57) ((a - 1) % 57) else if a = 172 then (4, 0, 0) else if a = 173 then (5, 0, 0) else if a < 687 then am_lr (3 + (a - 174) / 57) ((a - 174) % 57)
  else if a = 687 then (6, 0, 0) else if a = 688 then (7, 0, 0) else if a = 689 then (8, 0, 0) else if a = 690 then (9, 0, 0) else if a = 691 then (10, 0, 0) else if a < 712 then (11, 0, a - 692) else if a = 712 then (12, 0, 0)
  else if a < 722 then (a - 713 + 30, 0, 0) else (a - 721, 0, 0)
/-- may the place be used: it is one, and it is made already -/
def am_al (ph : Option Nat) (l : am_L) : Bool := am_ok l && (match ph with
  | none => true
  | some c => decide (am_ad l < c) || l.1 == 0)
section AmPop
variable {α : Type}
def am_asI (v : am_V) (f : Int32 → Option α) : Option α := match v with
  | .inl (.int x) => f x
  | _ => none
def am_asF (v : am_V) (f : UInt32 → Option α) : Option α := match v with
  | .inl (.float x) => f x
  | _ => none
def am_asD (v : am_V) (f : UInt64 → Option α) : Option α := match v with
  | .inl (.double x) => f x
  | _ => none
def am_asP (v : am_V) (f : am_L → Option α) : Option α := match v with
  | .inr (some l) => f l
  | _ => none
def am_pop (st : List am_V) (f : am_V → List am_V → Option α) : Option α := match st with
  | v :: r => f v r
  | [] => none
def am_popI (st : List am_V) (f : Int32 → List am_V → Option α) : Option α := match st with
  | .inl (.int x) :: r => f x r
  | _ => none
def am_popJ (st : List am_V) (f : Int64 → List am_V → Option α) : Option α := match st with
  | .inl (.long x) :: r => f x r
  | _ => none
def am_popF (st : List am_V) (f : UInt32 → List am_V → Option α) : Option α := match st with
  | .inl (.float x) :: r => f x r
  | _ => none
def am_popD (st : List am_V) (f : UInt64 → List am_V → Option α) : Option α := match st with
  | .inl (.double x) :: r => f x r
  | _ => none
def am_popP (st : List am_V) (f : am_L → List am_V → Option α) : Option α := match st with
  | .inr (some l) :: r => f l r
  | _ => none
/-- an int or a reference: a value of one slot -/
def am_pop1 (st : List am_V) (f : am_V → List am_V → Option α) : Option α := match st with
  | .inl (.int x) :: r => f (.inl (.int x)) r
  | .inr (some l) :: r => f (.inr (some l)) r
  | _ => none
/-- n values, the first of them the deepest -/
def am_popN : Nat → List am_V → List am_V → (List am_V → List am_V → Option α) → Option α
  | 0, acc, st, f => f acc st
  | n + 1, acc, st, f => am_pop1 st fun v r => am_popN n (v :: acc) r f
/-- few enough left below a call -/
def am_sm (st : List am_V) (x : Option α) : Option α := match st with
  | [] => x | [_] => x | [_, _] => x | [_, _, _] => x | [_, _, _, _] => x
  | _ => none
def am_j (pc : Nat) (off : Int) (f : Nat → Option α) : Option α := match (pc : Int) + off with
  | .ofNat t => f t
  | .negSucc _ => none
def am_get : am_S → Nat → (am_V → Option α) → Option α
  | some v :: _, 0, f => f v
  | _ :: l, n + 1, f => am_get l n f
  | _, _, _ => none
end AmPop
/-- what a store just above leaves of a local: one of two slots is lost -/
def am_k (a : Option am_V) : Option am_V := match a with
  | some (.inl (.double _)) => none
  | some (.inl (.long _)) => none
  | b => b
def am_put : am_S → Nat → Option am_V → am_S
  | [], _, _ => []
  | _ :: l, 0, v => v :: l
  | a :: b :: l, 1, v => am_k a :: v :: l
  | a :: [], 1, _ => [a]
  | a :: l, n + 2, v => a :: am_put l (n + 1) v
/-- a value of two slots -/
def am_put2 (l : am_S) (i : Nat) (v : am_V) : am_S := (am_put l i (some v)).set (i + 1) none
/-- one instruction: K goes on, F ends -/
def am_chk {α : Type} (X : am_X) (l : am_L) (ci : Nat) (x : Option α) : Option α := if am_al X.2.1 l = true ∧ am_kd l = (0, ci, 0) then x else none
def am_arr {α : Type} (X : am_X) (l : am_L) (k a b : Nat) (i : Int32) (n : Nat) (x : Nat → Option α) : Option α := if am_al X.2.1 l = true ∧ am_kd l = (k, a, b) ∧ ¬ (i < 0 ∨ n ≤ i.toNatClampNeg) then x i.toNatClampNeg else none
/-- behind a call: on with the answer, or to the handler, or out -/
def am_bk {α : Type} (z pc : Nat) (ls : am_S) (st : List am_V) (r : Option am_R) (K : Nat → am_S → List am_V → am_M → am_X → Option α) (F : am_R → Option α) : Option α := match r with
  | none => none
  | some (.inl v, M, X) => K (pc + 3) ls (v.toList ++ st) M X
  | some (.inr E, M, X) => match am_hd z pc E with
    | none => if am_tr z = true then F (.inr E, M, X) else none
    | some (t, j) => K t (am_put ls j none) [] M X
def am_pc (f : Nat) (x : Int32) : Bool := match f with
  | 0 => true
  | 1 => x == 0 || x == 1
  | 2 => decide (0 ≤ x ∧ x ≤ 65535)
  | _ => false
def am_inv {α : Type} (call : Nat → List am_V → am_M → am_X → Option am_R) (z kd y pc : Nat) (ls : am_S) (st : List am_V) (M : am_M) (X : am_X) (K : Nat → am_S → List am_V → am_M → am_X → Option α) (F : am_R → Option α) : Option α := match kd with
  | 0 => am_popN (am_na y) [] st fun as st => am_popP st fun l st => am_sm st (am_chk X l (am_own y) (am_bk z pc ls st (call y (.inr (some l) :: as) M X) K F))
  | 1 => am_popN (am_na y) [] st fun as st => am_sm st (am_bk z pc ls st (call y as M X) K F)
  | 5 => am_popP st fun _ st => am_sm st (K (pc + 3) ls st M X)
  | 6 => am_popI st fun y st => am_popI st fun x st => am_sm st (K (pc + 3) ls (.inl (.int (if y < x then y else x)) :: st) M X)
  | 7 => am_popI st fun n st => am_popI st fun dp st => am_popP st fun a st => am_popI st fun sp st => am_popP st fun a0 st => am_sm st (
      if a ≠ a0 ∧ am_al X.2.1 a = true ∧ am_al X.2.1 a0 = true ∧ (am_kd a).1 = 1 ∧ (am_kd a0).1 = 1 ∧ ¬ sp < 0 ∧ ¬ dp < 0 ∧ ¬ n < 0 ∧ sp.toNatClampNeg + n.toNatClampNeg ≤ (am_kd a0).2.1 ∧ dp.toNatClampNeg + n.toNatClampNeg ≤ (am_kd a).2.1
      then K (pc + 3) ls st (am_cp M a0 a sp.toNatClampNeg dp.toNatClampNeg n.toNatClampNeg) X else none)
  | _ => none
/-- a new cell of this kind, as many slots -/
def am_nu {α : Type} (X : am_X) (k : Nat × Nat × Nat) (n : Nat) (f : am_L → am_X → Option α) : Option α := match X.2.1 with
  | none => none
  | some c => if am_ok (am_lo c) = true ∧ am_ad (am_lo c) = c ∧ am_kd (am_lo c) = k ∧ (am_lo c).1 ≠ 0 then f (am_lo c) (X.1, some (c + 1), X.2.2.1 + 1, X.2.2.2.1 + n, X.2.2.2.2) else none
def am_bump (X : am_X) : am_X := (X.1, X.2.1, X.2.2.1 + 1, X.2.2.2.1 + 6, X.2.2.2.2)
def am_ex {α : Type} (call : Nat → List am_V → am_M → am_X → Option am_R) (z : Nat) (i : Instr) (pc : Nat) (ls : am_S) (st : List am_V) (M : am_M) (X : am_X) (K : Nat → am_S → List am_V → am_M → am_X → Option α) (F : am_R → Option α) : Option α := match i with
  | .iload_n j => am_get ls j.val fun v => am_asI v fun x => K (pc + 1) ls (.inl (.int x) :: st) M X
  | .iload j => am_get ls j fun v => am_asI v fun x => K (pc + 2) ls (.inl (.int x) :: st) M X
  | .aload_n j => am_get ls j.val fun v => am_asP v fun l => K (pc + 1) ls (.inr (some l) :: st) M X
  | .aload j => am_get ls j fun v => am_asP v fun l => K (pc + 2) ls (.inr (some l) :: st) M X
  | .fload j => am_get ls j fun v => am_asF v fun x => K (pc + 2) ls (.inl (.float x) :: st) M X
  | .dload j => am_get ls j fun v => am_asD v fun x => K (pc + 2) ls (.inl (.double x) :: st) M X
  | .istore_n j => am_popI st fun x st => if j.val < ls.length then K (pc + 1) (am_put ls j.val (some (.inl (.int x)))) st M X else none
  | .istore j => am_popI st fun x st => if j < ls.length then K (pc + 2) (am_put ls j (some (.inl (.int x)))) st M X else none
  | .astore_n j => am_popP st fun l st => if j.val < ls.length then K (pc + 1) (am_put ls j.val (some (.inr (some l)))) st M X else none
  | .astore j => am_popP st fun l st => if j < ls.length then K (pc + 2) (am_put ls j (some (.inr (some l)))) st M X else none
  | .fstore j => am_popF st fun x st => if j < ls.length then K (pc + 2) (am_put ls j (some (.inl (.float x)))) st M X else none
  | .dstore j => am_popD st fun x st => if j + 1 < ls.length then K (pc + 2) (am_put2 ls j (.inl (.double x))) st M X else none
  | .iinc j c => am_get ls j fun v => am_asI v fun x => K (pc + 3) (am_put ls j (some (.inl (.int (x + Int32.ofInt c))))) st M X
  | .iconst c => K (pc + 1) ls (.inl (.int (Int32.ofInt c)) :: st) M X
  | .bipush c => K (pc + 2) ls (.inl (.int (Int8.ofInt c).toInt32) :: st) M X
  | .sipush c => K (pc + 3) ls (.inl (.int (Int16.ofInt c).toInt32) :: st) M X
  | .ldc ix => match am_kc (am_own z) ix with
    | some v => K (pc + 2) ls (.inl (.int v) :: st) M X
    | none => none
  | .lconst c => K (pc + 1) ls (.inl (.long (Int64.ofNat (c : Nat))) :: st) M X
  | .iadd => am_popI st fun y st => am_popI st fun x st => K (pc + 1) ls (.inl (.int (x + y)) :: st) M X
  | .isub => am_popI st fun y st => am_popI st fun x st => K (pc + 1) ls (.inl (.int (x - y)) :: st) M X
  | .imul => am_popI st fun y st => am_popI st fun x st => K (pc + 1) ls (.inl (.int (x * y)) :: st) M X
  | .iand => am_popI st fun y st => am_popI st fun x st => K (pc + 1) ls (.inl (.int (x &&& y)) :: st) M X
  | .ior => am_popI st fun y st => am_popI st fun x st => K (pc + 1) ls (.inl (.int (x ||| y)) :: st) M X
  | .ishl => am_popI st fun y st => am_popI st fun x st => K (pc + 1) ls (.inl (.int (x <<< (y &&& 31))) :: st) M X
  | .ishr => am_popI st fun y st => am_popI st fun x st => K (pc + 1) ls (.inl (.int (x >>> (y &&& 31))) :: st) M X
  | .idiv => am_popI st fun y st => am_popI st fun x st => if y = 0 then none else K (pc + 1) ls (.inl (.int (x / y)) :: st) M X
  | .irem => am_popI st fun y st => am_popI st fun x st => if y = 0 then none else K (pc + 1) ls (.inl (.int (x - x / y * y)) :: st) M X
  | .i2l => am_popI st fun x st => K (pc + 1) ls (.inl (.long x.toInt64) :: st) M X
  | .i2c => am_popI st fun x st => K (pc + 1) ls (.inl (.int (x.toUInt32 % 65536).toInt32) :: st) M X
  | .i2f => am_popI st fun x st => K (pc + 1) ls (.inl (.float (FP.i2f x)) :: st) M X
  | .i2d => am_popI st fun x st => K (pc + 1) ls (.inl (.double (FP.i2d x)) :: st) M X
  | .f2d => am_popF st fun x st => if FP.f2d x &&& 0x7fffffffffffffff ≤ 0x7ff0000000000000 then K (pc + 1) ls (.inl (.double (FP.f2d x)) :: st) M X else none
  | .fdiv => am_popF st fun y st => am_popF st fun x st => if FP.fdiv x y &&& 0x7fffffff ≤ 0x7f800000 then K (pc + 1) ls (.inl (.float (FP.fdiv x y)) :: st) M X else none
  | .ddiv => am_popD st fun y st => am_popD st fun x st => if FP.ddiv x y &&& 0x7fffffffffffffff ≤ 0x7ff0000000000000 then K (pc + 1) ls (.inl (.double (FP.ddiv x y)) :: st) M X else none
  | .lcmp => am_popJ st fun y st => am_popJ st fun x st => K (pc + 1) ls (.inl (.int (lg_cmp x y)) :: st) M X
  | .fcmp op => am_popF st fun y st => am_popF st fun x st => K (pc + 1) ls (.inl (.int (Op.cmpValue (FP.fcmp x y) op)) :: st) M X
  | .dcmp op => am_popD st fun y st => am_popD st fun x st => K (pc + 1) ls (.inl (.int (Op.cmpValue (FP.dcmp x y) op)) :: st) M X
  | .dup => am_pop1 st fun v st => K (pc + 1) ls (v :: v :: st) M X
  | .pop => am_pop1 st fun _ st => K (pc + 1) ls st M X
  | .dup2 => am_pop1 st fun v st => am_pop1 st fun w st => K (pc + 1) ls (v :: w :: v :: w :: st) M X
  | .dup_x1 => am_pop1 st fun v st => am_pop1 st fun w st => K (pc + 1) ls (v :: w :: v :: st) M X
  | .dup_x2 => am_pop1 st fun v st => am_pop1 st fun w st => am_pop1 st fun u st => K (pc + 1) ls (v :: w :: u :: v :: st) M X
  | .goto o => am_j pc o fun t => K t ls st M X
  | .ifCond .eq o => am_popI st fun x st => am_j pc o fun t => if x = 0 then K t ls st M X else K (pc + 3) ls st M X
  | .ifCond .ne o => am_popI st fun x st => am_j pc o fun t => if x = 0 then K (pc + 3) ls st M X else K t ls st M X
  | .ifCond .lt o => am_popI st fun x st => am_j pc o fun t => if x < 0 then K t ls st M X else K (pc + 3) ls st M X
  | .ifCond .ge o => am_popI st fun x st => am_j pc o fun t => if x < 0 then K (pc + 3) ls st M X else K t ls st M X
  | .ifCond .gt o => am_popI st fun x st => am_j pc o fun t => if 0 < x then K t ls st M X else K (pc + 3) ls st M X
  | .ifCond .le o => am_popI st fun x st => am_j pc o fun t => if 0 < x then K (pc + 3) ls st M X else K t ls st M X
  | .if_icmp .eq o => am_popI st fun y st => am_popI st fun x st => am_j pc o fun t => if x = y then K t ls st M X else K (pc + 3) ls st M X
  | .if_icmp .ne o => am_popI st fun y st => am_popI st fun x st => am_j pc o fun t => if x = y then K (pc + 3) ls st M X else K t ls st M X
  | .if_icmp .lt o => am_popI st fun y st => am_popI st fun x st => am_j pc o fun t => if x < y then K t ls st M X else K (pc + 3) ls st M X
  | .if_icmp .ge o => am_popI st fun y st => am_popI st fun x st => am_j pc o fun t => if x < y then K (pc + 3) ls st M X else K t ls st M X
  | .if_icmp .gt o => am_popI st fun y st => am_popI st fun x st => am_j pc o fun t => if y < x then K t ls st M X else K (pc + 3) ls st M X
  | .if_icmp .le o => am_popI st fun y st => am_popI st fun x st => am_j pc o fun t => if y < x then K (pc + 3) ls st M X else K t ls st M X
  | .tableswitch d lo hi os => am_popI st fun x st => if x.toInt < lo ∨ hi < x.toInt then am_j pc d fun t => K t ls st M X else (match os[(x.toInt - lo).toNat]? with
    | some o => am_j pc o fun t => K t ls st M X
    | none => none)
  | .lookupswitch d ps => am_popI st fun x st => if (ps.toList.zip (ps.toList.drop 1)).all (fun (a, next) => a.1 < next.1) = true then am_j pc (Op.lookupswitch.offset ps.toList d x.toInt) fun t => K t ls st M X else none
  | .getfield ix => match am_fl (am_own z) ix with
    | none => none
    | some (ci, j) => am_popP st fun l st => am_chk X l ci (if am_fk ci j = 3 then K (pc + 3) ls (.inr (X.1 l j) :: st) M X else K (pc + 3) ls (.inl (.int (M l j)) :: st) M X)
  | .putfield ix => match am_fl (am_own z) ix with
    | none => none
    | some (ci, j) => if am_ff ci j = true ∧ ¬ (am_ini z = true ∧ am_own z = ci) then none else
      if am_fk ci j = 3 then am_popP st fun v st => am_popP st fun l st => am_chk X l ci (if am_al X.2.1 v = true then K (pc + 3) ls st M (am_setT X.1 l j (some v), X.2) else none)
      else am_popI st fun x st => am_popP st fun l st => am_chk X l ci (if am_pc (am_fk ci j) x = true then K (pc + 3) ls st (am_set M l j x) X else none)
  | .iaload => am_popI st fun i st => am_popP st fun l st => if l.1 = 0 then (if l = (0, 0, 0) ∧ ¬ (i < 0 ∨ (M (0, 0, 1) 0).toNatClampNeg ≤ i.toNatClampNeg) then K (pc + 1) ls (.inl (.int (M (0, 0, 0) i.toNatClampNeg)) :: st) M X else none)
      else am_arr X l 1 (am_kd l).2.1 0 i (am_kd l).2.1 fun j => K (pc + 1) ls (.inl (.int (M l j)) :: st) M X
  | .iastore => am_popI st fun x st => am_popI st fun i st => am_popP st fun l st => am_arr X l 1 (am_kd l).2.1 0 i (am_kd l).2.1 fun j => K (pc + 1) ls st (am_set M l j x) X
  | .caload => am_popI st fun i st => am_popP st fun l st => am_arr X l 2 (am_kd l).2.1 0 i (am_kd l).2.1 fun j => K (pc + 1) ls (.inl (.int (M l j)) :: st) M X
  | .castore => am_popI st fun x st => am_popI st fun i st => am_popP st fun l st => am_arr X l 2 (am_kd l).2.1 0 i (am_kd l).2.1 fun j => K (pc + 1) ls st (am_set M l j (vp_nar .char x)) X
  | .aaload => am_popI st fun i st => am_popP st fun l st => am_arr X l 3 (am_kd l).2.1 (am_kd l).2.2 i (am_kd l).2.2 fun j => K (pc + 1) ls (.inr (X.1 l j) :: st) M X
  | .aastore => am_popP st fun v st => am_popI st fun i st => am_popP st fun l st => am_arr X l 3 (am_kd l).2.1 (am_kd l).2.2 i (am_kd l).2.2 fun j => am_chk X v (am_kd l).2.1 (K (pc + 1) ls st M (am_setT X.1 l j (some v), X.2))
  | .laload => am_popI st fun i st => am_popP st fun l st => am_arr X l 4 1 0 i 1 fun _ => K (pc + 1) ls (.inl (.long X.2.2.2.2.1) :: st) M X
  | .lastore => am_popJ st fun x st => am_popI st fun i st => am_popP st fun l st => am_arr X l 4 1 0 i 1 fun _ => K (pc + 1) ls st M (X.1, X.2.1, X.2.2.1, X.2.2.2.1, x, X.2.2.2.2.2)
  | .daload => am_popI st fun i st => am_popP st fun l st => am_arr X l 5 1 0 i 1 fun _ => K (pc + 1) ls (.inl (.double X.2.2.2.2.2) :: st) M X
  | .dastore => am_popD st fun x st => am_popI st fun i st => am_popP st fun l st => am_arr X l 5 1 0 i 1 fun _ => K (pc + 1) ls st M (X.1, X.2.1, X.2.2.1, X.2.2.2.1, X.2.2.2.2.1, x)
  | .arraylength => am_popP st fun l st => if l = (0, 0, 0) then K (pc + 1) ls (.inl (.int (M (0, 0, 1) 0)) :: st) M X else none
  | .invokevirtual ix => match am_ml (am_own z) ix with
    | some (0, y) => am_inv call z 0 y pc ls st M X K F
    | _ => none
  | .invokestatic ix => match am_ml (am_own z) ix with
    | some (1, y) => am_inv call z 1 y pc ls st M X K F
    | some (4, y) => am_inv call z 1 y pc ls st M X K F
    | some (6, y) => am_inv call z 6 y pc ls st M X K F
    | some (7, y) => am_inv call z 7 y pc ls st M X K F
    | _ => none
  | .invokespecial ix => match am_ml (am_own z) ix with
    | some (2, y) => am_inv call z 0 y pc ls st M X K F
    | some (3, y) => am_inv call z 0 y pc ls st M X K F
    | some (5, y) => am_inv call z 5 y pc ls st M X K F
    | _ => none
  | .new ix => match am_nw (am_own z) ix with
    | some (.inl ci) => am_nu X (0, ci, 0) (am_cN ci) fun l X => K (pc + 3) ls (.inr (some l) :: st) M X
    | some (.inr (E, ic)) => if am_cd z (pc + 3) = some .dup ∧ am_cd z (pc + 4) = some (.invokespecial ic) ∧ am_cd z (pc + 7) = some .athrow ∧ X.2.1 = none ∧ am_tr z = true then am_sm st (F (.inr E, M, am_bump X)) else none
    | none => none
  | .newarray .int => am_popI st fun c st => if c < 0 then none else am_nu X (1, c.toNatClampNeg, 0) c.toNatClampNeg fun l X => K (pc + 2) ls (.inr (some l) :: st) M X
  | .newarray .char => am_popI st fun c st => if c < 0 then none else am_nu X (2, c.toNatClampNeg, 0) c.toNatClampNeg fun l X => K (pc + 2) ls (.inr (some l) :: st) M X
  | .newarray .long => am_popI st fun c st => if c = 1 ∧ X.2.2.2.2.1 = 0 then am_nu X (4, 1, 0) 1 fun l X => K (pc + 2) ls (.inr (some l) :: st) M X else none
  | .newarray .double => am_popI st fun c st => if c = 1 ∧ X.2.2.2.2.2 = 0 then am_nu X (5, 1, 0) 1 fun l X => K (pc + 2) ls (.inr (some l) :: st) M X else none
  | .anewarray ix => match am_aw (am_own z) ix with
    | some ci => am_popI st fun c st => if c < 0 then none else am_nu X (3, ci, c.toNatClampNeg) c.toNatClampNeg fun l X => K (pc + 3) ls (.inr (some l) :: st) M X
    | _ => none
  | .return_ => match st, am_rt z with
    | [], 0 => F (.inl none, M, X)
    | _, _ => none
  | .ireturn => match st, am_rt z with
    | [.inl (.int x)], 1 => F (.inl (some (.inl (.int x))), M, X)
    | [.inl (.int x)], 2 => if am_pc 1 x = true then F (.inl (some (.inl (.int x))), M, X) else none
    | [.inl (.int x)], 3 => if am_pc 2 x = true then F (.inl (some (.inl (.int x))), M, X) else none
    | _, _ => none
  | .areturn => match st, am_rt z with
    | [.inr (some l)], 6 => F (.inl (some (.inr (some l))), M, X)
    | _, _ => none
  | .freturn => match st, am_rt z with
    | [.inl (.float x)], 4 => F (.inl (some (.inl (.float x))), M, X)
    | _, _ => none
  | .dreturn => match st, am_rt z with
    | [.inl (.double x)], 5 => F (.inl (some (.inl (.double x))), M, X)
    | _, _ => none
  | _ => none
def am_run (call : Nat → List am_V → am_M → am_X → Option am_R) (z : Nat) : Nat → Nat → am_S → List am_V → am_M → am_X → Option am_R
  | 0, _, _, _, _, _ => none
  | n + 1, pc, ls, st, M, X => match am_cd z pc with
    | none => none
    | some i => am_ex call z i pc ls st M X (am_run call z n) some
end
section
/-! THE ABSTRACT MACHINE'S RUNS: am_rn goes to the end of a method, am_ev is a call at a depth -/
abbrev am_N : Type := (Nat × am_S × List am_V × am_M × am_X) ⊕ am_R
section AmB
variable {α β : Type}
theorem am_ite_b {c : Prop} [Decidable c] {a b : Option α} {g : α → Option β} : (if c then a else b).bind g = if c then a.bind g else b.bind g := by split <;> rfl
theorem am_asI_b {v : am_V} {f : Int32 → Option α} {g : α → Option β} : (am_asI v f).bind g = am_asI v (fun x => (f x).bind g) := by unfold am_asI; split <;> rfl
theorem am_asF_b {v : am_V} {f : UInt32 → Option α} {g : α → Option β} : (am_asF v f).bind g = am_asF v (fun x => (f x).bind g) := by unfold am_asF; split <;> rfl
theorem am_asD_b {v : am_V} {f : UInt64 → Option α} {g : α → Option β} : (am_asD v f).bind g = am_asD v (fun x => (f x).bind g) := by unfold am_asD; split <;> rfl
theorem am_asP_b {v : am_V} {f : am_L → Option α} {g : α → Option β} : (am_asP v f).bind g = am_asP v (fun x => (f x).bind g) := by unfold am_asP; split <;> rfl
theorem am_popI_b {v : List am_V} {f : Int32 → List am_V → Option α} {g : α → Option β} : (am_popI v f).bind g = am_popI v (fun x r => (f x r).bind g) := by unfold am_popI; split <;> rfl
theorem am_popJ_b {v : List am_V} {f : Int64 → List am_V → Option α} {g : α → Option β} : (am_popJ v f).bind g = am_popJ v (fun x r => (f x r).bind g) := by unfold am_popJ; split <;> rfl
theorem am_popF_b {v : List am_V} {f : UInt32 → List am_V → Option α} {g : α → Option β} : (am_popF v f).bind g = am_popF v (fun x r => (f x r).bind g) := by unfold am_popF; split <;> rfl
theorem am_popD_b {v : List am_V} {f : UInt64 → List am_V → Option α} {g : α → Option β} : (am_popD v f).bind g = am_popD v (fun x r => (f x r).bind g) := by unfold am_popD; split <;> rfl
theorem am_popP_b {v : List am_V} {f : am_L → List am_V → Option α} {g : α → Option β} : (am_popP v f).bind g = am_popP v (fun x r => (f x r).bind g) := by unfold am_popP; split <;> rfl
theorem am_pop1_b {v : List am_V} {f : am_V → List am_V → Option α} {g : α → Option β} : (am_pop1 v f).bind g = am_pop1 v (fun x r => (f x r).bind g) := by unfold am_pop1; split <;> rfl
theorem am_popN_b {f : List am_V → List am_V → Option α} {g : α → Option β} : ∀ (n : Nat) (acc v : List am_V), (am_popN n acc v f).bind g = am_popN n acc v (fun x r => (f x r).bind g)
  | 0, _, _ => rfl
  | n + 1, acc, v => by
    unfold am_popN
    rw [am_pop1_b]
    congr 1
    funext x r
    exact am_popN_b n (x :: acc) r
theorem am_sm_b {st : List am_V} {x : Option α} {g : α → Option β} : (am_sm st x).bind g = am_sm st (x.bind g) := by unfold am_sm; split <;> rfl
theorem am_j_b {pc : Nat} {o : Int} {f : Nat → Option α} {g : α → Option β} : (am_j pc o f).bind g = am_j pc o (fun t => (f t).bind g) := by unfold am_j; split <;> rfl
theorem am_get_b {f : am_V → Option α} {g : α → Option β} : ∀ (ls : am_S) (i : Nat), (am_get ls i f).bind g = am_get ls i (fun v => (f v).bind g)
  | [], 0 => rfl
  | [], _ + 1 => rfl
  | none :: _, 0 => rfl
  | some _ :: _, 0 => rfl
  | none :: l, n + 1 => am_get_b l n
  | some _ :: l, n + 1 => am_get_b l n
theorem am_chk_b {X : am_X} {l : am_L} {ci : Nat} {x : Option α} {g : α → Option β} : (am_chk X l ci x).bind g = am_chk X l ci (x.bind g) := by unfold am_chk; split <;> rfl
theorem am_arr_b {X : am_X} {l : am_L} {k a b : Nat} {i : Int32} {n : Nat} {x : Nat → Option α} {g : α → Option β} : (am_arr X l k a b i n x).bind g = am_arr X l k a b i n (fun j => (x j).bind g) := by unfold am_arr; split <;> rfl
theorem am_nu_b {X : am_X} {k : Nat × Nat × Nat} {n : Nat} {x : am_L → am_X → Option α} {g : α → Option β} : (am_nu X k n x).bind g = am_nu X k n (fun l Y => (x l Y).bind g) := by
  unfold am_nu
  split
  · rfl
  · split <;> rfl
theorem am_bk_b {z pc : Nat} {ls : am_S} {st : List am_V} {r : Option am_R} {K : Nat → am_S → List am_V → am_M → am_X → Option α} {F : am_R → Option α} {g : α → Option β} : (am_bk z pc ls st r K F).bind g = am_bk z pc ls st r (fun a b c d e => (K a b c d e).bind g) (fun r => (F r).bind g) := by
  unfold am_bk
  split
  · rfl
  · rfl
  · split
    · split <;> rfl
    · rfl
theorem am_inv_b {call : Nat → List am_V → am_M → am_X → Option am_R} {z kd y pc : Nat} {ls : am_S} {st : List am_V} {M : am_M} {X : am_X} {K : Nat → am_S → List am_V → am_M → am_X → Option α} {F : am_R → Option α} {g : α → Option β} : (am_inv call z kd y pc ls st M X K F).bind g = am_inv call z kd y pc ls st M X (fun a b c d e => (K a b c d e).bind g) (fun r => (F r).bind g) := by
  unfold am_inv
  split <;> simp only [am_popN_b, am_popP_b, am_popI_b, am_sm_b, am_chk_b, am_bk_b, am_ite_b, Option.bind_none]
set_option maxHeartbeats 4000000 in
theorem am_ex_b {call : Nat → List am_V → am_M → am_X → Option am_R} {z : Nat} {i : Instr} {pc : Nat} {ls : am_S} {st : List am_V} {M : am_M} {X : am_X} {K : Nat → am_S → List am_V → am_M → am_X → Option α} {F : am_R → Option α} {g : α → Option β} : (am_ex call z i pc ls st M X K F).bind g = am_ex call z i pc ls st M X (fun a b c d e => (K a b c d e).bind g) (fun r => (F r).bind g) := by
  unfold am_ex
  split <;> (try simp only [am_asI_b, am_asF_b, am_asD_b, am_asP_b, am_popI_b, am_popJ_b, am_popF_b, am_popD_b, am_popP_b, am_pop1_b, am_popN_b, am_sm_b, am_j_b, am_get_b, am_chk_b, am_arr_b, am_nu_b, am_bk_b, am_inv_b, am_ite_b, Option.bind_none]) <;>
    (try (split <;> simp only [am_asI_b, am_asF_b, am_asD_b, am_asP_b, am_popI_b, am_popJ_b, am_popF_b, am_popD_b, am_popP_b, am_pop1_b, am_popN_b, am_sm_b, am_j_b, am_get_b, am_chk_b, am_arr_b, am_nu_b, am_bk_b, am_inv_b, am_ite_b, Option.bind_none, Option.bind_some])) 
  congr 1; funext x r
  congr 1
  split <;> simp only [am_j_b, Option.bind_none]
end AmB
section AmR
variable {call : Nat → List am_V → am_M → am_X → Option am_R} {z : Nat}
def am_el {α : Type} (K : Nat → am_S → List am_V → am_M → am_X → Option α) (F : am_R → Option α) (q : am_N) : Option α := match q with
  | .inl (a, b, c, d, e) => K a b c d e
  | .inr r => F r
/-- one step, as a note of where it leads -/
def am_st (call : Nat → List am_V → am_M → am_X → Option am_R) (z : Nat) (i : Instr) (pc : Nat) (ls : am_S) (st : List am_V) (M : am_M) (X : am_X) : Option am_N := am_ex call z i pc ls st M X (fun a b c d e => some (.inl (a, b, c, d, e))) (fun r => some (.inr r))
theorem am_ex_st {α : Type} {i : Instr} {pc : Nat} {ls : am_S} {st : List am_V} {M : am_M} {X : am_X} {K : Nat → am_S → List am_V → am_M → am_X → Option α} {F : am_R → Option α} : am_ex call z i pc ls st M X K F = (am_st call z i pc ls st M X).bind (am_el K F) :=
  (am_ex_b (K := fun a b c d e => some (.inl (a, b, c, d, e))) (F := fun r => some (.inr r)) (g := am_el K F)).symm
theorem am_run_one : ∀ (n pc : Nat) (ls : am_S) (st : List am_V) (M : am_M) (X : am_X) (r : am_R), am_run call z n pc ls st M X = some r → am_run call z (n + 1) pc ls st M X = some r
  | 0, _, _, _, _, _, _, h => by cases h
  | n + 1, pc, ls, st, M, X, r, h => by
    unfold am_run at h ⊢
    cases hc : am_cd z pc with
    | none => rw [hc] at h; cases h
    | some i =>
      rw [hc] at h
      dsimp only at h ⊢
      rw [am_ex_st] at h ⊢
      cases hs : am_st call z i pc ls st M X with
      | none => rw [hs] at h; cases h
      | some q =>
        rw [hs] at h
        cases q with
        | inl c =>
          obtain ⟨a, b, c, d, e⟩ := c
          exact am_run_one n a b c d e r h
        | inr r' => exact h
theorem am_run_mono {n k pc : Nat} {ls : am_S} {st : List am_V} {M : am_M} {X : am_X} {r : am_R} (h : am_run call z n pc ls st M X = some r) : am_run call z (n + k) pc ls st M X = some r := by
  induction k with
  | zero => exact h
  | succ k ih => exact am_run_one _ _ _ _ _ _ _ ih
theorem am_run_fun {n k pc : Nat} {ls : am_S} {st : List am_V} {M : am_M} {X : am_X} {r r' : am_R} (h : am_run call z n pc ls st M X = some r) (h' : am_run call z k pc ls st M X = some r') : r = r' := by
  have h1 := am_run_mono (k := k) h
  have h2 := am_run_mono (k := n) h'
  rw [Nat.add_comm] at h2
  exact Option.some.inj (h1.symm.trans h2)
noncomputable def am_rn (call : Nat → List am_V → am_M → am_X → Option am_R) (z : Nat) (pc : Nat) (ls : am_S) (st : List am_V) (M : am_M) (X : am_X) : Option am_R :=
  @dite _ (∃ n r, am_run call z n pc ls st M X = some r) (Classical.propDecidable _) (fun h => some h.choose_spec.choose) (fun _ => none)
theorem am_rn_iff {pc : Nat} {ls : am_S} {st : List am_V} {M : am_M} {X : am_X} {r : am_R} : am_rn call z pc ls st M X = some r ↔ ∃ n, am_run call z n pc ls st M X = some r := by
  unfold am_rn
  by_cases h : ∃ n r, am_run call z n pc ls st M X = some r
  · rw [dif_pos h]
    have h2 := h.choose_spec.choose_spec
    constructor
    · intro h3
      rw [← Option.some.inj h3]
      exact ⟨_, h2⟩
    · rintro ⟨n, h3⟩
      rw [am_run_fun h2 h3]
  · rw [dif_neg h]
    constructor
    · intro h3; cases h3
    · rintro ⟨n, h3⟩
      exact absurd ⟨n, r, h3⟩ h
theorem am_rn_eq {i : Instr} {pc : Nat} {ls : am_S} {st : List am_V} {M : am_M} {X : am_X} (hc : am_cd z pc = some i) : am_rn call z pc ls st M X = am_ex call z i pc ls st M X (am_rn call z) some := by
  have key : ∀ r, am_rn call z pc ls st M X = some r ↔ am_ex call z i pc ls st M X (am_rn call z) some = some r := by
    intro r
    rw [am_rn_iff, am_ex_st]
    cases hs : am_st call z i pc ls st M X with
    | none =>
      constructor
      · rintro ⟨n, h⟩
        cases n with
        | zero => cases h
        | succ n =>
          unfold am_run at h
          rw [hc] at h
          dsimp only at h
          rw [am_ex_st, hs] at h
          cases h
      · intro h; cases h
    | some q =>
      cases q with
      | inl c =>
        obtain ⟨a, b, c, d, e⟩ := c
        show _ ↔ am_rn call z a b c d e = some r
        rw [am_rn_iff]
        constructor
        · rintro ⟨n, h⟩
          cases n with
          | zero => cases h
          | succ n =>
            unfold am_run at h
            rw [hc] at h
            dsimp only at h
            rw [am_ex_st, hs] at h
            exact ⟨n, h⟩
        · rintro ⟨n, h⟩
          refine ⟨n + 1, ?_⟩
          unfold am_run
          rw [hc]
          dsimp only
          rw [am_ex_st, hs]
          exact h
      | inr r' =>
        show _ ↔ some r' = some r
        constructor
        · rintro ⟨n, h⟩
          cases n with
          | zero => cases h
          | succ n =>
            unfold am_run at h
            rw [hc] at h
            dsimp only at h
            rw [am_ex_st, hs] at h
            exact h
        · intro h
          refine ⟨1, ?_⟩
          unfold am_run
          rw [hc]
          dsimp only
          rw [am_ex_st, hs]
          exact h
  cases h : am_ex call z i pc ls st M X (am_rn call z) some with
  | none =>
    cases h2 : am_rn call z pc ls st M X with
    | none => rfl
    | some r => rw [(key r).mp h2] at h; cases h
  | some r => exact (key r).mpr h
end AmR
/-- the locals at a method's entry -/
def am_en0 (z : Nat) (as : List am_V) : am_S := as.map some ++ List.replicate (am_mL z - as.length) none
/-- a call of a method, d levels deep -/
noncomputable def am_ev : Nat → Nat → List am_V → am_M → am_X → Option am_R
  | 0 => fun _ _ _ _ => none
  | d + 1 => fun z as M X => am_rn (am_ev d) z 0 (am_en0 z as) [] M X
theorem am_ev_eq (d z : Nat) (as : List am_V) (M : am_M) (X : am_X) : am_ev (d + 1) z as M X = am_rn (am_ev d) z 0 (am_en0 z as) [] M X := rfl
end
section
/-! ONE INSTRUCTION, A ROW: what am_rn does at it (the rows of each method are laid by a text program behind) -/
section AmRows
variable {call : Nat → List am_V → am_M → am_X → Option am_R} {z pc : Nat} {ls : am_S} {st : List am_V} {M : am_M} {X : am_X}
theorem rn_iconst {c : Int} {v : Int32} (hc : am_cd z pc = some (.iconst c)) (hv : Int32.ofInt c = v) : am_rn call z pc ls st M X = am_rn call z (pc + 1) ls (.inl (.int v) :: st) M X := by subst hv; exact am_rn_eq hc
theorem rn_bipush {c : Int} {v : Int32} (hc : am_cd z pc = some (.bipush c)) (hv : (Int8.ofInt c).toInt32 = v) : am_rn call z pc ls st M X = am_rn call z (pc + 2) ls (.inl (.int v) :: st) M X := by subst hv; exact am_rn_eq hc
theorem rn_sipush {c : Int} {v : Int32} (hc : am_cd z pc = some (.sipush c)) (hv : (Int16.ofInt c).toInt32 = v) : am_rn call z pc ls st M X = am_rn call z (pc + 3) ls (.inl (.int v) :: st) M X := by subst hv; exact am_rn_eq hc
theorem rn_ldc {ix : Nat} {v : Int32} (hc : am_cd z pc = some (.ldc ix)) (hv : am_kc (am_own z) ix = some v) : am_rn call z pc ls st M X = am_rn call z (pc + 2) ls (.inl (.int v) :: st) M X := by
  rw [am_rn_eq hc]
  dsimp only [am_ex]
  rw [hv]
theorem rn_lconst {c : Fin 2} {v : Int64} (hc : am_cd z pc = some (.lconst c)) (hv : Int64.ofNat (c : Nat) = v) : am_rn call z pc ls st M X = am_rn call z (pc + 1) ls (.inl (.long v) :: st) M X := by subst hv; exact am_rn_eq hc
theorem rn_iinc {c : Int} {j : Nat} {v : Int32} (hc : am_cd z pc = some (.iinc j c)) (hv : Int32.ofInt c = v) : am_rn call z pc ls st M X = am_get ls j fun w => am_asI w fun x => am_rn call z (pc + 3) (am_put ls j (some (.inl (.int (x + v))))) st M X := by subst hv; exact am_rn_eq hc
theorem am_j_t {α : Type} {pc t : Nat} {o : Int} (h : (pc : Int) + o = (t : Int)) (f : Nat → Option α) : am_j pc o f = f t := by
  unfold am_j
  rw [h]
theorem rn_goto {o : Int} {t : Nat} (hc : am_cd z pc = some (.goto o)) (ht : (pc : Int) + o = (t : Int)) : am_rn call z pc ls st M X = am_rn call z t ls st M X := by
  rw [am_rn_eq hc]
  dsimp only [am_ex]
  rw [am_j_t ht]
section If
variable {o : Int} {t : Nat}
theorem rn_ifeq (hc : am_cd z pc = some (.ifCond .eq o)) (ht : (pc : Int) + o = (t : Int)) : am_rn call z pc ls st M X = am_popI st fun x st => if x = 0 then am_rn call z t ls st M X else am_rn call z (pc + 3) ls st M X := by
  rw [am_rn_eq hc]; simp only [am_ex, am_j_t ht]
theorem rn_ifne (hc : am_cd z pc = some (.ifCond .ne o)) (ht : (pc : Int) + o = (t : Int)) : am_rn call z pc ls st M X = am_popI st fun x st => if x = 0 then am_rn call z (pc + 3) ls st M X else am_rn call z t ls st M X := by
  rw [am_rn_eq hc]; simp only [am_ex, am_j_t ht]
theorem rn_iflt (hc : am_cd z pc = some (.ifCond .lt o)) (ht : (pc : Int) + o = (t : Int)) : am_rn call z pc ls st M X = am_popI st fun x st => if x < 0 then am_rn call z t ls st M X else am_rn call z (pc + 3) ls st M X := by
  rw [am_rn_eq hc]; simp only [am_ex, am_j_t ht]
theorem rn_ifge (hc : am_cd z pc = some (.ifCond .ge o)) (ht : (pc : Int) + o = (t : Int)) : am_rn call z pc ls st M X = am_popI st fun x st => if x < 0 then am_rn call z (pc + 3) ls st M X else am_rn call z t ls st M X := by
  rw [am_rn_eq hc]; simp only [am_ex, am_j_t ht]
theorem rn_ifgt (hc : am_cd z pc = some (.ifCond .gt o)) (ht : (pc : Int) + o = (t : Int)) : am_rn call z pc ls st M X = am_popI st fun x st => if 0 < x then am_rn call z t ls st M X else am_rn call z (pc + 3) ls st M X := by
  rw [am_rn_eq hc]; simp only [am_ex, am_j_t ht]
theorem rn_ifle (hc : am_cd z pc = some (.ifCond .le o)) (ht : (pc : Int) + o = (t : Int)) : am_rn call z pc ls st M X = am_popI st fun x st => if 0 < x then am_rn call z (pc + 3) ls st M X else am_rn call z t ls st M X := by
  rw [am_rn_eq hc]; simp only [am_ex, am_j_t ht]
theorem rn_iceq (hc : am_cd z pc = some (.if_icmp .eq o)) (ht : (pc : Int) + o = (t : Int)) : am_rn call z pc ls st M X = am_popI st fun y st => am_popI st fun x st => if x = y then am_rn call z t ls st M X else am_rn call z (pc + 3) ls st M X := by
  rw [am_rn_eq hc]; simp only [am_ex, am_j_t ht]
theorem rn_icne (hc : am_cd z pc = some (.if_icmp .ne o)) (ht : (pc : Int) + o = (t : Int)) : am_rn call z pc ls st M X = am_popI st fun y st => am_popI st fun x st => if x = y then am_rn call z (pc + 3) ls st M X else am_rn call z t ls st M X := by
  rw [am_rn_eq hc]; simp only [am_ex, am_j_t ht]
theorem rn_iclt (hc : am_cd z pc = some (.if_icmp .lt o)) (ht : (pc : Int) + o = (t : Int)) : am_rn call z pc ls st M X = am_popI st fun y st => am_popI st fun x st => if x < y then am_rn call z t ls st M X else am_rn call z (pc + 3) ls st M X := by
  rw [am_rn_eq hc]; simp only [am_ex, am_j_t ht]
theorem rn_icge (hc : am_cd z pc = some (.if_icmp .ge o)) (ht : (pc : Int) + o = (t : Int)) : am_rn call z pc ls st M X = am_popI st fun y st => am_popI st fun x st => if x < y then am_rn call z (pc + 3) ls st M X else am_rn call z t ls st M X := by
  rw [am_rn_eq hc]; simp only [am_ex, am_j_t ht]
theorem rn_icgt (hc : am_cd z pc = some (.if_icmp .gt o)) (ht : (pc : Int) + o = (t : Int)) : am_rn call z pc ls st M X = am_popI st fun y st => am_popI st fun x st => if y < x then am_rn call z t ls st M X else am_rn call z (pc + 3) ls st M X := by
  rw [am_rn_eq hc]; simp only [am_ex, am_j_t ht]
theorem rn_icle (hc : am_cd z pc = some (.if_icmp .le o)) (ht : (pc : Int) + o = (t : Int)) : am_rn call z pc ls st M X = am_popI st fun y st => am_popI st fun x st => if y < x then am_rn call z (pc + 3) ls st M X else am_rn call z t ls st M X := by
  rw [am_rn_eq hc]; simp only [am_ex, am_j_t ht]
end If
theorem rn_getI {ix ci j : Nat} (hc : am_cd z pc = some (.getfield ix)) (hf : am_fl (am_own z) ix = some (ci, j)) (hk : (am_fk ci j == 3) = false) : am_rn call z pc ls st M X = am_popP st fun l st => am_chk X l ci (am_rn call z (pc + 3) ls (.inl (.int (M l j)) :: st) M X) := by
  have hk : ¬ am_fk ci j = 3 := by simpa using hk
  rw [am_rn_eq hc]; simp only [am_ex, hf, hk, if_false]
theorem rn_getP {ix ci j : Nat} (hc : am_cd z pc = some (.getfield ix)) (hf : am_fl (am_own z) ix = some (ci, j)) (hk : (am_fk ci j == 3) = true) : am_rn call z pc ls st M X = am_popP st fun l st => am_chk X l ci (am_rn call z (pc + 3) ls (.inr (X.1 l j) :: st) M X) := by
  have hk : am_fk ci j = 3 := by simpa using hk
  rw [am_rn_eq hc]; simp only [am_ex, hf, hk, if_true]
def am_fo (z ci j : Nat) : Bool := !(am_ff ci j) || (am_ini z && am_own z == ci)
theorem am_fo_ok {z ci j : Nat} (h : am_fo z ci j = true) : ¬ (am_ff ci j = true ∧ ¬ (am_ini z = true ∧ am_own z = ci)) := by
  simp only [am_fo, Bool.or_eq_true, Bool.not_eq_true', Bool.and_eq_true, beq_iff_eq] at h
  rintro ⟨h1, h2⟩
  rcases h with h | h
  · rw [h1] at h; cases h
  · exact h2 h
theorem rn_putI {ix ci j : Nat} (hc : am_cd z pc = some (.putfield ix)) (hf : am_fl (am_own z) ix = some (ci, j)) (ho : am_fo z ci j = true) (hk : am_fk ci j = 0) : am_rn call z pc ls st M X = am_popI st fun x st => am_popP st fun l st => am_chk X l ci (am_rn call z (pc + 3) ls st (am_set M l j x) X) := by
  rw [am_rn_eq hc]; simp only [am_ex, hf, hk, am_fo_ok ho, if_false, am_pc, if_true, Nat.zero_ne_add_one, show ¬ (0 : Nat) = 3 by decide]
theorem rn_putK {ix ci j k : Nat} (hc : am_cd z pc = some (.putfield ix)) (hf : am_fl (am_own z) ix = some (ci, j)) (ho : am_fo z ci j = true) (hk : am_fk ci j = k) (h3 : (k == 3) = false) : am_rn call z pc ls st M X = am_popI st fun x st => am_popP st fun l st => am_chk X l ci (if am_pc k x = true then am_rn call z (pc + 3) ls st (am_set M l j x) X else none) := by
  have h3 : ¬ k = 3 := by simpa using h3
  rw [am_rn_eq hc]; simp only [am_ex, hf, hk, am_fo_ok ho, if_false, h3]
theorem rn_putP {ix ci j : Nat} (hc : am_cd z pc = some (.putfield ix)) (hf : am_fl (am_own z) ix = some (ci, j)) (ho : am_fo z ci j = true) (hk : am_fk ci j = 3) : am_rn call z pc ls st M X = am_popP st fun v st => am_popP st fun l st => am_chk X l ci (if am_al X.2.1 v = true then am_rn call z (pc + 3) ls st M (am_setT X.1 l j (some v), X.2) else none) := by
  rw [am_rn_eq hc]; simp only [am_ex, hf, hk, am_fo_ok ho, if_false, if_true]
/-- behind a call in a method without a handler -/
def am_b1 {α : Type} (r : Option am_R) (K : Option am_V → am_M → am_X → Option am_R) : Option am_R := match r with
  | none => none
  | some (.inl v, M, X) => K v M X
  | some (.inr E, M, X) => some (.inr E, M, X)
theorem am_bk_b1 (hh : am_hs z = [] ∧ am_tr z = true) {r : Option am_R} {K : Nat → am_S → List am_V → am_M → am_X → Option am_R} : am_bk z pc ls st r K some = am_b1 (α := Unit) r fun v M X => K (pc + 3) ls (v.toList ++ st) M X := by
  unfold am_bk am_b1
  split
  · rfl
  · rfl
  · simp [am_hd, hh.1, hh.2, am_hf]
theorem rn_invV {ix y n o : Nat} (hc : am_cd z pc = some (.invokevirtual ix)) (hm : am_ml (am_own z) ix = some (0, y)) (hn : am_na y = n) (ho : am_own y = o) (hh : am_hs z = [] ∧ am_tr z = true) : am_rn call z pc ls st M X = am_popN n [] st fun as st => am_popP st fun l st => am_sm st (am_chk X l o (am_b1 (α := Unit) (call y (.inr (some l) :: as) M X) fun v M X => am_rn call z (pc + 3) ls (v.toList ++ st) M X)) := by
  subst hn; subst ho
  rw [am_rn_eq hc]; simp only [am_ex, hm, am_inv, am_bk_b1 hh]
theorem rn_invI {ix y n o k : Nat} (hc : am_cd z pc = some (.invokespecial ix)) (hm : am_ml (am_own z) ix = some (k, y)) (h2 : k = 2 ∨ k = 3) (hn : am_na y = n) (ho : am_own y = o) (hh : am_hs z = [] ∧ am_tr z = true) : am_rn call z pc ls st M X = am_popN n [] st fun as st => am_popP st fun l st => am_sm st (am_chk X l o (am_b1 (α := Unit) (call y (.inr (some l) :: as) M X) fun v M X => am_rn call z (pc + 3) ls (v.toList ++ st) M X)) := by
  subst hn; subst ho
  rw [am_rn_eq hc]
  rcases h2 with rfl | rfl <;> simp only [am_ex, hm, am_inv, am_bk_b1 hh]
theorem rn_invS {ix y n k : Nat} (hc : am_cd z pc = some (.invokestatic ix)) (hm : am_ml (am_own z) ix = some (k, y)) (h2 : k = 1 ∨ k = 4) (hn : am_na y = n) (hh : am_hs z = [] ∧ am_tr z = true) : am_rn call z pc ls st M X = am_popN n [] st fun as st => am_sm st (am_b1 (α := Unit) (call y as M X) fun v M X => am_rn call z (pc + 3) ls (v.toList ++ st) M X) := by
  subst hn
  rw [am_rn_eq hc]
  rcases h2 with rfl | rfl <;> simp only [am_ex, hm, am_inv, am_bk_b1 hh]
/-- a call in a method with handlers -/
theorem rn_invH {ix y n o : Nat} (hc : am_cd z pc = some (.invokevirtual ix)) (hm : am_ml (am_own z) ix = some (0, y)) (hn : am_na y = n) (ho : am_own y = o) : am_rn call z pc ls st M X = am_popN n [] st fun as st => am_popP st fun l st => am_sm st (am_chk X l o (am_bk z pc ls st (call y (.inr (some l) :: as) M X) (am_rn call z) some)) := by
  subst hn; subst ho
  rw [am_rn_eq hc]; simp only [am_ex, hm, am_inv]
theorem rn_obj {ix y : Nat} (hc : am_cd z pc = some (.invokespecial ix)) (hm : am_ml (am_own z) ix = some (5, y)) : am_rn call z pc ls st M X = am_popP st fun _ st => am_sm st (am_rn call z (pc + 3) ls st M X) := by
  rw [am_rn_eq hc]; simp only [am_ex, hm, am_inv]
theorem rn_min {ix y : Nat} (hc : am_cd z pc = some (.invokestatic ix)) (hm : am_ml (am_own z) ix = some (6, y)) : am_rn call z pc ls st M X = am_popI st fun y st => am_popI st fun x st => am_sm st (am_rn call z (pc + 3) ls (.inl (.int (if y < x then y else x)) :: st) M X) := by
  rw [am_rn_eq hc]; simp only [am_ex, hm, am_inv]
def am_cpy {α : Type} (M : am_M) (X : am_X) (a0 a : am_L) (sp dp n : Int32) (f : am_M → Option α) : Option α :=
  if a ≠ a0 ∧ am_al X.2.1 a = true ∧ am_al X.2.1 a0 = true ∧ (am_kd a).1 = 1 ∧ (am_kd a0).1 = 1 ∧ ¬ sp < 0 ∧ ¬ dp < 0 ∧ ¬ n < 0 ∧ sp.toNatClampNeg + n.toNatClampNeg ≤ (am_kd a0).2.1 ∧ dp.toNatClampNeg + n.toNatClampNeg ≤ (am_kd a).2.1
      then f (am_cp M a0 a sp.toNatClampNeg dp.toNatClampNeg n.toNatClampNeg) else none
theorem rn_copy {ix y : Nat} (hc : am_cd z pc = some (.invokestatic ix)) (hm : am_ml (am_own z) ix = some (7, y)) : am_rn call z pc ls st M X = am_popI st fun n st => am_popI st fun dp st => am_popP st fun a st => am_popI st fun sp st => am_popP st fun a0 st => am_sm st (am_cpy M X a0 a sp dp n fun M => am_rn call z (pc + 3) ls st M X) := by
  rw [am_rn_eq hc]; simp only [am_ex, hm, am_inv, am_cpy]
theorem rn_new {ix ci n : Nat} (hc : am_cd z pc = some (.new ix)) (hm : am_nw (am_own z) ix = some (.inl ci)) (hn : am_cN ci = n) : am_rn call z pc ls st M X = am_nu X (0, ci, 0) n fun l X => am_rn call z (pc + 3) ls (.inr (some l) :: st) M X := by
  subst hn
  rw [am_rn_eq hc]; simp only [am_ex, hm]
theorem rn_anew {ix ci : Nat} (hc : am_cd z pc = some (.anewarray ix)) (hm : am_aw (am_own z) ix = some ci) : am_rn call z pc ls st M X = am_popI st fun c st => if c < 0 then none else am_nu X (3, ci, c.toNatClampNeg) c.toNatClampNeg fun l X => am_rn call z (pc + 3) ls (.inr (some l) :: st) M X := by
  rw [am_rn_eq hc]; simp only [am_ex, hm]
theorem rn_throw {ix E ic : Nat} (hc : am_cd z pc = some (.new ix)) (hm : am_nw (am_own z) ix = some (.inr (E, ic))) (h1 : am_cd z (pc + 3) = some .dup) (h2 : am_cd z (pc + 4) = some (.invokespecial ic)) (h3 : am_cd z (pc + 7) = some .athrow) (h4 : am_tr z = true) : am_rn call z pc ls st M X = if X.2.1 = none then am_sm st (some (.inr E, M, am_bump X)) else none := by
  rw [am_rn_eq hc]; simp only [am_ex, hm, h1, h2, h3, h4, true_and, and_true]
def am_sw {α : Type} (x : Int32) (f : Nat → Option α) (d : Option α) : Int → List Nat → Option α
  | _, [] => d
  | a, t :: ts => if x.toInt = a then f t else am_sw x f d (a + 1) ts
theorem am_sw_out {α : Type} {x : Int32} {f : Nat → Option α} {d : Option α} : ∀ (ts : List Nat) (a : Int), x.toInt < a ∨ a + ts.length ≤ x.toInt → am_sw x f d a ts = d
  | [], _, _ => rfl
  | t :: ts, a, h => by
    simp only [List.length_cons] at h
    rw [am_sw, if_neg (by omega), am_sw_out ts (a + 1) (by omega)]
theorem am_sw_in {α : Type} {x : Int32} {f : Nat → Option α} {d : Option α} : ∀ (ts : List Nat) (a : Int) (k : Nat), x.toInt = a + k → k < ts.length → am_sw x f d a ts = f (ts.getD k 0)
  | [], _, _, _, h => by simp at h
  | t :: ts, a, 0, h, _ => by rw [am_sw, if_pos (by omega)]; rfl
  | t :: ts, a, k + 1, h, hk => by
    simp only [List.length_cons] at hk
    rw [am_sw, if_neg (by omega), am_sw_in ts (a + 1) k (by omega) (by omega)]
    rfl
def am_tsok (pc : Nat) (d lo hi : Int) (os : Array Int) (td : Nat) (ts : List Nat) : Bool := decide ((pc : Int) + d = td) && decide (hi + 1 = lo + ts.length) && decide (os.toList.map (fun o => (pc : Int) + o) = ts.map (fun (t : Nat) => (t : Int)))
theorem rn_ts {d lo hi : Int} {os : Array Int} {td : Nat} {ts : List Nat} (hc : am_cd z pc = some (.tableswitch d lo hi os)) (hok : am_tsok pc d lo hi os td ts = true) : am_rn call z pc ls st M X = am_popI st fun x st => am_sw x (fun t => am_rn call z t ls st M X) (am_rn call z td ls st M X) lo ts := by
  simp only [am_tsok, Bool.and_eq_true, decide_eq_true_eq] at hok
  obtain ⟨⟨h1, h2⟩, h3⟩ := hok
  rw [am_rn_eq hc]
  dsimp only [am_ex]
  congr 1
  funext x st
  by_cases hx : x.toInt < lo ∨ hi < x.toInt
  · rw [if_pos hx, am_j_t h1, am_sw_out ts lo (by omega)]
  · rw [if_neg hx]
    have hk : (x.toInt - lo).toNat < ts.length := by omega
    rw [am_sw_in ts lo (x.toInt - lo).toNat (by omega) hk]
    have h4 := congrArg (fun l => l[(x.toInt - lo).toNat]?) h3
    simp only [List.getElem?_map, Array.getElem?_toList] at h4
    rw [List.getElem?_eq_getElem hk] at h4
    cases ho : os[(x.toInt - lo).toNat]? with
    | none => rw [ho] at h4; cases h4
    | some o =>
      rw [ho] at h4
      simp only [Option.map_some, Option.some.injEq] at h4
      dsimp only
      rw [am_j_t h4, List.getD_eq_getElem?_getD, List.getElem?_eq_getElem hk]
      rfl
def am_lk {α : Type} (x : Int32) (f : Nat → Option α) (d : Option α) : List (Int × Nat) → Option α
  | [] => d
  | q :: ts => if x.toInt = q.1 then f q.2 else am_lk x f d ts
theorem am_lk_of {x : Int32} {pc td : Nat} {d : Int} (h1 : (pc : Int) + d = td) {α : Type} (f : Nat → Option α) : ∀ (ps : List (Int × Int)) (ts : List (Int × Nat)), ps.map (fun q => (q.1, (pc : Int) + q.2)) = ts.map (fun q => (q.1, (q.2 : Int))) → am_j pc (Op.lookupswitch.offset ps d x.toInt) f = am_lk x f (f td) ts
  | [], [], _ => by
    show am_j pc d f = f td
    exact am_j_t h1 f
  | [], _ :: _, h => by simp at h
  | _ :: _, [], h => by simp at h
  | (a, o) :: ps, (b, t) :: ts, h => by
    simp only [List.map_cons, List.cons.injEq, Prod.mk.injEq] at h
    obtain ⟨⟨h2, h3⟩, h4⟩ := h
    subst h2
    by_cases hx : x.toInt = a
    · rw [am_lk, if_pos hx]
      have e : Op.lookupswitch.offset ((a, o) :: ps) d x.toInt = o := by simp [Op.lookupswitch.offset, hx]
      rw [e]
      exact am_j_t h3 f
    · rw [am_lk, if_neg hx, ← am_lk_of h1 f ps ts h4]
      congr 1
      simp [Op.lookupswitch.offset, Ne.symm hx]
theorem rn_ls {d : Int} {ps : Array (Int × Int)} {td : Nat} {ts : List (Int × Nat)} (hc : am_cd z pc = some (.lookupswitch d ps)) (h0 : (ps.toList.zip (ps.toList.drop 1)).all (fun (a, next) => a.1 < next.1) = true) (h1 : (pc : Int) + d = (td : Int)) (h2 : ps.toList.map (fun q => (q.1, (pc : Int) + q.2)) = ts.map (fun q => (q.1, (q.2 : Int)))) : am_rn call z pc ls st M X = am_popI st fun x st => am_lk x (fun t => am_rn call z t ls st M X) (am_rn call z td ls st M X) ts := by
  rw [am_rn_eq hc]
  dsimp only [am_ex]
  congr 1
  funext x st
  rw [if_pos h0, am_lk_of h1 _ _ _ h2]
end AmRows
end
section
/-! THE CLAIM OUT OF ONE WALK OF THE LAW'S BODY. Your part is whole_start (and what it stands on); all else here is the same for every law, but numbers. -/
def R_law : String := "BellTelegraphLaw"
def lw_P (b : Addr) (xs : List Int32) (args : Array Value) (s : State) : Prop := args = #[.ref b] ∧ s.IntsAt b xs ∧ xs.length ≤ 2048 ∧ (Jvm.Cond.and given_1 narrow_1).before args s = true
/-- what a walk over the start with the record d0 says of its end, said of the start itself -/
theorem lw_closed {s t : State} {o : Outcome} {d0 : Drawn} {L : List Loc} {k n : Nat} (hd0 : s.drawn.sameBut d0 lw_cs) (hv : ∃ v, o = .returned v) (hW : (s.setDrawn d0).WarmedH t.vm) (hs : (s.setDrawn d0).sameButNew ({ t with vm := s.vm } : State) L k n) : State.butDraws s t lw_cs (fun t1 => Framed s o t1 L k n) := by
  have h2 : t.drawn = d0 := congrArg State.drawn hs.1
  refine ⟨⟨hv, hW, State.sameButNew.setDrawn hs s.drawn⟩, ?_, by decide⟩
  rw [h2]
  exact hd0
def lw_Q (_ : Array Value) (s : State) (o : Outcome) (t : State) : Prop := o = .returned (some (.int 1)) ∧ State.butDraws s t lw_cs (fun t1 => Framed s o t1 [] 603072 7186538)
def lw_Z (below : List Frame) (a : Array Value) (s : State) : State → Prop := fun t => ∃ o, t.status = .running ∧ Ended t below o ∧ lw_Q a s o t
/-- the law's own end, with 1 on the stack, nothing written that was there before, its room as the claim has it; d0: the record of draws at this point (at the entry s.drawn: begin with 'refine W.base ?_' and 'have hd0 := Drawn.sameBut.refl s.drawn lw_cs') -/
theorem lw_ret {p : Program} {l : Launch} {e : Env} {s : State} {m : MethodId} {below : List Frame} {meth : Method} {c : Code} {b : Nat} {d0 : Drawn} (hd0 : s.drawn.sameBut d0 lw_cs) (hx : p.tables.exec = Jvm.exec) (hb : c.code = code) (hr : meth.sig.returnType = ret) (hlocks : meth.locks = false) {pc : Nat} {H : Heap} {ls : Array Slot} (hdg : decode code pc = .ok (.ireturn, 1)) : W p l e room_1 (s.setDrawn d0) m #[Value.ref b] below meth c H [] 603072 7186538 (lw_Z below #[Value.ref b] s) (F0 m pc ls [.int 1]) := by
  intro T hT X
  obtain ⟨fs, hret, hrun, hended, hW, hframe⟩ := X.leave (v := some (.int 1)) (hlocks := hlocks) (fun h => by rw [hr] at h; cases h)
  have hmeth' : T.vm.method? m = some meth := X.method'
  refine ⟨T.setFrames fs, ?_, .returned (some (.int 1)), hrun, hended, rfl, lw_closed hd0 ⟨_, rfl⟩ hW hframe⟩
  jvm_step X.here [X.here.top, hx, hb, hdg, hmeth', hr, ret, narrow_b1]
  (try refine ⟨rfl, ?_⟩); (try refine ⟨rfl, ?_⟩)
  first | (intro acts; rw [hret _ acts rfl rfl rfl]) | rw [hret _ _ rfl rfl rfl]
  exact Steps.refl _
/-- what holds at the law's entry: the machine, the code, the tables' words (any of lw_tbl by 'hts w (by decide +kernel)'), the script of L ints xs at the cell b, what the Statement gives of the start (any of its parts by flat_of_before) -/
def lw_At (p : Program) (s : State) (m : MethodId) (meth : Method) (c : Code) (b L : Nat) (xs : Nat → Int32) : Prop :=
  p.tables.exec = Jvm.exec ∧ c.code = code ∧ meth.sig.returnType = ret ∧ c.maxLocals = 9 ∧ s.vm.findClass R_law = some m.cls ∧ (∀ w ∈ lw_tbl, w.before #[Value.ref b] s = true) ∧ va_X b L xs s s.heap ∧ b < s.heap.size ∧ meth.locks = false ∧ (Jvm.Cond.and given_1 narrow_1).before #[Value.ref b] s = true
end
section
/-! WHAT THE MACHINE'S HEAP HOLDS OF THE ABSTRACT ONE. G: where our cells begin, where the script lies, the numbers of the classes, of the array classes, the script's length and its ints -/
abbrev am_Γ : Type := Nat × Nat × va_G × (Nat → ClassId) × Nat × (Nat → Int32)
def am_adr (G : am_Γ) (l : am_L) : Nat := G.1 + am_ad l
def am_rv (G : am_Γ) (o : Option am_L) : Value := match o with
  | none => .null
  | some l => .ref (if l.1 = 0 then G.2.1 else am_adr G l)
def am_tv (G : am_Γ) (v : am_V) : Value := match v with
  | .inl v => v
  | .inr o => am_rv G o
def am_fv (G : am_Γ) (ci : Nat) (M : am_M) (T : am_T) (l : am_L) (j : Nat) : Value := if am_fk ci j = 3 then am_rv G (T l j) else .int (M l j)
def am_cell (G : am_Γ) (M : am_M) (X : am_X) (l : am_L) (H : Heap) : Prop := match (am_kd l).1 with
  | 0 => t_OB (am_adr G l) (G.2.2.1.1 (am_kd l).2.1) (am_cN (am_kd l).2.1) (G.2.2.1.2 (am_kd l).2.1) H (am_fv G (am_kd l).2.1 M X.1 l)
  | 1 => H[am_adr G l]? = some (arrV (G.2.2.2.1 0) (am_kd l).2.1 (fun j => .int (M l j)))
  | 2 => H[am_adr G l]? = some (arrV (G.2.2.2.1 1) (am_kd l).2.1 (fun j => .int (M l j)))
  | 3 => H[am_adr G l]? = some (arrV (G.2.2.2.1 (10 + (am_kd l).2.1)) (am_kd l).2.2 (fun j => am_rv G (X.1 l j)))
  | 4 => H[am_adr G l]? = some (arrV (G.2.2.2.1 2) 1 (fun _ => .long X.2.2.2.2.1))
  | 5 => H[am_adr G l]? = some (arrV (G.2.2.2.1 3) 1 (fun _ => .double X.2.2.2.2.2))
  | _ => True
def am_HR (G : am_Γ) (M : am_M) (X : am_X) (H : Heap) : Prop :=
  (∀ l, am_al X.2.1 l = true → l.1 ≠ 0 → am_cell G M X l H) ∧ (M (0, 0, 1) 0 = nI G.2.2.2.2.1 ∧ ∀ j, j < G.2.2.2.2.1 → M (0, 0, 0) j = G.2.2.2.2.2 j) ∧
  (match X.2.1 with
  | none => G.1 + 724 ≤ H.size
  | some c => H.size = G.1 + c ∧ ∀ l, am_ok l = true → l.1 ≠ 0 → c ≤ am_ad l → (∀ j, M l j = 0) ∧ ∀ j, X.1 l j = none)
theorem am_lo_nb {n r : Nat} (hn : n < 12) (hr : r < 57) : am_lo (am_nb n + r) = am_lr n r := by
  by_cases h3 : n < 3
  · have e : am_nb n = 1 + 57 * n := if_pos h3
    rw [e]
    unfold am_lo
    rw [if_neg (by omega), if_pos (by omega)]
    congr 1 <;> omega
  · have e : am_nb n = 3 + 57 * n := if_neg h3
    rw [e]
    unfold am_lo
    rw [if_neg (by omega), if_neg (by omega), if_neg (by omega), if_neg (by omega), if_pos (by omega), show 3 + (3 + 57 * n + r - 174) / 57 = n by omega, show (3 + 57 * n + r - 174) % 57 = r by omega]
theorem am_lr_a {n c : Nat} (hc : c < 8) : am_lr n c = (13 + c, n, 0) := by unfold am_lr; rw [if_pos hc]
theorem am_lr_21 {n k : Nat} (hk : k < 6) : am_lr n (8 + 2 * k) = (21, n, k) := by
  unfold am_lr
  rw [if_neg (by omega), if_pos (by omega), show (8 + 2 * k - 8) % 2 = 0 by omega, show (8 + 2 * k - 8) / 2 = k by omega]
theorem am_lr_22 {n k : Nat} (hk : k < 6) : am_lr n (9 + 2 * k) = (22, n, k) := by
  unfold am_lr
  rw [if_neg (by omega), if_pos (by omega), show (9 + 2 * k - 8) % 2 = 1 by omega, show (9 + 2 * k - 8) / 2 = k by omega]
theorem am_lr_23 {n k : Nat} (hk : k < 5) : am_lr n (20 + k) = (23, n, k) := by
  unfold am_lr
  rw [if_neg (by omega), if_neg (by omega), if_pos (by omega), show 20 + k - 20 = k by omega]
theorem am_lr_24 {n k : Nat} : am_lr n (25 + 2 * k) = (24, n, k) := by
  unfold am_lr
  rw [if_neg (by omega), if_neg (by omega), if_neg (by omega), show (25 + 2 * k - 25) % 2 = 0 by omega, show (25 + 2 * k - 25) / 2 = k by omega]
theorem am_lr_25 {n k : Nat} : am_lr n (26 + 2 * k) = (25, n, k) := by
  unfold am_lr
  rw [if_neg (by omega), if_neg (by omega), if_neg (by omega), show (26 + 2 * k - 25) % 2 = 1 by omega, show (26 + 2 * k - 25) / 2 = k by omega]
theorem am_lo_11 {k : Nat} (hk : k < 20) : am_lo (692 + k) = (11, 0, k) := by
  unfold am_lo
  rw [if_neg (by omega), if_neg (by omega), if_neg (by omega), if_neg (by omega), if_neg (by omega), if_neg (by omega), if_neg (by omega), if_neg (by omega), if_neg (by omega), if_neg (by omega), if_pos (by omega), show 692 + k - 692 = k by omega]
theorem am_lo_ad (l : am_L) (h : am_ok l = true) (h0 : l.1 ≠ 0) : am_lo (am_ad l) = l := by
  obtain ⟨t, n, k⟩ := l
  simp only [am_ok] at h
  split at h
  all_goals first
    | (exact absurd rfl h0)
    | (simp only [Bool.and_eq_true, beq_iff_eq] at h; obtain ⟨h1, h2⟩ := h; subst h1; subst h2; decide)
    | (simp only [Bool.and_eq_true, beq_iff_eq, decide_eq_true_eq] at h; obtain ⟨h1, h2⟩ := h; subst h1; exact am_lo_11 h2)
    | (simp only [Bool.and_eq_true, beq_iff_eq, decide_eq_true_eq] at h; obtain ⟨h1, h2⟩ := h; subst h2; first
        | exact (am_lo_nb (r := 0) h1 (by omega)).trans (am_lr_a (by omega))
        | exact (am_lo_nb (r := 1) h1 (by omega)).trans (am_lr_a (by omega))
        | exact (am_lo_nb (r := 2) h1 (by omega)).trans (am_lr_a (by omega))
        | exact (am_lo_nb (r := 3) h1 (by omega)).trans (am_lr_a (by omega))
        | exact (am_lo_nb (r := 4) h1 (by omega)).trans (am_lr_a (by omega))
        | exact (am_lo_nb (r := 5) h1 (by omega)).trans (am_lr_a (by omega))
        | exact (am_lo_nb (r := 6) h1 (by omega)).trans (am_lr_a (by omega))
        | exact (am_lo_nb (r := 7) h1 (by omega)).trans (am_lr_a (by omega)))
    | (simp only [Bool.and_eq_true, decide_eq_true_eq] at h; obtain ⟨h1, h2⟩ := h; simp only [am_ad, Nat.add_assoc]; rw [am_lo_nb h1 (by omega)]; first | exact am_lr_21 h2 | exact am_lr_22 h2 | exact am_lr_23 h2 | exact am_lr_24 | exact am_lr_25)
    | cases h
theorem am_ad_inj {l l' : am_L} (h : am_ok l = true) (h0 : l.1 ≠ 0) (h' : am_ok l' = true) (h0' : l'.1 ≠ 0) (he : am_ad l = am_ad l') : l = l' := by
  rw [← am_lo_ad l h h0, he, am_lo_ad l' h' h0']
theorem am_al_ok {ph : Option Nat} {l : am_L} (h : am_al ph l = true) : am_ok l = true := by
  unfold am_al at h
  exact (Bool.and_eq_true _ _ ▸ h).1
theorem am_al_lt {c : Nat} {l : am_L} (h : am_al (some c) l = true) (h0 : l.1 ≠ 0) : am_ad l < c := by
  unfold am_al at h
  simp only [Bool.and_eq_true, Bool.or_eq_true, decide_eq_true_eq, beq_iff_eq] at h
  rcases h.2 with h | h
  · exact h
  · exact absurd h h0
/-- only one place holds the long, only one the double -/
theorem am_kd4 {l : am_L} (h : am_ok l = true) (hk : (am_kd l).1 = 4) : l = (1, 0, 0) := by
  obtain ⟨t, n, k⟩ := l
  simp only [am_kd] at hk
  split at hk <;> first | (exact absurd hk (by decide)) | skip
  simp only [am_ok, Bool.and_eq_true, beq_iff_eq] at h
  obtain ⟨h1, h2⟩ := h
  subst h1; subst h2; rfl
theorem am_kd5 {l : am_L} (h : am_ok l = true) (hk : (am_kd l).1 = 5) : l = (2, 0, 0) := by
  obtain ⟨t, n, k⟩ := l
  simp only [am_kd] at hk
  split at hk <;> first | (exact absurd hk (by decide)) | skip
  simp only [am_ok, Bool.and_eq_true, beq_iff_eq] at h
  obtain ⟨h1, h2⟩ := h
  subst h1; subst h2; rfl
theorem am_cell.kept {G : am_Γ} {M M' : am_M} {X X' : am_X} {l : am_L} {H H' : Heap} (h : am_cell G M X l H) (hq : H'[am_adr G l]? = H[am_adr G l]?) (hM : M' l = M l) (hT : X'.1 l = X.1 l) (h4 : (am_kd l).1 = 4 → X'.2.2.2.2.1 = X.2.2.2.2.1) (h5 : (am_kd l).1 = 5 → X'.2.2.2.2.2 = X.2.2.2.2.2) : am_cell G M' X' l H' := by
  unfold am_cell at h ⊢
  split
  · rename_i hk
    simp only [hk] at h
    exact (h.kept hq).to (fun k _ => by unfold am_fv; rw [hM, hT])
  · rename_i hk
    simp only [hk] at h
    rw [hq, hM]; exact h
  · rename_i hk
    simp only [hk] at h
    rw [hq, hM]; exact h
  · rename_i hk
    simp only [hk] at h
    rw [hq, hT]; exact h
  · rename_i hk
    simp only [hk] at h
    rw [hq, h4 hk]; exact h
  · rename_i hk
    simp only [hk] at h
    rw [hq, h5 hk]; exact h
  · trivial
theorem am_HR.upd {G : am_Γ} {M M' : am_M} {X X' : am_X} {l : am_L} {H H' : Heap} (h : am_HR G M X H) (hl : am_al X.2.1 l = true) (h0 : l.1 ≠ 0) (hz : H'.size = H.size) (ho : ∀ q : Nat, q ≠ am_adr G l → H'[q]? = H[q]?)
    (hM : ∀ l', l' ≠ l → M' l' = M l') (hT : ∀ l', l' ≠ l → X'.1 l' = X.1 l') (hph : X'.2.1 = X.2.1) (h4 : l ≠ (1, 0, 0) → X'.2.2.2.2.1 = X.2.2.2.2.1) (h5 : l ≠ (2, 0, 0) → X'.2.2.2.2.2 = X.2.2.2.2.2) (hc : am_cell G M' X' l H') : am_HR G M' X' H' := by
  obtain ⟨a1, ⟨a2, a3⟩, a4⟩ := h
  refine ⟨fun l' hl' h0' => ?_, ⟨?_, fun j hj => ?_⟩, ?_⟩
  · by_cases e : l' = l
    · rw [e]; exact hc
    · rw [hph] at hl'
      refine (a1 l' hl' h0').kept (ho _ (fun q => e ?_)) (hM l' e) (hT l' e) (fun hk => ?_) (fun hk => ?_)
      · unfold am_adr at q
        exact am_ad_inj (am_al_ok hl') h0' (am_al_ok hl) h0 (by omega)
      · exact h4 (fun z => e ((am_kd4 (am_al_ok hl') hk).trans z.symm))
      · exact h5 (fun z => e ((am_kd5 (am_al_ok hl') hk).trans z.symm))
  · rw [hM _ (fun q => h0 (by rw [← q]))]; exact a2
  · rw [hM _ (fun q => h0 (by rw [← q]))]; exact a3 j hj
  · rw [hph]
    cases hp : X.2.1 with
    | none => rw [hp] at a4; dsimp only at a4 ⊢; omega
    | some c =>
      rw [hp] at a4 hl
      dsimp only at a4 ⊢
      refine ⟨by omega, fun l' h1 h2 h3 => ?_⟩
      have e : l' ≠ l := fun q => by
        have := am_al_lt hl h0
        rw [q] at h3
        omega
      rw [hM l' e, hT l' e]
      exact a4.2 l' h1 h2 h3
theorem am_HR.new {G : am_Γ} {M : am_M} {X X' : am_X} {l : am_L} {H H' : Heap} {c : Nat} (h : am_HR G M X H) (hp : X.2.1 = some c) (hok : am_ok l = true) (h0 : l.1 ≠ 0) (hc : am_ad l = c) (hz : H'.size = H.size + 1) (ho : ∀ q : Nat, q < H.size → H'[q]? = H[q]?)
    (hX1 : X'.1 = X.1) (hX2 : X'.2.1 = some (c + 1)) (h4 : X'.2.2.2.2.1 = X.2.2.2.2.1) (h5 : X'.2.2.2.2.2 = X.2.2.2.2.2) (hcell : am_cell G M X' l H') : am_HR G M X' H' := by
  obtain ⟨a1, a2, a4⟩ := h
  rw [hp] at a4 a1
  dsimp only at a4
  refine ⟨fun l' hl' h0' => ?_, a2, ?_⟩
  · by_cases e : l' = l
    · rw [e]; exact hcell
    · rw [hX2] at hl'
      have h1 := am_al_lt hl' h0'
      have hok' := am_al_ok hl'
      have hne : am_ad l' ≠ c := fun q => e (am_ad_inj hok' h0' hok h0 (q.trans hc.symm))
      have hal : am_al (some c) l' = true := by
        unfold am_al
        simp only [hok', Bool.true_and, Bool.or_eq_true, decide_eq_true_eq]
        exact Or.inl (by omega)
      exact (a1 l' hal h0').kept (ho _ (by unfold am_adr; omega)) rfl (by rw [hX1]) (fun _ => h4) (fun _ => h5)
  · rw [hX2]
    dsimp only
    refine ⟨by omega, fun l' h1 h2 h3 => ?_⟩
    rw [hX1]
    exact a4.2 l' h1 h2 (by omega)
theorem am_HR.bump {G : am_Γ} {M : am_M} {X X' : am_X} {H H' : Heap} (h : am_HR G M X H) (hp : X.2.1 = none) (hz : H.size ≤ H'.size) (ho : ∀ q : Nat, q < H.size → H'[q]? = H[q]?) (hX1 : X'.1 = X.1) (hX2 : X'.2.1 = none) (h4 : X'.2.2.2.2.1 = X.2.2.2.2.1) (h5 : X'.2.2.2.2.2 = X.2.2.2.2.2) : am_HR G M X' H' := by
  obtain ⟨a1, a2, a4⟩ := h
  rw [hp] at a4 a1
  dsimp only at a4
  have key : ∀ l, am_ok l = true → l.1 ≠ 0 → am_ad l < 724 := by
    intro l hok h0
    obtain ⟨t, n, k⟩ := l
    simp only [am_ok] at hok
    split at hok <;> simp only [Bool.and_eq_true, beq_iff_eq, decide_eq_true_eq, Bool.false_eq_true] at hok <;> simp only [am_ad, am_nb] <;> first | omega | (split <;> omega) | (exact absurd rfl h0)
  refine ⟨fun l' hl' h0' => ?_, a2, by rw [hX2]; dsimp only; omega⟩
  rw [hX2] at hl'
  exact (a1 l' hl' h0').kept (ho _ (by have := key l' (am_al_ok hl') h0'; unfold am_adr; omega)) rfl (by rw [hX1]) (fun _ => h4) (fun _ => h5)
/-- the locals -/
def am_ll (G : am_Γ) : Nat → am_S → List (Nat × Value)
  | _, [] => []
  | i, none :: l => am_ll G (i + 1) l
  | i, some v :: l => (i, am_tv G v) :: am_ll G (i + 1) l
def am_lv (G : am_Γ) (nL : Nat) (ls : am_S) (lsc : Array Slot) : Prop := lv_has lsc nL (am_ll G 0 ls) ∧ ls.length = nL
theorem am_ll_mem {G : am_Γ} {q : Nat × Value} : ∀ {ls : am_S} {i : Nat}, q ∈ am_ll G i ls ↔ ∃ (k : Nat) (v : am_V), ls[k]? = some (some v) ∧ q = (i + k, am_tv G v)
  | [], i => by simp [am_ll]
  | none :: l, i => by
    rw [am_ll, am_ll_mem]
    constructor
    · rintro ⟨k, v, h1, h2⟩
      exact ⟨k + 1, v, by simpa using h1, by rw [h2]; congr 1; omega⟩
    · rintro ⟨k, v, h1, h2⟩
      cases k with
      | zero => simp at h1
      | succ k => exact ⟨k, v, by simpa using h1, by rw [h2]; congr 1; omega⟩
  | some w :: l, i => by
    rw [am_ll, List.mem_cons, am_ll_mem]
    constructor
    · rintro (h | ⟨k, v, h1, h2⟩)
      · exact ⟨0, w, by simp, h⟩
      · exact ⟨k + 1, v, by simpa using h1, by rw [h2]; congr 1; omega⟩
    · rintro ⟨k, v, h1, h2⟩
      cases k with
      | zero =>
        left
        simp at h1
        rw [h2, h1]; rfl
      | succ k => exact Or.inr ⟨k, v, by simpa using h1, by rw [h2]; congr 1; omega⟩
theorem am_lv.at {G : am_Γ} {nL : Nat} {ls : am_S} {lsc : Array Slot} (h : am_lv G nL ls lsc) {i : Nat} {v : am_V} (hv : ls[i]? = some (some v)) : lsc[i]? = some (.val (am_tv G v)) :=
  h.1.2.2 (i, am_tv G v) (am_ll_mem.mpr ⟨i, v, hv, by simp⟩)
theorem am_put_len : ∀ (ls : am_S) (i : Nat) (v : Option am_V), (am_put ls i v).length = ls.length
  | [], _, _ => by simp [am_put]
  | _ :: _, 0, _ => by simp [am_put]
  | [_], 1, _ => by simp [am_put]
  | _ :: _ :: _, 1, _ => by simp [am_put]
  | a :: l, n + 2, v => by simp [am_put, am_put_len l (n + 1) v]
theorem am_put_get : ∀ (ls : am_S) (i : Nat) (v : Option am_V) (j : Nat), i < ls.length → (am_put ls i v)[j]? = if j = i then some v else if j + 1 = i then (ls[j]?).map am_k else ls[j]?
  | [], _, _, _, h => by simp at h
  | a :: l, 0, v, j, _ => by
    cases j with
    | zero => simp [am_put]
    | succ j => simp [am_put]
  | [_], 1, _, _, h => by simp at h
  | a :: b :: l, 1, v, j, _ => by
    match j with
    | 0 => simp [am_put]
    | 1 => simp [am_put]
    | j + 2 => simp [am_put]
  | a :: l, n + 2, v, j, h => by
    rw [am_put]
    cases j with
    | zero => simp
    | succ j =>
      rw [List.getElem?_cons_succ, am_put_get l (n + 1) v j (by simp only [List.length_cons] at h; omega), List.getElem?_cons_succ]
      by_cases h1 : j = n + 1
      · subst h1; simp
      · by_cases h2 : j + 1 = n + 1
        · rw [if_neg h1, if_pos h2, if_neg (by omega), if_pos (by omega)]
        · rw [if_neg h1, if_neg h2, if_neg (by omega), if_neg (by omega)]
theorem am_k_some {a : Option am_V} {v : am_V} {G : am_Γ} (h : am_k a = some v) : a = some v ∧ (am_tv G v).category = 1 := by
  unfold am_k at h
  split at h
  · cases h
  · cases h
  · subst h
    rename_i h1 h2
    refine ⟨rfl, ?_⟩
    cases v with
    | inl w =>
      cases w with
      | int _ => rfl
      | long x => exact absurd rfl (h2 x)
      | float _ => rfl
      | double x => exact absurd rfl (h1 x)
      | null => rfl
      | ref _ => rfl
      | retAddr q => rfl
    | inr o => cases o <;> rfl
theorem am_lv.sub {G : am_Γ} {nL : Nat} {ls : am_S} {lsc : Array Slot} {lv : List (Nat × Value)} (h : lv_has lsc nL lv) (hl : ls.length = nL) (hs : ∀ q ∈ am_ll G 0 ls, q ∈ lv) : am_lv G nL ls lsc := ⟨⟨h.1, h.2.1, fun q hq => h.2.2 q (hs q hq)⟩, hl⟩
theorem am_put_sub {G : am_Γ} {ls : am_S} {i : Nat} (hi : i < ls.length) (v : Option am_V) (w : Value) (hv : ∀ u, v = some u → am_tv G u = w) : ∀ q ∈ am_ll G 0 (am_put ls i v), q ∈ (i, w) :: (am_ll G 0 ls).filter (fun q => !(q.1 == i) && !(q.1 + 1 == i && q.2.category == 2)) := by
  intro q hq
  obtain ⟨j, u, h1, rfl⟩ := am_ll_mem.mp hq
  rw [am_put_get ls i v j hi] at h1
  rw [Nat.zero_add]
  by_cases e : j = i
  · rw [if_pos e] at h1
    rw [e, hv u (Option.some.inj h1)]
    exact List.mem_cons_self
  · rw [if_neg e] at h1
    refine List.mem_cons_of_mem _ (List.mem_filter.mpr ?_)
    by_cases e2 : j + 1 = i
    · rw [if_pos e2] at h1
      cases hj : ls[j]? with
      | none => rw [hj] at h1; cases h1
      | some a =>
        rw [hj] at h1
        obtain ⟨h3, h4⟩ := am_k_some (G := G) (Option.some.inj h1)
        subst h3
        refine ⟨am_ll_mem.mpr ⟨j, u, hj, by simp⟩, ?_⟩
        simp [e, h4]
    · rw [if_neg e2] at h1
      refine ⟨am_ll_mem.mpr ⟨j, u, h1, by simp⟩, ?_⟩
      simp [e, e2]
theorem am_put2_sub {G : am_Γ} {ls : am_S} {i : Nat} (hi : i + 1 < ls.length) (v : am_V) : ∀ q ∈ am_ll G 0 (am_put2 ls i v), q ∈ (i, am_tv G v) :: (am_ll G 0 ls).filter (fun q => !(q.1 == i) && (!(q.1 == i + 1) && !(q.1 + 1 == i && q.2.category == 2))) := by
  intro q hq
  obtain ⟨j, u, h1, rfl⟩ := am_ll_mem.mp hq
  unfold am_put2 at h1
  rw [Nat.zero_add]
  have hne : j ≠ i + 1 := by
    intro e
    subst e
    rw [List.getElem?_set_self (by rw [am_put_len]; exact hi)] at h1
    cases h1
  rw [List.getElem?_set_ne (Ne.symm hne), am_put_get ls i _ j (by omega)] at h1
  by_cases e : j = i
  · rw [if_pos e] at h1
    rw [e, ← Option.some.inj (Option.some.inj h1)]
    exact List.mem_cons_self
  · rw [if_neg e] at h1
    refine List.mem_cons_of_mem _ (List.mem_filter.mpr ?_)
    by_cases e2 : j + 1 = i
    · rw [if_pos e2] at h1
      cases hj : ls[j]? with
      | none => rw [hj] at h1; cases h1
      | some a =>
        rw [hj] at h1
        obtain ⟨h3, h4⟩ := am_k_some (G := G) (Option.some.inj h1)
        subst h3
        refine ⟨am_ll_mem.mpr ⟨j, u, hj, by simp⟩, ?_⟩
        simp [e, h4, hne]
    · rw [if_neg e2] at h1
      refine ⟨am_ll_mem.mpr ⟨j, u, h1, by simp⟩, ?_⟩
      simp [e, e2, hne]
end
section
/-! EACH INSTRUCTION IS KEPT (by gsound.py) -/
section AmInv
variable {α : Type} {w : α}
theorem am_asI_i {v : am_V} {f : Int32 → Option α} (h : am_asI v f = some w) : ∃ x, v = .inl (.int x) ∧ f x = some w := by
  unfold am_asI at h; split at h
  · exact ⟨_, rfl, h⟩
  · cases h
theorem am_asF_i {v : am_V} {f : UInt32 → Option α} (h : am_asF v f = some w) : ∃ x, v = .inl (.float x) ∧ f x = some w := by
  unfold am_asF at h; split at h
  · exact ⟨_, rfl, h⟩
  · cases h
theorem am_asD_i {v : am_V} {f : UInt64 → Option α} (h : am_asD v f = some w) : ∃ x, v = .inl (.double x) ∧ f x = some w := by
  unfold am_asD at h; split at h
  · exact ⟨_, rfl, h⟩
  · cases h
theorem am_asP_i {v : am_V} {f : am_L → Option α} (h : am_asP v f = some w) : ∃ x, v = .inr (some x) ∧ f x = some w := by
  unfold am_asP at h; split at h
  · exact ⟨_, rfl, h⟩
  · cases h
theorem am_popI_i {st : List am_V} {f : Int32 → List am_V → Option α} (h : am_popI st f = some w) : ∃ x r, st = .inl (.int x) :: r ∧ f x r = some w := by
  unfold am_popI at h; split at h
  · exact ⟨_, _, rfl, h⟩
  · cases h
theorem am_popJ_i {st : List am_V} {f : Int64 → List am_V → Option α} (h : am_popJ st f = some w) : ∃ x r, st = .inl (.long x) :: r ∧ f x r = some w := by
  unfold am_popJ at h; split at h
  · exact ⟨_, _, rfl, h⟩
  · cases h
theorem am_popF_i {st : List am_V} {f : UInt32 → List am_V → Option α} (h : am_popF st f = some w) : ∃ x r, st = .inl (.float x) :: r ∧ f x r = some w := by
  unfold am_popF at h; split at h
  · exact ⟨_, _, rfl, h⟩
  · cases h
theorem am_popD_i {st : List am_V} {f : UInt64 → List am_V → Option α} (h : am_popD st f = some w) : ∃ x r, st = .inl (.double x) :: r ∧ f x r = some w := by
  unfold am_popD at h; split at h
  · exact ⟨_, _, rfl, h⟩
  · cases h
theorem am_popP_i {st : List am_V} {f : am_L → List am_V → Option α} (h : am_popP st f = some w) : ∃ x r, st = .inr (some x) :: r ∧ f x r = some w := by
  unfold am_popP at h; split at h
  · exact ⟨_, _, rfl, h⟩
  · cases h
def am_one (v : am_V) : Prop := (∃ x, v = .inl (.int x)) ∨ ∃ l, v = .inr (some l)
theorem am_one.cat {G : am_Γ} {v : am_V} (h : am_one v) : (am_tv G v).category = 1 := by
  rcases h with ⟨x, rfl⟩ | ⟨l, rfl⟩ <;> rfl
theorem am_pop1_i {st : List am_V} {f : am_V → List am_V → Option α} (h : am_pop1 st f = some w) : ∃ x r, st = x :: r ∧ am_one x ∧ f x r = some w := by
  unfold am_pop1 at h; split at h
  · exact ⟨_, _, rfl, Or.inl ⟨_, rfl⟩, h⟩
  · exact ⟨_, _, rfl, Or.inr ⟨_, rfl⟩, h⟩
  · cases h
theorem am_popN_i {f : List am_V → List am_V → Option α} : ∀ {n : Nat} {acc st : List am_V}, am_popN n acc st f = some w → ∃ vs r, vs.length = n ∧ st = vs ++ r ∧ (∀ v ∈ vs, am_one v) ∧ f (vs.reverse ++ acc) r = some w
  | 0, acc, st, h => ⟨[], st, rfl, rfl, (fun _ h => by cases h), h⟩
  | n + 1, acc, st, h => by
    unfold am_popN at h
    obtain ⟨x, r, rfl, h1, h⟩ := am_pop1_i h
    obtain ⟨vs, r2, h2, h3, h4, h5⟩ := am_popN_i h
    refine ⟨x :: vs, r2, by simp [h2], by simp [h3], fun v hv => ?_, by simpa using h5⟩
    rcases List.mem_cons.mp hv with rfl | hv
    · exact h1
    · exact h4 v hv
theorem am_sm_i {st : List am_V} {x : Option α} (h : am_sm st x = some w) : st.length ≤ 4 ∧ x = some w := by
  unfold am_sm at h; split at h
  · exact ⟨by simp, h⟩
  · exact ⟨by simp, h⟩
  · exact ⟨by simp, h⟩
  · exact ⟨by simp, h⟩
  · exact ⟨by simp, h⟩
  · cases h
theorem am_j_i {pc : Nat} {o : Int} {f : Nat → Option α} (h : am_j pc o f = some w) : ∃ t : Nat, (pc : Int) + o = (t : Int) ∧ f t = some w := by
  unfold am_j at h; split at h
  · rename_i t ht; exact ⟨t, ht, h⟩
  · cases h
theorem am_get_i {f : am_V → Option α} : ∀ {ls : am_S} {i : Nat}, am_get ls i f = some w → ∃ v, ls[i]? = some (some v) ∧ f v = some w
  | [], 0, h => by cases h
  | [], _ + 1, h => by cases h
  | none :: _, 0, h => by cases h
  | some v :: _, 0, h => ⟨v, rfl, h⟩
  | none :: l, n + 1, h => by
    obtain ⟨v, h1, h2⟩ := am_get_i (ls := l) (i := n) h
    exact ⟨v, by simpa using h1, h2⟩
  | some _ :: l, n + 1, h => by
    obtain ⟨v, h1, h2⟩ := am_get_i (ls := l) (i := n) h
    exact ⟨v, by simpa using h1, h2⟩
theorem am_if_i {c : Prop} [Decidable c] {a : Option α} (h : (if c then a else none) = some w) : c ∧ a = some w := by
  split at h
  · exact ⟨by assumption, h⟩
  · cases h
theorem am_ifn_i {c : Prop} [Decidable c] {a : Option α} (h : (if c then none else a) = some w) : ¬ c ∧ a = some w := by
  split at h
  · cases h
  · exact ⟨by assumption, h⟩
theorem am_chk_i {X : am_X} {l : am_L} {ci : Nat} {x : Option α} (h : am_chk X l ci x = some w) : am_al X.2.1 l = true ∧ am_kd l = (0, ci, 0) ∧ x = some w := by
  unfold am_chk at h
  obtain ⟨⟨h1, h2⟩, h3⟩ := am_if_i h
  exact ⟨h1, h2, h3⟩
theorem am_arr_i {X : am_X} {l : am_L} {k a b : Nat} {i : Int32} {n : Nat} {x : Nat → Option α} (h : am_arr X l k a b i n x = some w) : am_al X.2.1 l = true ∧ am_kd l = (k, a, b) ∧ vp_in i n ∧ x i.toNatClampNeg = some w := by
  unfold am_arr at h
  obtain ⟨⟨h1, h2, h3⟩, h4⟩ := am_if_i h
  exact ⟨h1, h2, h3, h4⟩
theorem am_nu_i {X : am_X} {k : Nat × Nat × Nat} {n : Nat} {f : am_L → am_X → Option α} (h : am_nu X k n f = some w) : ∃ c l, X.2.1 = some c ∧ am_ok l = true ∧ am_ad l = c ∧ am_kd l = k ∧ l.1 ≠ 0 ∧ f l (X.1, some (c + 1), X.2.2.1 + 1, X.2.2.2.1 + n, X.2.2.2.2) = some w := by
  unfold am_nu at h; split at h
  · cases h
  · rename_i c hc
    obtain ⟨⟨h1, h2, h3, h4⟩, h5⟩ := am_if_i h
    exact ⟨c, _, hc, h1, h2, h3, h4, h5⟩
end AmInv
/-- a place that is an object, or an array of ours, isn't the script -/
theorem am_kd_ne {l : am_L} {k a b : Nat} (h : am_kd l = (k, a, b)) (hk : k ≠ 6) : l.1 ≠ 0 := by
  intro h0
  obtain ⟨t, n, q⟩ := l
  dsimp only at h0
  subst h0
  have : (6, 0, 0) = (k, a, b) := h
  cases this
  exact hk rfl
theorem am_rv_ref {G : am_Γ} {l : am_L} (h : l.1 ≠ 0) : am_rv G (some l) = .ref (am_adr G l) := by
  show Value.ref (if l.1 = 0 then G.2.1 else am_adr G l) = _
  rw [if_neg h]
theorem am_kd_ci {l : am_L} {ci : Nat} (h : am_kd l = (0, ci, 0)) : ci < 10 := by
  obtain ⟨t, n, q⟩ := l
  simp only [am_kd] at h
  split at h <;> simp only [Prod.mk.injEq] at h <;> omega
theorem am_fl_w {own ix ci j : Nat} (h : am_fl own ix = some (ci, j)) : (Cond.fieldLink (am_cR own) ix (am_cR ci) (am_cT ci j).2.1 (am_cT ci j).2.2.1) ∈ am_W ∧ j < am_cN ci ∧ ci < 10 ∧ (am_cT ci j).1 = am_cR ci := by
  obtain ⟨i, hi⟩ := am_al2_in am_fl_ok _ (am_look_in h)
  simp only [am_flw, Bool.and_eq_true, decide_eq_true_eq] at hi
  exact ⟨am_at_in hi.1.1.1, hi.1.1.2, hi.1.2, hi.2⟩
theorem am_fk_ty {ci j : Nat} (hci : ci < 10) (hj : j < am_cN ci) : (am_fk ci j = 0 → am_cY ci j = .int) ∧ (am_fk ci j = 1 → am_cY ci j = .boolean) ∧ (am_fk ci j = 2 → am_cY ci j = .char) := by
  have h := am_cY_ok ci hci j hj
  unfold am_fk
  split
  · rename_i e
    rw [e] at h
    refine ⟨fun _ => ?_, fun q => (by cases q), fun q => (by cases q)⟩
    exact (Option.some.inj ((show parseFieldDescriptor "I" = some .int by decide +kernel).symm.trans h)).symm
  · rename_i e
    rw [e] at h
    refine ⟨fun q => (by cases q), fun _ => ?_, fun q => by cases q⟩
    exact (Option.some.inj ((show parseFieldDescriptor "Z" = some .boolean by decide +kernel).symm.trans h)).symm
  · rename_i e
    rw [e] at h
    refine ⟨fun q => (by cases q), fun q => (by cases q), fun _ => ?_⟩
    exact (Option.some.inj ((show parseFieldDescriptor "C" = some .char by decide +kernel).symm.trans h)).symm
  · exact ⟨fun q => (by cases q), fun q => (by cases q), fun q => by cases q⟩
/-- what an int field of a small type may be given -/
theorem am_pc_nar {ci j : Nat} (hci : ci < 10) (hj : j < am_cN ci) {x : Int32} (h : am_pc (am_fk ci j) x = true) : narrow (am_cY ci j) (.int x) = .int x ∧ fits (am_cY ci j) (.int x) = true := by
  obtain ⟨h0, h1, h2⟩ := am_fk_ty hci hj
  unfold am_pc at h
  split at h
  · rename_i e; rw [h0 e]; exact ⟨rfl, rfl⟩
  · rename_i e; rw [h1 e]
    simp only [Bool.or_eq_true, beq_iff_eq] at h
    rcases h with h | h <;> rw [h] <;> exact ⟨by decide, by decide⟩
  · rename_i e; rw [h2 e]
    simp only [decide_eq_true_eq] at h
    have h1 := Int32.le_iff_toInt_le.mp h.1
    have h2 := Int32.le_iff_toInt_le.mp h.2
    have h3 := lg_i2c_word (v := x) (by simpa using h1) (by have : (65535 : Int32).toInt = 65535 := by decide
                                                            omega)
    rw [lg_i2c_nf] at h3
    exact ⟨by simp only [narrow, h3], by simp [fits, h]⟩
  · cases h
def am_tys (G : am_Γ) : List (ClassId × FieldType) := [(G.2.2.2.1 0, .int), (G.2.2.2.1 1, .char), (G.2.2.2.1 2, .long), (G.2.2.2.1 3, .double), (G.2.2.2.1 10, .object RX0), (G.2.2.2.1 12, .object RX2), (G.2.2.2.1 14, .object RX4), (G.2.2.2.1 15, .object RX5), (G.2.2.2.1 17, .object RX7)]
section AmSound
variable {p : Program} {l : Launch} {e : Env} {R : Room} {s : State} {m : MethodId} {args : Array Value} {below : List Frame} {meth : Method} {c : Code} {Q : State → Prop} {G : am_Γ} {z : Nat} {X0 : am_X} {call : Nat → List am_V → am_M → am_X → Option am_R} {pc : Nat} {ls : am_S} {st : List am_V} {M : am_M} {X : am_X}
abbrev am_A (G : am_Γ) : Nat → Prop := fun q => G.1 ≤ q
def am_Sm (p : Program) (l : Launch) (e : Env) (R : Room) (s : State) (m : MethodId) (args : Array Value) (below : List Frame) (meth : Method) (c : Code) (Q : State → Prop) (G : am_Γ) (z : Nat) (X0 : am_X) (w : Nat × am_S × List am_V × am_M × am_X) : Prop :=
  ∀ (H : Heap) (locs : List Loc) (lsc : Array Slot), am_HR G w.2.2.2.1 w.2.2.2.2 H → va_S (am_A G) s.heap H locs → am_lv G (am_mL z) w.2.1 lsc → W p l e R s m args below meth c H locs (w.2.2.2.2.2.2.1 - X0.2.2.1) (w.2.2.2.2.2.2.2.1 - X0.2.2.2.1) Q (F0 m w.1 lsc (w.2.2.1.map (am_tv G)))
def am_Cx (p : Program) (l : Launch) (s : State) (m : MethodId) (args : Array Value) (meth : Method) (c : Code) (G : am_Γ) (z : Nat) : Prop :=
  p.tables.exec = Jvm.exec ∧ c.code = am_by z ∧ c.maxLocals = am_mL z ∧ s.vm.findClass (am_cR (am_own z)) = some m.cls ∧ (∀ w ∈ am_W, w.before args s = true) ∧ va_K G.2.2.1 am_cl (am_tys G) s ∧ vx_Zq Bundle.tN "UNASSIGNED_STACK" Bundle.steD (am_A G) s s.heap ∧ vx_Zq Bundle.tN "SUPPRESSED_SENTINEL" Bundle.listD (am_A G) s s.heap ∧ va_X G.2.1 G.2.2.2.2.1 G.2.2.2.2.2 s s.heap ∧ (G.2.1 < G.1 ∧ G.1 ≤ s.heap.size ∧ G.2.2.2.2.1 ≤ 2048) ∧ meth.locks = false ∧ l.stackTraces = false ∧ (am_ini z = true → meth.name = "<init>")
theorem am_s_iload_n {j : Fin 4} (C : am_Cx p l s m args meth c G z) (dg : decode (am_by z) pc = .ok (.iload_n j, 1)) {w} (h : am_st call z (.iload_n j) pc ls st M X = some (.inl w)) (K : am_Sm p l e R s m args below meth c Q G z X0 w) : am_Sm p l e R s m args below meth c Q G z X0 (pc, ls, st, M, X) := by
  obtain ⟨hx, hb, hml, hown, hts, hK, hU, hN, hX, hbb, hlk, hst, hini⟩ := C
  simp only [am_st, am_ex] at h
  intro H locs lsc hH hS hl
  obtain ⟨v, g1, h_1⟩ := am_get_i h
  obtain ⟨x, rfl, h_2⟩ := am_asI_i h_1
  cases h_2
  exact lv_iload_n hx hb dg rfl (hl.at g1) (K H locs lsc hH hS hl)
theorem am_s_iload {j : Nat} (C : am_Cx p l s m args meth c G z) (dg : decode (am_by z) pc = .ok (.iload j, 2)) {w} (h : am_st call z (.iload j) pc ls st M X = some (.inl w)) (K : am_Sm p l e R s m args below meth c Q G z X0 w) : am_Sm p l e R s m args below meth c Q G z X0 (pc, ls, st, M, X) := by
  obtain ⟨hx, hb, hml, hown, hts, hK, hU, hN, hX, hbb, hlk, hst, hini⟩ := C
  simp only [am_st, am_ex] at h
  intro H locs lsc hH hS hl
  obtain ⟨v, g1, h_1⟩ := am_get_i h
  obtain ⟨x, rfl, h_2⟩ := am_asI_i h_1
  cases h_2
  exact lv_iload hx hb dg (hl.at g1) (K H locs lsc hH hS hl)
theorem am_s_aload_n {j : Fin 4} (C : am_Cx p l s m args meth c G z) (dg : decode (am_by z) pc = .ok (.aload_n j, 1)) {w} (h : am_st call z (.aload_n j) pc ls st M X = some (.inl w)) (K : am_Sm p l e R s m args below meth c Q G z X0 w) : am_Sm p l e R s m args below meth c Q G z X0 (pc, ls, st, M, X) := by
  obtain ⟨hx, hb, hml, hown, hts, hK, hU, hN, hX, hbb, hlk, hst, hini⟩ := C
  simp only [am_st, am_ex] at h
  intro H locs lsc hH hS hl
  obtain ⟨v, g1, h_1⟩ := am_get_i h
  obtain ⟨x, rfl, h_2⟩ := am_asP_i h_1
  cases h_2
  exact lv_aload_n hx hb dg rfl (hl.at g1) (K H locs lsc hH hS hl)
theorem am_s_aload {j : Nat} (C : am_Cx p l s m args meth c G z) (dg : decode (am_by z) pc = .ok (.aload j, 2)) {w} (h : am_st call z (.aload j) pc ls st M X = some (.inl w)) (K : am_Sm p l e R s m args below meth c Q G z X0 w) : am_Sm p l e R s m args below meth c Q G z X0 (pc, ls, st, M, X) := by
  obtain ⟨hx, hb, hml, hown, hts, hK, hU, hN, hX, hbb, hlk, hst, hini⟩ := C
  simp only [am_st, am_ex] at h
  intro H locs lsc hH hS hl
  obtain ⟨v, g1, h_1⟩ := am_get_i h
  obtain ⟨x, rfl, h_2⟩ := am_asP_i h_1
  cases h_2
  exact lv_aload hx hb dg (hl.at g1) (K H locs lsc hH hS hl)
theorem am_s_fload {j : Nat} (C : am_Cx p l s m args meth c G z) (dg : decode (am_by z) pc = .ok (.fload j, 2)) {w} (h : am_st call z (.fload j) pc ls st M X = some (.inl w)) (K : am_Sm p l e R s m args below meth c Q G z X0 w) : am_Sm p l e R s m args below meth c Q G z X0 (pc, ls, st, M, X) := by
  obtain ⟨hx, hb, hml, hown, hts, hK, hU, hN, hX, hbb, hlk, hst, hini⟩ := C
  simp only [am_st, am_ex] at h
  intro H locs lsc hH hS hl
  obtain ⟨v, g1, h_1⟩ := am_get_i h
  obtain ⟨x, rfl, h_2⟩ := am_asF_i h_1
  cases h_2
  exact lv_fload hx hb dg (hl.at g1) (K H locs lsc hH hS hl)
theorem am_s_dload {j : Nat} (C : am_Cx p l s m args meth c G z) (dg : decode (am_by z) pc = .ok (.dload j, 2)) {w} (h : am_st call z (.dload j) pc ls st M X = some (.inl w)) (K : am_Sm p l e R s m args below meth c Q G z X0 w) : am_Sm p l e R s m args below meth c Q G z X0 (pc, ls, st, M, X) := by
  obtain ⟨hx, hb, hml, hown, hts, hK, hU, hN, hX, hbb, hlk, hst, hini⟩ := C
  simp only [am_st, am_ex] at h
  intro H locs lsc hH hS hl
  obtain ⟨v, g1, h_1⟩ := am_get_i h
  obtain ⟨x, rfl, h_2⟩ := am_asD_i h_1
  cases h_2
  exact lv_dload hx hb dg (hl.at g1) (K H locs lsc hH hS hl)
theorem am_s_istore_n {j : Fin 4} (C : am_Cx p l s m args meth c G z) (dg : decode (am_by z) pc = .ok (.istore_n j, 1)) {w} (h : am_st call z (.istore_n j) pc ls st M X = some (.inl w)) (K : am_Sm p l e R s m args below meth c Q G z X0 w) : am_Sm p l e R s m args below meth c Q G z X0 (pc, ls, st, M, X) := by
  obtain ⟨hx, hb, hml, hown, hts, hK, hU, hN, hX, hbb, hlk, hst, hini⟩ := C
  simp only [am_st, am_ex] at h
  intro H locs lsc hH hS hl
  obtain ⟨x, st1, rfl, h_1⟩ := am_popI_i h
  obtain ⟨hj, h_2⟩ := am_if_i h_1
  cases h_2
  exact lv_istore_n hx hb dg rfl hl.1 (by rw [← hl.2]; exact hj) rfl (fun lsc' hl' => K H locs lsc' hH hS (am_lv.sub hl' (by rw [am_put_len]; exact hl.2) (am_put_sub hj _ _ (fun u e => by cases e; rfl))))
theorem am_s_istore {j : Nat} (C : am_Cx p l s m args meth c G z) (dg : decode (am_by z) pc = .ok (.istore j, 2)) {w} (h : am_st call z (.istore j) pc ls st M X = some (.inl w)) (K : am_Sm p l e R s m args below meth c Q G z X0 w) : am_Sm p l e R s m args below meth c Q G z X0 (pc, ls, st, M, X) := by
  obtain ⟨hx, hb, hml, hown, hts, hK, hU, hN, hX, hbb, hlk, hst, hini⟩ := C
  simp only [am_st, am_ex] at h
  intro H locs lsc hH hS hl
  obtain ⟨x, st1, rfl, h_1⟩ := am_popI_i h
  obtain ⟨hj, h_2⟩ := am_if_i h_1
  cases h_2
  exact lv_istore hx hb dg hl.1 (by rw [← hl.2]; exact hj) rfl (fun lsc' hl' => K H locs lsc' hH hS (am_lv.sub hl' (by rw [am_put_len]; exact hl.2) (am_put_sub hj _ _ (fun u e => by cases e; rfl))))
theorem am_s_astore_n {j : Fin 4} (C : am_Cx p l s m args meth c G z) (dg : decode (am_by z) pc = .ok (.astore_n j, 1)) {w} (h : am_st call z (.astore_n j) pc ls st M X = some (.inl w)) (K : am_Sm p l e R s m args below meth c Q G z X0 w) : am_Sm p l e R s m args below meth c Q G z X0 (pc, ls, st, M, X) := by
  obtain ⟨hx, hb, hml, hown, hts, hK, hU, hN, hX, hbb, hlk, hst, hini⟩ := C
  simp only [am_st, am_ex] at h
  intro H locs lsc hH hS hl
  obtain ⟨x, st1, rfl, h_1⟩ := am_popP_i h
  obtain ⟨hj, h_2⟩ := am_if_i h_1
  cases h_2
  exact lv_astore_n hx hb dg rfl hl.1 (by rw [← hl.2]; exact hj) rfl (fun lsc' hl' => K H locs lsc' hH hS (am_lv.sub hl' (by rw [am_put_len]; exact hl.2) (am_put_sub hj _ _ (fun u e => by cases e; rfl))))
theorem am_s_astore {j : Nat} (C : am_Cx p l s m args meth c G z) (dg : decode (am_by z) pc = .ok (.astore j, 2)) {w} (h : am_st call z (.astore j) pc ls st M X = some (.inl w)) (K : am_Sm p l e R s m args below meth c Q G z X0 w) : am_Sm p l e R s m args below meth c Q G z X0 (pc, ls, st, M, X) := by
  obtain ⟨hx, hb, hml, hown, hts, hK, hU, hN, hX, hbb, hlk, hst, hini⟩ := C
  simp only [am_st, am_ex] at h
  intro H locs lsc hH hS hl
  obtain ⟨x, st1, rfl, h_1⟩ := am_popP_i h
  obtain ⟨hj, h_2⟩ := am_if_i h_1
  cases h_2
  exact lv_astore hx hb dg hl.1 (by rw [← hl.2]; exact hj) rfl (fun lsc' hl' => K H locs lsc' hH hS (am_lv.sub hl' (by rw [am_put_len]; exact hl.2) (am_put_sub hj _ _ (fun u e => by cases e; rfl))))
theorem am_s_fstore {j : Nat} (C : am_Cx p l s m args meth c G z) (dg : decode (am_by z) pc = .ok (.fstore j, 2)) {w} (h : am_st call z (.fstore j) pc ls st M X = some (.inl w)) (K : am_Sm p l e R s m args below meth c Q G z X0 w) : am_Sm p l e R s m args below meth c Q G z X0 (pc, ls, st, M, X) := by
  obtain ⟨hx, hb, hml, hown, hts, hK, hU, hN, hX, hbb, hlk, hst, hini⟩ := C
  simp only [am_st, am_ex] at h
  intro H locs lsc hH hS hl
  obtain ⟨x, st1, rfl, h_1⟩ := am_popF_i h
  obtain ⟨hj, h_2⟩ := am_if_i h_1
  cases h_2
  exact lv_fstore hx hb dg hl.1 (by rw [← hl.2]; exact hj) rfl (fun lsc' hl' => K H locs lsc' hH hS (am_lv.sub hl' (by rw [am_put_len]; exact hl.2) (am_put_sub hj _ _ (fun u e => by cases e; rfl))))
theorem am_s_dstore {j : Nat} (C : am_Cx p l s m args meth c G z) (dg : decode (am_by z) pc = .ok (.dstore j, 2)) {w} (h : am_st call z (.dstore j) pc ls st M X = some (.inl w)) (K : am_Sm p l e R s m args below meth c Q G z X0 w) : am_Sm p l e R s m args below meth c Q G z X0 (pc, ls, st, M, X) := by
  obtain ⟨hx, hb, hml, hown, hts, hK, hU, hN, hX, hbb, hlk, hst, hini⟩ := C
  simp only [am_st, am_ex] at h
  intro H locs lsc hH hS hl
  obtain ⟨x, st1, rfl, h_1⟩ := am_popD_i h
  obtain ⟨hj, h_2⟩ := am_if_i h_1
  cases h_2
  exact lv_dstore hx hb dg hl.1 (by rw [← hl.2]; exact hj) rfl (fun lsc' hl' => K H locs lsc' hH hS (am_lv.sub hl' (by show (am_put2 _ _ _).length = _; rw [am_put2, List.length_set, am_put_len]; exact hl.2) (am_put2_sub hj _)))
theorem am_s_iinc {j : Nat} {k : Int} (C : am_Cx p l s m args meth c G z) (dg : decode (am_by z) pc = .ok (.iinc j k, 3)) {w} (h : am_st call z (.iinc j k) pc ls st M X = some (.inl w)) (K : am_Sm p l e R s m args below meth c Q G z X0 w) : am_Sm p l e R s m args below meth c Q G z X0 (pc, ls, st, M, X) := by
  obtain ⟨hx, hb, hml, hown, hts, hK, hU, hN, hX, hbb, hlk, hst, hini⟩ := C
  simp only [am_st, am_ex] at h
  intro H locs lsc hH hS hl
  obtain ⟨v, g1, h_1⟩ := am_get_i h
  obtain ⟨x, rfl, h_2⟩ := am_asI_i h_1
  cases h_2
  have hj : j < ls.length := (List.getElem?_eq_some_iff.mp g1).1
  obtain ⟨q, hq⟩ := List.getElem?_of_mem (am_ll_mem (G := G) (i := 0) |>.mpr ⟨j, _, g1, rfl⟩)
  rw [Nat.zero_add] at hq
  exact lv_iinc (k := q) hx hb dg hl.1 hq rfl (by rw [← hl.2]; exact hj) rfl (fun lsc' hl' => K H locs lsc' hH hS (am_lv.sub hl' (by rw [am_put_len]; exact hl.2) (am_put_sub hj _ _ (fun u e => by cases e; rfl))))
theorem am_s_iconst {k : Int} (C : am_Cx p l s m args meth c G z) (dg : decode (am_by z) pc = .ok (.iconst k, 1)) {w} (h : am_st call z (.iconst k) pc ls st M X = some (.inl w)) (K : am_Sm p l e R s m args below meth c Q G z X0 w) : am_Sm p l e R s m args below meth c Q G z X0 (pc, ls, st, M, X) := by
  obtain ⟨hx, hb, hml, hown, hts, hK, hU, hN, hX, hbb, hlk, hst, hini⟩ := C
  simp only [am_st, am_ex] at h
  intro H locs lsc hH hS hl
  cases h
  exact lv_iconst hx hb dg rfl (K H locs lsc hH hS hl)
theorem am_s_bipush {k : Int} (C : am_Cx p l s m args meth c G z) (dg : decode (am_by z) pc = .ok (.bipush k, 2)) {w} (h : am_st call z (.bipush k) pc ls st M X = some (.inl w)) (K : am_Sm p l e R s m args below meth c Q G z X0 w) : am_Sm p l e R s m args below meth c Q G z X0 (pc, ls, st, M, X) := by
  obtain ⟨hx, hb, hml, hown, hts, hK, hU, hN, hX, hbb, hlk, hst, hini⟩ := C
  simp only [am_st, am_ex] at h
  intro H locs lsc hH hS hl
  cases h
  exact lv_bipush hx hb dg rfl (K H locs lsc hH hS hl)
theorem am_s_sipush {k : Int} (C : am_Cx p l s m args meth c G z) (dg : decode (am_by z) pc = .ok (.sipush k, 3)) {w} (h : am_st call z (.sipush k) pc ls st M X = some (.inl w)) (K : am_Sm p l e R s m args below meth c Q G z X0 w) : am_Sm p l e R s m args below meth c Q G z X0 (pc, ls, st, M, X) := by
  obtain ⟨hx, hb, hml, hown, hts, hK, hU, hN, hX, hbb, hlk, hst, hini⟩ := C
  simp only [am_st, am_ex] at h
  intro H locs lsc hH hS hl
  cases h
  exact lv_sipush hx hb dg rfl (K H locs lsc hH hS hl)
theorem am_s_lconst {k : Fin 2} (C : am_Cx p l s m args meth c G z) (dg : decode (am_by z) pc = .ok (.lconst k, 1)) {w} (h : am_st call z (.lconst k) pc ls st M X = some (.inl w)) (K : am_Sm p l e R s m args below meth c Q G z X0 w) : am_Sm p l e R s m args below meth c Q G z X0 (pc, ls, st, M, X) := by
  obtain ⟨hx, hb, hml, hown, hts, hK, hU, hN, hX, hbb, hlk, hst, hini⟩ := C
  simp only [am_st, am_ex] at h
  intro H locs lsc hH hS hl
  cases h
  exact lv_lconst hx hb dg rfl (K H locs lsc hH hS hl)
theorem am_s_ldc {ix : Nat} (C : am_Cx p l s m args meth c G z) (dg : decode (am_by z) pc = .ok (.ldc ix, 2)) {w} (h : am_st call z (.ldc ix) pc ls st M X = some (.inl w)) (K : am_Sm p l e R s m args below meth c Q G z X0 w) : am_Sm p l e R s m args below meth c Q G z X0 (pc, ls, st, M, X) := by
  obtain ⟨hx, hb, hml, hown, hts, hK, hU, hN, hX, hbb, hlk, hst, hini⟩ := C
  simp only [am_st, am_ex] at h
  intro H locs lsc hH hS hl
  cases hk : am_kc (am_own z) ix with
  | none => rw [hk] at h; cases h
  | some v =>
  rw [hk] at h
  cases h
  obtain ⟨i, hi⟩ := am_al2_in am_kc_ok _ (am_look_in hk)
  exact lv_ldc hx hb hown (hts _ (am_at_in hi)) dg (K H locs lsc hH hS hl)
theorem am_s_iadd  (C : am_Cx p l s m args meth c G z) (dg : decode (am_by z) pc = .ok (.iadd, 1)) {w} (h : am_st call z (.iadd) pc ls st M X = some (.inl w)) (K : am_Sm p l e R s m args below meth c Q G z X0 w) : am_Sm p l e R s m args below meth c Q G z X0 (pc, ls, st, M, X) := by
  obtain ⟨hx, hb, hml, hown, hts, hK, hU, hN, hX, hbb, hlk, hst, hini⟩ := C
  simp only [am_st, am_ex] at h
  intro H locs lsc hH hS hl
  obtain ⟨y, st1, rfl, h_1⟩ := am_popI_i h
  obtain ⟨x, st2, rfl, h_2⟩ := am_popI_i h_1
  cases h_2
  exact lv_iadd hx hb dg (K H locs lsc hH hS hl)
theorem am_s_isub  (C : am_Cx p l s m args meth c G z) (dg : decode (am_by z) pc = .ok (.isub, 1)) {w} (h : am_st call z (.isub) pc ls st M X = some (.inl w)) (K : am_Sm p l e R s m args below meth c Q G z X0 w) : am_Sm p l e R s m args below meth c Q G z X0 (pc, ls, st, M, X) := by
  obtain ⟨hx, hb, hml, hown, hts, hK, hU, hN, hX, hbb, hlk, hst, hini⟩ := C
  simp only [am_st, am_ex] at h
  intro H locs lsc hH hS hl
  obtain ⟨y, st1, rfl, h_1⟩ := am_popI_i h
  obtain ⟨x, st2, rfl, h_2⟩ := am_popI_i h_1
  cases h_2
  exact lv_isub hx hb dg (K H locs lsc hH hS hl)
theorem am_s_imul  (C : am_Cx p l s m args meth c G z) (dg : decode (am_by z) pc = .ok (.imul, 1)) {w} (h : am_st call z (.imul) pc ls st M X = some (.inl w)) (K : am_Sm p l e R s m args below meth c Q G z X0 w) : am_Sm p l e R s m args below meth c Q G z X0 (pc, ls, st, M, X) := by
  obtain ⟨hx, hb, hml, hown, hts, hK, hU, hN, hX, hbb, hlk, hst, hini⟩ := C
  simp only [am_st, am_ex] at h
  intro H locs lsc hH hS hl
  obtain ⟨y, st1, rfl, h_1⟩ := am_popI_i h
  obtain ⟨x, st2, rfl, h_2⟩ := am_popI_i h_1
  cases h_2
  exact lv_imul hx hb dg (K H locs lsc hH hS hl)
theorem am_s_iand  (C : am_Cx p l s m args meth c G z) (dg : decode (am_by z) pc = .ok (.iand, 1)) {w} (h : am_st call z (.iand) pc ls st M X = some (.inl w)) (K : am_Sm p l e R s m args below meth c Q G z X0 w) : am_Sm p l e R s m args below meth c Q G z X0 (pc, ls, st, M, X) := by
  obtain ⟨hx, hb, hml, hown, hts, hK, hU, hN, hX, hbb, hlk, hst, hini⟩ := C
  simp only [am_st, am_ex] at h
  intro H locs lsc hH hS hl
  obtain ⟨y, st1, rfl, h_1⟩ := am_popI_i h
  obtain ⟨x, st2, rfl, h_2⟩ := am_popI_i h_1
  cases h_2
  exact lv_iand hx hb dg (K H locs lsc hH hS hl)
theorem am_s_ior  (C : am_Cx p l s m args meth c G z) (dg : decode (am_by z) pc = .ok (.ior, 1)) {w} (h : am_st call z (.ior) pc ls st M X = some (.inl w)) (K : am_Sm p l e R s m args below meth c Q G z X0 w) : am_Sm p l e R s m args below meth c Q G z X0 (pc, ls, st, M, X) := by
  obtain ⟨hx, hb, hml, hown, hts, hK, hU, hN, hX, hbb, hlk, hst, hini⟩ := C
  simp only [am_st, am_ex] at h
  intro H locs lsc hH hS hl
  obtain ⟨y, st1, rfl, h_1⟩ := am_popI_i h
  obtain ⟨x, st2, rfl, h_2⟩ := am_popI_i h_1
  cases h_2
  exact lv_ior hx hb dg (K H locs lsc hH hS hl)
theorem am_s_ishl  (C : am_Cx p l s m args meth c G z) (dg : decode (am_by z) pc = .ok (.ishl, 1)) {w} (h : am_st call z (.ishl) pc ls st M X = some (.inl w)) (K : am_Sm p l e R s m args below meth c Q G z X0 w) : am_Sm p l e R s m args below meth c Q G z X0 (pc, ls, st, M, X) := by
  obtain ⟨hx, hb, hml, hown, hts, hK, hU, hN, hX, hbb, hlk, hst, hini⟩ := C
  simp only [am_st, am_ex] at h
  intro H locs lsc hH hS hl
  obtain ⟨y, st1, rfl, h_1⟩ := am_popI_i h
  obtain ⟨x, st2, rfl, h_2⟩ := am_popI_i h_1
  cases h_2
  exact lv_ishl hx hb dg (K H locs lsc hH hS hl)
theorem am_s_ishr  (C : am_Cx p l s m args meth c G z) (dg : decode (am_by z) pc = .ok (.ishr, 1)) {w} (h : am_st call z (.ishr) pc ls st M X = some (.inl w)) (K : am_Sm p l e R s m args below meth c Q G z X0 w) : am_Sm p l e R s m args below meth c Q G z X0 (pc, ls, st, M, X) := by
  obtain ⟨hx, hb, hml, hown, hts, hK, hU, hN, hX, hbb, hlk, hst, hini⟩ := C
  simp only [am_st, am_ex] at h
  intro H locs lsc hH hS hl
  obtain ⟨y, st1, rfl, h_1⟩ := am_popI_i h
  obtain ⟨x, st2, rfl, h_2⟩ := am_popI_i h_1
  cases h_2
  exact lv_ishr hx hb dg (K H locs lsc hH hS hl)
theorem am_s_idiv  (C : am_Cx p l s m args meth c G z) (dg : decode (am_by z) pc = .ok (.idiv, 1)) {w} (h : am_st call z (.idiv) pc ls st M X = some (.inl w)) (K : am_Sm p l e R s m args below meth c Q G z X0 w) : am_Sm p l e R s m args below meth c Q G z X0 (pc, ls, st, M, X) := by
  obtain ⟨hx, hb, hml, hown, hts, hK, hU, hN, hX, hbb, hlk, hst, hini⟩ := C
  simp only [am_st, am_ex] at h
  intro H locs lsc hH hS hl
  obtain ⟨y, st1, rfl, h_1⟩ := am_popI_i h
  obtain ⟨x, st2, rfl, h_2⟩ := am_popI_i h_1
  obtain ⟨hne, h_3⟩ := am_ifn_i h_2
  cases h_3
  exact lv_idiv hx hb dg hne (K H locs lsc hH hS hl)
theorem am_s_irem  (C : am_Cx p l s m args meth c G z) (dg : decode (am_by z) pc = .ok (.irem, 1)) {w} (h : am_st call z (.irem) pc ls st M X = some (.inl w)) (K : am_Sm p l e R s m args below meth c Q G z X0 w) : am_Sm p l e R s m args below meth c Q G z X0 (pc, ls, st, M, X) := by
  obtain ⟨hx, hb, hml, hown, hts, hK, hU, hN, hX, hbb, hlk, hst, hini⟩ := C
  simp only [am_st, am_ex] at h
  intro H locs lsc hH hS hl
  obtain ⟨y, st1, rfl, h_1⟩ := am_popI_i h
  obtain ⟨x, st2, rfl, h_2⟩ := am_popI_i h_1
  obtain ⟨hne, h_3⟩ := am_ifn_i h_2
  cases h_3
  exact lv_irem hx hb dg hne (K H locs lsc hH hS hl)
theorem am_s_i2l  (C : am_Cx p l s m args meth c G z) (dg : decode (am_by z) pc = .ok (.i2l, 1)) {w} (h : am_st call z (.i2l) pc ls st M X = some (.inl w)) (K : am_Sm p l e R s m args below meth c Q G z X0 w) : am_Sm p l e R s m args below meth c Q G z X0 (pc, ls, st, M, X) := by
  obtain ⟨hx, hb, hml, hown, hts, hK, hU, hN, hX, hbb, hlk, hst, hini⟩ := C
  simp only [am_st, am_ex] at h
  intro H locs lsc hH hS hl
  obtain ⟨x, st1, rfl, h_1⟩ := am_popI_i h
  cases h_1
  exact lv_i2l hx hb dg rfl (K H locs lsc hH hS hl)
theorem am_s_i2c  (C : am_Cx p l s m args meth c G z) (dg : decode (am_by z) pc = .ok (.i2c, 1)) {w} (h : am_st call z (.i2c) pc ls st M X = some (.inl w)) (K : am_Sm p l e R s m args below meth c Q G z X0 w) : am_Sm p l e R s m args below meth c Q G z X0 (pc, ls, st, M, X) := by
  obtain ⟨hx, hb, hml, hown, hts, hK, hU, hN, hX, hbb, hlk, hst, hini⟩ := C
  simp only [am_st, am_ex] at h
  intro H locs lsc hH hS hl
  obtain ⟨x, st1, rfl, h_1⟩ := am_popI_i h
  cases h_1
  exact lv_i2c hx hb dg rfl (K H locs lsc hH hS hl)
theorem am_s_i2f  (C : am_Cx p l s m args meth c G z) (dg : decode (am_by z) pc = .ok (.i2f, 1)) {w} (h : am_st call z (.i2f) pc ls st M X = some (.inl w)) (K : am_Sm p l e R s m args below meth c Q G z X0 w) : am_Sm p l e R s m args below meth c Q G z X0 (pc, ls, st, M, X) := by
  obtain ⟨hx, hb, hml, hown, hts, hK, hU, hN, hX, hbb, hlk, hst, hini⟩ := C
  simp only [am_st, am_ex] at h
  intro H locs lsc hH hS hl
  obtain ⟨x, st1, rfl, h_1⟩ := am_popI_i h
  cases h_1
  exact lv_i2f hx hb dg (K H locs lsc hH hS hl)
theorem am_s_i2d  (C : am_Cx p l s m args meth c G z) (dg : decode (am_by z) pc = .ok (.i2d, 1)) {w} (h : am_st call z (.i2d) pc ls st M X = some (.inl w)) (K : am_Sm p l e R s m args below meth c Q G z X0 w) : am_Sm p l e R s m args below meth c Q G z X0 (pc, ls, st, M, X) := by
  obtain ⟨hx, hb, hml, hown, hts, hK, hU, hN, hX, hbb, hlk, hst, hini⟩ := C
  simp only [am_st, am_ex] at h
  intro H locs lsc hH hS hl
  obtain ⟨x, st1, rfl, h_1⟩ := am_popI_i h
  cases h_1
  exact lv_i2d hx hb dg (K H locs lsc hH hS hl)
theorem am_s_f2d  (C : am_Cx p l s m args meth c G z) (dg : decode (am_by z) pc = .ok (.f2d, 1)) {w} (h : am_st call z (.f2d) pc ls st M X = some (.inl w)) (K : am_Sm p l e R s m args below meth c Q G z X0 w) : am_Sm p l e R s m args below meth c Q G z X0 (pc, ls, st, M, X) := by
  obtain ⟨hx, hb, hml, hown, hts, hK, hU, hN, hX, hbb, hlk, hst, hini⟩ := C
  simp only [am_st, am_ex] at h
  intro H locs lsc hH hS hl
  obtain ⟨x, st1, rfl, h_1⟩ := am_popF_i h
  obtain ⟨hne, h_2⟩ := am_if_i h_1
  cases h_2
  exact lv_f2d hx hb dg hne (K H locs lsc hH hS hl)
theorem am_s_fdiv  (C : am_Cx p l s m args meth c G z) (dg : decode (am_by z) pc = .ok (.fdiv, 1)) {w} (h : am_st call z (.fdiv) pc ls st M X = some (.inl w)) (K : am_Sm p l e R s m args below meth c Q G z X0 w) : am_Sm p l e R s m args below meth c Q G z X0 (pc, ls, st, M, X) := by
  obtain ⟨hx, hb, hml, hown, hts, hK, hU, hN, hX, hbb, hlk, hst, hini⟩ := C
  simp only [am_st, am_ex] at h
  intro H locs lsc hH hS hl
  obtain ⟨y, st1, rfl, h_1⟩ := am_popF_i h
  obtain ⟨x, st2, rfl, h_2⟩ := am_popF_i h_1
  obtain ⟨hne, h_3⟩ := am_if_i h_2
  cases h_3
  exact lv_fdiv hx hb dg hne (K H locs lsc hH hS hl)
theorem am_s_ddiv  (C : am_Cx p l s m args meth c G z) (dg : decode (am_by z) pc = .ok (.ddiv, 1)) {w} (h : am_st call z (.ddiv) pc ls st M X = some (.inl w)) (K : am_Sm p l e R s m args below meth c Q G z X0 w) : am_Sm p l e R s m args below meth c Q G z X0 (pc, ls, st, M, X) := by
  obtain ⟨hx, hb, hml, hown, hts, hK, hU, hN, hX, hbb, hlk, hst, hini⟩ := C
  simp only [am_st, am_ex] at h
  intro H locs lsc hH hS hl
  obtain ⟨y, st1, rfl, h_1⟩ := am_popD_i h
  obtain ⟨x, st2, rfl, h_2⟩ := am_popD_i h_1
  obtain ⟨hne, h_3⟩ := am_if_i h_2
  cases h_3
  exact lv_ddiv hx hb dg hne (K H locs lsc hH hS hl)
theorem am_s_lcmp  (C : am_Cx p l s m args meth c G z) (dg : decode (am_by z) pc = .ok (.lcmp, 1)) {w} (h : am_st call z (.lcmp) pc ls st M X = some (.inl w)) (K : am_Sm p l e R s m args below meth c Q G z X0 w) : am_Sm p l e R s m args below meth c Q G z X0 (pc, ls, st, M, X) := by
  obtain ⟨hx, hb, hml, hown, hts, hK, hU, hN, hX, hbb, hlk, hst, hini⟩ := C
  simp only [am_st, am_ex] at h
  intro H locs lsc hH hS hl
  obtain ⟨y, st1, rfl, h_1⟩ := am_popJ_i h
  obtain ⟨x, st2, rfl, h_2⟩ := am_popJ_i h_1
  cases h_2
  exact W.lcmp hx hb dg (K H locs lsc hH hS hl)
theorem am_s_fcmp {op : CmpOp} (C : am_Cx p l s m args meth c G z) (dg : decode (am_by z) pc = .ok (.fcmp op, 1)) {w} (h : am_st call z (.fcmp op) pc ls st M X = some (.inl w)) (K : am_Sm p l e R s m args below meth c Q G z X0 w) : am_Sm p l e R s m args below meth c Q G z X0 (pc, ls, st, M, X) := by
  obtain ⟨hx, hb, hml, hown, hts, hK, hU, hN, hX, hbb, hlk, hst, hini⟩ := C
  simp only [am_st, am_ex] at h
  intro H locs lsc hH hS hl
  obtain ⟨y, st1, rfl, h_1⟩ := am_popF_i h
  obtain ⟨x, st2, rfl, h_2⟩ := am_popF_i h_1
  cases h_2
  exact lv_fcmp hx hb dg (K H locs lsc hH hS hl)
theorem am_s_dcmp {op : CmpOp} (C : am_Cx p l s m args meth c G z) (dg : decode (am_by z) pc = .ok (.dcmp op, 1)) {w} (h : am_st call z (.dcmp op) pc ls st M X = some (.inl w)) (K : am_Sm p l e R s m args below meth c Q G z X0 w) : am_Sm p l e R s m args below meth c Q G z X0 (pc, ls, st, M, X) := by
  obtain ⟨hx, hb, hml, hown, hts, hK, hU, hN, hX, hbb, hlk, hst, hini⟩ := C
  simp only [am_st, am_ex] at h
  intro H locs lsc hH hS hl
  obtain ⟨y, st1, rfl, h_1⟩ := am_popD_i h
  obtain ⟨x, st2, rfl, h_2⟩ := am_popD_i h_1
  cases h_2
  exact lv_dcmp hx hb dg (K H locs lsc hH hS hl)
theorem am_s_dup  (C : am_Cx p l s m args meth c G z) (dg : decode (am_by z) pc = .ok (.dup, 1)) {w} (h : am_st call z (.dup) pc ls st M X = some (.inl w)) (K : am_Sm p l e R s m args below meth c Q G z X0 w) : am_Sm p l e R s m args below meth c Q G z X0 (pc, ls, st, M, X) := by
  obtain ⟨hx, hb, hml, hown, hts, hK, hU, hN, hX, hbb, hlk, hst, hini⟩ := C
  simp only [am_st, am_ex] at h
  intro H locs lsc hH hS hl
  obtain ⟨v, st1, rfl, c1, h_1⟩ := am_pop1_i h
  cases h_1
  exact lv_dup hx hb dg c1.cat (K H locs lsc hH hS hl)
theorem am_s_pop  (C : am_Cx p l s m args meth c G z) (dg : decode (am_by z) pc = .ok (.pop, 1)) {w} (h : am_st call z (.pop) pc ls st M X = some (.inl w)) (K : am_Sm p l e R s m args below meth c Q G z X0 w) : am_Sm p l e R s m args below meth c Q G z X0 (pc, ls, st, M, X) := by
  obtain ⟨hx, hb, hml, hown, hts, hK, hU, hN, hX, hbb, hlk, hst, hini⟩ := C
  simp only [am_st, am_ex] at h
  intro H locs lsc hH hS hl
  obtain ⟨v, st1, rfl, c1, h_1⟩ := am_pop1_i h
  cases h_1
  exact lv_pop hx hb dg c1.cat (K H locs lsc hH hS hl)
theorem am_s_dup2  (C : am_Cx p l s m args meth c G z) (dg : decode (am_by z) pc = .ok (.dup2, 1)) {w} (h : am_st call z (.dup2) pc ls st M X = some (.inl w)) (K : am_Sm p l e R s m args below meth c Q G z X0 w) : am_Sm p l e R s m args below meth c Q G z X0 (pc, ls, st, M, X) := by
  obtain ⟨hx, hb, hml, hown, hts, hK, hU, hN, hX, hbb, hlk, hst, hini⟩ := C
  simp only [am_st, am_ex] at h
  intro H locs lsc hH hS hl
  obtain ⟨v, st1, rfl, c1, h_1⟩ := am_pop1_i h
  obtain ⟨w, st2, rfl, c2, h_2⟩ := am_pop1_i h_1
  cases h_2
  exact lv_dup2_11 hx hb dg c1.cat c2.cat (K H locs lsc hH hS hl)
theorem am_s_dup_x1  (C : am_Cx p l s m args meth c G z) (dg : decode (am_by z) pc = .ok (.dup_x1, 1)) {w} (h : am_st call z (.dup_x1) pc ls st M X = some (.inl w)) (K : am_Sm p l e R s m args below meth c Q G z X0 w) : am_Sm p l e R s m args below meth c Q G z X0 (pc, ls, st, M, X) := by
  obtain ⟨hx, hb, hml, hown, hts, hK, hU, hN, hX, hbb, hlk, hst, hini⟩ := C
  simp only [am_st, am_ex] at h
  intro H locs lsc hH hS hl
  obtain ⟨v, st1, rfl, c1, h_1⟩ := am_pop1_i h
  obtain ⟨w, st2, rfl, c2, h_2⟩ := am_pop1_i h_1
  cases h_2
  exact lv_dup_x1 hx hb dg c1.cat c2.cat (K H locs lsc hH hS hl)
theorem am_s_dup_x2  (C : am_Cx p l s m args meth c G z) (dg : decode (am_by z) pc = .ok (.dup_x2, 1)) {w} (h : am_st call z (.dup_x2) pc ls st M X = some (.inl w)) (K : am_Sm p l e R s m args below meth c Q G z X0 w) : am_Sm p l e R s m args below meth c Q G z X0 (pc, ls, st, M, X) := by
  obtain ⟨hx, hb, hml, hown, hts, hK, hU, hN, hX, hbb, hlk, hst, hini⟩ := C
  simp only [am_st, am_ex] at h
  intro H locs lsc hH hS hl
  obtain ⟨v, st1, rfl, c1, h_1⟩ := am_pop1_i h
  obtain ⟨w, st2, rfl, c2, h_2⟩ := am_pop1_i h_1
  obtain ⟨u, st3, rfl, c3, h_3⟩ := am_pop1_i h_2
  cases h_3
  exact lv_dup_x2 hx hb dg c1.cat c2.cat c3.cat (K H locs lsc hH hS hl)
theorem am_s_goto {k : Int} (C : am_Cx p l s m args meth c G z) (dg : decode (am_by z) pc = .ok (.goto k, 3)) {w} (h : am_st call z (.goto k) pc ls st M X = some (.inl w)) (K : am_Sm p l e R s m args below meth c Q G z X0 w) : am_Sm p l e R s m args below meth c Q G z X0 (pc, ls, st, M, X) := by
  obtain ⟨hx, hb, hml, hown, hts, hK, hU, hN, hX, hbb, hlk, hst, hini⟩ := C
  simp only [am_st, am_ex] at h
  intro H locs lsc hH hS hl
  obtain ⟨t, ht, h_1⟩ := am_j_i h
  cases h_1
  exact lv_goto hx hb dg ht (K H locs lsc hH hS hl)
theorem am_s_if_eq {k : Int} (C : am_Cx p l s m args meth c G z) (dg : decode (am_by z) pc = .ok (.ifCond .eq k, 3)) {w} (h : am_st call z (.ifCond .eq k) pc ls st M X = some (.inl w)) (K : am_Sm p l e R s m args below meth c Q G z X0 w) : am_Sm p l e R s m args below meth c Q G z X0 (pc, ls, st, M, X) := by
  obtain ⟨hx, hb, hml, hown, hts, hK, hU, hN, hX, hbb, hlk, hst, hini⟩ := C
  simp only [am_st, am_ex] at h
  intro H locs lsc hH hS hl
  obtain ⟨x, st1, rfl, h_1⟩ := am_popI_i h
  obtain ⟨t, ht, h_2⟩ := am_j_i h_1
  split at h_2
  · rename_i hc; cases h_2
    exact lv_if_eq hx hb dg ht (fun _ => (K H locs lsc hH hS hl)) (fun n => by first | exact absurd hc n | exact absurd n hc | exact absurd hc n | exact absurd n hc)
  · rename_i hc; cases h_2
    exact lv_if_eq hx hb dg ht (fun n => by first | exact absurd hc n | exact absurd n hc | exact absurd hc n | exact absurd n hc) (fun _ => (K H locs lsc hH hS hl))
theorem am_s_if_ne {k : Int} (C : am_Cx p l s m args meth c G z) (dg : decode (am_by z) pc = .ok (.ifCond .ne k, 3)) {w} (h : am_st call z (.ifCond .ne k) pc ls st M X = some (.inl w)) (K : am_Sm p l e R s m args below meth c Q G z X0 w) : am_Sm p l e R s m args below meth c Q G z X0 (pc, ls, st, M, X) := by
  obtain ⟨hx, hb, hml, hown, hts, hK, hU, hN, hX, hbb, hlk, hst, hini⟩ := C
  simp only [am_st, am_ex] at h
  intro H locs lsc hH hS hl
  obtain ⟨x, st1, rfl, h_1⟩ := am_popI_i h
  obtain ⟨t, ht, h_2⟩ := am_j_i h_1
  split at h_2
  · rename_i hc; cases h_2
    exact lv_if_ne hx hb dg ht (fun n => by first | exact absurd hc n | exact absurd n hc | exact absurd hc n | exact absurd n hc) (fun _ => (K H locs lsc hH hS hl))
  · rename_i hc; cases h_2
    exact lv_if_ne hx hb dg ht (fun _ => (K H locs lsc hH hS hl)) (fun n => by first | exact absurd hc n | exact absurd n hc | exact absurd hc n | exact absurd n hc)
theorem am_s_if_lt {k : Int} (C : am_Cx p l s m args meth c G z) (dg : decode (am_by z) pc = .ok (.ifCond .lt k, 3)) {w} (h : am_st call z (.ifCond .lt k) pc ls st M X = some (.inl w)) (K : am_Sm p l e R s m args below meth c Q G z X0 w) : am_Sm p l e R s m args below meth c Q G z X0 (pc, ls, st, M, X) := by
  obtain ⟨hx, hb, hml, hown, hts, hK, hU, hN, hX, hbb, hlk, hst, hini⟩ := C
  simp only [am_st, am_ex] at h
  intro H locs lsc hH hS hl
  obtain ⟨x, st1, rfl, h_1⟩ := am_popI_i h
  obtain ⟨t, ht, h_2⟩ := am_j_i h_1
  split at h_2
  · rename_i hc; cases h_2
    exact lv_if_lt hx hb dg ht (fun _ => (K H locs lsc hH hS hl)) (fun n => by first | exact absurd hc n | exact absurd n hc | exact absurd hc n | exact absurd n hc)
  · rename_i hc; cases h_2
    exact lv_if_lt hx hb dg ht (fun n => by first | exact absurd hc n | exact absurd n hc | exact absurd hc n | exact absurd n hc) (fun _ => (K H locs lsc hH hS hl))
theorem am_s_if_ge {k : Int} (C : am_Cx p l s m args meth c G z) (dg : decode (am_by z) pc = .ok (.ifCond .ge k, 3)) {w} (h : am_st call z (.ifCond .ge k) pc ls st M X = some (.inl w)) (K : am_Sm p l e R s m args below meth c Q G z X0 w) : am_Sm p l e R s m args below meth c Q G z X0 (pc, ls, st, M, X) := by
  obtain ⟨hx, hb, hml, hown, hts, hK, hU, hN, hX, hbb, hlk, hst, hini⟩ := C
  simp only [am_st, am_ex] at h
  intro H locs lsc hH hS hl
  obtain ⟨x, st1, rfl, h_1⟩ := am_popI_i h
  obtain ⟨t, ht, h_2⟩ := am_j_i h_1
  split at h_2
  · rename_i hc; cases h_2
    exact lv_if_ge hx hb dg ht (fun n => by first | exact absurd hc n | exact absurd n hc | exact absurd (Int32.not_le.mpr hc) n | exact absurd n (Int32.not_le.mpr hc)) (fun _ => (K H locs lsc hH hS hl))
  · rename_i hc; cases h_2
    exact lv_if_ge hx hb dg ht (fun _ => (K H locs lsc hH hS hl)) (fun n => by first | exact absurd hc n | exact absurd n hc | exact absurd (Int32.not_lt.mp hc) n | exact absurd n (Int32.not_lt.mp hc))
theorem am_s_if_gt {k : Int} (C : am_Cx p l s m args meth c G z) (dg : decode (am_by z) pc = .ok (.ifCond .gt k, 3)) {w} (h : am_st call z (.ifCond .gt k) pc ls st M X = some (.inl w)) (K : am_Sm p l e R s m args below meth c Q G z X0 w) : am_Sm p l e R s m args below meth c Q G z X0 (pc, ls, st, M, X) := by
  obtain ⟨hx, hb, hml, hown, hts, hK, hU, hN, hX, hbb, hlk, hst, hini⟩ := C
  simp only [am_st, am_ex] at h
  intro H locs lsc hH hS hl
  obtain ⟨x, st1, rfl, h_1⟩ := am_popI_i h
  obtain ⟨t, ht, h_2⟩ := am_j_i h_1
  split at h_2
  · rename_i hc; cases h_2
    exact lv_if_gt hx hb dg ht (fun _ => (K H locs lsc hH hS hl)) (fun n => by first | exact absurd hc n | exact absurd n hc | exact absurd hc n | exact absurd n hc)
  · rename_i hc; cases h_2
    exact lv_if_gt hx hb dg ht (fun n => by first | exact absurd hc n | exact absurd n hc | exact absurd hc n | exact absurd n hc) (fun _ => (K H locs lsc hH hS hl))
theorem am_s_if_le {k : Int} (C : am_Cx p l s m args meth c G z) (dg : decode (am_by z) pc = .ok (.ifCond .le k, 3)) {w} (h : am_st call z (.ifCond .le k) pc ls st M X = some (.inl w)) (K : am_Sm p l e R s m args below meth c Q G z X0 w) : am_Sm p l e R s m args below meth c Q G z X0 (pc, ls, st, M, X) := by
  obtain ⟨hx, hb, hml, hown, hts, hK, hU, hN, hX, hbb, hlk, hst, hini⟩ := C
  simp only [am_st, am_ex] at h
  intro H locs lsc hH hS hl
  obtain ⟨x, st1, rfl, h_1⟩ := am_popI_i h
  obtain ⟨t, ht, h_2⟩ := am_j_i h_1
  split at h_2
  · rename_i hc; cases h_2
    exact lv_if_le hx hb dg ht (fun n => by first | exact absurd hc n | exact absurd n hc | exact absurd (Int32.not_le.mpr hc) n | exact absurd n (Int32.not_le.mpr hc)) (fun _ => (K H locs lsc hH hS hl))
  · rename_i hc; cases h_2
    exact lv_if_le hx hb dg ht (fun _ => (K H locs lsc hH hS hl)) (fun n => by first | exact absurd hc n | exact absurd n hc | exact absurd (Int32.not_lt.mp hc) n | exact absurd n (Int32.not_lt.mp hc))
theorem am_s_ic_eq {k : Int} (C : am_Cx p l s m args meth c G z) (dg : decode (am_by z) pc = .ok (.if_icmp .eq k, 3)) {w} (h : am_st call z (.if_icmp .eq k) pc ls st M X = some (.inl w)) (K : am_Sm p l e R s m args below meth c Q G z X0 w) : am_Sm p l e R s m args below meth c Q G z X0 (pc, ls, st, M, X) := by
  obtain ⟨hx, hb, hml, hown, hts, hK, hU, hN, hX, hbb, hlk, hst, hini⟩ := C
  simp only [am_st, am_ex] at h
  intro H locs lsc hH hS hl
  obtain ⟨y, st1, rfl, h_1⟩ := am_popI_i h
  obtain ⟨x, st2, rfl, h_2⟩ := am_popI_i h_1
  obtain ⟨t, ht, h_3⟩ := am_j_i h_2
  split at h_3
  · rename_i hc; cases h_3
    exact lv_icmp_eq hx hb dg ht (fun _ => (K H locs lsc hH hS hl)) (fun n => by first | exact absurd hc n | exact absurd n hc | exact absurd hc n | exact absurd n hc)
  · rename_i hc; cases h_3
    exact lv_icmp_eq hx hb dg ht (fun n => by first | exact absurd hc n | exact absurd n hc | exact absurd hc n | exact absurd n hc) (fun _ => (K H locs lsc hH hS hl))
theorem am_s_ic_ne {k : Int} (C : am_Cx p l s m args meth c G z) (dg : decode (am_by z) pc = .ok (.if_icmp .ne k, 3)) {w} (h : am_st call z (.if_icmp .ne k) pc ls st M X = some (.inl w)) (K : am_Sm p l e R s m args below meth c Q G z X0 w) : am_Sm p l e R s m args below meth c Q G z X0 (pc, ls, st, M, X) := by
  obtain ⟨hx, hb, hml, hown, hts, hK, hU, hN, hX, hbb, hlk, hst, hini⟩ := C
  simp only [am_st, am_ex] at h
  intro H locs lsc hH hS hl
  obtain ⟨y, st1, rfl, h_1⟩ := am_popI_i h
  obtain ⟨x, st2, rfl, h_2⟩ := am_popI_i h_1
  obtain ⟨t, ht, h_3⟩ := am_j_i h_2
  split at h_3
  · rename_i hc; cases h_3
    exact lv_icmp_ne hx hb dg ht (fun n => by first | exact absurd hc n | exact absurd n hc | exact absurd hc n | exact absurd n hc) (fun _ => (K H locs lsc hH hS hl))
  · rename_i hc; cases h_3
    exact lv_icmp_ne hx hb dg ht (fun _ => (K H locs lsc hH hS hl)) (fun n => by first | exact absurd hc n | exact absurd n hc | exact absurd hc n | exact absurd n hc)
theorem am_s_ic_lt {k : Int} (C : am_Cx p l s m args meth c G z) (dg : decode (am_by z) pc = .ok (.if_icmp .lt k, 3)) {w} (h : am_st call z (.if_icmp .lt k) pc ls st M X = some (.inl w)) (K : am_Sm p l e R s m args below meth c Q G z X0 w) : am_Sm p l e R s m args below meth c Q G z X0 (pc, ls, st, M, X) := by
  obtain ⟨hx, hb, hml, hown, hts, hK, hU, hN, hX, hbb, hlk, hst, hini⟩ := C
  simp only [am_st, am_ex] at h
  intro H locs lsc hH hS hl
  obtain ⟨y, st1, rfl, h_1⟩ := am_popI_i h
  obtain ⟨x, st2, rfl, h_2⟩ := am_popI_i h_1
  obtain ⟨t, ht, h_3⟩ := am_j_i h_2
  split at h_3
  · rename_i hc; cases h_3
    exact lv_icmp_lt hx hb dg ht (fun _ => (K H locs lsc hH hS hl)) (fun n => by first | exact absurd hc n | exact absurd n hc | exact absurd hc n | exact absurd n hc)
  · rename_i hc; cases h_3
    exact lv_icmp_lt hx hb dg ht (fun n => by first | exact absurd hc n | exact absurd n hc | exact absurd hc n | exact absurd n hc) (fun _ => (K H locs lsc hH hS hl))
theorem am_s_ic_ge {k : Int} (C : am_Cx p l s m args meth c G z) (dg : decode (am_by z) pc = .ok (.if_icmp .ge k, 3)) {w} (h : am_st call z (.if_icmp .ge k) pc ls st M X = some (.inl w)) (K : am_Sm p l e R s m args below meth c Q G z X0 w) : am_Sm p l e R s m args below meth c Q G z X0 (pc, ls, st, M, X) := by
  obtain ⟨hx, hb, hml, hown, hts, hK, hU, hN, hX, hbb, hlk, hst, hini⟩ := C
  simp only [am_st, am_ex] at h
  intro H locs lsc hH hS hl
  obtain ⟨y, st1, rfl, h_1⟩ := am_popI_i h
  obtain ⟨x, st2, rfl, h_2⟩ := am_popI_i h_1
  obtain ⟨t, ht, h_3⟩ := am_j_i h_2
  split at h_3
  · rename_i hc; cases h_3
    exact lv_icmp_ge hx hb dg ht (fun n => by first | exact absurd hc n | exact absurd n hc | exact absurd (Int32.not_le.mpr hc) n | exact absurd n (Int32.not_le.mpr hc)) (fun _ => (K H locs lsc hH hS hl))
  · rename_i hc; cases h_3
    exact lv_icmp_ge hx hb dg ht (fun _ => (K H locs lsc hH hS hl)) (fun n => by first | exact absurd hc n | exact absurd n hc | exact absurd (Int32.not_lt.mp hc) n | exact absurd n (Int32.not_lt.mp hc))
theorem am_s_ic_gt {k : Int} (C : am_Cx p l s m args meth c G z) (dg : decode (am_by z) pc = .ok (.if_icmp .gt k, 3)) {w} (h : am_st call z (.if_icmp .gt k) pc ls st M X = some (.inl w)) (K : am_Sm p l e R s m args below meth c Q G z X0 w) : am_Sm p l e R s m args below meth c Q G z X0 (pc, ls, st, M, X) := by
  obtain ⟨hx, hb, hml, hown, hts, hK, hU, hN, hX, hbb, hlk, hst, hini⟩ := C
  simp only [am_st, am_ex] at h
  intro H locs lsc hH hS hl
  obtain ⟨y, st1, rfl, h_1⟩ := am_popI_i h
  obtain ⟨x, st2, rfl, h_2⟩ := am_popI_i h_1
  obtain ⟨t, ht, h_3⟩ := am_j_i h_2
  split at h_3
  · rename_i hc; cases h_3
    exact lv_icmp_gt hx hb dg ht (fun _ => (K H locs lsc hH hS hl)) (fun n => by first | exact absurd hc n | exact absurd n hc | exact absurd hc n | exact absurd n hc)
  · rename_i hc; cases h_3
    exact lv_icmp_gt hx hb dg ht (fun n => by first | exact absurd hc n | exact absurd n hc | exact absurd hc n | exact absurd n hc) (fun _ => (K H locs lsc hH hS hl))
theorem am_s_ic_le {k : Int} (C : am_Cx p l s m args meth c G z) (dg : decode (am_by z) pc = .ok (.if_icmp .le k, 3)) {w} (h : am_st call z (.if_icmp .le k) pc ls st M X = some (.inl w)) (K : am_Sm p l e R s m args below meth c Q G z X0 w) : am_Sm p l e R s m args below meth c Q G z X0 (pc, ls, st, M, X) := by
  obtain ⟨hx, hb, hml, hown, hts, hK, hU, hN, hX, hbb, hlk, hst, hini⟩ := C
  simp only [am_st, am_ex] at h
  intro H locs lsc hH hS hl
  obtain ⟨y, st1, rfl, h_1⟩ := am_popI_i h
  obtain ⟨x, st2, rfl, h_2⟩ := am_popI_i h_1
  obtain ⟨t, ht, h_3⟩ := am_j_i h_2
  split at h_3
  · rename_i hc; cases h_3
    exact lv_icmp_le hx hb dg ht (fun n => by first | exact absurd hc n | exact absurd n hc | exact absurd (Int32.not_le.mpr hc) n | exact absurd n (Int32.not_le.mpr hc)) (fun _ => (K H locs lsc hH hS hl))
  · rename_i hc; cases h_3
    exact lv_icmp_le hx hb dg ht (fun _ => (K H locs lsc hH hS hl)) (fun n => by first | exact absurd hc n | exact absurd n hc | exact absurd (Int32.not_lt.mp hc) n | exact absurd n (Int32.not_lt.mp hc))
theorem am_s_ts {d lo hi : Int} {os : Array Int} {n : Nat} (C : am_Cx p l s m args meth c G z) (dg : decode (am_by z) pc = .ok (.tableswitch d lo hi os, n)) {w} (h : am_st call z (.tableswitch d lo hi os) pc ls st M X = some (.inl w)) (K : am_Sm p l e R s m args below meth c Q G z X0 w) : am_Sm p l e R s m args below meth c Q G z X0 (pc, ls, st, M, X) := by
  obtain ⟨hx, hb, hml, hown, hts, hK, hU, hN, hX, hbb, hlk, hst, hini⟩ := C
  simp only [am_st, am_ex] at h
  intro H locs lsc hH hS hl
  obtain ⟨x, st1, rfl, h_1⟩ := am_popI_i h
  split at h_1
  · rename_i hc
    obtain ⟨t, ht, h2⟩ := am_j_i h_1
    cases h2
    exact lv_tableOut hx hb dg hc ht (K H locs lsc hH hS hl)
  · rename_i hc
    split at h_1
    · rename_i o ho
      obtain ⟨t, ht, h2⟩ := am_j_i h_1
      cases h2
      exact lv_tableIn hx hb dg (fun q => hc (Or.inl q)) (fun q => hc (Or.inr q)) ho ht (K H locs lsc hH hS hl)
    · cases h_1
theorem am_s_lk {d : Int} {ps : Array (Int × Int)} {n : Nat} (C : am_Cx p l s m args meth c G z) (dg : decode (am_by z) pc = .ok (.lookupswitch d ps, n)) {w} (h : am_st call z (.lookupswitch d ps) pc ls st M X = some (.inl w)) (K : am_Sm p l e R s m args below meth c Q G z X0 w) : am_Sm p l e R s m args below meth c Q G z X0 (pc, ls, st, M, X) := by
  obtain ⟨hx, hb, hml, hown, hts, hK, hU, hN, hX, hbb, hlk, hst, hini⟩ := C
  simp only [am_st, am_ex] at h
  intro H locs lsc hH hS hl
  obtain ⟨x, st1, rfl, h_1⟩ := am_popI_i h
  obtain ⟨hs, h_2⟩ := am_if_i h_1
  obtain ⟨t, ht, h_3⟩ := am_j_i h_2
  cases h_3
  exact lv_lookup hx hb dg hs rfl ht (K H locs lsc hH hS hl)
theorem am_s_getfield {ix : Nat} (C : am_Cx p l s m args meth c G z) (dg : decode (am_by z) pc = .ok (.getfield ix, 3)) {w} (h : am_st call z (.getfield ix) pc ls st M X = some (.inl w)) (K : am_Sm p l e R s m args below meth c Q G z X0 w) : am_Sm p l e R s m args below meth c Q G z X0 (pc, ls, st, M, X) := by
  obtain ⟨hx, hb, hml, hown, hts, hK, hU, hN, hX, hbb, hlk, hst, hini⟩ := C
  simp only [am_st, am_ex] at h
  intro H locs lsc hH hS hl
  split at h
  · cases h
  rename_i ci j hf
  obtain ⟨l0, st1, rfl, h_1⟩ := am_popP_i h
  obtain ⟨hal, hkd, h_2⟩ := am_chk_i h_1
  obtain ⟨hw, hj, hci, hdc⟩ := am_fl_w hf
  have hl0 := am_kd_ne hkd (by decide)
  have hc0 := hH.1 l0 hal hl0
  unfold am_cell at hc0
  simp only [hkd] at hc0
  have hv : W p l e R s m args below meth c H locs (X.2.2.1 - X0.2.2.1) (X.2.2.2.1 - X0.2.2.2.1) Q (F0 m (pc + 3) lsc (am_fv G ci M X.1 l0 j :: st1.map (am_tv G))) := by
    unfold am_fv
    split at h_2
    · rename_i hk; cases h_2; rw [if_pos hk]; exact K H locs lsc hH hS hl
    · rename_i hk; cases h_2; rw [if_neg hk]; exact K H locs lsc hH hS hl
  show W p l e R s m args below meth c H locs _ _ Q (F0 m pc lsc (am_rv G (some l0) :: st1.map (am_tv G)))
  rw [am_rv_ref hl0]
  obtain ⟨cell, q1, q2, q3, q4⟩ := hc0
  obtain ⟨hS2, hfc, kC, hkC, hkind⟩ := hK.1 ci _ (am_cl_at ci hci)
  obtain ⟨cf, kf, fi, f, hi, hsl⟩ := hS2 j hj
  exact W.getf hx hb hown (hts _ hw) (by rw [← hdc]; exact hi) (u_facts hfc hkC (u_lays hts (am_cl_in ci hci) hj) hi).1 q1 (by rw [q3]; exact fun h_2 => by cases h_2) (v := am_fv G ci M X.1 l0 j) (by rw [hsl]; exact q4 j hj) rfl rfl dg hv
end AmSound
end
section
/-! READS AND WRITES OF THE HEAP ARE KEPT -/
theorem am_ref_ty : ∀ ci, ci < 10 → ∀ j, j < am_cN ci → am_fk ci j = 3 → (am_cY ci j).isReference = true := by decide +kernel
theorem am_def_ty : ∀ ci, ci < 10 → ∀ j, j < am_cN ci → defaultValue (am_cY ci j) = if am_fk ci j = 3 then .null else .int 0 := by decide +kernel
theorem am_ref_fits {ty : FieldType} {a : Nat} (h : ty.isReference = true) : narrow ty (.ref a) = .ref a ∧ fits ty (.ref a) = true := by
  cases ty <;> first | exact ⟨rfl, rfl⟩ | (exact absurd h (by decide))
theorem am_set_ne {M : am_M} {l l' : am_L} {j : Nat} {x : Int32} (h : l' ≠ l) : am_set M l j x l' = M l' := by
  funext k; unfold am_set; rw [if_neg (fun q => h q.1)]
theorem am_set_self {M : am_M} {l : am_L} {j : Nat} {x : Int32} : am_set M l j x l = upd (M l) j x := by
  funext k; unfold am_set upd; simp
theorem am_setT_ne {M : am_T} {l l' : am_L} {j : Nat} {x : Option am_L} (h : l' ≠ l) : am_setT M l j x l' = M l' := by
  funext k; unfold am_setT; rw [if_neg (fun q => h q.1)]
theorem am_kd_arr {l : am_L} {k a b : Nat} (h : am_kd l = (k, a, b)) : a ≤ 4000 ∧ b ≤ 4000 := by
  obtain ⟨t, n, q⟩ := l
  simp only [am_kd] at h
  split at h <;> simp only [Prod.mk.injEq] at h <;> omega
theorem am_kd_3 {G : am_Γ} {l : am_L} {ci n : Nat} (h : am_kd l = (3, ci, n)) : (∃ k : Nat, (am_tys G)[k]? = some (G.2.2.2.1 (10 + ci), FieldType.object (am_cR ci))) ∧ ci ∈ [0, 2, 4, 5, 7] := by
  obtain ⟨t, m, q⟩ := l
  simp only [am_kd] at h
  split at h <;> simp only [Prod.mk.injEq] at h <;> first
    | (exact absurd h.1 (by decide))
    | (obtain ⟨-, rfl, -⟩ := h; first | exact ⟨⟨4, rfl⟩, by decide⟩ | exact ⟨⟨5, rfl⟩, by decide⟩ | exact ⟨⟨6, rfl⟩, by decide⟩ | exact ⟨⟨7, rfl⟩, by decide⟩ | exact ⟨⟨8, rfl⟩, by decide⟩)
theorem am_ao_w {ci : Nat} (h : ci ∈ [0, 2, 4, 5, 7]) : Cond.arrayOver (.object (am_cR ci)) ∈ am_W := by
  obtain ⟨i, hi⟩ := am_al2_in am_ao_ok _ h
  exact am_at_in hi
theorem am_ac_w {t : FieldType} (h : t ∈ [FieldType.int, .char, .long, .double]) : Cond.arrayClass t ∈ am_W := by
  obtain ⟨i, hi⟩ := am_al2_in am_ac_ok _ h
  exact am_at_in hi
theorem am_ins_w {ci : Nat} (h : ci < 10) : Cond.instantiable (am_cR ci) (am_cN ci) ∈ am_W := by
  obtain ⟨i, hi⟩ := am_al2_in am_ins_ok _ (List.mem_range.mpr h)
  exact am_at_in hi
theorem am_init_w {ci : Nat} (h : ci < 11) : Cond.initialized (am_cR ci) ∈ am_W := by
  obtain ⟨i, hi⟩ := am_al2_in am_init_ok _ (List.mem_range.mpr h)
  exact am_at_in hi
theorem am_ob_w {w : Cond} (h : w ∈ am_ob) : w ∈ am_W := by
  obtain ⟨i, hi⟩ := am_al2_in am_ob_ok _ h
  exact am_at_in hi
def am_le (X Y : am_X) : Prop := X.2.2.1 ≤ Y.2.2.1 ∧ X.2.2.2.1 ≤ Y.2.2.2.1
theorem va_S.am {A : Nat → Prop} {H0 H H1 : Heap} {locs L : List Loc} (h : va_S A H0 H locs) (hz : H.size ≤ H1.size) (ho : ∀ q : Nat, q < H.size → ¬ A q → H1[q]? = H[q]?) (hL : ∀ x ∈ L, A x.base) : va_S A H0 H1 (locs ++ L) :=
  ⟨Nat.le_trans h.1 hz, fun q h1 h2 => (ho q (Nat.lt_of_lt_of_le h1 h.1) h2).trans (h.2.1 q h1 h2), fun x hx => (List.mem_append.mp hx).elim (h.2.2 x) (hL x)⟩
section AmHeap
variable {p : Program} {l : Launch} {e : Env} {R : Room} {s : State} {m : MethodId} {args : Array Value} {below : List Frame} {meth : Method} {c : Code} {Q : State → Prop} {G : am_Γ} {z : Nat} {X0 : am_X} {call : Nat → List am_V → am_M → am_X → Option am_R} {pc : Nat} {ls : am_S} {st : List am_V} {M : am_M} {X : am_X}
theorem am_adr_A {l0 : am_L} : am_A G (am_adr G l0) := Nat.le_add_right _ _
/-- putfield of a value at a known object -/
theorem am_Wput {H : Heap} {locs : List Loc} {cells slots : Nat} {lsc : Array Slot} {rest : List Value} (C : am_Cx p l s m args meth c G z) {ix ci j a : Nat} {V : Nat → Value} {vv : Value} (dg : decode (am_by z) pc = .ok (.putfield ix, 3)) (hf : am_fl (am_own z) ix = some (ci, j)) (hff : ¬ (am_ff ci j = true ∧ ¬ (am_ini z = true ∧ am_own z = ci)))
    (hcell : t_OB a (G.2.2.1.1 ci) (am_cN ci) (G.2.2.1.2 ci) H V) (hn : narrow (am_cY ci j) vv = vv) (hfit : fits (am_cY ci j) vv = true)
    (kk : ∀ H' : Heap, H'.size = H.size → (∀ q : Nat, q ≠ a → H'[q]? = H[q]?) → t_OB a (G.2.2.1.1 ci) (am_cN ci) (G.2.2.1.2 ci) H' (updV V j vv) → W p l e R s m args below meth c H' (locs ++ [⟨a, G.2.2.1.2 ci j⟩]) cells slots Q (F0 m (pc + 3) lsc rest)) :
    W p l e R s m args below meth c H locs cells slots Q (F0 m pc lsc (vv :: .ref a :: rest)) := by
  obtain ⟨hx, hb, hml, hown, hts, hK, hU, hN, hX, hbb, hlk, hst, hini⟩ := C
  obtain ⟨hw, hj, hci, hdc⟩ := am_fl_w hf
  have hcl := am_cl_at ci hci
  have hin := am_cl_in ci hci
  have hap := va_apart (own := am_cR (am_own z)) hts hin (am_cY ci) (am_cY_ok ci hci) (am_nm_ok ci hci) hK hcl
  obtain ⟨cell, q1, q2, q3, q4⟩ := hcell
  obtain ⟨hS, hfc, kC, hkC, hkind⟩ := hK.1 ci _ hcl
  obtain ⟨cf, kf, fi, f, hi, hsl⟩ := hS j hj
  have hlay := hts _ (hin _ (u_in_lay hj))
  have hd := am_cY_ok ci hci j hj
  have hst := (u_facts hfc hkC (u_lays hts hin hj) hi).1
  unfold u_lay at hlay
  cases hfin : (am_cT ci j).2.2.2 with
  | false =>
    rw [if_neg (by rw [hfin]; decide)] at hlay
    have h6 := u_store hfc hkC hkind hlay hi hd hn hfit
    refine W.putK hx hb (f := f) ⟨hown, hts _ hw, ⟨_, _, _, by rw [← hdc]; exact hi⟩, hst⟩ (by rw [q2]; exact h6) q1 q3 (by rw [hsl]; exact k2_hasslot (q4 j hj)) rfl rfl dg fun H' e1 e2 e3 => ?_
    rw [hsl] at e1 ⊢
    exact kk H' e2 e3 ⟨_, e1, q2, q3, t_set q4 hap hj vv⟩
  | true =>
    rw [if_pos hfin] at hlay
    have hcf : m.cls = cf := by
      obtain ⟨_, _, c', _, _, _, -, -, hf', -, -, -, hown2, -⟩ := Cond.laysFinal_spec hlay
      have e1 : c' = cf := by have := hi.symm.trans hf'; simp at this; exact this.1.symm
      have e0 : am_own z = ci := Classical.byContradiction fun q => hff ⟨hfin, fun w => q w.2⟩
      rw [hdc, ← e0] at hown2
      rw [← e1]; exact Option.some.inj (hown.symm.trans hown2)
    have hin2 : meth.name = "<init>" := hini (Classical.byContradiction fun q => hff ⟨hfin, fun w => q w.1⟩)
    have h6 := u_fits hfc hkC hkind (Or.inr hlay) hi hd hn hfit
    refine W.putFinK hx hb hown (hts _ hw) (by rw [← hdc]; exact hi) hst hcf hin2 (by rw [q2]; exact h6) q1 q3 (by rw [hsl]; exact k2_hasslot (q4 j hj)) rfl rfl dg fun H' e1 e2 e3 => ?_
    rw [hsl] at e1 ⊢
    exact kk H' e2 e3 ⟨_, e1, q2, q3, t_set q4 hap hj vv⟩
theorem am_s_putfield {ix : Nat} (C : am_Cx p l s m args meth c G z) (dg : decode (am_by z) pc = .ok (.putfield ix, 3)) {w} (h : am_st call z (.putfield ix) pc ls st M X = some (.inl w)) (K : am_Sm p l e R s m args below meth c Q G z X0 w) : am_Sm p l e R s m args below meth c Q G z X0 (pc, ls, st, M, X) := by
  simp only [am_st, am_ex] at h
  intro H locs lsc hH hS hl
  dsimp only at hH hl ⊢
  split at h
  · cases h
  rename_i ci j hf
  obtain ⟨hff, h1⟩ := am_ifn_i h
  obtain ⟨hw, hj, hci, hdc⟩ := am_fl_w hf
  split at h1
  · rename_i hk
    obtain ⟨v, st1, rfl, h2⟩ := am_popP_i h1
    obtain ⟨l0, st2, rfl, h3⟩ := am_popP_i h2
    obtain ⟨hal, hkd, h4⟩ := am_chk_i h3
    obtain ⟨hv, h5⟩ := am_if_i h4
    cases h5
    have hl0 := am_kd_ne hkd (by decide)
    have hc0 := hH.1 l0 hal hl0
    unfold am_cell at hc0
    simp only [hkd] at hc0
    show W p l e R s m args below meth c H locs _ _ Q (F0 m pc lsc (am_rv G (some v) :: am_rv G (some l0) :: st2.map (am_tv G)))
    rw [am_rv_ref hl0]
    obtain ⟨f1, f2⟩ := am_ref_fits (a := if v.1 = 0 then G.2.1 else am_adr G v) (am_ref_ty ci hci j hj hk)
    refine am_Wput C dg hf hff hc0 f1 f2 (fun H' hz ho hc1 => ?_)
    refine K H' _ lsc (am_HR.upd hH hal hl0 hz ho (fun _ _ => rfl) (fun l' h => am_setT_ne h) rfl (fun _ => rfl) (fun _ => rfl) ?_) (hS.am (Nat.le_of_eq hz.symm) (fun q _ hq => ho q (fun z => hq (by rw [z]; exact am_adr_A))) (fun x hx => by rw [List.mem_singleton.mp hx]; exact am_adr_A)) hl
    unfold am_cell
    simp only [hkd]
    refine hc1.to (fun k _ => ?_)
    unfold updV am_fv am_setT
    by_cases hkj : k = j
    · subst hkj
      simp [hk, am_rv]
    · simp [hkj]
  · rename_i hk
    obtain ⟨x, st1, rfl, h2⟩ := am_popI_i h1
    obtain ⟨l0, st2, rfl, h3⟩ := am_popP_i h2
    obtain ⟨hal, hkd, h4⟩ := am_chk_i h3
    obtain ⟨hv, h5⟩ := am_if_i h4
    cases h5
    have hl0 := am_kd_ne hkd (by decide)
    have hc0 := hH.1 l0 hal hl0
    unfold am_cell at hc0
    simp only [hkd] at hc0
    show W p l e R s m args below meth c H locs _ _ Q (F0 m pc lsc (.int x :: am_rv G (some l0) :: st2.map (am_tv G)))
    rw [am_rv_ref hl0]
    obtain ⟨f1, f2⟩ := am_pc_nar hci hj hv
    refine am_Wput C dg hf hff hc0 f1 f2 (fun H' hz ho hc1 => ?_)
    refine K H' _ lsc (am_HR.upd hH hal hl0 hz ho (fun l' h => am_set_ne h) (fun l' h => rfl) rfl (fun _ => rfl) (fun _ => rfl) ?_) (hS.am (Nat.le_of_eq hz.symm) (fun q _ hq => ho q (fun z => hq (by rw [z]; exact am_adr_A))) (fun x hx => by rw [List.mem_singleton.mp hx]; exact am_adr_A)) hl
    unfold am_cell
    simp only [hkd]
    refine hc1.to (fun k _ => ?_)
    unfold updV am_fv
    rw [am_set_self]
    unfold upd
    by_cases hkj : k = j
    · subst hkj
      simp [hk]
    · simp [hkj]
theorem am_arr_eq {cA : ClassId} {n : Nat} {f g : Nat → Value} (h : ∀ k, k < n → f k = g k) : some (arrV cA n f) = some (arrV cA n g) := by
  have e : Array.ofFn (n := n) (fun j => f j.val) = Array.ofFn (n := n) fun j => g j.val := congrArg (Array.ofFn (n := n)) (funext fun j => h j.val j.isLt)
  unfold arrV
  rw [e]
theorem am_in_sz {cA : ClassId} {n : Nat} {f : Nat → Value} {i : Int32} (h : vp_in i n) : ¬ (i < 0 ∨ (arrV cA n f).slots.size ≤ i.toNatClampNeg) := by rw [arrV_size]; exact h
theorem am_in_lt {n : Nat} {i : Int32} (h : vp_in i n) : i.toNatClampNeg < n := Nat.not_le.mp fun q => h (Or.inr q)
/-- an array's cell -/
theorem am_cell_1 {H : Heap} {l0 : am_L} {n b : Nat} (hkd : am_kd l0 = (1, n, b)) : am_cell G M X l0 H ↔ H[am_adr G l0]? = some (arrV (G.2.2.2.1 0) n (fun j => .int (M l0 j))) := by unfold am_cell; simp only [hkd]
theorem am_cell_2 {H : Heap} {l0 : am_L} {n b : Nat} (hkd : am_kd l0 = (2, n, b)) : am_cell G M X l0 H ↔ H[am_adr G l0]? = some (arrV (G.2.2.2.1 1) n (fun j => .int (M l0 j))) := by unfold am_cell; simp only [hkd]
theorem am_cell_3 {H : Heap} {l0 : am_L} {n b : Nat} (hkd : am_kd l0 = (3, n, b)) : am_cell G M X l0 H ↔ H[am_adr G l0]? = some (arrV (G.2.2.2.1 (10 + n)) b (fun j => am_rv G (X.1 l0 j))) := by unfold am_cell; simp only [hkd]
theorem am_cell_4 {H : Heap} {l0 : am_L} {n b : Nat} (hkd : am_kd l0 = (4, n, b)) : am_cell G M X l0 H ↔ H[am_adr G l0]? = some (arrV (G.2.2.2.1 2) 1 (fun _ => .long X.2.2.2.2.1)) := by unfold am_cell; simp only [hkd]
theorem am_cell_5 {H : Heap} {l0 : am_L} {n b : Nat} (hkd : am_kd l0 = (5, n, b)) : am_cell G M X l0 H ↔ H[am_adr G l0]? = some (arrV (G.2.2.2.1 3) 1 (fun _ => .double X.2.2.2.2.2)) := by unfold am_cell; simp only [hkd]
theorem am_s_iaload (C : am_Cx p l s m args meth c G z) (dg : decode (am_by z) pc = .ok (.iaload, 1)) {w} (h : am_st call z .iaload pc ls st M X = some (.inl w)) (K : am_Sm p l e R s m args below meth c Q G z X0 w) : am_Sm p l e R s m args below meth c Q G z X0 (pc, ls, st, M, X) := by
  obtain ⟨hx, hb, hml, hown, hts, hK, hU, hN, hX, hbb, hlk, hst, hini⟩ := C
  simp only [am_st, am_ex] at h
  intro H locs lsc hH hS hl
  dsimp only at hH hl ⊢
  obtain ⟨i, st1, rfl, h1⟩ := am_popI_i h
  obtain ⟨l0, st2, rfl, h2⟩ := am_popP_i h1
  split at h2
  · obtain ⟨⟨rfl, hi⟩, h3⟩ := am_if_i h2
    cases h3
    have hL : (M (0, 0, 1) 0).toNatClampNeg = G.2.2.2.2.1 := by
      rw [hH.2.1.1]
      exact nI_clamp (by omega)
    rw [hL] at hi
    have hi : vp_in i G.2.2.2.2.1 := hi
    show W p l e R s m args below meth c H locs _ _ Q (F0 m pc lsc (.int i :: .ref G.2.1 :: st2.map (am_tv G)))
    refine va_sld (A := am_A G) hx hb hX (by omega) (by show ¬ G.1 ≤ G.2.1; omega) hS hi dg ?_
    rw [← hH.2.1.2 _ (am_in_lt hi)]
    exact K H locs lsc hH hS hl
  · obtain ⟨hal, hkd, hi, h3⟩ := am_arr_i h2
    cases h3
    have hl0 := am_kd_ne hkd (by decide)
    show W p l e R s m args below meth c H locs _ _ Q (F0 m pc lsc (.int i :: am_rv G (some l0) :: st2.map (am_tv G)))
    rw [am_rv_ref hl0]
    exact W.iald (v := .int (M l0 i.toNatClampNeg)) hx hb ((am_cell_1 hkd).mp (hH.1 l0 hal hl0)) ((hK.2 0 _ rfl).1 _ _) (fun q => by cases q) (am_in_sz hi) (by rw [arrV_read _ _ (am_in_lt hi)]) rfl rfl dg (K H locs lsc hH hS hl)
theorem am_s_caload (C : am_Cx p l s m args meth c G z) (dg : decode (am_by z) pc = .ok (.caload, 1)) {w} (h : am_st call z .caload pc ls st M X = some (.inl w)) (K : am_Sm p l e R s m args below meth c Q G z X0 w) : am_Sm p l e R s m args below meth c Q G z X0 (pc, ls, st, M, X) := by
  obtain ⟨hx, hb, hml, hown, hts, hK, hU, hN, hX, hbb, hlk, hst, hini⟩ := C
  simp only [am_st, am_ex] at h
  intro H locs lsc hH hS hl
  dsimp only at hH hl ⊢
  obtain ⟨i, st1, rfl, h1⟩ := am_popI_i h
  obtain ⟨l0, st2, rfl, h2⟩ := am_popP_i h1
  obtain ⟨hal, hkd, hi, h3⟩ := am_arr_i h2
  cases h3
  have hl0 := am_kd_ne hkd (by decide)
  show W p l e R s m args below meth c H locs _ _ Q (F0 m pc lsc (.int i :: am_rv G (some l0) :: st2.map (am_tv G)))
  rw [am_rv_ref hl0]
  exact W.cald (v := .int (M l0 i.toNatClampNeg)) hx hb ((am_cell_2 hkd).mp (hH.1 l0 hal hl0)) ((hK.2 1 _ rfl).1 _ _) (fun q => by cases q) (am_in_sz hi) (by rw [arrV_read _ _ (am_in_lt hi)]) rfl rfl dg (K H locs lsc hH hS hl)
theorem am_s_aaload (C : am_Cx p l s m args meth c G z) (dg : decode (am_by z) pc = .ok (.aaload, 1)) {w} (h : am_st call z .aaload pc ls st M X = some (.inl w)) (K : am_Sm p l e R s m args below meth c Q G z X0 w) : am_Sm p l e R s m args below meth c Q G z X0 (pc, ls, st, M, X) := by
  obtain ⟨hx, hb, hml, hown, hts, hK, hU, hN, hX, hbb, hlk, hst, hini⟩ := C
  simp only [am_st, am_ex] at h
  intro H locs lsc hH hS hl
  dsimp only at hH hl ⊢
  obtain ⟨i, st1, rfl, h1⟩ := am_popI_i h
  obtain ⟨l0, st2, rfl, h2⟩ := am_popP_i h1
  obtain ⟨hal, hkd, hi, h3⟩ := am_arr_i h2
  cases h3
  have hl0 := am_kd_ne hkd (by decide)
  obtain ⟨⟨k, hk⟩, -⟩ := am_kd_3 (G := G) hkd
  show W p l e R s m args below meth c H locs _ _ Q (F0 m pc lsc (.int i :: am_rv G (some l0) :: st2.map (am_tv G)))
  rw [am_rv_ref hl0]
  exact W.aald (v := am_rv G (X.1 l0 i.toNatClampNeg)) (ty := .object _) hx hb ((am_cell_3 hkd).mp (hH.1 l0 hal hl0)) ((hK.2 k _ hk).1 _ _) rfl (fun q => by cases q) (am_in_sz hi) (by rw [arrV_read _ _ (am_in_lt hi)]) rfl rfl dg (K H locs lsc hH hS hl)
theorem am_s_laload (C : am_Cx p l s m args meth c G z) (dg : decode (am_by z) pc = .ok (.laload, 1)) {w} (h : am_st call z .laload pc ls st M X = some (.inl w)) (K : am_Sm p l e R s m args below meth c Q G z X0 w) : am_Sm p l e R s m args below meth c Q G z X0 (pc, ls, st, M, X) := by
  obtain ⟨hx, hb, hml, hown, hts, hK, hU, hN, hX, hbb, hlk, hst, hini⟩ := C
  simp only [am_st, am_ex] at h
  intro H locs lsc hH hS hl
  dsimp only at hH hl ⊢
  obtain ⟨i, st1, rfl, h1⟩ := am_popI_i h
  obtain ⟨l0, st2, rfl, h2⟩ := am_popP_i h1
  obtain ⟨hal, hkd, hi, h3⟩ := am_arr_i h2
  cases h3
  have hl0 := am_kd_ne hkd (by decide)
  show W p l e R s m args below meth c H locs _ _ Q (F0 m pc lsc (.int i :: am_rv G (some l0) :: st2.map (am_tv G)))
  rw [am_rv_ref hl0]
  exact W.lald (v := .long X.2.2.2.2.1) hx hb ((am_cell_4 hkd).mp (hH.1 l0 hal hl0)) ((hK.2 2 _ rfl).1 _ _) (fun q => by cases q) (am_in_sz hi) (by rw [arrV_read _ _ (am_in_lt hi)]) rfl rfl dg (K H locs lsc hH hS hl)
theorem am_s_daload (C : am_Cx p l s m args meth c G z) (dg : decode (am_by z) pc = .ok (.daload, 1)) {w} (h : am_st call z .daload pc ls st M X = some (.inl w)) (K : am_Sm p l e R s m args below meth c Q G z X0 w) : am_Sm p l e R s m args below meth c Q G z X0 (pc, ls, st, M, X) := by
  obtain ⟨hx, hb, hml, hown, hts, hK, hU, hN, hX, hbb, hlk, hst, hini⟩ := C
  simp only [am_st, am_ex] at h
  intro H locs lsc hH hS hl
  dsimp only at hH hl ⊢
  obtain ⟨i, st1, rfl, h1⟩ := am_popI_i h
  obtain ⟨l0, st2, rfl, h2⟩ := am_popP_i h1
  obtain ⟨hal, hkd, hi, h3⟩ := am_arr_i h2
  cases h3
  have hl0 := am_kd_ne hkd (by decide)
  show W p l e R s m args below meth c H locs _ _ Q (F0 m pc lsc (.int i :: am_rv G (some l0) :: st2.map (am_tv G)))
  rw [am_rv_ref hl0]
  exact W.dald (v := .double X.2.2.2.2.2) hx hb ((am_cell_5 hkd).mp (hH.1 l0 hal hl0)) ((hK.2 3 _ rfl).1 _ _) (fun q => by cases q) (am_in_sz hi) (by rw [arrV_read _ _ (am_in_lt hi)]) rfl rfl dg (K H locs lsc hH hS hl)
/-- after a store into an array: the world, and what was written -/
theorem am_stored {H H' : Heap} {locs : List Loc} {lsc : Array Slot} {l0 : am_L} {k : Nat} {M' : am_M} {X' : am_X} {pc' : Nat} {st' : List am_V} (hH : am_HR G M X H) (hS : va_S (am_A G) s.heap H locs) (hl : am_lv G (am_mL z) ls lsc) (hal : am_al X.2.1 l0 = true) (hl0 : l0.1 ≠ 0) (hz : H'.size = H.size) (ho : ∀ q : Nat, q ≠ am_adr G l0 → H'[q]? = H[q]?)
    (hM : ∀ l', l' ≠ l0 → M' l' = M l') (hT : ∀ l', l' ≠ l0 → X'.1 l' = X.1 l') (hph : X'.2.1 = X.2.1) (hc : X'.2.2.1 = X.2.2.1) (hs : X'.2.2.2.1 = X.2.2.2.1) (h4 : l0 ≠ (1, 0, 0) → X'.2.2.2.2.1 = X.2.2.2.2.1) (h5 : l0 ≠ (2, 0, 0) → X'.2.2.2.2.2 = X.2.2.2.2.2) (hcl : am_cell G M' X' l0 H')
    (K : am_Sm p l e R s m args below meth c Q G z X0 (pc', ls, st', M', X')) : W p l e R s m args below meth c H' (locs ++ [⟨am_adr G l0, k⟩]) (X.2.2.1 - X0.2.2.1) (X.2.2.2.1 - X0.2.2.2.1) Q (F0 m pc' lsc (st'.map (am_tv G))) := by
  have h := K H' (locs ++ [⟨am_adr G l0, k⟩]) lsc (am_HR.upd hH hal hl0 hz ho hM hT hph h4 h5 hcl) (hS.am (Nat.le_of_eq hz.symm) (fun q _ hq => ho q (fun z => hq (by rw [z]; exact am_adr_A))) (fun x hx => by rw [List.mem_singleton.mp hx]; exact am_adr_A)) hl
  dsimp only at h
  rw [hc, hs] at h
  exact h
theorem am_s_iastore (C : am_Cx p l s m args meth c G z) (dg : decode (am_by z) pc = .ok (.iastore, 1)) {w} (h : am_st call z .iastore pc ls st M X = some (.inl w)) (K : am_Sm p l e R s m args below meth c Q G z X0 w) : am_Sm p l e R s m args below meth c Q G z X0 (pc, ls, st, M, X) := by
  obtain ⟨hx, hb, hml, hown, hts, hK, hU, hN, hX, hbb, hlk, hst, hini⟩ := C
  simp only [am_st, am_ex] at h
  intro H locs lsc hH hS hl
  dsimp only at hH hl ⊢
  obtain ⟨x, st1, rfl, h1⟩ := am_popI_i h
  obtain ⟨i, st2, rfl, h2⟩ := am_popI_i h1
  obtain ⟨l0, st3, rfl, h3⟩ := am_popP_i h2
  obtain ⟨hal, hkd, hi, h4⟩ := am_arr_i h3
  cases h4
  have hl0 := am_kd_ne hkd (by decide)
  show W p l e R s m args below meth c H locs _ _ Q (F0 m pc lsc (.int x :: .int i :: am_rv G (some l0) :: st3.map (am_tv G)))
  rw [am_rv_ref hl0]
  refine W.iast hx hb ((am_cell_1 hkd).mp (hH.1 l0 hal hl0)) ((hK.2 0 _ rfl).1 _ _) (fun q => by cases q) (am_in_sz hi) rfl rfl dg (fun H' e1 hz ho => ?_)
  refine am_stored hH hS hl hal hl0 hz ho (fun l' h => am_set_ne h) (fun _ _ => rfl) rfl rfl rfl (fun _ => rfl) (fun _ => rfl) ?_ K
  rw [am_cell_1 hkd, e1, arrV_store]
  refine am_arr_eq (fun k _ => ?_)
  rw [am_set_self]
  unfold updV upd
  split <;> rfl
theorem am_s_castore (C : am_Cx p l s m args meth c G z) (dg : decode (am_by z) pc = .ok (.castore, 1)) {w} (h : am_st call z .castore pc ls st M X = some (.inl w)) (K : am_Sm p l e R s m args below meth c Q G z X0 w) : am_Sm p l e R s m args below meth c Q G z X0 (pc, ls, st, M, X) := by
  obtain ⟨hx, hb, hml, hown, hts, hK, hU, hN, hX, hbb, hlk, hst, hini⟩ := C
  simp only [am_st, am_ex] at h
  intro H locs lsc hH hS hl
  dsimp only at hH hl ⊢
  obtain ⟨x, st1, rfl, h1⟩ := am_popI_i h
  obtain ⟨i, st2, rfl, h2⟩ := am_popI_i h1
  obtain ⟨l0, st3, rfl, h3⟩ := am_popP_i h2
  obtain ⟨hal, hkd, hi, h4⟩ := am_arr_i h3
  cases h4
  have hl0 := am_kd_ne hkd (by decide)
  show W p l e R s m args below meth c H locs _ _ Q (F0 m pc lsc (.int x :: .int i :: am_rv G (some l0) :: st3.map (am_tv G)))
  rw [am_rv_ref hl0]
  refine W.cast hx hb ((am_cell_2 hkd).mp (hH.1 l0 hal hl0)) ((hK.2 1 _ rfl).1 _ _) (fun q => by cases q) (am_in_sz hi) rfl rfl dg (fun H' e1 hz ho => ?_)
  refine am_stored hH hS hl hal hl0 hz ho (fun l' h => am_set_ne h) (fun _ _ => rfl) rfl rfl rfl (fun _ => rfl) (fun _ => rfl) ?_ K
  rw [am_cell_2 hkd, e1, arrV_store]
  refine am_arr_eq (fun k _ => ?_)
  rw [am_set_self]
  unfold updV upd
  split
  · simp [vp_nar]
    try rfl
  · rfl
theorem am_s_lastore (C : am_Cx p l s m args meth c G z) (dg : decode (am_by z) pc = .ok (.lastore, 1)) {w} (h : am_st call z .lastore pc ls st M X = some (.inl w)) (K : am_Sm p l e R s m args below meth c Q G z X0 w) : am_Sm p l e R s m args below meth c Q G z X0 (pc, ls, st, M, X) := by
  obtain ⟨hx, hb, hml, hown, hts, hK, hU, hN, hX, hbb, hlk, hst, hini⟩ := C
  simp only [am_st, am_ex] at h
  intro H locs lsc hH hS hl
  dsimp only at hH hl ⊢
  obtain ⟨x, st1, rfl, h1⟩ := am_popJ_i h
  obtain ⟨i, st2, rfl, h2⟩ := am_popI_i h1
  obtain ⟨l0, st3, rfl, h3⟩ := am_popP_i h2
  obtain ⟨hal, hkd, hi, h4⟩ := am_arr_i h3
  cases h4
  have hl0 := am_kd_ne hkd (by decide)
  have h14 : l0 = (1, 0, 0) := am_kd4 (am_al_ok hal) (by rw [hkd])
  show W p l e R s m args below meth c H locs _ _ Q (F0 m pc lsc (.long x :: .int i :: am_rv G (some l0) :: st3.map (am_tv G)))
  rw [am_rv_ref hl0]
  refine W.last hx hb ((am_cell_4 hkd).mp (hH.1 l0 hal hl0)) ((hK.2 2 _ rfl).1 _ _) (fun q => by cases q) (am_in_sz hi) rfl rfl dg (fun H' e1 hz ho => ?_)
  refine am_stored (X' := (X.1, X.2.1, X.2.2.1, X.2.2.2.1, x, X.2.2.2.2.2)) hH hS hl hal hl0 hz ho (fun _ _ => rfl) (fun _ _ => rfl) rfl rfl rfl (fun h => absurd h14 h) (fun _ => rfl) ?_ K
  rw [am_cell_4 hkd, e1, arrV_store]
  have h0 : i.toNatClampNeg = 0 := by have := am_in_lt hi; omega
  refine am_arr_eq (fun k hk => ?_)
  have : k = 0 := by omega
  subst this
  simp [updV, h0]
theorem am_s_dastore (C : am_Cx p l s m args meth c G z) (dg : decode (am_by z) pc = .ok (.dastore, 1)) {w} (h : am_st call z .dastore pc ls st M X = some (.inl w)) (K : am_Sm p l e R s m args below meth c Q G z X0 w) : am_Sm p l e R s m args below meth c Q G z X0 (pc, ls, st, M, X) := by
  obtain ⟨hx, hb, hml, hown, hts, hK, hU, hN, hX, hbb, hlk, hst, hini⟩ := C
  simp only [am_st, am_ex] at h
  intro H locs lsc hH hS hl
  dsimp only at hH hl ⊢
  obtain ⟨x, st1, rfl, h1⟩ := am_popD_i h
  obtain ⟨i, st2, rfl, h2⟩ := am_popI_i h1
  obtain ⟨l0, st3, rfl, h3⟩ := am_popP_i h2
  obtain ⟨hal, hkd, hi, h4⟩ := am_arr_i h3
  cases h4
  have hl0 := am_kd_ne hkd (by decide)
  have h14 : l0 = (2, 0, 0) := am_kd5 (am_al_ok hal) (by rw [hkd])
  show W p l e R s m args below meth c H locs _ _ Q (F0 m pc lsc (.double x :: .int i :: am_rv G (some l0) :: st3.map (am_tv G)))
  rw [am_rv_ref hl0]
  refine W.dast hx hb ((am_cell_5 hkd).mp (hH.1 l0 hal hl0)) ((hK.2 3 _ rfl).1 _ _) (fun q => by cases q) (am_in_sz hi) rfl rfl dg (fun H' e1 hz ho => ?_)
  refine am_stored (X' := (X.1, X.2.1, X.2.2.1, X.2.2.2.1, X.2.2.2.2.1, x)) hH hS hl hal hl0 hz ho (fun _ _ => rfl) (fun _ _ => rfl) rfl rfl rfl (fun _ => rfl) (fun h => absurd h14 h) ?_ K
  rw [am_cell_5 hkd, e1, arrV_store]
  have h0 : i.toNatClampNeg = 0 := by have := am_in_lt hi; omega
  refine am_arr_eq (fun k hk => ?_)
  have : k = 0 := by omega
  subst this
  simp [updV, h0]
theorem am_s_aastore (C : am_Cx p l s m args meth c G z) (dg : decode (am_by z) pc = .ok (.aastore, 1)) {w} (h : am_st call z .aastore pc ls st M X = some (.inl w)) (K : am_Sm p l e R s m args below meth c Q G z X0 w) : am_Sm p l e R s m args below meth c Q G z X0 (pc, ls, st, M, X) := by
  obtain ⟨hx, hb, hml, hown, hts, hK, hU, hN, hX, hbb, hlk, hst, hini⟩ := C
  simp only [am_st, am_ex] at h
  intro H locs lsc hH hS hl
  dsimp only at hH hl ⊢
  obtain ⟨v, st1, rfl, h1⟩ := am_popP_i h
  obtain ⟨i, st2, rfl, h2⟩ := am_popI_i h1
  obtain ⟨l0, st3, rfl, h3⟩ := am_popP_i h2
  obtain ⟨hal, hkd, hi, h4⟩ := am_arr_i h3
  obtain ⟨halv, hkv, h5⟩ := am_chk_i h4
  cases h5
  have hl0 := am_kd_ne hkd (by decide)
  have hv0 := am_kd_ne hkv (by decide)
  have hci := am_kd_ci hkv
  obtain ⟨⟨k, hk⟩, -⟩ := am_kd_3 (G := G) hkd
  show W p l e R s m args below meth c H locs _ _ Q (F0 m pc lsc (am_rv G (some v) :: .int i :: am_rv G (some l0) :: st3.map (am_tv G)))
  rw [am_rv_ref hl0, am_rv_ref hv0]
  have hcv := hH.1 v halv hv0
  unfold am_cell at hcv
  simp only [hkv] at hcv
  obtain ⟨cellV, g1, g2, g3, -⟩ := hcv
  have hcls := (hK.1 _ _ (am_cl_at _ hci)).2
  obtain ⟨kA, comp, k1, k2, k3, -⟩ := (hK.2 k _ hk).2
  have hcomp : comp = G.2.2.1.1 (am_kd l0).2.1 := Option.some.inj (k3.symm.trans hcls.1)
  subst hcomp
  obtain ⟨kC, hkC, -⟩ := hcls.2
  refine W.aast hx hb ((am_cell_3 hkd).mp (hH.1 l0 hal hl0)) (fun q h => by cases h) (fun h => by cases h) k1 k2 rfl hkC ⟨fun q => hi (Or.inl q), by rw [arrV_size]; exact am_in_lt hi⟩ g1 (fun q h => by rw [g3] at h; cases h) (by rw [g2]; exact hkC) (by rw [g2]; exact va_assign hcls) rfl rfl dg (fun H' e1 hz ho => ?_)
  refine am_stored (X' := (am_setT X.1 l0 i.toNatClampNeg (some v), X.2)) hH hS hl hal hl0 hz ho (fun _ _ => rfl) (fun l' h => am_setT_ne h) rfl rfl rfl (fun _ => rfl) (fun _ => rfl) ?_ K
  rw [am_cell_3 hkd, e1, arrV_store]
  refine am_arr_eq (fun q _ => ?_)
  unfold updV am_setT
  by_cases hq : q = i.toNatClampNeg
  · subst hq
    simp [am_rv_ref hv0]
  · simp [hq]
theorem am_s_alen (C : am_Cx p l s m args meth c G z) (dg : decode (am_by z) pc = .ok (.arraylength, 1)) {w} (h : am_st call z .arraylength pc ls st M X = some (.inl w)) (K : am_Sm p l e R s m args below meth c Q G z X0 w) : am_Sm p l e R s m args below meth c Q G z X0 (pc, ls, st, M, X) := by
  obtain ⟨hx, hb, hml, hown, hts, hK, hU, hN, hX, hbb, hlk, hst, hini⟩ := C
  simp only [am_st, am_ex] at h
  intro H locs lsc hH hS hl
  dsimp only at hH hl ⊢
  obtain ⟨l0, st1, rfl, h1⟩ := am_popP_i h
  obtain ⟨rfl, h2⟩ := am_if_i h1
  cases h2
  show W p l e R s m args below meth c H locs _ _ Q (F0 m pc lsc (.ref G.2.1 :: st1.map (am_tv G)))
  refine va_slen (A := am_A G) hx hb hX (by omega) (by show ¬ G.1 ≤ G.2.1; omega) hS dg ?_
  have h := K H locs lsc hH hS hl
  dsimp only at h
  rw [hH.2.1.1] at h
  exact h
/-- a new cell of ours -/
theorem am_made {H H' : Heap} {locs : List Loc} {lsc : Array Slot} {l0 : am_L} {c0 n pc' : Nat} {st' : List am_V} (hH : am_HR G M X H) (hS : va_S (am_A G) s.heap H locs) (hl : am_lv G (am_mL z) ls lsc) (hp : X.2.1 = some c0) (hok : am_ok l0 = true) (hl0 : l0.1 ≠ 0) (hc : am_ad l0 = c0) (hz : H'.size = H.size + 1) (ho : ∀ q : Nat, q < H.size → H'[q]? = H[q]?) (hle : am_le X0 X)
    (hcell : am_cell G M (X.1, some (c0 + 1), X.2.2.1 + 1, X.2.2.2.1 + n, X.2.2.2.2) l0 H') (K : am_Sm p l e R s m args below meth c Q G z X0 (pc', ls, .inr (some l0) :: st', M, (X.1, some (c0 + 1), X.2.2.1 + 1, X.2.2.2.1 + n, X.2.2.2.2))) :
    W p l e R s m args below meth c H' locs (X.2.2.1 - X0.2.2.1 + 1) (X.2.2.2.1 - X0.2.2.2.1 + n) Q (F0 m pc' lsc (.ref H.size :: st'.map (am_tv G))) := by
  have hsz : H.size = am_adr G l0 := by
    have h4 := hH.2.2
    rw [hp] at h4
    rw [h4.1, ← hc]; rfl
  have h := K H' locs lsc (am_HR.new hH hp hok hl0 hc hz ho rfl rfl rfl rfl hcell) (by have := hS.am (L := []) (H1 := H') (by omega) (fun q hq _ => ho q hq) (fun x hx => by cases hx); rwa [List.append_nil] at this) hl
  have h2 : W p l e R s m args below meth c H' locs (X.2.2.1 + 1 - X0.2.2.1) (X.2.2.2.1 + n - X0.2.2.2.1) Q (F0 m pc' lsc (am_rv G (some l0) :: st'.map (am_tv G))) := h
  rw [am_rv_ref hl0, ← hsz] at h2
  obtain ⟨g1, g2⟩ := hle
  exact W.cs (by omega) (by omega) h2
theorem am_s_new {ix ci : Nat} (C : am_Cx p l s m args meth c G z) (hnw : am_nw (am_own z) ix = some (.inl ci)) (dg : decode (am_by z) pc = .ok (.new ix, 3)) {w} (h : am_st call z (.new ix) pc ls st M X = some (.inl w)) (hle : am_le X0 X) (hrm : w.2.2.2.2.2.2.1 - X0.2.2.1 ≤ R.cells ∧ w.2.2.2.2.2.2.2.1 - X0.2.2.2.1 ≤ R.slots) (K : am_Sm p l e R s m args below meth c Q G z X0 w) : am_Sm p l e R s m args below meth c Q G z X0 (pc, ls, st, M, X) := by
  obtain ⟨hx, hb, hml, hown, hts, hK, hU, hN, hX, hbb, hlk, hst, hini⟩ := C
  simp only [am_st, am_ex, hnw] at h
  intro H locs lsc hH hS hl
  dsimp only at hH hl ⊢
  obtain ⟨c0, l0, hp, hok, had, hkd, hl0, h1⟩ := am_nu_i h
  cases h1
  obtain ⟨i, hi⟩ := am_al2_in am_nw_ok _ (am_look_in hnw)
  simp only [am_nww, Bool.and_eq_true, decide_eq_true_eq] at hi
  obtain ⟨-, hi, hci⟩ := hi
  obtain ⟨g1, g2⟩ := hle
  dsimp only at hrm
  have hKn := hK.1 ci _ (am_cl_at ci hci)
  have h4 := hH.2.2
  rw [hp] at h4
  dsimp only at h4
  refine W.newcK hx hb hown (hts _ (am_at_in hi)) (hts _ (am_ins_w hci)) (hts _ (am_init_w (by omega))) rfl dg (by omega) (by omega) hKn.2.1 rfl fun H' kC hkC e1 z1 o1 => ?_
  refine am_made hH hS hl hp hok hl0 had z1 o1 ⟨g1, g2⟩ ?_ K
  unfold am_cell
  simp only [hkd]
  have hb0 := u_born (am_cY ci) hts (am_cl_in ci hci) hKn hkC e1 (am_cY_ok ci hci)
  have hsz : H.size = am_adr G l0 := by rw [h4.1, ← had]; rfl
  rw [hsz] at hb0
  refine hb0.to (fun k hk => ?_)
  rw [am_def_ty ci hci k hk]
  obtain ⟨n1, n2⟩ := h4.2 l0 hok hl0 (by omega)
  unfold am_fv
  rw [n1, n2]
  rfl
theorem am_s_newint (C : am_Cx p l s m args meth c G z) (dg : decode (am_by z) pc = .ok (.newarray .int, 2)) {w} (h : am_st call z (.newarray .int) pc ls st M X = some (.inl w)) (hle : am_le X0 X) (hrm : w.2.2.2.2.2.2.1 - X0.2.2.1 ≤ R.cells ∧ w.2.2.2.2.2.2.2.1 - X0.2.2.2.1 ≤ R.slots) (K : am_Sm p l e R s m args below meth c Q G z X0 w) : am_Sm p l e R s m args below meth c Q G z X0 (pc, ls, st, M, X) := by
  obtain ⟨hx, hb, hml, hown, hts, hK, hU, hN, hX, hbb, hlk, hst, hini⟩ := C
  simp only [am_st, am_ex] at h
  intro H locs lsc hH hS hl
  dsimp only at hH hl ⊢
  obtain ⟨x, st1, rfl, h1⟩ := am_popI_i h
  obtain ⟨hn, h2⟩ := am_ifn_i h1
  obtain ⟨c0, l0, hp, hok, had, hkd, hl0, h3⟩ := am_nu_i h2
  cases h3
  obtain ⟨g1, g2⟩ := hle
  dsimp only at hrm
  have h4 := hH.2.2
  rw [hp] at h4
  dsimp only at h4
  have hsz : H.size = am_adr G l0 := by rw [h4.1, ← had]; rfl
  have hb4 := am_kd_arr hkd
  refine va_newaK hx hb (hts _ (am_ac_w (by simp [newarray.typeOf]))) rfl dg rfl hn rfl (by simp only [newarray.typeOf, componentBytes]; omega) (by omega) (by omega) rfl fun H' cA e1 z1 o1 _ hNm => ?_
  have hcA : cA = G.2.2.2.1 0 := Option.some.inj (hNm.symm.trans (hK.2 0 _ rfl).2)
  subst hcA
  refine am_made hH hS hl hp hok hl0 had z1 o1 ⟨g1, g2⟩ ?_ K
  rw [am_cell_1 hkd, ← hsz, e1]
  obtain ⟨n1, -⟩ := h4.2 l0 hok hl0 (by omega)
  refine am_arr_eq (fun j _ => ?_)
  rw [n1]; rfl
theorem am_s_newchar (C : am_Cx p l s m args meth c G z) (dg : decode (am_by z) pc = .ok (.newarray .char, 2)) {w} (h : am_st call z (.newarray .char) pc ls st M X = some (.inl w)) (hle : am_le X0 X) (hrm : w.2.2.2.2.2.2.1 - X0.2.2.1 ≤ R.cells ∧ w.2.2.2.2.2.2.2.1 - X0.2.2.2.1 ≤ R.slots) (K : am_Sm p l e R s m args below meth c Q G z X0 w) : am_Sm p l e R s m args below meth c Q G z X0 (pc, ls, st, M, X) := by
  obtain ⟨hx, hb, hml, hown, hts, hK, hU, hN, hX, hbb, hlk, hst, hini⟩ := C
  simp only [am_st, am_ex] at h
  intro H locs lsc hH hS hl
  dsimp only at hH hl ⊢
  obtain ⟨x, st1, rfl, h1⟩ := am_popI_i h
  obtain ⟨hn, h2⟩ := am_ifn_i h1
  obtain ⟨c0, l0, hp, hok, had, hkd, hl0, h3⟩ := am_nu_i h2
  cases h3
  obtain ⟨g1, g2⟩ := hle
  dsimp only at hrm
  have h4 := hH.2.2
  rw [hp] at h4
  dsimp only at h4
  have hsz : H.size = am_adr G l0 := by rw [h4.1, ← had]; rfl
  have hb4 := am_kd_arr hkd
  refine va_newaK hx hb (hts _ (am_ac_w (by simp [newarray.typeOf]))) rfl dg rfl hn rfl (by simp only [newarray.typeOf, componentBytes]; omega) (by omega) (by omega) rfl fun H' cA e1 z1 o1 _ hNm => ?_
  have hcA : cA = G.2.2.2.1 1 := Option.some.inj (hNm.symm.trans (hK.2 1 _ rfl).2)
  subst hcA
  refine am_made hH hS hl hp hok hl0 had z1 o1 ⟨g1, g2⟩ ?_ K
  rw [am_cell_2 hkd, ← hsz, e1]
  obtain ⟨n1, -⟩ := h4.2 l0 hok hl0 (by omega)
  refine am_arr_eq (fun j _ => ?_)
  rw [n1]; rfl
theorem am_s_anew {ix : Nat} (C : am_Cx p l s m args meth c G z) (dg : decode (am_by z) pc = .ok (.anewarray ix, 3)) {w} (h : am_st call z (.anewarray ix) pc ls st M X = some (.inl w)) (hle : am_le X0 X) (hrm : w.2.2.2.2.2.2.1 - X0.2.2.1 ≤ R.cells ∧ w.2.2.2.2.2.2.2.1 - X0.2.2.2.1 ≤ R.slots) (K : am_Sm p l e R s m args below meth c Q G z X0 w) : am_Sm p l e R s m args below meth c Q G z X0 (pc, ls, st, M, X) := by
  obtain ⟨hx, hb, hml, hown, hts, hK, hU, hN, hX, hbb, hlk, hst, hini⟩ := C
  simp only [am_st, am_ex] at h
  intro H locs lsc hH hS hl
  dsimp only at hH hl ⊢
  split at h
  · rename_i ci haw
    obtain ⟨x, st1, rfl, h1⟩ := am_popI_i h
    obtain ⟨hn, h2⟩ := am_ifn_i h1
    obtain ⟨c0, l0, hp, hok, had, hkd, hl0, h3⟩ := am_nu_i h2
    cases h3
    obtain ⟨i, hi⟩ := am_al2_in am_aw_ok _ (am_look_in haw)
    simp only [Bool.and_eq_true, decide_eq_true_eq] at hi
    obtain ⟨hi, hci⟩ := hi
    obtain ⟨g1, g2⟩ := hle
    dsimp only at hrm
    have h4 := hH.2.2
    rw [hp] at h4
    dsimp only at h4
    have hsz : H.size = am_adr G l0 := by rw [h4.1, ← had]; rfl
    have hb4 := am_kd_arr hkd
    obtain ⟨⟨k, hk⟩, hci5⟩ := am_kd_3 (G := G) hkd
    refine W.anew hx hb hown (hts _ (am_at_in hi)) (hts _ (am_ao_w hci5)) rfl dg rfl hn (by omega) (by omega) (by omega) fun cA kA comp f1 f2 f3 f4 => ?_
    obtain ⟨kA', comp', k1, k2, k3, k4⟩ := (hK.2 k _ hk).2
    have hcA : cA = G.2.2.2.1 (10 + ci) := Option.some.inj (f1.symm.trans k4)
    subst hcA
    refine am_made hH hS hl hp hok hl0 had (by simp) (fun q hq => by rw [Array.getElem?_push, if_neg (Nat.ne_of_lt hq)]) ⟨g1, g2⟩ ?_ K
    rw [am_cell_3 hkd, ← hsz, Array.getElem?_push_size]
    obtain ⟨-, n1⟩ := h4.2 l0 hok hl0 (by omega)
    have e : (fun j => am_rv G (X.1 l0 j)) = fun _ => Value.null := by funext j; rw [n1]; rfl
    rw [e, ← arrV_new]
  · cases h
theorem am_s_newlong (C : am_Cx p l s m args meth c G z) (dg : decode (am_by z) pc = .ok (.newarray .long, 2)) {w} (h : am_st call z (.newarray .long) pc ls st M X = some (.inl w)) (hle : am_le X0 X) (hrm : w.2.2.2.2.2.2.1 - X0.2.2.1 ≤ R.cells ∧ w.2.2.2.2.2.2.2.1 - X0.2.2.2.1 ≤ R.slots) (K : am_Sm p l e R s m args below meth c Q G z X0 w) : am_Sm p l e R s m args below meth c Q G z X0 (pc, ls, st, M, X) := by
  obtain ⟨hx, hb, hml, hown, hts, hK, hU, hN, hX, hbb, hlk, hst, hini⟩ := C
  simp only [am_st, am_ex] at h
  intro H locs lsc hH hS hl
  dsimp only at hH hl ⊢
  obtain ⟨x, st1, rfl, h1⟩ := am_popI_i h
  obtain ⟨⟨rfl, hlo⟩, h2⟩ := am_if_i h1
  obtain ⟨c0, l0, hp, hok, had, hkd, hl0, h3⟩ := am_nu_i h2
  cases h3
  obtain ⟨g1, g2⟩ := hle
  dsimp only at hrm
  have h4 := hH.2.2
  rw [hp] at h4
  dsimp only at h4
  have hsz : H.size = am_adr G l0 := by rw [h4.1, ← had]; rfl
  refine va_newaK (N := 1) hx hb (hts _ (am_ac_w (by simp [newarray.typeOf]))) rfl dg rfl (by decide) (by decide) (by simp only [newarray.typeOf, componentBytes]; omega) (by omega) (by omega) rfl fun H' cA e1 z1 o1 _ hNm => ?_
  have hcA : cA = G.2.2.2.1 2 := Option.some.inj (hNm.symm.trans (hK.2 2 _ rfl).2)
  subst hcA
  refine am_made hH hS hl hp hok hl0 had z1 o1 ⟨g1, g2⟩ ?_ K
  rw [am_cell_4 hkd, ← hsz, e1]
  dsimp only
  rw [hlo]
  rfl
theorem am_s_newdouble (C : am_Cx p l s m args meth c G z) (dg : decode (am_by z) pc = .ok (.newarray .double, 2)) {w} (h : am_st call z (.newarray .double) pc ls st M X = some (.inl w)) (hle : am_le X0 X) (hrm : w.2.2.2.2.2.2.1 - X0.2.2.1 ≤ R.cells ∧ w.2.2.2.2.2.2.2.1 - X0.2.2.2.1 ≤ R.slots) (K : am_Sm p l e R s m args below meth c Q G z X0 w) : am_Sm p l e R s m args below meth c Q G z X0 (pc, ls, st, M, X) := by
  obtain ⟨hx, hb, hml, hown, hts, hK, hU, hN, hX, hbb, hlk, hst, hini⟩ := C
  simp only [am_st, am_ex] at h
  intro H locs lsc hH hS hl
  dsimp only at hH hl ⊢
  obtain ⟨x, st1, rfl, h1⟩ := am_popI_i h
  obtain ⟨⟨rfl, hlo⟩, h2⟩ := am_if_i h1
  obtain ⟨c0, l0, hp, hok, had, hkd, hl0, h3⟩ := am_nu_i h2
  cases h3
  obtain ⟨g1, g2⟩ := hle
  dsimp only at hrm
  have h4 := hH.2.2
  rw [hp] at h4
  dsimp only at h4
  have hsz : H.size = am_adr G l0 := by rw [h4.1, ← had]; rfl
  refine va_newaK (N := 1) hx hb (hts _ (am_ac_w (by simp [newarray.typeOf]))) rfl dg rfl (by decide) (by decide) (by simp only [newarray.typeOf, componentBytes]; omega) (by omega) (by omega) rfl fun H' cA e1 z1 o1 _ hNm => ?_
  have hcA : cA = G.2.2.2.1 3 := Option.some.inj (hNm.symm.trans (hK.2 3 _ rfl).2)
  subst hcA
  refine am_made hH hS hl hp hok hl0 had z1 o1 ⟨g1, g2⟩ ?_ K
  rw [am_cell_5 hkd, ← hsz, e1]
  dsimp only
  rw [hlo]
  rfl
end AmHeap
end
section
/-! CONTRACTS OUT OF THE ABSTRACT MACHINE: the words, what a call says, growth -/
theorem am_W_warm {args a' : Array Value} {s U : State} (hW : s.WarmedH U.vm) {w : Cond} (hw : w ∈ am_W) (h : w.before args s = true) : w.before a' U = true := by
  have hg := (List.mem_filter.mp hw).2
  unfold am_gw at hg
  rw [Bool.or_eq_true] at hg
  rcases hg with hg | hg
  · exact word_at hW (good_of_word hg) h
  · split at hg
    · exact va_Nw.use rfl (va_Nw.warmC hW (va_Nw.of rfl h))
    · exact va_Nw.use rfl (va_Nw.warmM hW (va_Nw.of rfl h))
    · exact va_AO.use (va_AO.moved hW.alike (va_AO.of h))
    · exact va_Nw.use rfl (va_Nw.warmD hW (va_Nw.of rfl h))
    · cases hg
theorem am_z_facts {z : Nat} (hz : z < 227) : am_cw z ∈ am_W ∧ ((am_ks z = 0 → Cond.static (am_y z) ∈ am_W) ∧ (am_ks z = 1 → Cond.instanceMethod (am_y z) ∈ am_W ∧ Cond.selects (am_cR (am_own z)) (am_y z) (am_y z) ∈ am_W) ∧ (am_ks z = 2 → Cond.instanceMethod (am_y z) ∈ am_W ∧ (am_y z).name = "<init>") ∧ am_ks z < 3) ∧ (am_y z).cls = am_cR (am_own z) ∧ ((am_y z).cls ≠ "java/lang/invoke/MethodHandle" ∧ (am_y z).cls ≠ "java/lang/invoke/VarHandle") ∧ (parseMethodDescriptor (am_y z).desc).map (fun d => d.parameters.length) = some (am_na z) ∧ plainName (am_y z).cls = true ∧ am_own z < 11 ∧ am_ini z = (am_ks z == 2) ∧ am_mL z ≤ 12 ∧ am_na z + (if am_ks z = 0 then 0 else 1) ≤ am_mL z := by
  obtain ⟨q, h⟩ := am_zw_ok z hz
  unfold am_zw at h
  simp only [Bool.and_eq_true, decide_eq_true_eq, beq_iff_eq] at h
  obtain ⟨⟨⟨⟨⟨⟨⟨⟨⟨⟨⟨hA, hB⟩, c1⟩, c2⟩, c3⟩, c4⟩, c5⟩, c6⟩, c7⟩, c8⟩, c9⟩, -⟩ := h
  refine ⟨am_at_in hA, ⟨fun e => ?_, fun e => ?_, fun e => ?_, ?_⟩, c1, ⟨c2, c3⟩, c4, c5, c6, c7, c8, c9⟩
  · rw [e] at hB; exact am_at_in hB
  · rw [e] at hB; simp only [Bool.and_eq_true] at hB; exact ⟨am_at_in hB.1, am_at_in hB.2⟩
  · rw [e] at hB; simp only [Bool.and_eq_true, decide_eq_true_eq] at hB; exact ⟨am_at_in hB.1, hB.2⟩
  · split at hB <;> first | omega | cases hB
theorem am_ret_facts {z : Nat} (hz : z < 227) : (am_rt z = 0 → am_ret z = none) ∧ (am_rt z = 1 → am_ret z = some .int) ∧ (am_rt z = 2 → am_ret z = some .boolean) ∧ (am_rt z = 3 → am_ret z = some .char) ∧ (am_rt z = 4 → am_ret z = some .float) ∧ (am_rt z = 5 → am_ret z = some .double) ∧ (am_rt z = 6 → ∃ n, am_ret z = some (.object n)) := by
  obtain ⟨q, h⟩ := am_zw_ok z hz
  unfold am_zw at h
  simp only [Bool.and_eq_true] at h
  obtain ⟨-, hm⟩ := h
  refine ⟨fun e => ?_, fun e => ?_, fun e => ?_, fun e => ?_, fun e => ?_, fun e => ?_, fun e => ?_⟩ <;> rw [e] at hm <;> split at hm <;> simp_all
theorem am_le_refl (X : am_X) : am_le X X := ⟨Nat.le_refl _, Nat.le_refl _⟩
theorem am_le_trans {X Y Z : am_X} (h : am_le X Y) (h2 : am_le Y Z) : am_le X Z := ⟨Nat.le_trans h.1 h2.1, Nat.le_trans h.2 h2.2⟩
def am_nx (q : am_N) : am_X := match q with
  | .inl w => w.2.2.2.2
  | .inr r => r.2.2
/-- instructions at which a method may end -/
def am_isF : Instr → Bool := fun i => match i with
  | .return_ | .ireturn | .areturn | .freturn | .dreturn | .new _ | .invokevirtual _ | .invokestatic _ | .invokespecial _ => true
  | _ => false
theorem am_bk_i {α : Type} {w : α} {z pc : Nat} {ls : am_S} {st : List am_V} {r : Option am_R} {K : Nat → am_S → List am_V → am_M → am_X → Option α} {F : am_R → Option α} (h : am_bk z pc ls st r K F = some w) : (∃ v M X, r = some (.inl v, M, X) ∧ K (pc + 3) ls (v.toList ++ st) M X = some w) ∨ (∃ E M X, r = some (.inr E, M, X) ∧ am_hd z pc E = none ∧ am_tr z = true ∧ F (.inr E, M, X) = some w) ∨ (∃ E M X t j, r = some (.inr E, M, X) ∧ am_hd z pc E = some (t, j) ∧ K t (am_put ls j none) [] M X = some w) := by
  unfold am_bk at h
  split at h
  · cases h
  · exact Or.inl ⟨_, _, _, rfl, h⟩
  · split at h
    · rename_i hd
      obtain ⟨h1, h2⟩ := am_if_i h
      exact Or.inr (Or.inl ⟨_, _, _, rfl, hd, h1, h2⟩)
    · rename_i t j hd
      exact Or.inr (Or.inr ⟨_, _, _, t, j, rfl, hd, h⟩)
section AmLe
variable {call : Nat → List am_V → am_M → am_X → Option am_R} {z : Nat}
theorem am_bk_le {z pc : Nat} {ls : am_S} {st : List am_V} {r : Option am_R} {X : am_X} (hr : ∀ r0, r = some r0 → am_le X r0.2.2) {q : am_N} (h : am_bk z pc ls st r (fun a b c d e => some (.inl (a, b, c, d, e))) (fun r => some (.inr r)) = some q) : am_le X (am_nx q) := by
  rcases am_bk_i h with ⟨v, M, X', e, h⟩ | ⟨E, M, X', e, -, -, h⟩ | ⟨E, M, X', t, j, e, -, h⟩ <;> cases h <;> exact hr _ e
theorem am_inv_le {y kd pc : Nat} {ls : am_S} {st : List am_V} {M : am_M} {X : am_X} (hc : ∀ as M X r, call y as M X = some r → am_le X r.2.2) {q : am_N} (h : am_inv call z kd y pc ls st M X (fun a b c d e => some (.inl (a, b, c, d, e))) (fun r => some (.inr r)) = some q) : am_le X (am_nx q) := by
  unfold am_inv at h
  split at h
  · obtain ⟨_, _, _, _, _, h⟩ := am_popN_i h
    obtain ⟨_, _, _, h⟩ := am_popP_i h
    obtain ⟨_, h⟩ := am_sm_i h
    obtain ⟨_, _, h⟩ := am_chk_i h
    exact am_bk_le (fun r0 e => hc _ _ _ _ e) h
  · obtain ⟨_, _, _, _, _, h⟩ := am_popN_i h
    obtain ⟨_, h⟩ := am_sm_i h
    exact am_bk_le (fun r0 e => hc _ _ _ _ e) h
  · obtain ⟨_, _, _, h⟩ := am_popP_i h
    obtain ⟨_, h⟩ := am_sm_i h
    cases h; exact am_le_refl _
  · obtain ⟨_, _, _, h⟩ := am_popI_i h
    obtain ⟨_, _, _, h⟩ := am_popI_i h
    obtain ⟨_, h⟩ := am_sm_i h
    cases h; exact am_le_refl _
  · obtain ⟨_, _, _, h⟩ := am_popI_i h
    obtain ⟨_, _, _, h⟩ := am_popI_i h
    obtain ⟨_, _, _, h⟩ := am_popP_i h
    obtain ⟨_, _, _, h⟩ := am_popI_i h
    obtain ⟨_, _, _, h⟩ := am_popP_i h
    obtain ⟨_, h⟩ := am_sm_i h
    obtain ⟨_, h⟩ := am_if_i h
    cases h; exact am_le_refl _
  · cases h
set_option maxHeartbeats 4000000 in
theorem am_st_nx (hc : ∀ y as M X r, call y as M X = some r → am_le X r.2.2) {i : Instr} {pc : Nat} {ls : am_S} {st : List am_V} {M : am_M} {X : am_X} {q : am_N} (h : am_st call z i pc ls st M X = some q) : am_le X (am_nx q) ∧ (am_isF i = false → ∃ w, q = .inl w) := by
  cases i
  case iload j =>
    simp only [am_st, am_ex] at h
    obtain ⟨_, _, h⟩ := am_get_i h
    obtain ⟨_, _, h⟩ := am_asI_i h
    cases h; exact ⟨am_le_refl _, fun _ => ⟨_, rfl⟩⟩
  case iload_n j =>
    simp only [am_st, am_ex] at h
    obtain ⟨_, _, h⟩ := am_get_i h
    obtain ⟨_, _, h⟩ := am_asI_i h
    cases h; exact ⟨am_le_refl _, fun _ => ⟨_, rfl⟩⟩
  case aload j =>
    simp only [am_st, am_ex] at h
    obtain ⟨_, _, h⟩ := am_get_i h
    obtain ⟨_, _, h⟩ := am_asP_i h
    cases h; exact ⟨am_le_refl _, fun _ => ⟨_, rfl⟩⟩
  case aload_n j =>
    simp only [am_st, am_ex] at h
    obtain ⟨_, _, h⟩ := am_get_i h
    obtain ⟨_, _, h⟩ := am_asP_i h
    cases h; exact ⟨am_le_refl _, fun _ => ⟨_, rfl⟩⟩
  case fload j =>
    simp only [am_st, am_ex] at h
    obtain ⟨_, _, h⟩ := am_get_i h
    obtain ⟨_, _, h⟩ := am_asF_i h
    cases h; exact ⟨am_le_refl _, fun _ => ⟨_, rfl⟩⟩
  case dload j =>
    simp only [am_st, am_ex] at h
    obtain ⟨_, _, h⟩ := am_get_i h
    obtain ⟨_, _, h⟩ := am_asD_i h
    cases h; exact ⟨am_le_refl _, fun _ => ⟨_, rfl⟩⟩
  case istore j =>
    simp only [am_st, am_ex] at h
    obtain ⟨_, _, _, h⟩ := am_popI_i h
    obtain ⟨_, h⟩ := am_if_i h
    cases h; exact ⟨am_le_refl _, fun _ => ⟨_, rfl⟩⟩
  case istore_n j =>
    simp only [am_st, am_ex] at h
    obtain ⟨_, _, _, h⟩ := am_popI_i h
    obtain ⟨_, h⟩ := am_if_i h
    cases h; exact ⟨am_le_refl _, fun _ => ⟨_, rfl⟩⟩
  case astore j =>
    simp only [am_st, am_ex] at h
    obtain ⟨_, _, _, h⟩ := am_popP_i h
    obtain ⟨_, h⟩ := am_if_i h
    cases h; exact ⟨am_le_refl _, fun _ => ⟨_, rfl⟩⟩
  case astore_n j =>
    simp only [am_st, am_ex] at h
    obtain ⟨_, _, _, h⟩ := am_popP_i h
    obtain ⟨_, h⟩ := am_if_i h
    cases h; exact ⟨am_le_refl _, fun _ => ⟨_, rfl⟩⟩
  case fstore j =>
    simp only [am_st, am_ex] at h
    obtain ⟨_, _, _, h⟩ := am_popF_i h
    obtain ⟨_, h⟩ := am_if_i h
    cases h; exact ⟨am_le_refl _, fun _ => ⟨_, rfl⟩⟩
  case dstore j =>
    simp only [am_st, am_ex] at h
    obtain ⟨_, _, _, h⟩ := am_popD_i h
    obtain ⟨_, h⟩ := am_if_i h
    cases h; exact ⟨am_le_refl _, fun _ => ⟨_, rfl⟩⟩
  case iinc j k =>
    simp only [am_st, am_ex] at h
    obtain ⟨_, _, h⟩ := am_get_i h
    obtain ⟨_, _, h⟩ := am_asI_i h
    cases h; exact ⟨am_le_refl _, fun _ => ⟨_, rfl⟩⟩
  case iconst j =>
    simp only [am_st, am_ex] at h
    cases h; exact ⟨am_le_refl _, fun _ => ⟨_, rfl⟩⟩
  case bipush j =>
    simp only [am_st, am_ex] at h
    cases h; exact ⟨am_le_refl _, fun _ => ⟨_, rfl⟩⟩
  case sipush j =>
    simp only [am_st, am_ex] at h
    cases h; exact ⟨am_le_refl _, fun _ => ⟨_, rfl⟩⟩
  case lconst j =>
    simp only [am_st, am_ex] at h
    cases h; exact ⟨am_le_refl _, fun _ => ⟨_, rfl⟩⟩
  case ldc j =>
    simp only [am_st, am_ex] at h
    split at h
    · cases h; exact ⟨am_le_refl _, fun _ => ⟨_, rfl⟩⟩
    · cases h
  case iadd =>
    simp only [am_st, am_ex] at h
    obtain ⟨_, _, _, h⟩ := am_popI_i h
    obtain ⟨_, _, _, h⟩ := am_popI_i h
    cases h; exact ⟨am_le_refl _, fun _ => ⟨_, rfl⟩⟩
  case isub =>
    simp only [am_st, am_ex] at h
    obtain ⟨_, _, _, h⟩ := am_popI_i h
    obtain ⟨_, _, _, h⟩ := am_popI_i h
    cases h; exact ⟨am_le_refl _, fun _ => ⟨_, rfl⟩⟩
  case imul =>
    simp only [am_st, am_ex] at h
    obtain ⟨_, _, _, h⟩ := am_popI_i h
    obtain ⟨_, _, _, h⟩ := am_popI_i h
    cases h; exact ⟨am_le_refl _, fun _ => ⟨_, rfl⟩⟩
  case iand =>
    simp only [am_st, am_ex] at h
    obtain ⟨_, _, _, h⟩ := am_popI_i h
    obtain ⟨_, _, _, h⟩ := am_popI_i h
    cases h; exact ⟨am_le_refl _, fun _ => ⟨_, rfl⟩⟩
  case ior =>
    simp only [am_st, am_ex] at h
    obtain ⟨_, _, _, h⟩ := am_popI_i h
    obtain ⟨_, _, _, h⟩ := am_popI_i h
    cases h; exact ⟨am_le_refl _, fun _ => ⟨_, rfl⟩⟩
  case ishl =>
    simp only [am_st, am_ex] at h
    obtain ⟨_, _, _, h⟩ := am_popI_i h
    obtain ⟨_, _, _, h⟩ := am_popI_i h
    cases h; exact ⟨am_le_refl _, fun _ => ⟨_, rfl⟩⟩
  case ishr =>
    simp only [am_st, am_ex] at h
    obtain ⟨_, _, _, h⟩ := am_popI_i h
    obtain ⟨_, _, _, h⟩ := am_popI_i h
    cases h; exact ⟨am_le_refl _, fun _ => ⟨_, rfl⟩⟩
  case idiv =>
    simp only [am_st, am_ex] at h
    obtain ⟨_, _, _, h⟩ := am_popI_i h
    obtain ⟨_, _, _, h⟩ := am_popI_i h
    obtain ⟨_, h⟩ := am_ifn_i h
    cases h; exact ⟨am_le_refl _, fun _ => ⟨_, rfl⟩⟩
  case irem =>
    simp only [am_st, am_ex] at h
    obtain ⟨_, _, _, h⟩ := am_popI_i h
    obtain ⟨_, _, _, h⟩ := am_popI_i h
    obtain ⟨_, h⟩ := am_ifn_i h
    cases h; exact ⟨am_le_refl _, fun _ => ⟨_, rfl⟩⟩
  case i2l =>
    simp only [am_st, am_ex] at h
    obtain ⟨_, _, _, h⟩ := am_popI_i h
    cases h; exact ⟨am_le_refl _, fun _ => ⟨_, rfl⟩⟩
  case i2c =>
    simp only [am_st, am_ex] at h
    obtain ⟨_, _, _, h⟩ := am_popI_i h
    cases h; exact ⟨am_le_refl _, fun _ => ⟨_, rfl⟩⟩
  case i2f =>
    simp only [am_st, am_ex] at h
    obtain ⟨_, _, _, h⟩ := am_popI_i h
    cases h; exact ⟨am_le_refl _, fun _ => ⟨_, rfl⟩⟩
  case i2d =>
    simp only [am_st, am_ex] at h
    obtain ⟨_, _, _, h⟩ := am_popI_i h
    cases h; exact ⟨am_le_refl _, fun _ => ⟨_, rfl⟩⟩
  case f2d =>
    simp only [am_st, am_ex] at h
    obtain ⟨_, _, _, h⟩ := am_popF_i h
    obtain ⟨_, h⟩ := am_if_i h
    cases h; exact ⟨am_le_refl _, fun _ => ⟨_, rfl⟩⟩
  case fdiv =>
    simp only [am_st, am_ex] at h
    obtain ⟨_, _, _, h⟩ := am_popF_i h
    obtain ⟨_, _, _, h⟩ := am_popF_i h
    obtain ⟨_, h⟩ := am_if_i h
    cases h; exact ⟨am_le_refl _, fun _ => ⟨_, rfl⟩⟩
  case ddiv =>
    simp only [am_st, am_ex] at h
    obtain ⟨_, _, _, h⟩ := am_popD_i h
    obtain ⟨_, _, _, h⟩ := am_popD_i h
    obtain ⟨_, h⟩ := am_if_i h
    cases h; exact ⟨am_le_refl _, fun _ => ⟨_, rfl⟩⟩
  case lcmp =>
    simp only [am_st, am_ex] at h
    obtain ⟨_, _, _, h⟩ := am_popJ_i h
    obtain ⟨_, _, _, h⟩ := am_popJ_i h
    cases h; exact ⟨am_le_refl _, fun _ => ⟨_, rfl⟩⟩
  case fcmp j =>
    simp only [am_st, am_ex] at h
    obtain ⟨_, _, _, h⟩ := am_popF_i h
    obtain ⟨_, _, _, h⟩ := am_popF_i h
    cases h; exact ⟨am_le_refl _, fun _ => ⟨_, rfl⟩⟩
  case dcmp j =>
    simp only [am_st, am_ex] at h
    obtain ⟨_, _, _, h⟩ := am_popD_i h
    obtain ⟨_, _, _, h⟩ := am_popD_i h
    cases h; exact ⟨am_le_refl _, fun _ => ⟨_, rfl⟩⟩
  case dup =>
    simp only [am_st, am_ex] at h
    obtain ⟨_, _, _, _, h⟩ := am_pop1_i h
    cases h; exact ⟨am_le_refl _, fun _ => ⟨_, rfl⟩⟩
  case pop =>
    simp only [am_st, am_ex] at h
    obtain ⟨_, _, _, _, h⟩ := am_pop1_i h
    cases h; exact ⟨am_le_refl _, fun _ => ⟨_, rfl⟩⟩
  case dup2 =>
    simp only [am_st, am_ex] at h
    obtain ⟨_, _, _, _, h⟩ := am_pop1_i h
    obtain ⟨_, _, _, _, h⟩ := am_pop1_i h
    cases h; exact ⟨am_le_refl _, fun _ => ⟨_, rfl⟩⟩
  case dup_x1 =>
    simp only [am_st, am_ex] at h
    obtain ⟨_, _, _, _, h⟩ := am_pop1_i h
    obtain ⟨_, _, _, _, h⟩ := am_pop1_i h
    cases h; exact ⟨am_le_refl _, fun _ => ⟨_, rfl⟩⟩
  case dup_x2 =>
    simp only [am_st, am_ex] at h
    obtain ⟨_, _, _, _, h⟩ := am_pop1_i h
    obtain ⟨_, _, _, _, h⟩ := am_pop1_i h
    obtain ⟨_, _, _, _, h⟩ := am_pop1_i h
    cases h; exact ⟨am_le_refl _, fun _ => ⟨_, rfl⟩⟩
  case goto j =>
    simp only [am_st, am_ex] at h
    obtain ⟨_, _, h⟩ := am_j_i h
    cases h; exact ⟨am_le_refl _, fun _ => ⟨_, rfl⟩⟩
  case ifCond a b =>
    cases a <;> simp only [am_st, am_ex] at h
    all_goals (obtain ⟨_, _, _, h⟩ := am_popI_i h)
    all_goals (obtain ⟨_, _, h⟩ := am_j_i h)
    all_goals (split at h)
    all_goals (cases h; exact ⟨am_le_refl _, fun _ => ⟨_, rfl⟩⟩)
  case if_icmp a b =>
    cases a <;> simp only [am_st, am_ex] at h
    all_goals (obtain ⟨_, _, _, h⟩ := am_popI_i h)
    all_goals (obtain ⟨_, _, _, h⟩ := am_popI_i h)
    all_goals (obtain ⟨_, _, h⟩ := am_j_i h)
    all_goals (split at h)
    all_goals (cases h; exact ⟨am_le_refl _, fun _ => ⟨_, rfl⟩⟩)
  case tableswitch a b d f =>
    simp only [am_st, am_ex] at h
    obtain ⟨_, _, _, h⟩ := am_popI_i h
    split at h
    · obtain ⟨_, _, h⟩ := am_j_i h
      cases h; exact ⟨am_le_refl _, fun _ => ⟨_, rfl⟩⟩
    · split at h
      · obtain ⟨_, _, h⟩ := am_j_i h
        cases h; exact ⟨am_le_refl _, fun _ => ⟨_, rfl⟩⟩
      · cases h
  case lookupswitch a b =>
    simp only [am_st, am_ex] at h
    obtain ⟨_, _, _, h⟩ := am_popI_i h
    obtain ⟨_, h⟩ := am_if_i h
    obtain ⟨_, _, h⟩ := am_j_i h
    cases h; exact ⟨am_le_refl _, fun _ => ⟨_, rfl⟩⟩
  case getfield j =>
    simp only [am_st, am_ex] at h
    split at h
    · cases h
    · obtain ⟨_, _, _, h⟩ := am_popP_i h
      obtain ⟨_, _, h⟩ := am_chk_i h
      split at h
      · cases h; exact ⟨am_le_refl _, fun _ => ⟨_, rfl⟩⟩
      · cases h; exact ⟨am_le_refl _, fun _ => ⟨_, rfl⟩⟩
  case putfield j =>
    simp only [am_st, am_ex] at h
    split at h
    · cases h
    · obtain ⟨_, h⟩ := am_ifn_i h
      split at h
      · obtain ⟨_, _, _, h⟩ := am_popP_i h
        obtain ⟨_, _, _, h⟩ := am_popP_i h
        obtain ⟨_, _, h⟩ := am_chk_i h
        obtain ⟨_, h⟩ := am_if_i h
        cases h; exact ⟨am_le_refl _, fun _ => ⟨_, rfl⟩⟩
      · obtain ⟨_, _, _, h⟩ := am_popI_i h
        obtain ⟨_, _, _, h⟩ := am_popP_i h
        obtain ⟨_, _, h⟩ := am_chk_i h
        obtain ⟨_, h⟩ := am_if_i h
        cases h; exact ⟨am_le_refl _, fun _ => ⟨_, rfl⟩⟩
  case iaload =>
    simp only [am_st, am_ex] at h
    obtain ⟨_, _, _, h⟩ := am_popI_i h
    obtain ⟨_, _, _, h⟩ := am_popP_i h
    split at h
    · obtain ⟨_, h⟩ := am_if_i h
      cases h; exact ⟨am_le_refl _, fun _ => ⟨_, rfl⟩⟩
    · obtain ⟨_, _, _, h⟩ := am_arr_i h
      cases h; exact ⟨am_le_refl _, fun _ => ⟨_, rfl⟩⟩
  case iastore =>
    simp only [am_st, am_ex] at h
    obtain ⟨_, _, _, h⟩ := am_popI_i h
    obtain ⟨_, _, _, h⟩ := am_popI_i h
    obtain ⟨_, _, _, h⟩ := am_popP_i h
    obtain ⟨_, _, _, h⟩ := am_arr_i h
    cases h; exact ⟨am_le_refl _, fun _ => ⟨_, rfl⟩⟩
  case caload =>
    simp only [am_st, am_ex] at h
    obtain ⟨_, _, _, h⟩ := am_popI_i h
    obtain ⟨_, _, _, h⟩ := am_popP_i h
    obtain ⟨_, _, _, h⟩ := am_arr_i h
    cases h; exact ⟨am_le_refl _, fun _ => ⟨_, rfl⟩⟩
  case castore =>
    simp only [am_st, am_ex] at h
    obtain ⟨_, _, _, h⟩ := am_popI_i h
    obtain ⟨_, _, _, h⟩ := am_popI_i h
    obtain ⟨_, _, _, h⟩ := am_popP_i h
    obtain ⟨_, _, _, h⟩ := am_arr_i h
    cases h; exact ⟨am_le_refl _, fun _ => ⟨_, rfl⟩⟩
  case aaload =>
    simp only [am_st, am_ex] at h
    obtain ⟨_, _, _, h⟩ := am_popI_i h
    obtain ⟨_, _, _, h⟩ := am_popP_i h
    obtain ⟨_, _, _, h⟩ := am_arr_i h
    cases h; exact ⟨am_le_refl _, fun _ => ⟨_, rfl⟩⟩
  case aastore =>
    simp only [am_st, am_ex] at h
    obtain ⟨_, _, _, h⟩ := am_popP_i h
    obtain ⟨_, _, _, h⟩ := am_popI_i h
    obtain ⟨_, _, _, h⟩ := am_popP_i h
    obtain ⟨_, _, _, h⟩ := am_arr_i h
    obtain ⟨_, _, h⟩ := am_chk_i h
    cases h; exact ⟨am_le_refl _, fun _ => ⟨_, rfl⟩⟩
  case laload =>
    simp only [am_st, am_ex] at h
    obtain ⟨_, _, _, h⟩ := am_popI_i h
    obtain ⟨_, _, _, h⟩ := am_popP_i h
    obtain ⟨_, _, _, h⟩ := am_arr_i h
    cases h; exact ⟨am_le_refl _, fun _ => ⟨_, rfl⟩⟩
  case lastore =>
    simp only [am_st, am_ex] at h
    obtain ⟨_, _, _, h⟩ := am_popJ_i h
    obtain ⟨_, _, _, h⟩ := am_popI_i h
    obtain ⟨_, _, _, h⟩ := am_popP_i h
    obtain ⟨_, _, _, h⟩ := am_arr_i h
    cases h; exact ⟨am_le_refl _, fun _ => ⟨_, rfl⟩⟩
  case daload =>
    simp only [am_st, am_ex] at h
    obtain ⟨_, _, _, h⟩ := am_popI_i h
    obtain ⟨_, _, _, h⟩ := am_popP_i h
    obtain ⟨_, _, _, h⟩ := am_arr_i h
    cases h; exact ⟨am_le_refl _, fun _ => ⟨_, rfl⟩⟩
  case dastore =>
    simp only [am_st, am_ex] at h
    obtain ⟨_, _, _, h⟩ := am_popD_i h
    obtain ⟨_, _, _, h⟩ := am_popI_i h
    obtain ⟨_, _, _, h⟩ := am_popP_i h
    obtain ⟨_, _, _, h⟩ := am_arr_i h
    cases h; exact ⟨am_le_refl _, fun _ => ⟨_, rfl⟩⟩
  case arraylength =>
    simp only [am_st, am_ex] at h
    obtain ⟨_, _, _, h⟩ := am_popP_i h
    obtain ⟨_, h⟩ := am_if_i h
    cases h; exact ⟨am_le_refl _, fun _ => ⟨_, rfl⟩⟩
  case invokevirtual j =>
    simp only [am_st, am_ex] at h
    split at h
    · exact ⟨am_inv_le (fun _ _ _ _ e => hc _ _ _ _ _ e) h, fun e => by cases e⟩
    · cases h
  case invokestatic j =>
    simp only [am_st, am_ex] at h
    split at h
    · exact ⟨am_inv_le (fun _ _ _ _ e => hc _ _ _ _ _ e) h, fun e => by cases e⟩
    · exact ⟨am_inv_le (fun _ _ _ _ e => hc _ _ _ _ _ e) h, fun e => by cases e⟩
    · exact ⟨am_inv_le (fun _ _ _ _ e => hc _ _ _ _ _ e) h, fun e => by cases e⟩
    · exact ⟨am_inv_le (fun _ _ _ _ e => hc _ _ _ _ _ e) h, fun e => by cases e⟩
    · cases h
  case invokespecial j =>
    simp only [am_st, am_ex] at h
    split at h
    · exact ⟨am_inv_le (fun _ _ _ _ e => hc _ _ _ _ _ e) h, fun e => by cases e⟩
    · exact ⟨am_inv_le (fun _ _ _ _ e => hc _ _ _ _ _ e) h, fun e => by cases e⟩
    · exact ⟨am_inv_le (fun _ _ _ _ e => hc _ _ _ _ _ e) h, fun e => by cases e⟩
    · cases h
  case new j =>
    simp only [am_st, am_ex] at h
    split at h
    · obtain ⟨_, _, _, _, _, _, _, h⟩ := am_nu_i h
      cases h; exact ⟨⟨Nat.le_succ _, Nat.le_add_right _ _⟩, fun e => by cases e⟩
    · obtain ⟨_, h⟩ := am_if_i h
      obtain ⟨_, h⟩ := am_sm_i h
      cases h; exact ⟨⟨Nat.le_succ _, Nat.le_add_right _ _⟩, fun e => by cases e⟩
    · cases h
  case newarray t =>
    cases t
    case int =>
      simp only [am_st, am_ex] at h
      obtain ⟨_, _, _, h⟩ := am_popI_i h
      obtain ⟨_, h⟩ := am_ifn_i h
      obtain ⟨_, _, _, _, _, _, _, h⟩ := am_nu_i h
      cases h; exact ⟨⟨Nat.le_succ _, Nat.le_add_right _ _⟩, fun _ => ⟨_, rfl⟩⟩
    case char =>
      simp only [am_st, am_ex] at h
      obtain ⟨_, _, _, h⟩ := am_popI_i h
      obtain ⟨_, h⟩ := am_ifn_i h
      obtain ⟨_, _, _, _, _, _, _, h⟩ := am_nu_i h
      cases h; exact ⟨⟨Nat.le_succ _, Nat.le_add_right _ _⟩, fun _ => ⟨_, rfl⟩⟩
    case long =>
      simp only [am_st, am_ex] at h
      obtain ⟨_, _, _, h⟩ := am_popI_i h
      obtain ⟨_, h⟩ := am_if_i h
      obtain ⟨_, _, _, _, _, _, _, h⟩ := am_nu_i h
      cases h; exact ⟨⟨Nat.le_succ _, Nat.le_add_right _ _⟩, fun _ => ⟨_, rfl⟩⟩
    case double =>
      simp only [am_st, am_ex] at h
      obtain ⟨_, _, _, h⟩ := am_popI_i h
      obtain ⟨_, h⟩ := am_if_i h
      obtain ⟨_, _, _, _, _, _, _, h⟩ := am_nu_i h
      cases h; exact ⟨⟨Nat.le_succ _, Nat.le_add_right _ _⟩, fun _ => ⟨_, rfl⟩⟩
    all_goals exact nomatch (show (none : Option am_N) = some q from h)
  case anewarray j =>
    simp only [am_st, am_ex] at h
    split at h
    · obtain ⟨_, _, _, h⟩ := am_popI_i h
      obtain ⟨_, h⟩ := am_ifn_i h
      obtain ⟨_, _, _, _, _, _, _, h⟩ := am_nu_i h
      cases h; exact ⟨⟨Nat.le_succ _, Nat.le_add_right _ _⟩, fun _ => ⟨_, rfl⟩⟩
    · cases h
  case return_ =>
    simp only [am_st, am_ex] at h
    split at h
    · cases h; exact ⟨am_le_refl _, fun e => by cases e⟩
    · cases h
  case ireturn =>
    simp only [am_st, am_ex] at h
    split at h
    · cases h; exact ⟨am_le_refl _, fun e => by cases e⟩
    · obtain ⟨_, h⟩ := am_if_i h
      cases h; exact ⟨am_le_refl _, fun e => by cases e⟩
    · obtain ⟨_, h⟩ := am_if_i h
      cases h; exact ⟨am_le_refl _, fun e => by cases e⟩
    · cases h
  case areturn =>
    simp only [am_st, am_ex] at h
    split at h
    · cases h; exact ⟨am_le_refl _, fun e => by cases e⟩
    · cases h
  case freturn =>
    simp only [am_st, am_ex] at h
    split at h
    · cases h; exact ⟨am_le_refl _, fun e => by cases e⟩
    · cases h
  case dreturn =>
    simp only [am_st, am_ex] at h
    split at h
    · cases h; exact ⟨am_le_refl _, fun e => by cases e⟩
    · cases h
  all_goals exact nomatch (show (none : Option am_N) = some q from h)
theorem am_run_le (hc : ∀ y as M X r, call y as M X = some r → am_le X r.2.2) : ∀ (n pc : Nat) (ls : am_S) (st : List am_V) (M : am_M) (X : am_X) (r : am_R), am_run call z n pc ls st M X = some r → am_le X r.2.2
  | 0, _, _, _, _, _, _, h => by cases h
  | n + 1, pc, ls, st, M, X, r, h => by
    unfold am_run at h
    cases hcd : am_cd z pc with
    | none => rw [hcd] at h; cases h
    | some i =>
      rw [hcd] at h
      dsimp only at h
      rw [am_ex_st] at h
      cases hs : am_st call z i pc ls st M X with
      | none => rw [hs] at h; cases h
      | some q =>
        rw [hs] at h
        have h1 := (am_st_nx hc hs).1
        cases q with
        | inl c =>
          obtain ⟨a, b, c, d, e⟩ := c
          exact am_le_trans h1 (am_run_le hc n a b c d e r h)
        | inr r' =>
          cases h
          exact h1
end AmLe
theorem am_ev_le : ∀ (d z : Nat) (as : List am_V) (M : am_M) (X : am_X) (r : am_R), am_ev d z as M X = some r → am_le X r.2.2
  | 0, _, _, _, _, _, h => by cases h
  | d + 1, z, as, M, X, r, h => by
    rw [am_ev_eq, am_rn_iff] at h
    obtain ⟨n, h⟩ := h
    exact am_run_le (fun y as M X r => am_ev_le d y as M X r) n _ _ _ _ _ _ h
theorem am_dg0 {z pc : Nat} {i : Instr} (h : am_cd z pc = some i) : ∃ n, decode (am_by z) pc = .ok (i, n) ∧ (am_ln i = 0 ∨ am_ln i = n) := by
  have key : ∀ t : List (Nat × Instr), am_fi t pc = some i → (pc, i) ∈ t := by
    intro t
    induction t with
    | nil => intro h; cases h
    | cons q t ih =>
      intro h
      unfold am_fi at h
      split at h
      · rename_i e
        cases h
        subst e
        exact List.mem_cons_self
      · exact List.mem_cons_of_mem _ (ih h)
  have h1 := List.all_eq_true.mp (am_dk z) _ (key _ h)
  unfold am_dok at h1
  split at h1
  · rename_i j n hd
    simp only [Bool.and_eq_true, Bool.or_eq_true, decide_eq_true_eq, beq_iff_eq] at h1
    obtain ⟨e, h2⟩ := h1
    subst e
    exact ⟨n, hd, h2⟩
  · cases h1
theorem am_dg {z pc k : Nat} {i : Instr} (h : am_cd z pc = some i) (hk : am_ln i = k) (h0 : k ≠ 0) : decode (am_by z) pc = .ok (i, k) := by
  obtain ⟨n, h1, h2⟩ := am_dg0 h
  rcases h2 with h2 | h2
  · exact absurd (hk.symm.trans h2) h0
  · rw [h1, ← h2, hk]
/-! what a call says -/
def am_Nc (U : State) : Prop := ∀ q ∈ am_ncs, va_Nc (am_en q.1) (am_en q.2) U
def am_Pc (G : am_Γ) (M : am_M) (X : am_X) (as : List am_V) : Array Value → State → Prop := fun a U => a = (as.map (am_tv G)).toArray ∧ am_HR G M X U.heap ∧ va_K G.2.2.1 am_cl (am_tys G) U ∧ vx_Zq Bundle.tN "UNASSIGNED_STACK" Bundle.steD (am_A G) U U.heap ∧ vx_Zq Bundle.tN "SUPPRESSED_SENTINEL" Bundle.listD (am_A G) U U.heap ∧ va_X G.2.1 G.2.2.2.2.1 G.2.2.2.2.2 U U.heap ∧ (G.2.1 < G.1 ∧ G.1 ≤ U.heap.size ∧ G.2.2.2.2.1 ≤ 2048) ∧ am_Nc U
def am_Qr (G : am_Γ) (r : am_R) : Array Value → State → Outcome → State → Prop := fun _ st o t => ∃ v, r.1 = .inl v ∧ o = .returned (v.map (am_tv G)) ∧ am_HR G r.2.1 r.2.2 t.heap ∧ va_F (am_A G) st t
def am_XCr (G : am_Γ) (r : am_R) : String → State → State → Prop := fun E' st t => ∃ E, r.1 = .inr E ∧ E' = am_en E ∧ am_HR G r.2.1 r.2.2 t.heap ∧ va_F (am_A G) st t
abbrev am_dc (X : am_X) (r : am_R) : Nat := r.2.2.2.2.1 - X.2.2.1
abbrev am_ds (X : am_X) (r : am_R) : Nat := r.2.2.2.2.2.1 - X.2.2.2.1
def am_rm (d mc ms : Nat) : Room := { frames := d + 6, cells := mc, slots := ms, locals := 31 * d + 120 }
def am_ws (z : Nat) : List Cond := am_cw z :: am_W
def am_Con (l : Launch) (d z : Nat) (as : List am_V) (M : am_M) (X : am_X) (r : am_R) : Prop := ∀ G : am_Γ, vx_Met l (am_y z) (am_ws z) (am_rm d (am_dc X r) (am_ds X r)) (am_Pc G M X as) (am_Qr G r) (am_XCr G r) (am_dc X r) (am_ds X r) (am_A G)
theorem am_blind {G : am_Γ} {M : am_M} {X : am_X} {as : List am_V} : FrameBlind (am_Pc G M X as) := by
  intro a U g mk h
  obtain ⟨h1, h2, h3, h4, h5, h6, h7, h8⟩ := h
  exact ⟨h1, h2, va_K.moved (u := U) (U := U.calling g mk a) (Vm.Alike.refl U.vm) h3, vx_Zq.moved (u := U) (U := U.calling g mk a) (Vm.Alike.refl U.vm) h4, vx_Zq.moved (u := U) (U := U.calling g mk a) (Vm.Alike.refl U.vm) h5, va_X.moved (u := U) (U := U.calling g mk a) (Vm.Alike.refl U.vm) h6, h7, fun q hq => va_Nc.moved (u := U) (U := U.calling g mk a) (Vm.Alike.refl U.vm) (h8 q hq)⟩
theorem am_named {y : Nat} (hy : y < 227) {args : Array Value} {s : State} (hts : ∀ w ∈ am_W, w.before args s = true) : ∃ (mk : MethodId) (methM : Method), s.methodNamed? (am_y y) = some mk ∧ s.vm.method? mk = some methM ∧ parseMethodDescriptor (am_y y).desc = some methM.sig := by
  have f1 := hts _ (am_z_facts hy).1
  unfold am_cw at f1
  split at f1
  · obtain ⟨mk, hn⟩ := Cond.code_named f1
    obtain ⟨methM, cM, h1, -, -, -, -, -, -, h2⟩ := Cond.code_spec hn f1
    exact ⟨mk, methM, hn, h1, h2⟩
  · obtain ⟨mk, methM, cM, hn, h1, -, -, -, -, -, -, h2⟩ := Cond.codeWith_spec f1
    exact ⟨mk, methM, hn, h1, h2⟩
theorem am_ini_ret : ∀ y, y < 227 → am_ks y = 2 → am_ret y = none := by decide +kernel
theorem am_hj_ok : (List.range 228).all (fun z => (am_hs z).all (fun h => decide (h.2.2.2.2 < am_mL z))) = true := by decide +kernel
theorem am_hj {z : Nat} (hz : z < 228) : ∀ h ∈ am_hs z, h.2.2.2.2 < am_mL z := fun h hh => of_decide_eq_true (List.all_eq_true.mp (List.all_eq_true.mp am_hj_ok z (List.mem_range.mpr hz)) h hh)
theorem am_cat {G : am_Γ} (st : List am_V) (h : st.length ≤ 4) : ((st.map (am_tv G)).map fun v => v.category).sum ≤ 8 := by
  have key : ∀ st : List am_V, ((st.map (am_tv G)).map fun v => v.category).sum ≤ 2 * st.length := by
    intro st
    induction st with
    | nil => simp
    | cons v r ih =>
      simp only [List.map_cons, List.sum_cons, List.length_cons]
      have : (am_tv G v).category ≤ 2 := by cases am_tv G v <;> simp [Value.category]
      omega
  have := key st
  omega
end
section
/-! CALLS ARE KEPT -/
section AmCalls
variable {p : Program} {l : Launch} {e : Env} {R : Room} {s : State} {m : MethodId} {args : Array Value} {below : List Frame} {meth : Method} {c : Code} {Q : State → Prop} {G : am_Γ} {z : Nat} {X0 : am_X} {call : Nat → List am_V → am_M → am_X → Option am_R} {pc : Nat} {ls : am_S} {st : List am_V} {M : am_M} {X : am_X} {H : Heap} {locs : List Loc} {cells slots : Nat} {lsc : Array Slot}
theorem am_back {d y : Nat} {as : List am_V} {r : am_R} (hcon : am_Con l d y as M X r) (hy : y < 227) (hts : ∀ w ∈ am_W, w.before args s = true) (hfr : d + 7 ≤ R.frames) (hlo : 31 * d + 151 ≤ R.locals) : vx_Back l R p e below s args (am_y y) 3 8 (PreOf R (am_dc X r) (am_ds X r) (am_Pc G M X as)) (PostOf (am_Qr G r) (am_dc X r) (am_ds X r) (am_A G)) (vx_Post (am_XCr G r) (am_dc X r) (am_ds X r) (am_A G)) := by
  obtain ⟨f1, -, f3, -, -, -, f7, -, f9, -⟩ := am_z_facts hy
  have hws : ∀ w ∈ am_ws y, ∀ (a' : Array Value) (U : State), s.WarmedH U.vm → w.before a' U = true := by
    intro w hw a' U hW
    have hw2 : w ∈ am_W := by
      rcases List.mem_cons.mp hw with e | h
      · rw [e]; exact f1
      · exact h
    exact am_W_warm hW hw2 (hts w hw2)
  have hini : ∀ (a' : Array Value) (U : State), s.WarmedH U.vm → (Cond.initialized (am_y y).cls).before a' U = true := by
    intro a' U hW
    rw [f3]
    exact am_W_warm hW (am_init_w f7) (hts _ (am_init_w f7))
  have hmem : am_cw y ∈ am_ws y := List.mem_cons_self
  by_cases ht : am_tr y = true
  · rw [show am_cw y = .code (am_y y) (am_by y) (am_mL y) (am_ret y) from if_pos ht] at hmem
    exact vx_back (hcon G) am_blind rfl rfl (by show d + 6 + 1 ≤ _; omega) (by show 8 + (am_mL y + 11) + (31 * d + 120) ≤ _; omega) hws hmem hini
  · rw [show am_cw y = .codeWith (am_y y) (am_by y) (am_mL y) (am_ret y) (am_hh y) from if_neg ht] at hmem
    exact vx_backW (hcon G) am_blind rfl rfl (by show d + 6 + 1 ≤ _; omega) (by show 8 + (am_mL y + 11) + (31 * d + 120) ≤ _; omega) hws hmem hini
/-- a call, from what its contract says and the machine's first step -/
theorem am_runK {yn : MethodName} {mc ms : Nat} {Pc : Array Value → State → Prop} {Qc : Array Value → State → Outcome → State → Prop} {XC : String → State → State → Prop} {free : Addr → Prop} {g : JFrame} {rest : List Value} {a : Array Value} {ig : Instr} {mk : MethodId}
    (hK : vx_Back l R p e below s args yn 3 8 (PreOf R mc ms Pc) (PostOf Qc mc ms free) (vx_Post XC mc ms free)) (hg : g.method = m) (hsize : g.locals.size = c.maxLocals) (hdg : decode c.code g.pc = .ok (ig, 3)) (hW : 2 * g.monitorRoom + (rest.map fun v => v.category).sum ≤ 8) (hf : cells + mc ≤ R.cells ∧ slots + ms ≤ R.slots) (hnamed : s.methodNamed? yn = some mk)
    (hX : ∀ T : State, T.heap = H → Stand p l e R s m args below meth c T locs cells slots → ∃ vm₁ : Vm, Stand p l e R s m args below meth c (T.setVm vm₁) locs cells slots ∧ ∀ target, (∀ acts, Steps p.tables e below (doInvoke e ((T.setVm vm₁).setTop { g with stack := rest }) acts mk a).1 target) → Steps p.tables e below (T.setTop g) target)
    (hPc : ∀ U : State, U.heap = H → s.WarmedH U.vm → Pc a U) : vx_Run p l e R s m args below meth c H locs cells slots mc ms g rest (Qc a) XC free := by
  intro T hT Y
  obtain ⟨vm₁, X₁, hstep₁⟩ := hX T hT Y
  rcases hK m meth c ⟨T.setVm vm₁, locs, cells, slots⟩ { g with stack := rest } ig mk a X₁ hg hsize hdg hW (X₁.named hnamed) ⟨hf.1, hf.2, hPc (T.setVm vm₁) hT X₁.warmed⟩ with ⟨v, ⟨U', l2, c2, s2⟩, X', ⟨g', mk', t, L, e1, e2, hq, h1, hL, h2, h3⟩, st⟩ | ⟨q, ⟨U', l2, c2, s2⟩, X', ⟨g', mk', t, L, E, ce, e1, e2, hq, hce, hcv, hcl, h1, hL, h2, h3⟩, st⟩
  · dsimp only [Pt.U, Pt.locs, Pt.cells, Pt.slots] at X' e1 e2 h1 h2 h3 st
    subst h1; subst h2; subst h3
    exact Or.inl ⟨v, (T.setVm vm₁).calling g' mk' a, t, U', L, hT, X', hL, e1, e2, hq, fun target h => hstep₁ _ fun acts => by rw [doInvoke_state]; exact st.trans h⟩
  · dsimp only [Pt.U, Pt.locs, Pt.cells, Pt.slots] at X' e1 e2 h1 h2 h3 st hcl
    subst h1; subst h2; subst h3
    exact Or.inr ⟨q, (T.setVm vm₁).calling g' mk' a, t, U', L, E, ce, hT, X', hL, e1, e2, hq, hce, hcv, vx_cls X₁.warmed hcl, hstep₁ _ fun acts => by rw [doInvoke_state]; exact st⟩
theorem am_pre (C : am_Cx p l s m args meth c G z) (hnc : am_Nc s) (hH : am_HR G M X H) (hS : va_S (am_A G) s.heap H locs) {as : List am_V} : ∀ U : State, U.heap = H → s.WarmedH U.vm → am_Pc G M X as (as.map (am_tv G)).toArray U := by
  obtain ⟨hx, hb, hml, hown, hts, hK, hU, hN, hX, hbb, hlk, hst, hini⟩ := C
  intro U hU0 hW
  exact ⟨rfl, by rw [hU0]; exact hH, va_K.moved hW.alike hK, by rw [hU0]; exact vx_Zq.moved hW.alike (hU.kept hS.2.1), by rw [hU0]; exact vx_Zq.moved hW.alike (hN.kept hS.2.1), by rw [hU0]; exact va_X.moved hW.alike (hX.kept (hS.2.1 _ (by omega) (by show ¬ G.1 ≤ G.2.1; omega))), ⟨hbb.1, by rw [hU0]; exact Nat.le_trans hbb.2.1 hS.1, hbb.2.2⟩, fun q hq => va_Nc.moved hW.alike (hnc q hq)⟩
theorem am_len {y : Nat} {vs : List am_V} (hy : y < 227) (hlen : vs.length = am_na y) : ∀ sig, parseMethodDescriptor (am_y y).desc = some sig → (vs.reverse.map (am_tv G)).length = sig.parameters.length := by
  intro sig h
  have f5 := (am_z_facts hy).2.2.2.2.1
  rw [h] at f5
  rw [List.length_map, List.length_reverse, hlen]
  exact (Option.some.inj f5).symm
theorem am_stk {vs rest : List am_V} {l0 : am_L} (hl0 : l0.1 ≠ 0) : (vs ++ .inr (some l0) :: rest).map (am_tv G) = (vs.reverse.map (am_tv G)).reverse ++ .ref (am_adr G l0) :: rest.map (am_tv G) := by
  rw [List.map_append, List.map_cons, ← List.map_reverse, List.reverse_reverse, show am_tv G (.inr (some l0)) = .ref (am_adr G l0) from am_rv_ref hl0]
theorem am_stk0 {vs rest : List am_V} : (vs ++ rest).map (am_tv G) = (vs.reverse.map (am_tv G)).reverse ++ rest.map (am_tv G) := by
  rw [List.map_append, ← List.map_reverse, List.reverse_reverse]
theorem am_arg {as : List am_V} {l0 : am_L} (hl0 : l0.1 ≠ 0) : ((.inr (some l0) :: as : List am_V).map (am_tv G)).toArray = (Value.ref (am_adr G l0) :: as.map (am_tv G)).toArray := by
  rw [List.map_cons, show am_tv G (.inr (some l0)) = .ref (am_adr G l0) from am_rv_ref hl0]
theorem am_run_v {d ix y : Nat} {vs rest : List am_V} {l0 : am_L} {r : am_R} (C : am_Cx p l s m args meth c G z) (hnc : am_Nc s) (hm : am_ml (am_own z) ix = some (0, y)) (dg : decode (am_by z) pc = .ok (.invokevirtual ix, 3)) (hlen : vs.length = am_na y) (h4 : rest.length ≤ 4) (hal : am_al X.2.1 l0 = true) (hkd : am_kd l0 = (0, am_own y, 0)) (hcon : am_Con l d y (.inr (some l0) :: vs.reverse) M X r) (hfr : d + 7 ≤ R.frames) (hlo : 31 * d + 151 ≤ R.locals) (hH : am_HR G M X H) (hS : va_S (am_A G) s.heap H locs) (hsz : lsc.size = am_mL z) (hf : cells + am_dc X r ≤ R.cells ∧ slots + am_ds X r ≤ R.slots) :
    vx_Run p l e R s m args below meth c H locs cells slots (am_dc X r) (am_ds X r) (F0 m pc lsc ((vs ++ .inr (some l0) :: rest).map (am_tv G))) (rest.map (am_tv G)) (am_Qr G r ((.inr (some l0) :: vs.reverse : List am_V).map (am_tv G)).toArray) (am_XCr G r) (am_A G) := by
  obtain ⟨i, hi⟩ := am_al2_in am_ml_ok _ (am_look_in hm)
  simp only [am_mlw, Bool.and_eq_true, decide_eq_true_eq, beq_iff_eq] at hi
  obtain ⟨-, ⟨⟨hlk0, hks⟩, hy⟩, htr⟩ := hi
  have hpre := am_pre C hnc hH hS (as := .inr (some l0) :: vs.reverse)
  have hl0 := am_kd_ne hkd (by decide)
  have hci := am_kd_ci hkd
  have hc0 := hH.1 l0 hal hl0
  unfold am_cell at hc0
  simp only [hkd] at hc0
  obtain ⟨cellB, q1, q2, q3, -⟩ := hc0
  obtain ⟨hx, hb, hml, hown, hts, hK, hU, hN, hX, hbb, hlk, hst, hini⟩ := C
  obtain ⟨f1, ⟨-, f2, -, -⟩, f3, f4, f5, -⟩ := am_z_facts hy
  obtain ⟨f6, f7⟩ := f2 hks
  rw [show am_cw y = .code (am_y y) (am_by y) (am_mL y) (am_ret y) from if_pos htr] at f1
  have hcls := (hK.1 (am_own y) _ (am_cl_at _ hci)).2.1
  obtain ⟨mk, methM, hnamed, hmethM, hstM, habM⟩ := Cond.instanceMethod_spec (hts _ f6)
  obtain ⟨methM', cM, hmethM', -, -, -, -, -, -, hsigM⟩ := Cond.code_spec hnamed (hts _ f1)
  cases hmethM.symm.trans hmethM'
  obtain ⟨c2, r2, m2, g1, g2, g3, g4, kP, hkP, hkPi⟩ := Cond.selects_spec (hts _ f7)
  have hclB : s.vm.findClass (am_cR (am_own y)) = some cellB.cls := by rw [q2]; exact hcls
  cases hclB.symm.trans g1
  cases (State.methodFound?_of_named hnamed f4).symm.trans g2
  cases hnamed.symm.trans g3
  refine am_runK (am_back hcon hy hts hfr hlo) (ig := .invokevirtual ix) rfl (by rw [hml]; exact hsz) (by rw [hb]; exact dg) (lv_room (am_cat rest h4)) hf hnamed (fun T hT Y => ?_) hpre
  have hselP : selectMethod e.platform s.vm cellB.cls mk = .method mk := by rw [Launch.admits_selectMethod Y.admits]; exact g4
  rw [am_arg hl0]
  exact Y.invokevirtual hx hown (hts _ (am_at_in hlk0)) hnamed hmethM hstM hkP hkPi f4 (a := am_adr G l0) (cell := cellB) (by rw [hT]; exact q1) (fun z h => by rw [q3] at h; cases h) hselP hmethM habM hkP hkPi (g := F0 m pc lsc ((vs ++ .inr (some l0) :: rest).map (am_tv G))) rfl (argsL := vs.reverse.map (am_tv G)) (rest := rest.map (am_tv G)) (am_len hy hlen _ hsigM) (am_stk hl0) (by rw [hb]; exact dg)
theorem am_run_s {d ix y k : Nat} {vs rest : List am_V} {r : am_R} (C : am_Cx p l s m args meth c G z) (hnc : am_Nc s) (hm : am_ml (am_own z) ix = some (k, y)) (hk : k = 1 ∨ k = 4) (dg : decode (am_by z) pc = .ok (.invokestatic ix, 3)) (hlen : vs.length = am_na y) (h4 : rest.length ≤ 4) (hcon : am_Con l d y vs.reverse M X r) (hfr : d + 7 ≤ R.frames) (hlo : 31 * d + 151 ≤ R.locals) (hH : am_HR G M X H) (hS : va_S (am_A G) s.heap H locs) (hsz : lsc.size = am_mL z) (hf : cells + am_dc X r ≤ R.cells ∧ slots + am_ds X r ≤ R.slots) :
    vx_Run p l e R s m args below meth c H locs cells slots (am_dc X r) (am_ds X r) (F0 m pc lsc ((vs ++ rest).map (am_tv G))) (rest.map (am_tv G)) (am_Qr G r (vs.reverse.map (am_tv G)).toArray) (am_XCr G r) (am_A G) := by
  obtain ⟨i, hi⟩ := am_al2_in am_ml_ok _ (am_look_in hm)
  have hpre := am_pre C hnc hH hS (as := vs.reverse)
  obtain ⟨hx, hb, hml, hown, hts, hK, hU, hN, hX, hbb, hlk, hst, hini⟩ := C
  have go : ∀ (hy : y < 227) (hks : am_ks y = 0) (_ : (Cond.methodLink (am_cR (am_own z)) ix (am_y y)).before args s = true ∨ (Cond.methodLinkNest (am_cR (am_own z)) ix (am_y y) "BellTelegraph").before args s = true), vx_Run p l e R s m args below meth c H locs cells slots (am_dc X r) (am_ds X r) (F0 m pc lsc ((vs ++ rest).map (am_tv G))) (rest.map (am_tv G)) (am_Qr G r (vs.reverse.map (am_tv G)).toArray) (am_XCr G r) (am_A G) := by
    intro hy hks hlink
    obtain ⟨f1, ⟨f2, -, -, -⟩, f3, f4, f5, -, f7, -⟩ := am_z_facts hy
    obtain ⟨mk, methM, hnamed, hmethM, hsigM⟩ := am_named hy hts
    have hstatic : methM.isStatic = true := Cond.static_spec hnamed hmethM (hts _ (f2 hks))
    obtain ⟨kP, hkP, -⟩ := className_of_methodNamed hnamed
    have hinitP : kP.init = .initialized := Cond.initialized_spec (findClass_of_methodNamed hnamed) hkP (by rw [f3]; exact hts _ (am_init_w f7))
    refine am_runK (am_back hcon hy hts hfr hlo) (ig := .invokestatic ix) rfl (by rw [hml]; exact hsz) (by rw [hb]; exact dg) (lv_room (am_cat rest h4)) hf hnamed (fun T hT Y => ?_) hpre
    rcases hlink with hlink | hlink
    · exact Y.invokestatic hx hown hlink hnamed hmethM hstatic hkP hinitP f4 (g := F0 m pc lsc ((vs ++ rest).map (am_tv G))) rfl (argsL := vs.reverse.map (am_tv G)) (rest := rest.map (am_tv G)) (am_len hy hlen _ hsigM) am_stk0 (by rw [hb]; exact dg)
    · exact Y.invokestaticNest hx hown hlink hnamed hmethM hstatic hkP hinitP f4 (g := F0 m pc lsc ((vs ++ rest).map (am_tv G))) rfl (argsL := vs.reverse.map (am_tv G)) (rest := rest.map (am_tv G)) (am_len hy hlen _ hsigM) am_stk0 (by rw [hb]; exact dg)
  rcases hk with rfl | rfl
  · simp only [am_mlw, Bool.and_eq_true, decide_eq_true_eq, beq_iff_eq] at hi
    obtain ⟨-, ⟨hlk0, hks⟩, hy⟩ := hi
    exact go hy hks (Or.inl (hts _ (am_at_in hlk0)))
  · simp only [am_mlw, Bool.and_eq_true, decide_eq_true_eq, beq_iff_eq] at hi
    obtain ⟨-, ⟨⟨hlk0, hks⟩, hy⟩, -⟩ := hi
    exact go hy hks (Or.inr (hts _ (am_at_in hlk0)))
theorem am_run_i {d ix y k : Nat} {vs rest : List am_V} {l0 : am_L} {r : am_R} (C : am_Cx p l s m args meth c G z) (hnc : am_Nc s) (hm : am_ml (am_own z) ix = some (k, y)) (hk : k = 2 ∨ k = 3) (dg : decode (am_by z) pc = .ok (.invokespecial ix, 3)) (hlen : vs.length = am_na y) (h4 : rest.length ≤ 4) (hkd : am_kd l0 = (0, am_own y, 0)) (hcon : am_Con l d y (.inr (some l0) :: vs.reverse) M X r) (hfr : d + 7 ≤ R.frames) (hlo : 31 * d + 151 ≤ R.locals) (hH : am_HR G M X H) (hS : va_S (am_A G) s.heap H locs) (hsz : lsc.size = am_mL z) (hf : cells + am_dc X r ≤ R.cells ∧ slots + am_ds X r ≤ R.slots) :
    vx_Run p l e R s m args below meth c H locs cells slots (am_dc X r) (am_ds X r) (F0 m pc lsc ((vs ++ .inr (some l0) :: rest).map (am_tv G))) (rest.map (am_tv G)) (am_Qr G r ((.inr (some l0) :: vs.reverse : List am_V).map (am_tv G)).toArray) (am_XCr G r) (am_A G) := by
  obtain ⟨i, hi⟩ := am_al2_in am_ml_ok _ (am_look_in hm)
  have hpre := am_pre C hnc hH hS (as := .inr (some l0) :: vs.reverse)
  have hl0 := am_kd_ne hkd (by decide)
  obtain ⟨hx, hb, hml, hown, hts, hK, hU, hN, hX, hbb, hlk, hst, hini⟩ := C
  have go : ∀ (hy : y < 227) (hks : am_ks y = 2) (htr : am_tr y = true) (_ : (Cond.methodLink (am_cR (am_own z)) ix (am_y y)).before args s = true ∨ (Cond.methodLinkNest (am_cR (am_own z)) ix (am_y y) "BellTelegraph").before args s = true), vx_Run p l e R s m args below meth c H locs cells slots (am_dc X r) (am_ds X r) (F0 m pc lsc ((vs ++ .inr (some l0) :: rest).map (am_tv G))) (rest.map (am_tv G)) (am_Qr G r ((.inr (some l0) :: vs.reverse : List am_V).map (am_tv G)).toArray) (am_XCr G r) (am_A G) := by
    intro hy hks htr hlink
    obtain ⟨f1, ⟨-, -, f2, -⟩, f3, f4, f5, -, f7, -⟩ := am_z_facts hy
    obtain ⟨f6, f8⟩ := f2 hks
    rw [show am_cw y = .code (am_y y) (am_by y) (am_mL y) (am_ret y) from if_pos htr, am_ini_ret y hy hks] at f1
    obtain ⟨mk, methM, hnamed, hmethM, hsigM⟩ := am_named hy hts
    refine am_runK (am_back hcon hy hts hfr hlo) (ig := .invokespecial ix) rfl (by rw [hml]; exact hsz) (by rw [hb]; exact dg) (lv_room (am_cat rest h4)) hf hnamed (fun T hT Y => ?_) hpre
    have hpl : e.platform.magicAccessors = ({} : Platform).magicAccessors := by rw [Y.admits.platform]
    rw [am_arg hl0]
    rcases hlink with hlink | hlink
    · obtain ⟨mk2, methM2, cM, kP, vm₁, hn2, -, -, -, -, -, -, -, hW₁, hstep₁⟩ := Steps.initColdArgs (e := e) Y.here hx Y.warmed hpl hown f8 f4 hlink (hts _ f6) (hts _ f1) (f := F0 m pc lsc ((vs ++ .inr (some l0) :: rest).map (am_tv G))) rfl (fun sig h => am_len (G := G) hy hlen sig h) (am_stk hl0) (by rw [hb]; exact dg)
      cases hnamed.symm.trans hn2
      exact ⟨vm₁, Y.noted hW₁, hstep₁⟩
    · obtain ⟨mk2, methM2, cM, kP, vm₁, hn2, -, -, -, -, -, -, -, hW₁, hstep₁⟩ := Steps.initColdArgsNest (e := e) Y.here hx Y.warmed hpl hown f8 f4 hlink (hts _ f6) (hts _ f1) (f := F0 m pc lsc ((vs ++ .inr (some l0) :: rest).map (am_tv G))) rfl (fun sig h => am_len (G := G) hy hlen sig h) (am_stk hl0) (by rw [hb]; exact dg)
      cases hnamed.symm.trans hn2
      exact ⟨vm₁, Y.noted hW₁, hstep₁⟩
  rcases hk with rfl | rfl
  · simp only [am_mlw, Bool.and_eq_true, decide_eq_true_eq, beq_iff_eq] at hi
    obtain ⟨-, ⟨⟨hlk0, hks⟩, hy⟩, htr⟩ := hi
    exact go hy hks htr (Or.inl (hts _ (am_at_in hlk0)))
  · simp only [am_mlw, Bool.and_eq_true, decide_eq_true_eq, beq_iff_eq] at hi
    obtain ⟨-, ⟨⟨hlk0, hks⟩, hy⟩, htr⟩ := hi
    exact go hy hks htr (Or.inr (hts _ (am_at_in hlk0)))
/-- behind a call that returned -/
theorem am_after_v {st0 rest : List Value} {a : Array Value} {r : am_R} {v : Option am_V} (hr : vx_Run p l e R s m args below meth c H locs cells slots (am_dc X r) (am_ds X r) (F0 m pc lsc st0) rest (am_Qr G r a) (am_XCr G r) (am_A G)) (hS : va_S (am_A G) s.heap H locs) (hrv : r.1 = .inl v)
    (kk : ∀ (H1 : Heap) (locs1 : List Loc), am_HR G r.2.1 r.2.2 H1 → va_S (am_A G) s.heap H1 locs1 → W p l e R s m args below meth c H1 locs1 (cells + am_dc X r) (slots + am_ds X r) Q (F0 m (pc + 3) lsc ((v.map (am_tv G)).toList ++ rest))) : W p l e R s m args below meth c H locs cells slots Q (F0 m pc lsc st0) := by
  intro T hT Y
  rcases hr T hT Y with ⟨v', st₀, t, T', L, h0, X', hL, e1, e2, ⟨v2, g1, g2, g3, g4⟩, st⟩ | ⟨q, st₀, t, T', L, E, ce, h0, X', hL, e1, e2, ⟨E2, g1, -⟩, -⟩
  · rw [hrv] at g1
    cases g1
    cases g2
    obtain ⟨k1, k2, k3⟩ := vx_keep h0 e1 hS (fun q _ h => h) (fun q h => h) hL g4
    obtain ⟨t2, a1, b1⟩ := kk T'.heap (locs ++ L) (by rw [e1]; exact g3) k3 T' rfl X'
    exact ⟨t2, st t2 a1, b1⟩
  · rw [hrv] at g1
    cases g1
/-- behind a call that threw -/
theorem am_after_x {st0 rest : List Value} {a : Array Value} {r : am_R} {E : Nat} (hr : vx_Run p l e R s m args below meth c H locs cells slots (am_dc X r) (am_ds X r) (F0 m pc lsc st0) rest (am_Qr G r a) (am_XCr G r) (am_A G)) (hS : va_S (am_A G) s.heap H locs) (hrv : r.1 = .inr E)
    (kx : ∀ (H1 : Heap) (locs1 : List Loc) (q : Addr) (ce : Cell), am_HR G r.2.1 r.2.2 H1 → va_S (am_A G) s.heap H1 locs1 → H1[q]? = some ce → ce.vm = .none → s.vm.findClass (am_en E) = some ce.cls → vx_W p l e R s m args below meth c H1 locs1 (cells + am_dc X r) (slots + am_ds X r) Q (F0 m pc lsc rest) q) : W p l e R s m args below meth c H locs cells slots Q (F0 m pc lsc st0) := by
  intro T hT Y
  rcases hr T hT Y with ⟨v', st₀, t, T', L, h0, X', hL, e1, e2, ⟨v2, g1, g2, g3, g4⟩, st⟩ | ⟨q, st₀, t, T', L, E1, ce, h0, X', hL, e1, e2, ⟨E2, g1, g2, g3, g4⟩, hce, hcv, hcl, st⟩
  · rw [hrv] at g1
    cases g1
  · rw [hrv] at g1
    cases g1
    subst g2
    obtain ⟨k1, k2, k3⟩ := vx_keep h0 e1 hS (fun q _ h => h) (fun q h => h) hL g4
    obtain ⟨t2, a1, b1⟩ := kx T'.heap (locs ++ L) q ce (by rw [e1]; exact g3) k3 (by rw [e1]; exact hce) hcv hcl T' rfl X'
    exact ⟨t2, st.trans a1, b1⟩
theorem am_cas {E : Nat} (hE : E < 6) : Cond.castable (am_en E) (am_en E) ∈ am_W := by
  obtain ⟨i, hi⟩ := am_al2_in am_cas_ok _ (List.mem_range.mpr hE)
  exact am_at_in hi
/-- a handler takes it, and puts it into a local -/
theorem am_catch1 {E t j : Nat} {q0 : Nat × Nat × Nat × Nat} {h0 : Nat × Nat × Nat × Nat × Nat} {i0 : Nat} {pre suf : List ExceptionTableEntry} (C : am_Cx p l s m args meth c G z) (he : am_he z q0 h0 i0 = true) (hcv : h0.1 ≤ pc ∧ pc < h0.2.1 ∧ h0.2.2.1 = E) (htj : h0.2.2.2 = (t, j)) (hj : j < am_mL z) (hsplit : c.exceptionTable.toList = pre ++ ⟨q0.1, q0.2.1, q0.2.2.1, q0.2.2.2⟩ :: suf) (hpass : ∀ y ∈ pre, covers y pc = false ∨ (y.catchType ≠ 0 ∧ ∃ nm : String, (Cond.classLink (am_cR (am_own z)) y.catchType nm).before args s = true ∧ va_Nc (am_en E) nm s))
    {rest : List Value} {q : Addr} {ce : Cell} (hl : am_lv G (am_mL z) ls lsc) (hcell : H[q]? = some ce) (hv : ce.vm = .none) (hcl : s.vm.findClass (am_en E) = some ce.cls)
    (kk : ∀ lsc' : Array Slot, am_lv G (am_mL z) (am_put ls j none) lsc' → W p l e R s m args below meth c H locs cells slots Q (F0 m t lsc' [])) : vx_W p l e R s m args below meth c H locs cells slots Q (F0 m pc lsc rest) q := by
  obtain ⟨hx, hb, hml, hown, hts, hK, hU, hN, hX, hbb, hlk, hst, hini⟩ := C
  simp only [am_he, Bool.and_eq_true, decide_eq_true_eq] at he
  obtain ⟨⟨⟨⟨⟨⟨e1, e2⟩, e3⟩, e4⟩, e5⟩, e6⟩, e7⟩ := he
  obtain ⟨b1, b2, b3⟩ := hcv
  have ht : h0.2.2.2.1 = t := by rw [htj]
  have hj' : h0.2.2.2.2 = j := by rw [htj]
  rw [b3] at e4 e5
  have hlen : ls.length = am_mL z := hl.2
  refine vx_catch hown pre ⟨q0.1, q0.2.1, q0.2.2.1, q0.2.2.2⟩ suf hsplit hpass (by simp only [covers, Bool.and_eq_true, decide_eq_true_eq]; omega) e3 (name := am_en E) (by rw [e6]; exact hts _ (am_at_in e5)) (hts _ (am_cas e4)) hcell hv hcl ?_
  show W p l e R s m args below meth c H locs cells slots Q (F0 m q0.2.2.1 lsc [.ref q])
  split at e7
  · rename_i k hcd
    simp only [Bool.and_eq_true, decide_eq_true_eq] at e7
    have hk : k.val = j := e7.1.trans hj'
    have ht2 : q0.2.2.1 + 1 = t := e7.2.trans ht
    refine lv_astore_n hx hb (am_dg hcd rfl (by decide)) hk hl.1 hj rfl (fun lsc' hl' => ?_)
    rw [ht2]
    exact kk lsc' (am_lv.sub hl' (by rw [am_put_len]; exact hl.2) (am_put_sub (by omega) none _ (fun u e => by cases e)))
  · rename_i k hcd
    simp only [Bool.and_eq_true, decide_eq_true_eq] at e7
    have hk : k = j := e7.1.trans hj'
    have ht2 : q0.2.2.1 + 2 = t := e7.2.trans ht
    subst hk
    refine lv_astore hx hb (am_dg hcd rfl (by decide)) hl.1 hj rfl (fun lsc' hl' => ?_)
    rw [ht2]
    exact kk lsc' (am_lv.sub hl' (by rw [am_put_len]; exact hl.2) (am_put_sub (by omega) none _ (fun u e => by cases e)))
  · cases e7
theorem am_catch {E t j : Nat} (hz : z < 228) (C : am_Cx p l s m args meth c G z) (hnc : am_Nc s) (htab : c.exceptionTable.toList = tableOf (am_hh z)) (hd : am_hd z pc E = some (t, j)) {rest : List Value} {q : Addr} {ce : Cell} (hl : am_lv G (am_mL z) ls lsc) (hcell : H[q]? = some ce) (hv : ce.vm = .none) (hcl : s.vm.findClass (am_en E) = some ce.cls)
    (kk : ∀ lsc' : Array Slot, am_lv G (am_mL z) (am_put ls j none) lsc' → W p l e R s m args below meth c H locs cells slots Q (F0 m t lsc' [])) : vx_W p l e R s m args below meth c H locs cells slots Q (F0 m pc lsc rest) q := by
  obtain ⟨is, hk⟩ := am_hk_ok z
  rw [Bool.and_eq_true] at hk
  obtain ⟨hk1, hk2⟩ := hk
  have hj := am_hj hz
  unfold am_hd at hd
  unfold am_hps at hk2
  have hts := C.2.2.2.2.1
  split at hk2
  · rename_i e0
    rw [e0] at hd
    cases hd
  · rename_i a e0
    rw [e0] at hd hk1 hj
    unfold am_hf at hd
    split at hd
    · rename_i hcv
      cases hh : am_hh z with
      | nil => rw [hh] at hk1; cases hk1
      | cons q0 qs =>
        rw [hh] at hk1 htab
        cases is with
        | nil => cases hk1
        | cons i0 is =>
          simp only [am_hes, Bool.and_eq_true] at hk1
          cases qs with
          | cons => exact absurd hk1.2 (by simp [am_hes])
          | nil =>
            have htj := Option.some.inj hd
            exact am_catch1 C hk1.1 hcv htj (by have := hj a (by simp); rw [htj] at this; exact this) (pre := []) (suf := []) htab (fun y h => by cases h) hl hcell hv hcl kk
    · cases hd
  · rename_i a b e0
    rw [e0] at hd hk1 hj
    have hncs := of_decide_eq_true hk2
    cases hh : am_hh z with
    | nil => rw [hh] at hk1; cases hk1
    | cons q0 qs =>
      rw [hh] at hk1 htab
      cases is with
      | nil => cases hk1
      | cons i0 is =>
        simp only [am_hes, Bool.and_eq_true] at hk1
        obtain ⟨ha, hk1⟩ := hk1
        cases qs with
        | nil => cases hk1
        | cons q1 qs =>
          cases is with
          | nil => cases hk1
          | cons i1 is =>
            simp only [am_hes, Bool.and_eq_true] at hk1
            obtain ⟨hb, hk1⟩ := hk1
            cases qs with
            | cons => exact absurd hk1 (by simp [am_hes])
            | nil =>
              unfold am_hf at hd
              split at hd
              · rename_i hcv
                have htj := Option.some.inj hd
                exact am_catch1 C ha hcv htj (by have := hj a (by simp); rw [htj] at this; exact this) (pre := []) (suf := [⟨q1.1, q1.2.1, q1.2.2.1, q1.2.2.2⟩]) htab (fun y h => by cases h) hl hcell hv hcl kk
              · rename_i hncv
                unfold am_hf at hd
                split at hd
                · rename_i hcv
                  have htj := Option.some.inj hd
                  refine am_catch1 C hb hcv htj (by have := hj b (by simp); rw [htj] at this; exact this) (pre := [⟨q0.1, q0.2.1, q0.2.2.1, q0.2.2.2⟩]) (suf := []) htab (fun y h => ?_) hl hcell hv hcl kk
                  rw [List.mem_singleton] at h
                  subst h
                  simp only [am_he, Bool.and_eq_true, decide_eq_true_eq] at ha
                  obtain ⟨⟨⟨⟨⟨⟨e1, e2⟩, e3⟩, e4⟩, e5⟩, e6⟩, e7⟩ := ha
                  refine Or.inr ⟨e3, am_en a.2.2.1, by rw [e6]; exact hts _ (am_at_in e5), ?_⟩
                  rw [← hcv.2.2]
                  exact hnc _ hncs
                · cases hd
  · cases hk2
end AmCalls
end
section
/-! SOUNDNESS: what the abstract machine answers, the machine answers -/
section AmSound
variable {p : Program} {l : Launch} {e : Env} {R : Room} {s : State} {m : MethodId} {args : Array Value} {below : List Frame} {meth : Method} {c : Code} {Q : State → Prop} {G : am_Γ} {z : Nat} {X0 : am_X} {call : Nat → List am_V → am_M → am_X → Option am_R} {pc : Nat} {ls : am_S} {st : List am_V} {M : am_M} {X : am_X}
theorem am_ml_at {o ix k y : Nat} (hm : am_ml o ix = some (k, y)) : ∃ i, am_mlw (o, ix, k, y) i = true := am_al2_in am_ml_ok _ (am_look_in hm)
theorem am_ml_lt {o ix k y : Nat} (hm : am_ml o ix = some (k, y)) (hk : k < 5) : y < 227 := by
  obtain ⟨i, hi⟩ := am_ml_at hm
  have h5 : k = 0 ∨ k = 1 ∨ k = 2 ∨ k = 3 ∨ k = 4 := by omega
  rcases h5 with rfl | rfl | rfl | rfl | rfl <;> simp only [am_mlw, Bool.and_eq_true, decide_eq_true_eq] at hi
  · exact hi.2.1.2
  · exact hi.2.2
  · exact hi.2.1.2
  · exact hi.2.1.2
  · exact hi.2.1.2
theorem am_s_obj {ix y : Nat} (C : am_Cx p l s m args meth c G z) (hm : am_ml (am_own z) ix = some (5, y)) (dg : decode (am_by z) pc = .ok (.invokespecial ix, 3)) (hR : 7 ≤ R.frames ∧ 151 ≤ R.locals) {w} (h : am_st call z (.invokespecial ix) pc ls st M X = some (.inl w)) (K : am_Sm p l e R s m args below meth c Q G z X0 w) : am_Sm p l e R s m args below meth c Q G z X0 (pc, ls, st, M, X) := by
  obtain ⟨i, hi⟩ := am_ml_at hm
  simp only [am_mlw, Bool.and_eq_true] at hi
  obtain ⟨hx, hb, hml, hown, hts, hK, hU, hN, hX, hbb, hlk, hst, hini⟩ := C
  simp only [am_st, am_ex, hm, am_inv] at h
  intro H locs lsc hH hS hl
  obtain ⟨l0, rest, rfl, h1⟩ := am_popP_i h
  obtain ⟨h4, h2⟩ := am_sm_i h1
  cases h2
  have hc8 := am_cat (G := G) rest h4
  exact W.objInit hx hb hown (hts _ (am_at_in hi.2)) (hts _ (am_ob_w (by simp [am_ob]))) (hts _ (am_ob_w (by simp [am_ob]))) rfl (by rw [hml]; exact hl.1.1) (a := if l0.1 = 0 then G.2.1 else am_adr G l0) rfl dg (by omega) (by show 2 * 0 + _ + 12 ≤ _; omega) (K H locs lsc hH hS hl)
theorem am_s_min {ix y : Nat} (C : am_Cx p l s m args meth c G z) (hm : am_ml (am_own z) ix = some (6, y)) (dg : decode (am_by z) pc = .ok (.invokestatic ix, 3)) (hR : 7 ≤ R.frames ∧ 151 ≤ R.locals) (hrm : X.2.2.1 - X0.2.2.1 ≤ R.cells ∧ X.2.2.2.1 - X0.2.2.2.1 ≤ R.slots) {w} (h : am_st call z (.invokestatic ix) pc ls st M X = some (.inl w)) (K : am_Sm p l e R s m args below meth c Q G z X0 w) : am_Sm p l e R s m args below meth c Q G z X0 (pc, ls, st, M, X) := by
  obtain ⟨i, hi⟩ := am_ml_at hm
  simp only [am_mlw, Bool.and_eq_true] at hi
  obtain ⟨hx, hb, hml, hown, hts, hK, hU, hN, hX, hbb, hlk, hst, hini⟩ := C
  simp only [am_st, am_ex, hm, am_inv] at h
  intro H locs lsc hH hS hl
  obtain ⟨y1, st1, rfl, h1⟩ := am_popI_i h
  obtain ⟨x1, rest, rfl, h2⟩ := am_popI_i h1
  obtain ⟨h4, h3⟩ := am_sm_i h2
  cases h3
  have hc8 := am_cat (G := G) rest h4
  exact va_mmin hx hb (by rw [hml]; exact hl.1.1.symm) hown (hts _ (am_at_in hi.2)) (hts _ (am_ob_w (by simp [am_ob]))) (hts _ (am_ob_w (by simp [am_ob]))) (hts _ (am_ob_w (by simp [am_ob]))) (by omega) (by omega) hrm.1 hrm.2 dg (K H locs lsc hH hS hl)
theorem am_nfw : nativeFrameWords "java/lang/System" "arraycopy" 5 + 11 ≤ 100 := by decide +kernel
/-- arraycopy between two rows of ints, only the second one changes -/
theorem am_Wcopy {H : Heap} {locs : List Loc} {cells slots : Nat} {lsc : Array Slot} {rest : List Value} {own : String} {index a a0 : Nat} {c1 : ClassId} {n0 n1 : Nat} {f g : Nat → Int32} (hx : p.tables.exec = Jvm.exec) (hb : c.code = am_by z) (hml : c.maxLocals = lsc.size) (hown : s.vm.findClass own = some m.cls)
    (hlink : (Cond.methodLink own index arraycopyName).before args s = true) (hnat : (Cond.native arraycopyName).before args s = true) (hstat : (Cond.static arraycopyName).before args s = true) (hini : (Cond.initialized "java/lang/System").before args s = true)
    (hK0 : va_K G.2.2.1 am_cl (am_tys G) s) (ht1 : (am_tys G)[0]? = some (c1, .int)) (hc0 : H[a0]? = some (arrV c1 n0 (fun j => .int (f j)))) (hc1 : H[a]? = some (arrV c1 n1 (fun j => .int (g j))))
    {sp dp n : Int32} (h1 : ¬ sp < 0) (h2 : ¬ dp < 0) (h3 : ¬ n < 0) (h4 : sp.toNatClampNeg + n.toNatClampNeg ≤ n0) (h5 : dp.toNatClampNeg + n.toNatClampNeg ≤ n1)
    (hframes : 1 ≤ R.frames) (hlocals : (rest.map fun v => v.category).sum + 100 ≤ R.locals) (dg : decode (am_by z) pc = .ok (.invokestatic index, 3))
    (kk : ∀ (H1 : Heap) (L : List Loc), H1.size = H.size → (∀ q : Nat, q ≠ a → H1[q]? = H[q]?) → H1[a]? = some (arrV c1 n1 (fun j => .int (va_cpy f g sp.toNatClampNeg dp.toNatClampNeg n.toNatClampNeg j))) → (∀ x ∈ L, x.base = a) → W p l e R s m args below meth c H1 (locs ++ L) cells slots Q (F0 m (pc + 3) lsc rest)) :
    W p l e R s m args below meth c H locs cells slots Q (F0 m pc lsc (.int n :: .int dp :: .ref a :: .int sp :: .ref a0 :: rest)) := by
  have nn : ∀ x : Int32, ¬ x < 0 → x.toInt = (x.toNatClampNeg : Int) := by
    intro x hx0
    have hz0 : (0 : Int) ≤ x.toInt := by
      have := Int32.not_lt.mp hx0
      simpa using Int32.le_iff_toInt_le.mp this
    show x.toInt = ((x.toInt.toNat : Nat) : Int)
    omega
  have hw := am_nfw
  intro T hT Y
  obtain ⟨-, k0, hk0, cm0, hkk0⟩ := (hK0.2 0 _ ht1).1 n0 (fun j => .int (f j))
  obtain ⟨-, k1, hk1, cm1, hkk1⟩ := (hK0.2 0 _ ht1).1 n1 (fun j => .int (g j))
  obtain ⟨vm', Y', step⟩ := Y.arraycopy hx hown hlink hnat hstat hini (src := a0) (dst := a) (cs := arrV c1 n0 (fun j => .int (f j))) (cd := arrV c1 n1 (fun j => .int (g j))) (srcPos := sp) (destPos := dp) (n := n) (by rw [hT]; exact hc0) (by rw [hT]; exact hc1)
    (fun _ h => by cases h) (fun _ h => by cases h) (fun h => by cases h) (fun h => by cases h) hk0 hk1 hkk0 hkk1 (by simp [refKind]) h1 h2 h3
    (by rw [nn sp h1, nn n h3, arrV_size]; omega) (by rw [nn dp h2, nn n h3, arrV_size]; omega)
    (fun vm₁ _ i hi => by
      have e : (arrV c1 n0 (fun j => .int (f j))).slots.getD (sp.toNatClampNeg + i) .null = .int (f (sp.toNatClampNeg + i)) := by
        rw [Array.getD_eq_getD_getElem?, arrV_read _ _ (by omega)]
        rfl
      refine ⟨?_, ?_⟩
      · rw [e]; rfl
      · rw [e]; exact trivial)
    (g := F0 m pc lsc (.int n :: .int dp :: .ref a :: .int sp :: .ref a0 :: rest)) rfl (by rw [hml]) (rest := rest) rfl (by rw [hb]; exact dg) hframes (by show 2 * 0 + _ + _ ≤ _; omega)
  have e1 : copied (arrV c1 n0 (fun j => .int (f j))) (arrV c1 n1 (fun j => .int (g j))) sp dp n = arrV c1 n1 (fun j => .int (va_cpy f g sp.toNatClampNeg dp.toNatClampNeg n.toNatClampNeg j)) := va_copied (fun x => .int x) c1 c1 f g h4
  rw [e1] at Y' step
  have hl : a < H.size := (Array.getElem?_eq_some_iff.mp hc1).1
  have hheap : ∀ x : Cell, ((T.setVm vm').setCell a x).heap = H.setIfInBounds a x := fun x => by rw [← hT]; rfl
  obtain ⟨t, a1, b1⟩ := kk _ _ (by simp) (fun q hq => by simp [Array.getElem?_setIfInBounds, Ne.symm hq]) (by simp [Array.getElem?_setIfInBounds, hl]) (fun x hx0 => by obtain ⟨y, -, hy⟩ := List.mem_map.mp hx0; rw [← hy]) _ (hheap _) Y'
  exact ⟨t, step t a1, b1⟩
theorem am_s_copy {ix y : Nat} (C : am_Cx p l s m args meth c G z) (hm : am_ml (am_own z) ix = some (7, y)) (dg : decode (am_by z) pc = .ok (.invokestatic ix, 3)) (hR : 7 ≤ R.frames ∧ 151 ≤ R.locals) {w} (h : am_st call z (.invokestatic ix) pc ls st M X = some (.inl w)) (K : am_Sm p l e R s m args below meth c Q G z X0 w) : am_Sm p l e R s m args below meth c Q G z X0 (pc, ls, st, M, X) := by
  obtain ⟨i, hi⟩ := am_ml_at hm
  simp only [am_mlw, Bool.and_eq_true] at hi
  obtain ⟨hx, hb, hml, hown, hts, hK, hU, hN, hX, hbb, hlk, hst, hini⟩ := C
  simp only [am_st, am_ex, hm, am_inv] at h
  intro H locs lsc hH hS hl
  dsimp only at hH hl ⊢
  obtain ⟨n, st1, rfl, h1⟩ := am_popI_i h
  obtain ⟨dp, st2, rfl, h2⟩ := am_popI_i h1
  obtain ⟨a, st3, rfl, h3⟩ := am_popP_i h2
  obtain ⟨sp, st4, rfl, h5⟩ := am_popI_i h3
  obtain ⟨a0, rest, rfl, h6⟩ := am_popP_i h5
  obtain ⟨h4, h7⟩ := am_sm_i h6
  obtain ⟨⟨g1, g2, g3, g4, g5, g6, g7, g8, g9, g10⟩, h8⟩ := am_if_i h7
  cases h8
  have hc8 := am_cat (G := G) rest h4
  obtain ⟨k1, k2, ka⟩ : ∃ x y, am_kd a = (1, x, y) := ⟨(am_kd a).2.1, (am_kd a).2.2, by rw [← g4]⟩
  obtain ⟨k3, k4, kb⟩ : ∃ x y, am_kd a0 = (1, x, y) := ⟨(am_kd a0).2.1, (am_kd a0).2.2, by rw [← g5]⟩
  have ha := am_kd_ne ka (by decide)
  have ha0 := am_kd_ne kb (by decide)
  show W p l e R s m args below meth c H locs _ _ Q (F0 m pc lsc (.int n :: .int dp :: am_rv G (some a) :: .int sp :: am_rv G (some a0) :: rest.map (am_tv G)))
  rw [am_rv_ref ha, am_rv_ref ha0]
  rw [ka] at g10
  rw [kb] at g9
  refine am_Wcopy hx hb (by rw [hml]; exact hl.1.1.symm) hown (hts _ (am_at_in hi.2)) (hts _ (am_ob_w (by simp [am_ob]))) (hts _ (am_ob_w (by simp [am_ob]))) (hts _ (am_ob_w (by simp [am_ob]))) hK rfl ((am_cell_1 kb).mp (hH.1 a0 g3 ha0)) ((am_cell_1 ka).mp (hH.1 a g2 ha)) g6 g7 g8 g9 g10 (by omega) (by omega) dg (fun H1 L z1 o1 e1 hL => ?_)
  have hcp : ∀ l', l' ≠ a → am_cp M a0 a sp.toNatClampNeg dp.toNatClampNeg n.toNatClampNeg l' = M l' := fun l' hl' => by funext j; exact if_neg hl'
  refine K H1 (locs ++ L) lsc (am_HR.upd hH g2 ha z1 o1 hcp (fun _ _ => rfl) rfl (fun _ => rfl) (fun _ => rfl) ?_) (hS.am (Nat.le_of_eq z1.symm) (fun q _ hq => o1 q (fun z => hq (by rw [z]; exact am_adr_A))) (fun x hx => by rw [hL x hx]; exact am_adr_A)) hl
  rw [am_cell_1 ka, e1]
  refine am_arr_eq (fun k _ => ?_)
  dsimp only
  rw [show am_cp M a0 a sp.toNatClampNeg dp.toNatClampNeg n.toNatClampNeg a k = va_cpy (M a0) (M a) sp.toNatClampNeg dp.toNatClampNeg n.toNatClampNeg k from if_pos rfl]
set_option maxHeartbeats 4000000 in
/-- one instruction that goes on -/
theorem am_sim {i : Instr} (C : am_Cx p l s m args meth c G z) (hcd : am_cd z pc = some i) (hF : am_isF i = false) {w} (h : am_st call z i pc ls st M X = some (.inl w)) (hle : am_le X0 X) (hrm : w.2.2.2.2.2.2.1 - X0.2.2.1 ≤ R.cells ∧ w.2.2.2.2.2.2.2.1 - X0.2.2.2.1 ≤ R.slots) (K : am_Sm p l e R s m args below meth c Q G z X0 w) : am_Sm p l e R s m args below meth c Q G z X0 (pc, ls, st, M, X) := by
  cases i
  case iload j => exact am_s_iload C (am_dg hcd rfl (by decide)) h K
  case aload j => exact am_s_aload C (am_dg hcd rfl (by decide)) h K
  case fload j => exact am_s_fload C (am_dg hcd rfl (by decide)) h K
  case dload j => exact am_s_dload C (am_dg hcd rfl (by decide)) h K
  case istore j => exact am_s_istore C (am_dg hcd rfl (by decide)) h K
  case astore j => exact am_s_astore C (am_dg hcd rfl (by decide)) h K
  case fstore j => exact am_s_fstore C (am_dg hcd rfl (by decide)) h K
  case dstore j => exact am_s_dstore C (am_dg hcd rfl (by decide)) h K
  case iconst j => exact am_s_iconst C (am_dg hcd rfl (by decide)) h K
  case bipush j => exact am_s_bipush C (am_dg hcd rfl (by decide)) h K
  case sipush j => exact am_s_sipush C (am_dg hcd rfl (by decide)) h K
  case lconst j => exact am_s_lconst C (am_dg hcd rfl (by decide)) h K
  case ldc j => exact am_s_ldc C (am_dg hcd rfl (by decide)) h K
  case fcmp j => exact am_s_fcmp C (am_dg hcd rfl (by decide)) h K
  case dcmp j => exact am_s_dcmp C (am_dg hcd rfl (by decide)) h K
  case goto j => exact am_s_goto C (am_dg hcd rfl (by decide)) h K
  case getfield j => exact am_s_getfield C (am_dg hcd rfl (by decide)) h K
  case putfield j => exact am_s_putfield C (am_dg hcd rfl (by decide)) h K
  case iload_n j => exact am_s_iload_n C (am_dg hcd rfl (by decide)) h K
  case aload_n j => exact am_s_aload_n C (am_dg hcd rfl (by decide)) h K
  case istore_n j => exact am_s_istore_n C (am_dg hcd rfl (by decide)) h K
  case astore_n j => exact am_s_astore_n C (am_dg hcd rfl (by decide)) h K
  case iinc j k => exact am_s_iinc C (am_dg hcd rfl (by decide)) h K
  case iadd => exact am_s_iadd C (am_dg hcd rfl (by decide)) h K
  case isub => exact am_s_isub C (am_dg hcd rfl (by decide)) h K
  case imul => exact am_s_imul C (am_dg hcd rfl (by decide)) h K
  case iand => exact am_s_iand C (am_dg hcd rfl (by decide)) h K
  case ior => exact am_s_ior C (am_dg hcd rfl (by decide)) h K
  case ishl => exact am_s_ishl C (am_dg hcd rfl (by decide)) h K
  case ishr => exact am_s_ishr C (am_dg hcd rfl (by decide)) h K
  case idiv => exact am_s_idiv C (am_dg hcd rfl (by decide)) h K
  case irem => exact am_s_irem C (am_dg hcd rfl (by decide)) h K
  case i2l => exact am_s_i2l C (am_dg hcd rfl (by decide)) h K
  case i2c => exact am_s_i2c C (am_dg hcd rfl (by decide)) h K
  case i2f => exact am_s_i2f C (am_dg hcd rfl (by decide)) h K
  case i2d => exact am_s_i2d C (am_dg hcd rfl (by decide)) h K
  case f2d => exact am_s_f2d C (am_dg hcd rfl (by decide)) h K
  case fdiv => exact am_s_fdiv C (am_dg hcd rfl (by decide)) h K
  case ddiv => exact am_s_ddiv C (am_dg hcd rfl (by decide)) h K
  case lcmp => exact am_s_lcmp C (am_dg hcd rfl (by decide)) h K
  case dup => exact am_s_dup C (am_dg hcd rfl (by decide)) h K
  case pop => exact am_s_pop C (am_dg hcd rfl (by decide)) h K
  case dup2 => exact am_s_dup2 C (am_dg hcd rfl (by decide)) h K
  case dup_x1 => exact am_s_dup_x1 C (am_dg hcd rfl (by decide)) h K
  case dup_x2 => exact am_s_dup_x2 C (am_dg hcd rfl (by decide)) h K
  case iaload => exact am_s_iaload C (am_dg hcd rfl (by decide)) h K
  case caload => exact am_s_caload C (am_dg hcd rfl (by decide)) h K
  case aaload => exact am_s_aaload C (am_dg hcd rfl (by decide)) h K
  case laload => exact am_s_laload C (am_dg hcd rfl (by decide)) h K
  case daload => exact am_s_daload C (am_dg hcd rfl (by decide)) h K
  case iastore => exact am_s_iastore C (am_dg hcd rfl (by decide)) h K
  case castore => exact am_s_castore C (am_dg hcd rfl (by decide)) h K
  case lastore => exact am_s_lastore C (am_dg hcd rfl (by decide)) h K
  case dastore => exact am_s_dastore C (am_dg hcd rfl (by decide)) h K
  case aastore => exact am_s_aastore C (am_dg hcd rfl (by decide)) h K
  case arraylength => exact am_s_alen C (am_dg hcd rfl (by decide)) h K
  case ifCond a b => cases a <;> first | exact am_s_if_eq C (am_dg hcd rfl (by decide)) h K | exact am_s_if_ne C (am_dg hcd rfl (by decide)) h K | exact am_s_if_lt C (am_dg hcd rfl (by decide)) h K | exact am_s_if_ge C (am_dg hcd rfl (by decide)) h K | exact am_s_if_gt C (am_dg hcd rfl (by decide)) h K | exact am_s_if_le C (am_dg hcd rfl (by decide)) h K
  case if_icmp a b => cases a <;> first | exact am_s_ic_eq C (am_dg hcd rfl (by decide)) h K | exact am_s_ic_ne C (am_dg hcd rfl (by decide)) h K | exact am_s_ic_lt C (am_dg hcd rfl (by decide)) h K | exact am_s_ic_ge C (am_dg hcd rfl (by decide)) h K | exact am_s_ic_gt C (am_dg hcd rfl (by decide)) h K | exact am_s_ic_le C (am_dg hcd rfl (by decide)) h K
  case tableswitch a b d f =>
    obtain ⟨n, dg, -⟩ := am_dg0 hcd
    exact am_s_ts C dg h K
  case lookupswitch a b =>
    obtain ⟨n, dg, -⟩ := am_dg0 hcd
    exact am_s_lk C dg h K
  case newarray t => cases t <;> first | exact nomatch (show (none : Option am_N) = some (.inl w) from h) | exact am_s_newint C (am_dg hcd rfl (by decide)) h hle hrm K | exact am_s_newchar C (am_dg hcd rfl (by decide)) h hle hrm K | exact am_s_newlong C (am_dg hcd rfl (by decide)) h hle hrm K | exact am_s_newdouble C (am_dg hcd rfl (by decide)) h hle hrm K
  case anewarray j => exact am_s_anew C (am_dg hcd rfl (by decide)) h hle hrm K
  all_goals first | exact nomatch (show (none : Option am_N) = some (.inl w) from h) | exact absurd hF (by decide) | exact absurd hF (fun q => by cases q)
theorem am_hd_ne {pc E : Nat} {q : Nat × Nat} (h : am_hd z pc E = some q) : am_hs z ≠ [] := by
  intro e
  unfold am_hd at h
  rw [e] at h
  cases h
/-- behind a call -/
theorem am_called {r r0 : am_R} {rest : List am_V} {a : Array Value} (hz : z < 228) (C : am_Cx p l s m args meth c G z) (hnc : am_Nc s) (htab : am_hs z ≠ [] → c.exceptionTable.toList = tableOf (am_hh z)) (hle1 : am_le X0 X) (hle2 : am_le X r.2.2)
    (hr : ∀ (H : Heap) (locs : List Loc) (lsc : Array Slot), am_HR G M X H → va_S (am_A G) s.heap H locs → lsc.size = am_mL z → vx_Run p l e R s m args below meth c H locs (X.2.2.1 - X0.2.2.1) (X.2.2.2.1 - X0.2.2.2.1) (am_dc X r) (am_ds X r) (F0 m pc lsc (st.map (am_tv G))) (rest.map (am_tv G)) (am_Qr G r a) (am_XCr G r) (am_A G))
    (hthr : ∀ (E : Nat) (H : Heap) (locs : List Loc) (lsc : Array Slot) (rest : List Value) (q : Addr) (ce : Cell), r0.1 = .inr E → am_tr z = true → am_HR G r0.2.1 r0.2.2 H → va_S (am_A G) s.heap H locs → H[q]? = some ce → ce.vm = .none → s.vm.findClass (am_en E) = some ce.cls → vx_W p l e R s m args below meth c H locs (r0.2.2.2.2.1 - X0.2.2.1) (r0.2.2.2.2.2.1 - X0.2.2.2.1) Q (F0 m pc lsc rest) q)
    {q : am_N} (h : am_bk z pc ls rest (some r) (fun a b c d e => some (.inl (a, b, c, d, e))) (fun r => some (.inr r)) = some q) (hq : ∀ w, q = .inl w → am_Sm p l e R s m args below meth c Q G z X0 w) (hq2 : ∀ r', q = .inr r' → r' = r0) : am_Sm p l e R s m args below meth c Q G z X0 (pc, ls, st, M, X) := by
  obtain ⟨g1, g2⟩ := hle1
  obtain ⟨g3, g4⟩ := hle2
  intro H locs lsc hH hS hl
  have hr' := hr H locs lsc hH hS hl.1.1
  rcases am_bk_i h with ⟨v, M', X', e1, h1⟩ | ⟨E, M', X', e1, hd, htr, h1⟩ | ⟨E, M', X', t, j, e1, hd, h1⟩
  · have e1 := Option.some.inj e1
    subst e1
    have K := hq _ (Option.some.inj h1).symm
    refine am_after_v hr' hS rfl (fun H1 locs1 hH1 hS1 => ?_)
    have K1 := K H1 locs1 lsc hH1 hS1 hl
    dsimp only [am_dc, am_ds] at K1 g3 g4 ⊢
    rw [show (v.map (am_tv G)).toList ++ rest.map (am_tv G) = (v.toList ++ rest).map (am_tv G) by cases v <;> rfl]
    exact W.cs (by omega) (by omega) K1
  · have e1 := Option.some.inj e1
    subst e1
    have e2 := hq2 _ (Option.some.inj h1).symm
    subst e2
    refine am_after_x hr' hS rfl (fun H1 locs1 q1 ce hH1 hS1 c1 c2 c3 => ?_)
    dsimp only [am_dc, am_ds] at g3 g4 ⊢
    refine vx_widen ?_ ?_ (hthr E H1 locs1 lsc _ q1 ce rfl htr hH1 hS1 c1 c2 c3) <;> dsimp only <;> omega
  · have e1 := Option.some.inj e1
    subst e1
    have K := hq _ (Option.some.inj h1).symm
    refine am_after_x hr' hS rfl (fun H1 locs1 q1 ce hH1 hS1 c1 c2 c3 => ?_)
    refine am_catch hz C hnc (htab (am_hd_ne hd)) hd hl c1 c2 c3 (fun lsc' hl' => ?_)
    have K1 := K H1 locs1 lsc' hH1 hS1 hl'
    dsimp only [am_dc, am_ds] at K1 g3 g4 ⊢
    exact W.cs (by omega) (by omega) K1
theorem am_bk_nx {r : am_R} {rest : List am_V} {q : am_N} (h : am_bk z pc ls rest (some r) (fun a b c d e => some (.inl (a, b, c, d, e))) (fun r => some (.inr r)) = some q) : am_nx q = r.2.2 := by
  rcases am_bk_i h with ⟨v, M', X', e1, h1⟩ | ⟨E, M', X', e1, hd, htr, h1⟩ | ⟨E, M', X', t, j, e1, hd, h1⟩ <;> (cases Option.some.inj e1; cases h1; rfl)
theorem am_bk_so {cr : Option am_R} {rest : List am_V} {q : am_N} (h : am_bk z pc ls rest cr (fun a b c d e => some (.inl (a, b, c, d, e))) (fun r => some (.inr r)) = some q) : ∃ r, cr = some r := by
  cases cr with
  | none => cases h
  | some r => exact ⟨r, rfl⟩
/-- what is known of all calls from here -/
def am_Cs (l : Launch) (d : Nat) : Prop := ∀ y, y < 227 → ∀ (as : List am_V) (M : am_M) (X : am_X) (r : am_R), (∀ v ∈ as, am_one v) → as.length ≤ am_mL y → am_ev d y as M X = some r → am_Con l d y as M X r
theorem am_ml_ks {o ix k y : Nat} (hm : am_ml o ix = some (k, y)) : (k = 0 → am_ks y = 1) ∧ (k = 2 ∨ k = 3 → am_ks y = 2) := by
  obtain ⟨i, hi⟩ := am_ml_at hm
  refine ⟨fun e => ?_, fun e => ?_⟩
  · subst e
    simp only [am_mlw, Bool.and_eq_true, decide_eq_true_eq, beq_iff_eq] at hi
    exact hi.2.1.1.2
  · rcases e with rfl | rfl <;> simp only [am_mlw, Bool.and_eq_true, decide_eq_true_eq, beq_iff_eq] at hi
    · exact hi.2.1.1.2
    · exact hi.2.1.1.2
theorem am_one_rev {vs : List am_V} (h : ∀ v ∈ vs, am_one v) : ∀ v ∈ vs.reverse, am_one v := fun v hv => h v (List.mem_reverse.mp hv)
theorem am_one_cons {l0 : am_L} {vs : List am_V} (h : ∀ v ∈ vs, am_one v) : ∀ v ∈ (.inr (some l0) :: vs.reverse : List am_V), am_one v := fun v hv => (List.mem_cons.mp hv).elim (fun e => by rw [e]; exact Or.inr ⟨l0, rfl⟩) (am_one_rev h v)
theorem am_na_le {y : Nat} (hy : y < 227) : am_na y + (if am_ks y = 0 then 0 else 1) ≤ am_mL y := (am_z_facts hy).2.2.2.2.2.2.2.2.2
theorem am_s_iv {d ix y : Nat} {r0 : am_R} (hz : z < 228) (C : am_Cx p l s m args meth c G z) (hnc : am_Nc s) (htab : am_hs z ≠ [] → c.exceptionTable.toList = tableOf (am_hh z)) (hcs : am_Cs l d) (hfr : d + 7 ≤ R.frames) (hlo : 31 * d + 151 ≤ R.locals) (hle1 : am_le X0 X)
    (hthr : ∀ (E : Nat) (H : Heap) (locs : List Loc) (lsc : Array Slot) (rest : List Value) (q : Addr) (ce : Cell), r0.1 = .inr E → am_tr z = true → am_HR G r0.2.1 r0.2.2 H → va_S (am_A G) s.heap H locs → H[q]? = some ce → ce.vm = .none → s.vm.findClass (am_en E) = some ce.cls → vx_W p l e R s m args below meth c H locs (r0.2.2.2.2.1 - X0.2.2.1) (r0.2.2.2.2.2.1 - X0.2.2.2.1) Q (F0 m pc lsc rest) q)
    (hcd : am_cd z pc = some (.invokevirtual ix)) {q : am_N} (h : am_st (am_ev d) z (.invokevirtual ix) pc ls st M X = some q) (hrm : (am_nx q).2.2.1 - X0.2.2.1 ≤ R.cells ∧ (am_nx q).2.2.2.1 - X0.2.2.2.1 ≤ R.slots) (hq : ∀ w, q = .inl w → am_Sm p l e R s m args below meth c Q G z X0 w) (hq2 : ∀ r', q = .inr r' → r' = r0) : am_Sm p l e R s m args below meth c Q G z X0 (pc, ls, st, M, X) := by
  dsimp only [am_st, am_ex] at h
  split at h
  · rename_i y hm
    simp only [am_inv] at h
    obtain ⟨vs, st1, hlen, rfl, hone, h1⟩ := am_popN_i h
    obtain ⟨l0, rest, rfl, h2⟩ := am_popP_i h1
    obtain ⟨h4, h3⟩ := am_sm_i h2
    obtain ⟨hal, hkd, h5⟩ := am_chk_i h3
    obtain ⟨r, hr⟩ := am_bk_so h5
    rw [hr] at h5
    have hle2 := am_ev_le _ _ _ _ _ _ hr
    rw [am_bk_nx h5] at hrm
    obtain ⟨g1, g2⟩ := hle1
    obtain ⟨g3, g4⟩ := hle2
    rw [List.append_nil] at hr
    have hy := am_ml_lt hm (by omega)
    have hna := am_na_le hy
    rw [if_neg (by rw [(am_ml_ks hm).1 rfl]; decide)] at hna
    have hlen2 : (.inr (some l0) :: vs.reverse : List am_V).length ≤ am_mL y := by rw [List.length_cons, List.length_reverse, hlen]; omega
    refine am_called hz C hnc htab ⟨g1, g2⟩ ⟨g3, g4⟩ (fun H locs lsc hH hS hsz => am_run_v C hnc hm (am_dg hcd rfl (by decide)) hlen h4 hal hkd (hcs y hy _ _ _ _ (am_one_cons hone) hlen2 hr) hfr hlo hH hS hsz (by dsimp only [am_dc, am_ds] at *; omega)) hthr h5 hq hq2
  · cases h
theorem am_s_is {d ix k y : Nat} {r0 : am_R} (hz : z < 228) (C : am_Cx p l s m args meth c G z) (hnc : am_Nc s) (htab : am_hs z ≠ [] → c.exceptionTable.toList = tableOf (am_hh z)) (hcs : am_Cs l d) (hfr : d + 7 ≤ R.frames) (hlo : 31 * d + 151 ≤ R.locals) (hle1 : am_le X0 X)
    (hthr : ∀ (E : Nat) (H : Heap) (locs : List Loc) (lsc : Array Slot) (rest : List Value) (q : Addr) (ce : Cell), r0.1 = .inr E → am_tr z = true → am_HR G r0.2.1 r0.2.2 H → va_S (am_A G) s.heap H locs → H[q]? = some ce → ce.vm = .none → s.vm.findClass (am_en E) = some ce.cls → vx_W p l e R s m args below meth c H locs (r0.2.2.2.2.1 - X0.2.2.1) (r0.2.2.2.2.2.1 - X0.2.2.2.1) Q (F0 m pc lsc rest) q)
    (hcd : am_cd z pc = some (.invokestatic ix)) (hm : am_ml (am_own z) ix = some (k, y)) (hk : k = 1 ∨ k = 4) {q : am_N} (h : am_inv (am_ev d) z 1 y pc ls st M X (fun a b c d e => some (.inl (a, b, c, d, e))) (fun r => some (.inr r)) = some q) (hrm : (am_nx q).2.2.1 - X0.2.2.1 ≤ R.cells ∧ (am_nx q).2.2.2.1 - X0.2.2.2.1 ≤ R.slots) (hq : ∀ w, q = .inl w → am_Sm p l e R s m args below meth c Q G z X0 w) (hq2 : ∀ r', q = .inr r' → r' = r0) : am_Sm p l e R s m args below meth c Q G z X0 (pc, ls, st, M, X) := by
  simp only [am_inv] at h
  obtain ⟨vs, rest, hlen, rfl, hone, h1⟩ := am_popN_i h
  obtain ⟨h4, h5⟩ := am_sm_i h1
  obtain ⟨r, hr⟩ := am_bk_so h5
  rw [hr] at h5
  have hle2 := am_ev_le _ _ _ _ _ _ hr
  rw [am_bk_nx h5] at hrm
  obtain ⟨g1, g2⟩ := hle1
  obtain ⟨g3, g4⟩ := hle2
  rw [List.append_nil] at hr
  have hy := am_ml_lt hm (by omega)
  have hna := am_na_le hy
  have hlen2 : vs.reverse.length ≤ am_mL y := by rw [List.length_reverse, hlen]; omega
  refine am_called hz C hnc htab ⟨g1, g2⟩ ⟨g3, g4⟩ (fun H locs lsc hH hS hsz => am_run_s C hnc hm hk (am_dg hcd rfl (by decide)) hlen h4 (hcs y hy _ _ _ _ (am_one_rev hone) hlen2 hr) hfr hlo hH hS hsz (by dsimp only [am_dc, am_ds] at *; omega)) hthr h5 hq hq2
theorem am_s_ii {d ix k y : Nat} {r0 : am_R} (hz : z < 228) (C : am_Cx p l s m args meth c G z) (hnc : am_Nc s) (htab : am_hs z ≠ [] → c.exceptionTable.toList = tableOf (am_hh z)) (hcs : am_Cs l d) (hfr : d + 7 ≤ R.frames) (hlo : 31 * d + 151 ≤ R.locals) (hle1 : am_le X0 X)
    (hthr : ∀ (E : Nat) (H : Heap) (locs : List Loc) (lsc : Array Slot) (rest : List Value) (q : Addr) (ce : Cell), r0.1 = .inr E → am_tr z = true → am_HR G r0.2.1 r0.2.2 H → va_S (am_A G) s.heap H locs → H[q]? = some ce → ce.vm = .none → s.vm.findClass (am_en E) = some ce.cls → vx_W p l e R s m args below meth c H locs (r0.2.2.2.2.1 - X0.2.2.1) (r0.2.2.2.2.2.1 - X0.2.2.2.1) Q (F0 m pc lsc rest) q)
    (hcd : am_cd z pc = some (.invokespecial ix)) (hm : am_ml (am_own z) ix = some (k, y)) (hk : k = 2 ∨ k = 3) {q : am_N} (h : am_inv (am_ev d) z 0 y pc ls st M X (fun a b c d e => some (.inl (a, b, c, d, e))) (fun r => some (.inr r)) = some q) (hrm : (am_nx q).2.2.1 - X0.2.2.1 ≤ R.cells ∧ (am_nx q).2.2.2.1 - X0.2.2.2.1 ≤ R.slots) (hq : ∀ w, q = .inl w → am_Sm p l e R s m args below meth c Q G z X0 w) (hq2 : ∀ r', q = .inr r' → r' = r0) : am_Sm p l e R s m args below meth c Q G z X0 (pc, ls, st, M, X) := by
  simp only [am_inv] at h
  obtain ⟨vs, st1, hlen, rfl, hone, h1⟩ := am_popN_i h
  obtain ⟨l0, rest, rfl, h2⟩ := am_popP_i h1
  obtain ⟨h4, h3⟩ := am_sm_i h2
  obtain ⟨hal, hkd, h5⟩ := am_chk_i h3
  obtain ⟨r, hr⟩ := am_bk_so h5
  rw [hr] at h5
  have hle2 := am_ev_le _ _ _ _ _ _ hr
  rw [am_bk_nx h5] at hrm
  obtain ⟨g1, g2⟩ := hle1
  obtain ⟨g3, g4⟩ := hle2
  rw [List.append_nil] at hr
  have hy := am_ml_lt hm (by omega)
  have hna := am_na_le hy
  rw [if_neg (by rw [(am_ml_ks hm).2 hk]; decide)] at hna
  have hlen2 : (.inr (some l0) :: vs.reverse : List am_V).length ≤ am_mL y := by rw [List.length_cons, List.length_reverse, hlen]; omega
  refine am_called hz C hnc htab ⟨g1, g2⟩ ⟨g3, g4⟩ (fun H locs lsc hH hS hsz => am_run_i C hnc hm hk (am_dg hcd rfl (by decide)) hlen h4 hkd (hcs y hy _ _ _ _ (am_one_cons hone) hlen2 hr) hfr hlo hH hS hsz (by dsimp only [am_dc, am_ds] at *; omega)) hthr h5 hq hq2
/-- an instruction that returns -/
def am_isR : Instr → Bool := fun i => match i with
  | .return_ | .ireturn | .areturn | .freturn | .dreturn => true
  | _ => false
/-- THE WALK: from where the abstract machine comes to its end, the machine does -/
theorem am_walk {d : Nat} {r0 : am_R} (hz : z < 228) (C : am_Cx p l s m args meth c G z) (hnc : am_Nc s) (htab : am_hs z ≠ [] → c.exceptionTable.toList = tableOf (am_hh z)) (hcs : am_Cs l d) (hfr : d + 7 ≤ R.frames) (hlo : 31 * d + 151 ≤ R.locals)
    (hroom : r0.2.2.2.2.1 - X0.2.2.1 ≤ R.cells ∧ r0.2.2.2.2.2.1 - X0.2.2.2.1 ≤ R.slots)
    (hret : ∀ (i : Instr) (pc : Nat) (ls : am_S) (st : List am_V) (M : am_M) (X : am_X), am_cd z pc = some i → am_isR i = true → am_st (am_ev d) z i pc ls st M X = some (.inr r0) → am_Sm p l e R s m args below meth c Q G z X0 (pc, ls, st, M, X))
    (hnew : ∀ (ix E ic pc : Nat) (ls : am_S) (st : List am_V) (M : am_M) (X : am_X), am_cd z pc = some (.new ix) → am_nw (am_own z) ix = some (.inr (E, ic)) → am_le X0 X → am_st (am_ev d) z (.new ix) pc ls st M X = some (.inr r0) → am_Sm p l e R s m args below meth c Q G z X0 (pc, ls, st, M, X))
    (hthr : ∀ (pc E : Nat) (H : Heap) (locs : List Loc) (lsc : Array Slot) (rest : List Value) (q : Addr) (ce : Cell), r0.1 = .inr E → am_tr z = true → am_HR G r0.2.1 r0.2.2 H → va_S (am_A G) s.heap H locs → H[q]? = some ce → ce.vm = .none → s.vm.findClass (am_en E) = some ce.cls → vx_W p l e R s m args below meth c H locs (r0.2.2.2.2.1 - X0.2.2.1) (r0.2.2.2.2.2.1 - X0.2.2.2.1) Q (F0 m pc lsc rest) q) :
    ∀ (n pc : Nat) (ls : am_S) (st : List am_V) (M : am_M) (X : am_X), am_le X0 X → am_run (am_ev d) z n pc ls st M X = some r0 → am_Sm p l e R s m args below meth c Q G z X0 (pc, ls, st, M, X)
  | 0, _, _, _, _, _, _, h => by cases h
  | n + 1, pc, ls, st, M, X, hle, h => by
    unfold am_run at h
    cases hcd : am_cd z pc with
    | none => rw [hcd] at h; cases h
    | some i =>
      rw [hcd] at h
      dsimp only at h
      rw [am_ex_st] at h
      cases hs : am_st (am_ev d) z i pc ls st M X with
      | none => rw [hs] at h; cases h
      | some q =>
        rw [hs] at h
        have hev : ∀ y as M X r, am_ev d y as M X = some r → am_le X r.2.2 := fun y as M X r => am_ev_le d y as M X r
        have hnx := am_st_nx hev hs
        have hle2 := am_le_trans hle hnx.1
        have hq : ∀ w, q = .inl w → am_Sm p l e R s m args below meth c Q G z X0 w := by
          rintro ⟨a1, b1, c1, d1, e1⟩ rfl
          exact am_walk hz C hnc htab hcs hfr hlo hroom hret hnew hthr n a1 b1 c1 d1 e1 hle2 h
        have hq2 : ∀ r', q = .inr r' → r' = r0 := by
          rintro r' rfl
          exact Option.some.inj h
        have hrm : (am_nx q).2.2.1 - X0.2.2.1 ≤ R.cells ∧ (am_nx q).2.2.2.1 - X0.2.2.2.1 ≤ R.slots := by
          cases q with
          | inl w =>
            obtain ⟨a1, b1, c1, d1, e1⟩ := w
            obtain ⟨k1, k2⟩ := am_run_le hev n a1 b1 c1 d1 e1 r0 h
            dsimp only [am_nx]
            omega
          | inr r' =>
            cases hq2 r' rfl
            exact hroom
        by_cases hF : am_isF i = true
        · by_cases hR : am_isR i = true
          · cases q with
            | inr r' =>
              cases hq2 r' rfl
              exact hret i pc ls st M X hcd hR hs
            | inl w =>
              exfalso
              unfold am_isR at hR
              split at hR
              all_goals first | (cases hR; done) | (unfold am_st am_ex at hs; dsimp only at hs; split at hs <;> first | (cases hs; done) | (obtain ⟨_, hs⟩ := am_if_i hs; cases hs; done))
          · unfold am_isF at hF
            split at hF
            all_goals first | (exact absurd rfl hR) | skip
            · rename_i ix
              cases q with
              | inl w =>
                cases hw : am_nw (am_own z) ix with
                | none => simp only [am_st, am_ex, hw] at hs; cases hs
                | some o =>
                  cases o with
                  | inl ci => exact am_s_new C hw (am_dg hcd rfl (by decide)) hs hle hrm (hq w rfl)
                  | inr o =>
                    obtain ⟨E, ic⟩ := o
                    simp only [am_st, am_ex, hw] at hs
                    obtain ⟨_, hs⟩ := am_if_i hs
                    obtain ⟨_, hs⟩ := am_sm_i hs
                    cases hs
              | inr r' =>
                cases hq2 r' rfl
                cases hw : am_nw (am_own z) ix with
                | none => simp only [am_st, am_ex, hw] at hs; cases hs
                | some o =>
                  cases o with
                  | inl ci =>
                    simp only [am_st, am_ex, hw] at hs
                    obtain ⟨_, _, _, _, _, _, _, hs⟩ := am_nu_i hs
                    cases hs
                  | inr o =>
                    obtain ⟨E, ic⟩ := o
                    exact hnew ix E ic pc ls st M X hcd hw hle hs
            · rename_i ix
              exact am_s_iv (y := 0) hz C hnc htab hcs hfr hlo hle (hthr pc) hcd hs hrm hq hq2
            · rename_i ix
              cases hm : am_ml (am_own z) ix with
              | none => simp only [am_st, am_ex, hm] at hs; cases hs
              | some o =>
                obtain ⟨k, y⟩ := o
                have hs2 := hs
                dsimp only [am_st, am_ex] at hs2
                rw [hm] at hs2
                split at hs2
                · rename_i e; cases e; exact am_s_is hz C hnc htab hcs hfr hlo hle (hthr pc) hcd hm (Or.inl rfl) hs2 hrm hq hq2
                · rename_i e; cases e; exact am_s_is hz C hnc htab hcs hfr hlo hle (hthr pc) hcd hm (Or.inr rfl) hs2 hrm hq hq2
                · rename_i e
                  cases e
                  cases q with
                  | inl w => exact am_s_min C hm (am_dg hcd rfl (by decide)) (by omega) (by obtain ⟨k1, k2⟩ := hnx.1; obtain ⟨k3, k4⟩ := hrm; constructor <;> omega) hs (hq w rfl)
                  | inr r' =>
                    simp only [am_inv] at hs2
                    obtain ⟨_, _, _, hs2⟩ := am_popI_i hs2
                    obtain ⟨_, _, _, hs2⟩ := am_popI_i hs2
                    obtain ⟨_, hs2⟩ := am_sm_i hs2
                    cases hs2
                · rename_i e
                  cases e
                  cases q with
                  | inl w => exact am_s_copy C hm (am_dg hcd rfl (by decide)) (by omega) hs (hq w rfl)
                  | inr r' =>
                    simp only [am_inv] at hs2
                    obtain ⟨_, _, _, hs2⟩ := am_popI_i hs2
                    obtain ⟨_, _, _, hs2⟩ := am_popI_i hs2
                    obtain ⟨_, _, _, hs2⟩ := am_popP_i hs2
                    obtain ⟨_, _, _, hs2⟩ := am_popI_i hs2
                    obtain ⟨_, _, _, hs2⟩ := am_popP_i hs2
                    obtain ⟨_, hs2⟩ := am_sm_i hs2
                    obtain ⟨_, hs2⟩ := am_if_i hs2
                    cases hs2
                · cases hs2
            · rename_i ix
              cases hm : am_ml (am_own z) ix with
              | none => simp only [am_st, am_ex, hm] at hs; cases hs
              | some o =>
                obtain ⟨k, y⟩ := o
                have hs2 := hs
                dsimp only [am_st, am_ex] at hs2
                rw [hm] at hs2
                split at hs2
                · rename_i e; cases e; exact am_s_ii hz C hnc htab hcs hfr hlo hle (hthr pc) hcd hm (Or.inl rfl) hs2 hrm hq hq2
                · rename_i e; cases e; exact am_s_ii hz C hnc htab hcs hfr hlo hle (hthr pc) hcd hm (Or.inr rfl) hs2 hrm hq hq2
                · rename_i e
                  cases e
                  cases q with
                  | inl w => exact am_s_obj C hm (am_dg hcd rfl (by decide)) (by omega) hs (hq w rfl)
                  | inr r' =>
                    simp only [am_inv] at hs2
                    obtain ⟨_, _, _, hs2⟩ := am_popP_i hs2
                    obtain ⟨_, hs2⟩ := am_sm_i hs2
                    cases hs2
                · cases hs2
            · cases hF
        · have hF0 : am_isF i = false := Bool.eq_false_iff.mpr hF
          obtain ⟨w, rfl⟩ := hnx.2 hF0
          exact am_sim C hcd hF0 hs hle hrm (hq w rfl)
theorem am_sl1 : ∀ (vs : List Value), (∀ v ∈ vs, v.category = 1) → (lg_sl vs).length = vs.length ∧ ∀ i, lv_args i vs = (vs.zipIdx i).map (fun q => (q.2, q.1))
  | [], _ => ⟨rfl, fun _ => rfl⟩
  | v :: vs, h => by
    obtain ⟨h1, h2⟩ := am_sl1 vs (fun w hw => h w (List.mem_cons_of_mem _ hw))
    have hv := h v List.mem_cons_self
    refine ⟨?_, fun i => ?_⟩
    · rw [show lg_sl (v :: vs) = .val v :: lg_sl vs by simp [lg_sl, hv], List.length_cons, List.length_cons, h1]
    · rw [lv_args, if_neg (by rw [hv]; decide), h2 (i + 1)]
      rfl
theorem am_entry {as : List am_V} {n : Nat} (h1 : ∀ v ∈ as, am_one v) (hn : as.length ≤ n) : ∃ lsc : Array Slot, (∀ m : MethodId, entryFrame m (as.map (am_tv G)).toArray n = F0 m 0 lsc []) ∧ am_lv G n (as.map some ++ List.replicate (n - as.length) none) lsc := by
  have hc : ∀ v ∈ as.map (am_tv G), v.category = 1 := by
    intro v hv
    obtain ⟨w, hw, rfl⟩ := List.mem_map.mp hv
    exact (h1 w hw).cat
  obtain ⟨e1, e2⟩ := am_sl1 _ hc
  rw [List.length_map] at e1
  have hl := lv_entry (as.map (am_tv G)) (n := n) (by rw [e1]; exact hn)
  refine ⟨_, fun m => lg_entry_eq m _ n, ⟨hl.1, hl.2.1, fun q hq => hl.2.2 q ?_⟩, by simp; omega⟩
  obtain ⟨k, v, hk, rfl⟩ := am_ll_mem.mp hq
  rw [e2 0]
  have hk2 : as[k]? = some v := by
    rcases Nat.lt_or_ge k as.length with h | h
    · rw [List.getElem?_append_left (by simpa using h), List.getElem?_map] at hk
      cases ha : as[k]? with
      | none => rw [ha] at hk; cases hk
      | some w => rw [ha] at hk; cases hk; rfl
    · rw [List.getElem?_append_right (by simpa using h), List.length_map, List.getElem?_replicate] at hk
      split at hk <;> cases hk
  refine List.mem_map.mpr ⟨(am_tv G v, 0 + k), ?_, rfl⟩
  refine List.mem_of_getElem? (i := k) ?_
  rw [List.getElem?_zipIdx, List.getElem?_map, hk2]
  rfl
theorem am_nar_c {x : Int32} (h : am_pc 2 x = true) : narrow .char (.int x) = .int x := by
  simp only [am_pc, decide_eq_true_eq] at h
  have h1 := Int32.le_iff_toInt_le.mp h.1
  have h2 := Int32.le_iff_toInt_le.mp h.2
  have h3 := lg_i2c_word (v := x) (by simpa using h1) (by have : (65535 : Int32).toInt = 65535 := by decide
                                                          omega)
  rw [lg_i2c_nf] at h3
  simp only [narrow, h3]
theorem am_hd_st {d : Nat} {i : Instr} {r0 : am_R} (hcd : am_cd z pc = some i) (hR : am_isR i = true) (h : am_st (am_ev d) z i pc ls st M X = some (.inr r0)) (hz : z < 227) {X1 : am_X} (hX1 : X1 = r0.2.2) (C : am_Cx p l s m args meth c G z) (hret : meth.sig.returnType = am_ret z) :
    am_Sm p l e R s m args below meth c (vx_MQ below (am_Qr G r0) (am_XCr G r0) args s (r0.2.2.2.2.1 - X0.2.2.1) (r0.2.2.2.2.2.1 - X0.2.2.2.1) (am_A G)) G z X0 (pc, ls, st, M, X) := by
  obtain ⟨hx, hb, hml, hown, hts, hK, hU, hN, hX, hbb, hlk, hst, hini⟩ := C
  obtain ⟨t0, t1, t2, t3, t4, t5, t6⟩ := am_ret_facts hz
  intro H locs lsc hH hS hl
  dsimp only at hH hl ⊢
  have key : ∀ v : Option am_V, r0 = (.inl v, M, X) → ∀ t : State, t.heap = H → am_Qr G r0 args s (.returned (v.map (am_tv G))) t := by
    rintro v rfl t ht
    exact ⟨v, rfl, rfl, by rw [ht]; exact hH, hS.F ht⟩
  unfold am_isR at hR
  split at hR
  · dsimp only [am_st, am_ex] at h
    split at h
    · rename_i e0
      have e := Option.some.inj h
      have e := Sum.inr.inj e
      have k := key _ e.symm
      subst e
      exact vx_ret (W.vret hx hb (hret.trans (t0 e0)) (fun t ht _ => k t ht) hS.2.2 (am_dg hcd rfl (by decide)))
    · cases h
  · dsimp only [am_st, am_ex] at h
    split at h
    · rename_i x e0
      have e := Option.some.inj h
      have e := Sum.inr.inj e
      have k := key _ e.symm
      subst e
      exact vx_ret (W.iret hx hb (hret.trans (t1 e0)) (fun t ht _ => k t ht) hS.2.2 (am_dg hcd rfl (by decide)))
    · rename_i x e0
      obtain ⟨hp, h⟩ := am_if_i h
      have e := Option.some.inj h
      have e := Sum.inr.inj e
      have k := key _ e.symm
      subst e
      refine vx_ret (W.zret hx hb (hret.trans (t2 e0)) ?_ (fun t ht _ => k t ht) hS.2.2 (am_dg hcd rfl (by decide)))
      simp only [am_pc, Bool.or_eq_true, beq_iff_eq] at hp
      rcases hp with rfl | rfl <;> decide
    · rename_i x e0
      obtain ⟨hp, h⟩ := am_if_i h
      have e := Option.some.inj h
      have e := Sum.inr.inj e
      have k := key _ e.symm
      subst e
      refine vx_ret (W.zret hx hb (hret.trans (t3 e0)) ?_ (fun t ht _ => k t ht) hS.2.2 (am_dg hcd rfl (by decide)))
      exact am_nar_c hp
    · cases h
  · dsimp only [am_st, am_ex] at h
    split at h
    · rename_i l0 e0
      have e := Option.some.inj h
      have e := Sum.inr.inj e
      have k := key _ e.symm
      subst e
      obtain ⟨n, e6⟩ := t6 e0
      exact vx_ret (W.aret hx hb (hret.trans e6) (Or.inl ⟨n, rfl⟩) (Or.inr ⟨_, rfl⟩) (fun t ht _ => k t ht) hS.2.2 (am_dg hcd rfl (by decide)))
    · cases h
  · dsimp only [am_st, am_ex] at h
    split at h
    · rename_i x e0
      have e := Option.some.inj h
      have e := Sum.inr.inj e
      have k := key _ e.symm
      subst e
      exact vx_ret (W.fret hx hb (hret.trans (t4 e0)) (fun t ht _ => k t ht) hS.2.2 (am_dg hcd rfl (by decide)))
    · cases h
  · dsimp only [am_st, am_ex] at h
    split at h
    · rename_i x e0
      have e := Option.some.inj h
      have e := Sum.inr.inj e
      have k := key _ e.symm
      subst e
      exact vx_ret (W.dret hx hb (hret.trans (t5 e0)) (fun t ht _ => k t ht) hS.2.2 (am_dg hcd rfl (by decide)))
    · cases h
  · cases hR
theorem am_ex_ok {E ic : Nat} (h : (E, ic) ∈ am_eic) : ((Cond.classLink (am_cR 8) 0 (am_en E) :: Cond.initialized (am_en E) :: vx_at0 (am_cR 8) ic (am_en E) am_xn).all vx_ot && (Cond.initialized (am_en E) :: vx_at0 (am_cR 8) ic (am_en E) am_xn).all (fun w => decide (w ∈ am_W))) = true := by
  simp only [am_eic, List.mem_cons, Prod.mk.injEq, List.not_mem_nil, or_false] at h
  rcases h with ⟨rfl, rfl⟩ | ⟨rfl, rfl⟩ | ⟨rfl, rfl⟩ | ⟨rfl, rfl⟩ | ⟨rfl, rfl⟩ | ⟨rfl, rfl⟩
  · exact am_ex_ok0
  · exact am_ex_ok1
  · exact am_ex_ok2
  · exact am_ex_ok3
  · exact am_ex_ok4
  · exact am_ex_ok5
theorem am_en_fit : ∀ E, E < 6 → Bundle.fit (am_en E) = true := by decide +kernel
theorem am_xn_fit : ∀ n ∈ am_xn, Bundle.fit n = true := by decide +kernel
theorem am_hh_nil {z : Nat} (h : am_tr z = true) : tableOf (am_hh z) = [] := by
  unfold am_tr at h
  rw [List.isEmpty_iff.mp h]
  rfl
set_option maxHeartbeats 4000000 in
theorem am_new_st {d ix E ic : Nat} {r0 : am_R} (C : am_Cx p l s m args meth c G z) (hnw : am_nw (am_own z) ix = some (.inr (E, ic))) (hcd : am_cd z pc = some (.new ix)) (hle : am_le X0 X) (h : am_st (am_ev d) z (.new ix) pc ls st M X = some (.inr r0)) (hfr : 7 ≤ R.frames) (hlo : 151 ≤ R.locals)
    (hroom : r0.2.2.2.2.1 - X0.2.2.1 ≤ R.cells ∧ r0.2.2.2.2.2.1 - X0.2.2.2.1 ≤ R.slots) (htab : c.exceptionTable.toList = tableOf (am_hh z)) :
    am_Sm p l e R s m args below meth c (vx_MQ below (am_Qr G r0) (am_XCr G r0) args s (r0.2.2.2.2.1 - X0.2.2.1) (r0.2.2.2.2.2.1 - X0.2.2.2.1) (am_A G)) G z X0 (pc, ls, st, M, X) := by
  obtain ⟨i, hi⟩ := am_al2_in am_nw_ok _ (am_look_in hnw)
  simp only [am_nww, Bool.and_eq_true, decide_eq_true_eq] at hi
  obtain ⟨-, ⟨⟨hi1, hE⟩, hic⟩, hown8⟩ := hi
  obtain ⟨hx, hb, hml, hown, hts, hK, hU, hN, hX, hbb, hlk, hst, hini⟩ := C
  have hok := am_ex_ok hic
  rw [Bool.and_eq_true] at hok
  obtain ⟨ok1, ok2⟩ := hok
  have ok1 := List.all_eq_true.mp ok1
  have ok2 := List.all_eq_true.mp ok2
  dsimp only [am_st, am_ex] at h
  rw [hnw] at h
  dsimp only at h
  obtain ⟨⟨h1, h2, h3, h4, h5⟩, h6⟩ := am_if_i h
  obtain ⟨hs4, h7⟩ := am_sm_i h6
  have e := Sum.inr.inj (Option.some.inj h7)
  subst e
  have hc8 := am_cat (G := G) st hs4
  obtain ⟨g1, g2⟩ := hle
  dsimp only [am_bump] at hroom ⊢
  intro H locs lsc hH hS hl
  dsimp only at hH hl ⊢
  rw [hown8] at hown hi1
  refine vx_throw0 (cc := am_by z) (A := am_A G) (names := am_xn) (ik := ix) (ic := ic) (cls := am_en E) (own := am_cR 8) hx hb hst hown (am_en_fit E hE) am_xn_fit (hts _ (am_at_in hi1)) (hts _ (of_decide_eq_true (ok2 _ List.mem_cons_self))) (fun w hw => hts _ (of_decide_eq_true (ok2 _ (List.mem_cons_of_mem _ hw)))) ?_ hU hN hS (by rw [hml]; exact hl.1.1) (am_dg hcd rfl (by decide)) (am_dg h1 rfl (by decide)) (am_dg h2 rfl (by decide)) (am_dg h3 rfl (by decide)) ?_ ?_ ?_ ?_ ?_ hlk ?_ hS.2.2 ?_ ?_
  · intro w hw
    rcases List.mem_cons.mp hw with rfl | hw
    · have := ok1 (Cond.classLink (am_cR 8) 0 (am_en E)) List.mem_cons_self
      exact this
    · exact ok1 _ (List.mem_cons_of_mem _ hw)
  · intro x hx0
    rw [htab, am_hh_nil h5] at hx0
    cases hx0
  · show 2 + 3 < R.frames; omega
  · show _ + (13 * (2 + 1) + 42) ≤ R.locals; omega
  · omega
  · omega
  · intro t hal hsz ho
    refine ⟨E, rfl, rfl, am_HR.bump hH h4 hsz ho rfl h4 rfl rfl, ⟨Nat.le_trans hS.1 hsz, fun q hq hA => ?_⟩⟩
    rw [ho q (Nat.lt_of_lt_of_le hq hS.1)]
    exact hS.2.1 q hq hA
  · omega
  · omega
set_option maxHeartbeats 4000000 in
theorem am_sound (l : Launch) (hlt : l.stackTraces = false) : ∀ d, am_Cs l d
  | 0, _, _, _, _, _, _, _, _, h => by cases h
  | d + 1, y, hy, as, M, X, r, hone, hlen, h => by
    intro G
    obtain ⟨f1, f2, f3, f4, f5, f6, f7, f8, f9, f10⟩ := am_z_facts hy
    rw [am_ev_eq, am_rn_iff] at h
    obtain ⟨n, h⟩ := h
    have main : ∀ (p : Program) (e : Env) (s : State) (m : MethodId) (args : Array Value) (below : List Frame) (meth : Method) (c : Code), am_Cx p l s m args meth c G y → am_Nc s → c.exceptionTable.toList = tableOf (am_hh y) → meth.sig.returnType = am_ret y → args = (as.map (am_tv G)).toArray → am_HR G M X s.heap →
        W p l e (am_rm (d + 1) (am_dc X r) (am_ds X r)) s m args below meth c s.heap [] 0 0 (vx_MQ below (am_Qr G r) (am_XCr G r) args s (am_dc X r) (am_ds X r) (am_A G)) (entryFrame m args (am_mL y)) := by
      intro p e s m args below meth c C hnc htab hret ha hH
      obtain ⟨lsc, hef, hlv⟩ := am_entry (G := G) hone hlen
      have hw := am_walk (R := am_rm (d + 1) (am_dc X r) (am_ds X r)) (e := e) (below := below) (Q := vx_MQ below (am_Qr G r) (am_XCr G r) args s (am_dc X r) (am_ds X r) (am_A G)) (X0 := X) (r0 := r) (by omega) C hnc (fun _ => htab) (am_sound l hlt d) (by show d + 7 ≤ d + 1 + 6; omega) (by show 31 * d + 151 ≤ 31 * (d + 1) + 120; omega) ⟨Nat.le_refl _, Nat.le_refl _⟩
        (fun i pc ls st M X hcd hR hs => am_hd_st hcd hR hs hy rfl C hret)
        (fun ix E ic pc ls st M X hcd hnw hle hs => am_new_st C hnw hcd hle hs (by show 7 ≤ d + 1 + 6; omega) (by show 151 ≤ 31 * (d + 1) + 120; omega) ⟨Nat.le_refl _, Nat.le_refl _⟩ htab)
        (fun pc E H locs lsc rest q ce hE htr hH hS c1 c2 c3 => vx_outP C.2.2.2.1 C.2.2.2.2.2.2.2.2.2.2.1 (fun x hx0 => by rw [htab, am_hh_nil htr] at hx0; cases hx0) c1 c2 c3 (fun t ht hal => ⟨E, hE, rfl, by rw [ht]; exact hH, hS.F ht⟩) hS.2.2 (Nat.le_refl _) (Nat.le_refl _))
        n 0 (am_en0 y as) [] M X (am_le_refl X) h
      have hw2 := hw s.heap [] lsc hH va_S.rf hlv
      dsimp only at hw2
      rw [ha, hef m]
      rw [ha] at hw2
      exact W.cs (by omega) (by omega) hw2
    by_cases ht : am_tr y = true
    · refine vx_ofW (ws' := am_W) (cc := am_by y) (maxL := am_mL y) (ret := am_ret y) f6 (by unfold am_ws am_cw; rw [if_pos ht]) ?_
      intro p e s m args below meth c s₁ B hml htab0 hP
      obtain ⟨ha, hH, hK, hU, hN, hX, hbb, hnc⟩ := hP
      refine main p e s m args below meth c ⟨B.exec, B.bytes, hml, by rw [← f3]; exact findClass_of_methodNamed B.named, fun w hw => atoms_spec (ws := am_ws y) B.pre w (List.mem_cons_of_mem _ hw), hK, hU, hN, hX, hbb, B.notSynchronized, hlt, fun hin => ?_⟩ hnc ?_ B.returns ha hH
      · rw [f8] at hin
        rw [(name_of_methodNamed B.named B.method).1]
        exact (f2.2.2.1 (by simpa using hin)).2
      · rw [am_hh_nil ht]
        cases he : c.exceptionTable.toList with
        | nil => rfl
        | cons a b => exact absurd (htab0 a (by rw [he]; exact List.mem_cons_self)) id
    · refine vx_ofWH (ws' := am_W) (cc := am_by y) (maxL := am_mL y) (ret := am_ret y) (hh := am_hh y) f6 (by unfold am_ws am_cw; rw [if_neg ht]) ?_
      intro p e s m args below meth c s₁ B hml hP
      obtain ⟨ha, hH, hK, hU, hN, hX, hbb, hnc⟩ := hP
      have hcw : Cond.codeWith (am_y y) (am_by y) (am_mL y) (am_ret y) (am_hh y) ∈ am_ws y := by unfold am_ws am_cw; rw [if_neg ht]; exact List.mem_cons_self
      refine main p e s m args below meth c ⟨B.exec, B.bytes, hml, by rw [← f3]; exact findClass_of_methodNamed B.named, fun w hw => atoms_spec (ws := am_ws y) B.pre w (List.mem_cons_of_mem _ hw), hK, hU, hN, hX, hbb, B.notSynchronized, hlt, fun hin => ?_⟩ hnc (vx_table (x := am_y y) B (atoms_spec (ws := am_ws y) B.pre _ hcw)) B.returns ha hH
      rw [f8] at hin
      rw [(name_of_methodNamed B.named B.method).1]
      exact (f2.2.2.1 (by simpa using hin)).2
end AmSound
end
section
/-! FROM THE ABSTRACT LAW TO THE LAW'S WALK -/
def am_M0 (L : Nat) (xs : Nat → Int32) : am_M := fun l j => if l = (0, 0, 0) then (if j < L then xs j else 0) else if l = (0, 0, 1) ∧ j = 0 then nI L else 0
def am_X0 : am_X := (fun _ _ => none, some 0, 0, 0, 0, 0)
theorem am_M0_0 {L : Nat} {xs : Nat → Int32} {l : am_L} (h : l.1 ≠ 0) (j : Nat) : am_M0 L xs l j = 0 := by
  unfold am_M0
  rw [if_neg (fun e => h (by rw [e])), if_neg (fun e => h (by rw [e.1]))]
theorem am_HR0 {b sz L : Nat} {dD : va_G} {cA : Nat → ClassId} {xs : Nat → Int32} {H : Heap} (hs : H.size = sz) : am_HR (sz, b, dD, cA, L, xs) (am_M0 L xs) am_X0 H := by
  refine ⟨fun l hl h0 => ?_, ⟨?_, fun j hj => ?_⟩, hs, fun l _ h0 _ => ⟨fun j => am_M0_0 h0 j, fun _ => rfl⟩⟩
  · have := am_al_lt (c := 0) hl h0
    omega
  · show am_M0 L xs (0, 0, 1) 0 = nI L
    unfold am_M0
    rw [if_neg (by decide), if_pos ⟨rfl, rfl⟩]
  · show am_M0 L xs (0, 0, 0) j = xs j
    unfold am_M0
    rw [if_pos rfl, if_pos hj]
theorem am_W_tbl {w : Cond} (h : w ∈ am_W) : w ∈ lw_tbl := (List.mem_filter.mp h).1
theorem am_arr_prim {args : Array Value} {s : State} {t : FieldType} (hts : ∀ w ∈ am_W, w.before args s = true) (ht : t ∈ [FieldType.int, .char, .long, .double]) : ∃ cA : ClassId, ArrOfT s cA t ∧ va_RA s cA t := by
  obtain ⟨c, k, comp, h1, h2, h3⟩ := Cond.arrayClass_spec (hts _ (am_ac_w ht))
  refine ⟨c, fun n z => ⟨fun k h => (by cases h), k, h2, comp, h3⟩, ?_⟩
  simp only [List.mem_cons, List.not_mem_nil, or_false] at ht
  rcases ht with rfl | rfl | rfl | rfl <;> exact h1
theorem am_arr_ref {args : Array Value} {s : State} {ci : Nat} (hts : ∀ w ∈ am_W, w.before args s = true) (hc : ci ∈ [0, 2, 4, 5, 7]) : ∃ cA : ClassId, ArrOfT s cA (.object (am_cR ci)) ∧ va_RA s cA (.object (am_cR ci)) := by
  obtain ⟨comp, c, k, h1, h2, h3, h4, h5⟩ := Cond.arrayOver_spec (hts _ (am_ao_w hc))
  exact ⟨c, fun n z => ⟨fun k h => (by cases h), k, h3, comp, h4⟩, k, comp, h3, h4, h1, h5⟩
theorem am_known {args : Array Value} {s : State} (hts : ∀ w ∈ am_W, w.before args s = true) : ∃ (dD : va_G) (cA : Nat → ClassId), ∀ (sz b L : Nat) (xs : Nat → Int32), va_K dD am_cl (am_tys (sz, b, dD, cA, L, xs)) s := by
  have h1 : ∀ k, ∃ (c : ClassId) (i : Nat → Nat), k < 10 → u_Kn s (am_cR k) (am_cT k) (am_cN k) c i := by
    intro k
    by_cases hk : k < 10
    · obtain ⟨c, i, h⟩ := u_known hts (am_cl_in k hk) (hts _ (am_ins_w hk))
      exact ⟨c, i, fun _ => h⟩
    · exact ⟨0, fun _ => 0, fun h => absurd h hk⟩
  have h2 : ∀ k, ∃ cA : ClassId, (∀ t, (k, t) ∈ [(0, FieldType.int), (1, .char), (2, .long), (3, .double)] → ArrOfT s cA t ∧ va_RA s cA t) ∧ (∀ ci, k = 10 + ci → ci ∈ [0, 2, 4, 5, 7] → ArrOfT s cA (.object (am_cR ci)) ∧ va_RA s cA (.object (am_cR ci))) := by
    intro k
    by_cases h4 : k < 4
    · have : ∃ t, t ∈ [FieldType.int, .char, .long, .double] ∧ ∀ t', (k, t') ∈ [(0, FieldType.int), (1, .char), (2, .long), (3, .double)] → t' = t := by
        have : k = 0 ∨ k = 1 ∨ k = 2 ∨ k = 3 := by omega
        rcases this with rfl | rfl | rfl | rfl
        · exact ⟨.int, by simp, fun t' h => by simpa using h⟩
        · exact ⟨.char, by simp, fun t' h => by simpa using h⟩
        · exact ⟨.long, by simp, fun t' h => by simpa using h⟩
        · exact ⟨.double, by simp, fun t' h => by simpa using h⟩
      obtain ⟨t, ht, hu⟩ := this
      obtain ⟨cA, g⟩ := am_arr_prim hts ht
      exact ⟨cA, fun t' h => by rw [hu t' h]; exact g, fun ci e => by omega⟩
    · by_cases hc : k - 10 ∈ [0, 2, 4, 5, 7]
      · obtain ⟨cA, g⟩ := am_arr_ref hts hc
        refine ⟨cA, fun t' h => ?_, fun ci e _ => ?_⟩
        · simp only [List.mem_cons, Prod.mk.injEq, List.not_mem_nil, or_false] at h
          omega
        · rw [show ci = k - 10 by omega]; exact g
      · refine ⟨0, fun t' h => ?_, fun ci e h => ?_⟩
        · simp only [List.mem_cons, Prod.mk.injEq, List.not_mem_nil, or_false] at h
          omega
        · rw [show ci = k - 10 by omega] at h
          exact absurd h hc
  refine ⟨(fun k => (h1 k).choose, fun k => (h1 k).choose_spec.choose), fun k => (h2 k).choose, fun sz b L xs => ⟨fun k q hq => ?_, fun k q hq => ?_⟩⟩
  · have hk : k < 10 := by
      rcases Nat.lt_or_ge k 10 with h | h
      · exact h
      · rw [List.getElem?_eq_none (by exact h)] at hq
        cases hq
    rw [am_cl_at k hk] at hq
    cases hq
    exact (h1 k).choose_spec.choose_spec hk
  · have p0 := fun k => (h2 k).choose_spec.1
    have p1 := fun k => (h2 k).choose_spec.2
    match k, hq with
    | 0, hq => cases hq; exact p0 0 .int (by simp)
    | 1, hq => cases hq; exact p0 1 .char (by simp)
    | 2, hq => cases hq; exact p0 2 .long (by simp)
    | 3, hq => cases hq; exact p0 3 .double (by simp)
    | 4, hq => cases hq; exact p1 10 0 rfl (by simp)
    | 5, hq => cases hq; exact p1 12 2 rfl (by simp)
    | 6, hq => cases hq; exact p1 14 4 rfl (by simp)
    | 7, hq => cases hq; exact p1 15 5 rfl (by simp)
    | 8, hq => cases hq; exact p1 17 7 rfl (by simp)
    | k + 9, hq => simp [am_tys] at hq
theorem am_no_throw : am_own 227 = 10 ∧ am_tr 227 = true ∧ am_rt 227 = 2 ∧ am_mL 227 = 9 ∧ am_ini 227 = false ∧ am_hs 227 = [] := by decide +kernel
theorem am_flags {l : Launch} (h : l.flags = flags0) : l.stackTraces = false := by
  unfold Launch.stackTraces
  rw [h]
  decide +kernel
theorem am_ret227 {call : Nat → List am_V → am_M → am_X → Option am_R} {i : Instr} {pc : Nat} {ls : am_S} {st : List am_V} {M : am_M} {X : am_X} {r0 : am_R} (hR : am_isR i = true) (h : am_st call 227 i pc ls st M X = some (.inr r0)) : i = .ireturn ∧ ∃ x : Int32, st = [am_I x] ∧ r0 = (.inl (some (am_I x)), M, X) := by
  have n3 := am_no_throw.2.2.1
  unfold am_isR at hR
  split at hR
  · simp only [am_st, am_ex, n3] at h
    cases h
  · simp only [am_st, am_ex, n3] at h
    split at h
    · rename_i h9; cases h9
    · rename_i x1 _
      obtain ⟨_, h⟩ := am_if_i h
      exact ⟨rfl, x1, rfl, (Sum.inr.inj (Option.some.inj h)).symm⟩
    · rename_i h9; cases h9
    · cases h
  · simp only [am_st, am_ex, n3] at h
    cases h
  · simp only [am_st, am_ex, n3] at h
    cases h
  · simp only [am_st, am_ex, n3] at h
    cases h
  · cases hR
/-- what is owed of the abstract law -/
def am_Law : Prop := ∀ (L : Nat) (xs : Nat → Int32), L ≤ 2048 → ∃ (d : Nat) (M' : am_M) (X' : am_X), d ≤ 12 ∧ am_ev (d + 1) 227 [am_P (0, 0, 0)] (am_M0 L xs) am_X0 = some (.inl (some (am_I 1)), M', X') ∧ X'.2.2.1 ≤ 603072 ∧ X'.2.2.2.1 ≤ 7186538
theorem am_narrow_in : ∀ q ∈ am_ncs, (Cond.not (.castable (am_en q.1) (am_en q.2))) ∈ flatC (Jvm.Cond.and given_1 narrow_1) := by decide +kernel
set_option maxRecDepth 100000 in
theorem am_by227 : am_by 227 = code := rfl
set_option maxRecDepth 100000 in
set_option maxHeartbeats 4000000 in
theorem am_whole (hlaw : am_Law) {p : Program} {e : Env} {s : State} {m : MethodId} {below : List Frame} {meth : Method} {c : Code} (l : Launch) (hflags : l.flags = flags0) {b L : Nat} {xs : Nat → Int32} (hL : L ≤ 2048) (C0 : lw_At p s m meth c b L xs) : W p l e room_1 s m #[Value.ref b] below meth c s.heap [] 0 0 (lw_Z below #[Value.ref b] s) (entryFrame m ([Value.ref b] : List Value).toArray 9) := by
  obtain ⟨hx, hb, hr, hml, hown, hts0, hX, hbl, hlocks, hgv⟩ := id C0
  obtain ⟨d, M', X', hd, hev, hc1, hc2⟩ := hlaw L xs hL
  obtain ⟨n1, n2, n3, n4, n5, n6⟩ := am_no_throw
  have hst := am_flags hflags
  have hts : ∀ w ∈ am_W, w.before #[Value.ref b] s = true := fun w hw => hts0 w (am_W_tbl hw)
  obtain ⟨dD, cA, hK⟩ := am_known hts
  have hG := hK s.heap.size b L xs
  have hU : vx_Zq Bundle.tN "UNASSIGNED_STACK" Bundle.steD (am_A (s.heap.size, b, dD, cA, L, xs)) s s.heap := vx_Zqof (hts0 _ (by decide +kernel)) (hts0 _ (by decide +kernel)) (flat_of_before _ hgv _ (by decide +kernel)) (fun a h => Nat.not_le.mpr h)
  have hN : vx_Zq Bundle.tN "SUPPRESSED_SENTINEL" Bundle.listD (am_A (s.heap.size, b, dD, cA, L, xs)) s s.heap := vx_Zqof (hts0 _ (by decide +kernel)) (hts0 _ (by decide +kernel)) (flat_of_before _ hgv _ (by decide +kernel)) (fun a h => Nat.not_le.mpr h)
  have hnc : am_Nc s := fun q hq => va_Nc.of (flat_of_before _ hgv _ (am_narrow_in q hq))
  have C : am_Cx p l s m #[Value.ref b] meth c (s.heap.size, b, dD, cA, L, xs) 227 := ⟨hx, hb, by rw [hml]; exact n4.symm, by rw [n1]; exact hown, hts, hG, hU, hN, hX, ⟨hbl, Nat.le_refl _, hL⟩, hlocks, hst, fun h => by rw [n5] at h; cases h⟩
  have hd0 := Drawn.sameBut.refl s.drawn lw_cs
  rw [am_ev_eq, am_rn_iff] at hev
  obtain ⟨n, hrun⟩ := hev
  refine W.base ?_
  obtain ⟨lsc, hef, hlv⟩ := am_entry (G := (s.heap.size, b, dD, cA, L, xs)) (as := [am_P (0, 0, 0)]) (n := 9) (fun v hv => Or.inr ⟨(0, 0, 0), List.mem_singleton.mp hv⟩) (by decide)
  have hw := am_walk (R := room_1) (e := e) (below := below) (Q := lw_Z below #[Value.ref b] s) (X0 := am_X0) (r0 := (.inl (some (am_I 1)), M', X')) (p := p) (l := l) (s := s.setDrawn s.drawn) (by omega) C hnc (fun h => absurd n6 h) (am_sound l hst d) (by show d + 7 ≤ 19; omega) (by show 31 * d + 151 ≤ 10814; omega) ⟨hc1, hc2⟩
    (fun i pc ls st M X hcd hR hs H locs lsc hH hS hl => by
      obtain ⟨rfl, x1, rfl, e1⟩ := am_ret227 hR hs
      cases e1
      refine va_forget hS.2.2 (W.widen (by exact hc1) (by exact hc2) ?_)
      have hdg := am_dg (k := 1) hcd rfl (by decide)
      rw [am_by227] at hdg
      exact lw_ret hd0 hx hb hr hlocks hdg)
    (fun ix E ic pc ls st M X hcd hnw hle hs => by
      obtain ⟨i, hi⟩ := am_al2_in am_nw_ok _ (am_look_in hnw)
      simp only [am_nww, Bool.and_eq_true, decide_eq_true_eq] at hi
      rw [n1] at hi
      omega)
    (fun pc E H locs lsc rest q ce hE => by cases hE)
    n 0 (am_en0 227 [am_P (0, 0, 0)]) [] (am_M0 L xs) am_X0 (am_le_refl _) hrun
  have hw2 := hw s.heap [] lsc (am_HR0 rfl) va_S.rf hlv
  rw [show entryFrame m ([Value.ref b] : List Value).toArray 9 = F0 m 0 lsc [] from hef m]
  exact hw2
end
section
/-! ROWS IN NORMAL FORM: one instruction on stacks and locals that are written out, behind the making of the objects -/
abbrev am_W4 : Type := Nat × Nat × Int64 × UInt64
def am_T1 (l : am_L) (j : Nat) : Option am_L := match l.1 with
  | 3 => (match j with | 0 => some (13, 0, 0) | 1 => some (13, 1, 0) | 2 => some (13, 2, 0) | 4 => some (4, 0, 0) | 5 => some (6, 0, 0) | 6 => some (7, 0, 0) | 7 => some (8, 0, 0) | 9 => some (12, 0, 0) | _ => none)
  | 4 => (match j with | 0 => some (5, 0, 0) | _ => none)
  | 5 => if j < 9 then some (13, j + 3, 0) else none
  | 8 => (match j with | 0 => some (9, 0, 0) | 2 => some (10, 0, 0) | _ => none)
  | 10 => if j < 20 then some (11, 0, j) else none
  | 13 => (match j with | 2 => some (14, l.2.1, 0) | 3 => some (15, l.2.1, 0) | 4 => some (16, l.2.1, 0) | 6 => some (17, l.2.1, 0) | 8 => some (18, l.2.1, 0) | 9 => some (19, l.2.1, 0) | 10 => some (20, l.2.1, 0) | _ => none)
  | 14 => if j < 6 then some (21, l.2.1, j) else none
  | 15 => if j < 5 then some (23, l.2.1, j) else none
  | 17 => if j < 16 then some (24, l.2.1, j) else none
  | 21 => (match j with | 7 => some (22, l.2.1, l.2.2) | _ => none)
  | 24 => (match j with | 9 => some (25, l.2.1, l.2.2) | _ => none)
  | 30 => (match j with | 0 => some (31, 0, 0) | 1 => some (32, 0, 0) | 2 => some (33, 0, 0) | 3 => some (34, 0, 0) | 5 => some (35, 0, 0) | 7 => some (36, 0, 0) | 9 => some (37, 0, 0) | 13 => some (38, 0, 0) | _ => none)
  | _ => none
/-- where the references lead, when all is made -/
def am_T0 : am_T := fun l j => if am_ok l = true then am_T1 l j else none
abbrev am_Z (w : am_W4) : am_X := (am_T0, none, w)
def am_bw (w : am_W4) : am_W4 := (w.1 + 1, w.2.1 + 6, w.2.2)
theorem am_bump_Z (w : am_W4) : am_bump (am_Z w) = am_Z (am_bw w) := rfl
theorem am_T0_eq {l : am_L} {j : Nat} (h : am_ok l = true) : am_T0 l j = am_T1 l j := if_pos h
/-- an index that a row of n places has -/
abbrev am_in (i : Int32) (n : Nat) : Prop := ¬ (i < 0 ∨ n ≤ i.toNatClampNeg)
theorem am_in_lt' {i : Int32} {n : Nat} (h : am_in i n) : i.toNatClampNeg < n := Nat.not_le.mp fun q => h (Or.inr q)
def am_ck (l : am_L) (ci : Nat) : Prop := am_ok l = true ∧ am_kd l = (0, ci, 0)
def am_ka (l : am_L) (k n b : Nat) : Prop := am_ok l = true ∧ am_kd l = (k, n, b)
theorem am_oke {t n k N K : Nat} (h : am_ok (t, n, k) = (decide (n < N) && decide (k < K))) (hn : n < N) (hk : k < K) : am_ok (t, n, k) = true := by rw [h, decide_eq_true hn, decide_eq_true hk]; rfl
theorem ck3 : am_ck (3, 0, 0) 8 := ⟨rfl, rfl⟩
theorem ck4 : am_ck (4, 0, 0) 3 := ⟨rfl, rfl⟩
theorem ck6 : am_ck (6, 0, 0) 6 := ⟨rfl, rfl⟩
theorem ck7 : am_ck (7, 0, 0) 0 := ⟨rfl, rfl⟩
theorem ck8 : am_ck (8, 0, 0) 1 := ⟨rfl, rfl⟩
theorem ck30 : am_ck (30, 0, 0) 9 := ⟨rfl, rfl⟩
theorem ck11 {k : Nat} (hk : k < 20) : am_ck (11, 0, k) 0 := ⟨by show (true && decide (k < 20)) = true; rw [decide_eq_true hk]; rfl, rfl⟩
theorem am_okN {t n : Nat} (h : am_ok (t, n, 0) = (decide (n < 12) && true)) (hn : n < 12) : am_ok (t, n, 0) = true := by rw [h, decide_eq_true hn]; rfl
theorem ck13 {n : Nat} (hn : n < 12) : am_ck (13, n, 0) 5 := ⟨am_okN rfl hn, rfl⟩
theorem ck21 {n k : Nat} (hn : n < 12) (hk : k < 6) : am_ck (21, n, k) 2 := ⟨am_oke rfl hn hk, rfl⟩
theorem ck23 {n k : Nat} (hn : n < 12) (hk : k < 5) : am_ck (23, n, k) 7 := ⟨am_oke rfl hn hk, rfl⟩
theorem ck24 {n k : Nat} (hn : n < 12) (hk : k < 16) : am_ck (24, n, k) 4 := ⟨am_oke rfl hn hk, rfl⟩
theorem ka1 : am_ka (1, 0, 0) 4 1 0 := ⟨rfl, rfl⟩
theorem ka2 : am_ka (2, 0, 0) 5 1 0 := ⟨rfl, rfl⟩
theorem ka5 : am_ka (5, 0, 0) 3 5 9 := ⟨rfl, rfl⟩
theorem ka9 : am_ka (9, 0, 0) 2 60 0 := ⟨rfl, rfl⟩
theorem ka10 : am_ka (10, 0, 0) 3 0 20 := ⟨rfl, rfl⟩
theorem ka12 : am_ka (12, 0, 0) 2 14 0 := ⟨rfl, rfl⟩
theorem ka14 {n : Nat} (hn : n < 12) : am_ka (14, n, 0) 3 2 6 := ⟨am_okN rfl hn, rfl⟩
theorem ka15 {n : Nat} (hn : n < 12) : am_ka (15, n, 0) 3 7 5 := ⟨am_okN rfl hn, rfl⟩
theorem ka16 {n : Nat} (hn : n < 12) : am_ka (16, n, 0) 1 9 0 := ⟨am_okN rfl hn, rfl⟩
theorem ka17 {n : Nat} (hn : n < 12) : am_ka (17, n, 0) 3 4 16 := ⟨am_okN rfl hn, rfl⟩
theorem ka18 {n : Nat} (hn : n < 12) : am_ka (18, n, 0) 1 16 0 := ⟨am_okN rfl hn, rfl⟩
theorem ka19 {n : Nat} (hn : n < 12) : am_ka (19, n, 0) 1 6 0 := ⟨am_okN rfl hn, rfl⟩
theorem ka20 {n : Nat} (hn : n < 12) : am_ka (20, n, 0) 1 8 0 := ⟨am_okN rfl hn, rfl⟩
theorem ka22 {n k : Nat} (hn : n < 12) (hk : k < 6) : am_ka (22, n, k) 1 16 0 := ⟨am_oke rfl hn hk, rfl⟩
theorem ka25 {n k : Nat} (hn : n < 12) (hk : k < 16) : am_ka (25, n, k) 1 8 0 := ⟨am_oke rfl hn hk, rfl⟩
theorem ka31 : am_ka (31, 0, 0) 1 364 0 := ⟨rfl, rfl⟩
theorem ka32 : am_ka (32, 0, 0) 1 364 0 := ⟨rfl, rfl⟩
theorem ka33 : am_ka (33, 0, 0) 1 364 0 := ⟨rfl, rfl⟩
theorem ka34 : am_ka (34, 0, 0) 1 2912 0 := ⟨rfl, rfl⟩
theorem ka35 : am_ka (35, 0, 0) 1 364 0 := ⟨rfl, rfl⟩
theorem ka36 : am_ka (36, 0, 0) 2 20 0 := ⟨rfl, rfl⟩
theorem ka37 : am_ka (37, 0, 0) 2 60 0 := ⟨rfl, rfl⟩
theorem ka38 : am_ka (38, 0, 0) 1 3 0 := ⟨rfl, rfl⟩
/-- where a reference leads: at an object, and in a row of references -/
theorem am_tf {l : am_L} {j ci : Nat} {v : am_L} (h : am_ck l ci) (h1 : am_T1 l j = some v) : am_T0 l j = some v := (am_T0_eq h.1).trans h1
theorem am_ta {l : am_L} {j k a b : Nat} {v : am_L} (h : am_ka l k a b) (h1 : am_T1 l j = some v) : am_T0 l j = some v := (am_T0_eq h.1).trans h1
theorem am_n9 {i : Int32} (h : am_in i 9) : i.toNatClampNeg + 3 < 12 := by have := am_in_lt' h; omega
theorem am_ite {α : Sort _} {c : Prop} {d : Decidable c} {a a' b b' : α} (h1 : c → a = a') (h2 : ¬ c → b = b') : @ite α c d a b = @ite α c d a' b' := by
  by_cases h : c
  · rw [if_pos h, if_pos h]; exact h1 h
  · rw [if_neg h, if_neg h]; exact h2 h
theorem am_get_of0 {α : Type} {f : am_V → Option α} {v : am_V} : ∀ (ls : am_S) (i : Nat), ls[i]? = some (some v) → am_get ls i f = f v
  | [], _, h => by simp at h
  | none :: _, 0, h => by simp at h
  | some w :: _, 0, h => by
    simp only [List.getElem?_cons_zero, Option.some.injEq] at h
    rw [h]; rfl
  | none :: l, i + 1, h => am_get_of0 l i h
  | some _ :: l, i + 1, h => am_get_of0 l i h
theorem am_get_of {α : Type} {f : am_V → Option α} {v : am_V} {ls : am_S} {i : Nat} (h : ls[i]? = some (some v)) : am_get ls i f = f v := am_get_of0 ls i h
/-- a value of one slot -/
def am_1 (v : am_V) : Bool := match v with
  | .inl (.int _) => true
  | .inr (some _) => true
  | _ => false
theorem am_pop1_of {α : Type} {v : am_V} {st : List am_V} {f : am_V → List am_V → Option α} (h : am_1 v = true) : am_pop1 (v :: st) f = f v st := by
  unfold am_1 at h
  split at h
  · rfl
  · rfl
  · cases h
def am_sb (st : List am_V) : Bool := match st with
  | [] => true | [_] => true | [_, _] => true | [_, _, _] => true | [_, _, _, _] => true
  | _ => false
theorem am_sm_of {α : Type} {st : List am_V} {x : Option α} (h : am_sb st = true) : am_sm st x = x := by
  unfold am_sb at h
  split at h
  · rfl
  · rfl
  · rfl
  · rfl
  · rfl
  · cases h
/-- behind a call in a method without a handler -/
def am_cb (r : Option am_R) (K : Option am_V → am_M → am_X → Option am_R) : Option am_R := match r with
  | none => none
  | some (.inl v, M, X) => K v M X
  | some (.inr E, M, X) => some (.inr E, M, X)
section AmRL
variable {call : Nat → List am_V → am_M → am_X → Option am_R} {z pc : Nat} {ls : am_S} {st : List am_V} {M : am_M} {X : am_X} {w : am_W4} {x y : Int32} {l : am_L}
theorem rl_iloadn {j : Fin 4} (hc : am_cd z pc = some (.iload_n j)) (hg : ls[j.val]? = some (some (am_I x))) : am_rn call z pc ls st M X = am_rn call z (pc + 1) ls (am_I x :: st) M X := by
  rw [am_rn_eq hc]; simp only [am_ex]; rw [am_get_of hg]; rfl
theorem rl_iload {j : Nat} (hc : am_cd z pc = some (.iload j)) (hg : ls[j]? = some (some (am_I x))) : am_rn call z pc ls st M X = am_rn call z (pc + 2) ls (am_I x :: st) M X := by
  rw [am_rn_eq hc]; simp only [am_ex]; rw [am_get_of hg]; rfl
theorem rl_aloadn {j : Fin 4} (hc : am_cd z pc = some (.aload_n j)) (hg : ls[j.val]? = some (some (am_P l))) : am_rn call z pc ls st M X = am_rn call z (pc + 1) ls (am_P l :: st) M X := by
  rw [am_rn_eq hc]; simp only [am_ex]; rw [am_get_of hg]; rfl
theorem rl_aload {j : Nat} (hc : am_cd z pc = some (.aload j)) (hg : ls[j]? = some (some (am_P l))) : am_rn call z pc ls st M X = am_rn call z (pc + 2) ls (am_P l :: st) M X := by
  rw [am_rn_eq hc]; simp only [am_ex]; rw [am_get_of hg]; rfl
theorem rl_fload {j : Nat} {x : UInt32} (hc : am_cd z pc = some (.fload j)) (hg : ls[j]? = some (some (.inl (.float x)))) : am_rn call z pc ls st M X = am_rn call z (pc + 2) ls (.inl (.float x) :: st) M X := by
  rw [am_rn_eq hc]; simp only [am_ex]; rw [am_get_of hg]; rfl
theorem rl_dload {j : Nat} {x : UInt64} (hc : am_cd z pc = some (.dload j)) (hg : ls[j]? = some (some (.inl (.double x)))) : am_rn call z pc ls st M X = am_rn call z (pc + 2) ls (.inl (.double x) :: st) M X := by
  rw [am_rn_eq hc]; simp only [am_ex]; rw [am_get_of hg]; rfl
theorem rl_istoren {j : Fin 4} (hc : am_cd z pc = some (.istore_n j)) (hl : decide (j.val < ls.length) = true) {ls' : am_S} (hp : am_put ls j.val (some (am_I x)) = ls') : am_rn call z pc ls (am_I x :: st) M X = am_rn call z (pc + 1) ls' st M X := by
  rw [am_rn_eq hc]; simp only [am_ex, am_popI]; rw [if_pos (of_decide_eq_true hl), hp]
theorem rl_istore {j : Nat} (hc : am_cd z pc = some (.istore j)) (hl : decide (j < ls.length) = true) {ls' : am_S} (hp : am_put ls j (some (am_I x)) = ls') : am_rn call z pc ls (am_I x :: st) M X = am_rn call z (pc + 2) ls' st M X := by
  rw [am_rn_eq hc]; simp only [am_ex, am_popI]; rw [if_pos (of_decide_eq_true hl), hp]
theorem rl_astoren {j : Fin 4} (hc : am_cd z pc = some (.astore_n j)) (hl : decide (j.val < ls.length) = true) {ls' : am_S} (hp : am_put ls j.val (some (am_P l)) = ls') : am_rn call z pc ls (am_P l :: st) M X = am_rn call z (pc + 1) ls' st M X := by
  rw [am_rn_eq hc]; simp only [am_ex, am_popP]; rw [if_pos (of_decide_eq_true hl), hp]
theorem rl_astore {j : Nat} (hc : am_cd z pc = some (.astore j)) (hl : decide (j < ls.length) = true) {ls' : am_S} (hp : am_put ls j (some (am_P l)) = ls') : am_rn call z pc ls (am_P l :: st) M X = am_rn call z (pc + 2) ls' st M X := by
  rw [am_rn_eq hc]; simp only [am_ex, am_popP]; rw [if_pos (of_decide_eq_true hl), hp]
theorem rl_fstore {j : Nat} {x : UInt32} (hc : am_cd z pc = some (.fstore j)) (hl : decide (j < ls.length) = true) {ls' : am_S} (hp : am_put ls j (some (.inl (.float x))) = ls') : am_rn call z pc ls (.inl (.float x) :: st) M X = am_rn call z (pc + 2) ls' st M X := by
  rw [am_rn_eq hc]; simp only [am_ex, am_popF]; rw [if_pos (of_decide_eq_true hl), hp]
theorem rl_dstore {j : Nat} {x : UInt64} (hc : am_cd z pc = some (.dstore j)) (hl : decide (j + 1 < ls.length) = true) {ls' : am_S} (hp : am_put2 ls j (.inl (.double x)) = ls') : am_rn call z pc ls (.inl (.double x) :: st) M X = am_rn call z (pc + 2) ls' st M X := by
  rw [am_rn_eq hc]; simp only [am_ex, am_popD]; rw [if_pos (of_decide_eq_true hl), hp]
theorem rl_iinc {j : Nat} {c : Int} {k : Int32} (hc : am_cd z pc = some (.iinc j c)) (hk : Int32.ofInt c = k) (hg : ls[j]? = some (some (am_I x))) {ls' : am_S} (hp : am_put ls j (some (am_I (x + k))) = ls') : am_rn call z pc ls st M X = am_rn call z (pc + 3) ls' st M X := by
  rw [am_rn_eq hc]; simp only [am_ex]; rw [am_get_of hg, hk, ← hp]; rfl
theorem rl_iconst {c : Int} {k : Int32} (hc : am_cd z pc = some (.iconst c)) (hk : Int32.ofInt c = k) : am_rn call z pc ls st M X = am_rn call z (pc + 1) ls (am_I k :: st) M X := by
  rw [am_rn_eq hc]; simp only [am_ex]; rw [hk]
theorem rl_bipush {c : Int} {k : Int32} (hc : am_cd z pc = some (.bipush c)) (hk : (Int8.ofInt c).toInt32 = k) : am_rn call z pc ls st M X = am_rn call z (pc + 2) ls (am_I k :: st) M X := by
  rw [am_rn_eq hc]; simp only [am_ex]; rw [hk]
theorem rl_sipush {c : Int} {k : Int32} (hc : am_cd z pc = some (.sipush c)) (hk : (Int16.ofInt c).toInt32 = k) : am_rn call z pc ls st M X = am_rn call z (pc + 3) ls (am_I k :: st) M X := by
  rw [am_rn_eq hc]; simp only [am_ex]; rw [hk]
theorem rl_ldc {ix : Nat} {k : Int32} (hc : am_cd z pc = some (.ldc ix)) (hk : am_kc (am_own z) ix = some k) : am_rn call z pc ls st M X = am_rn call z (pc + 2) ls (am_I k :: st) M X := by
  rw [am_rn_eq hc]; simp only [am_ex, hk]
theorem rl_lconst {c : Fin 2} {k : Int64} (hc : am_cd z pc = some (.lconst c)) (hk : Int64.ofNat c.val = k) : am_rn call z pc ls st M X = am_rn call z (pc + 1) ls (.inl (.long k) :: st) M X := by
  rw [am_rn_eq hc]; simp only [am_ex]; rw [hk]
theorem rl_iadd (hc : am_cd z pc = some .iadd) : am_rn call z pc ls (am_I y :: am_I x :: st) M X = am_rn call z (pc + 1) ls (am_I (x + y) :: st) M X := by
  rw [am_rn_eq hc]; simp only [am_ex, am_popI]
theorem rl_isub (hc : am_cd z pc = some .isub) : am_rn call z pc ls (am_I y :: am_I x :: st) M X = am_rn call z (pc + 1) ls (am_I (x - y) :: st) M X := by
  rw [am_rn_eq hc]; simp only [am_ex, am_popI]
theorem rl_imul (hc : am_cd z pc = some .imul) : am_rn call z pc ls (am_I y :: am_I x :: st) M X = am_rn call z (pc + 1) ls (am_I (x * y) :: st) M X := by
  rw [am_rn_eq hc]; simp only [am_ex, am_popI]
theorem rl_iand (hc : am_cd z pc = some .iand) : am_rn call z pc ls (am_I y :: am_I x :: st) M X = am_rn call z (pc + 1) ls (am_I (x &&& y) :: st) M X := by
  rw [am_rn_eq hc]; simp only [am_ex, am_popI]
theorem rl_ior (hc : am_cd z pc = some .ior) : am_rn call z pc ls (am_I y :: am_I x :: st) M X = am_rn call z (pc + 1) ls (am_I (x ||| y) :: st) M X := by
  rw [am_rn_eq hc]; simp only [am_ex, am_popI]
theorem rl_ishl (hc : am_cd z pc = some .ishl) : am_rn call z pc ls (am_I y :: am_I x :: st) M X = am_rn call z (pc + 1) ls (am_I (x <<< (y &&& 31)) :: st) M X := by
  rw [am_rn_eq hc]; simp only [am_ex, am_popI]
theorem rl_ishr (hc : am_cd z pc = some .ishr) : am_rn call z pc ls (am_I y :: am_I x :: st) M X = am_rn call z (pc + 1) ls (am_I (x >>> (y &&& 31)) :: st) M X := by
  rw [am_rn_eq hc]; simp only [am_ex, am_popI]
theorem rl_idiv (hc : am_cd z pc = some .idiv) (h0 : decide (y = 0) = false) : am_rn call z pc ls (am_I y :: am_I x :: st) M X = am_rn call z (pc + 1) ls (am_I (x / y) :: st) M X := by
  rw [am_rn_eq hc]; simp only [am_ex, am_popI]; rw [if_neg (of_decide_eq_false h0)]
theorem rl_irem (hc : am_cd z pc = some .irem) (h0 : decide (y = 0) = false) : am_rn call z pc ls (am_I y :: am_I x :: st) M X = am_rn call z (pc + 1) ls (am_I (x - x / y * y) :: st) M X := by
  rw [am_rn_eq hc]; simp only [am_ex, am_popI]; rw [if_neg (of_decide_eq_false h0)]
theorem rl_i2l (hc : am_cd z pc = some .i2l) : am_rn call z pc ls (am_I x :: st) M X = am_rn call z (pc + 1) ls (.inl (.long x.toInt64) :: st) M X := by
  rw [am_rn_eq hc]; simp only [am_ex, am_popI]
theorem rl_i2c (hc : am_cd z pc = some .i2c) : am_rn call z pc ls (am_I x :: st) M X = am_rn call z (pc + 1) ls (am_I (x.toUInt32 % 65536).toInt32 :: st) M X := by
  rw [am_rn_eq hc]; simp only [am_ex, am_popI]
theorem rl_i2f (hc : am_cd z pc = some .i2f) : am_rn call z pc ls (am_I x :: st) M X = am_rn call z (pc + 1) ls (.inl (.float (FP.i2f x)) :: st) M X := by
  rw [am_rn_eq hc]; simp only [am_ex, am_popI]
theorem rl_i2d (hc : am_cd z pc = some .i2d) : am_rn call z pc ls (am_I x :: st) M X = am_rn call z (pc + 1) ls (.inl (.double (FP.i2d x)) :: st) M X := by
  rw [am_rn_eq hc]; simp only [am_ex, am_popI]
theorem rl_f2d {x : UInt32} (hc : am_cd z pc = some .f2d) : am_rn call z pc ls (.inl (.float x) :: st) M X = if FP.f2d x &&& 0x7fffffffffffffff ≤ 0x7ff0000000000000 then am_rn call z (pc + 1) ls (.inl (.double (FP.f2d x)) :: st) M X else none := by
  rw [am_rn_eq hc]; simp only [am_ex, am_popF]
theorem rl_fdiv {x y : UInt32} (hc : am_cd z pc = some .fdiv) : am_rn call z pc ls (.inl (.float y) :: .inl (.float x) :: st) M X = if FP.fdiv x y &&& 0x7fffffff ≤ 0x7f800000 then am_rn call z (pc + 1) ls (.inl (.float (FP.fdiv x y)) :: st) M X else none := by
  rw [am_rn_eq hc]; simp only [am_ex, am_popF]
theorem rl_ddiv {x y : UInt64} (hc : am_cd z pc = some .ddiv) : am_rn call z pc ls (.inl (.double y) :: .inl (.double x) :: st) M X = if FP.ddiv x y &&& 0x7fffffffffffffff ≤ 0x7ff0000000000000 then am_rn call z (pc + 1) ls (.inl (.double (FP.ddiv x y)) :: st) M X else none := by
  rw [am_rn_eq hc]; simp only [am_ex, am_popD]
theorem rl_lcmp {x y : Int64} (hc : am_cd z pc = some .lcmp) : am_rn call z pc ls (.inl (.long y) :: .inl (.long x) :: st) M X = am_rn call z (pc + 1) ls (am_I (lg_cmp x y) :: st) M X := by
  rw [am_rn_eq hc]; simp only [am_ex, am_popJ]
theorem rl_fcmp {op : CmpOp} {x y : UInt32} (hc : am_cd z pc = some (.fcmp op)) : am_rn call z pc ls (.inl (.float y) :: .inl (.float x) :: st) M X = am_rn call z (pc + 1) ls (am_I (Op.cmpValue (FP.fcmp x y) op) :: st) M X := by
  rw [am_rn_eq hc]; simp only [am_ex, am_popF]
theorem rl_dcmp {op : CmpOp} {x y : UInt64} (hc : am_cd z pc = some (.dcmp op)) : am_rn call z pc ls (.inl (.double y) :: .inl (.double x) :: st) M X = am_rn call z (pc + 1) ls (am_I (Op.cmpValue (FP.dcmp x y) op) :: st) M X := by
  rw [am_rn_eq hc]; simp only [am_ex, am_popD]
theorem rl_dup {v : am_V} (hc : am_cd z pc = some .dup) (hv : am_1 v = true) : am_rn call z pc ls (v :: st) M X = am_rn call z (pc + 1) ls (v :: v :: st) M X := by
  rw [am_rn_eq hc]; simp only [am_ex]; rw [am_pop1_of hv]
theorem rl_pop {v : am_V} (hc : am_cd z pc = some .pop) (hv : am_1 v = true) : am_rn call z pc ls (v :: st) M X = am_rn call z (pc + 1) ls st M X := by
  rw [am_rn_eq hc]; simp only [am_ex]; rw [am_pop1_of hv]
theorem rl_dup2 {v u : am_V} (hc : am_cd z pc = some .dup2) (hv : am_1 v = true) (hu : am_1 u = true) : am_rn call z pc ls (v :: u :: st) M X = am_rn call z (pc + 1) ls (v :: u :: v :: u :: st) M X := by
  rw [am_rn_eq hc]; simp only [am_ex]; rw [am_pop1_of hv, am_pop1_of hu]
theorem rl_dup_x1 {v u : am_V} (hc : am_cd z pc = some .dup_x1) (hv : am_1 v = true) (hu : am_1 u = true) : am_rn call z pc ls (v :: u :: st) M X = am_rn call z (pc + 1) ls (v :: u :: v :: st) M X := by
  rw [am_rn_eq hc]; simp only [am_ex]; rw [am_pop1_of hv, am_pop1_of hu]
theorem rl_dup_x2 {v u t : am_V} (hc : am_cd z pc = some .dup_x2) (hv : am_1 v = true) (hu : am_1 u = true) (ht : am_1 t = true) : am_rn call z pc ls (v :: u :: t :: st) M X = am_rn call z (pc + 1) ls (v :: u :: t :: v :: st) M X := by
  rw [am_rn_eq hc]; simp only [am_ex]; rw [am_pop1_of hv, am_pop1_of hu, am_pop1_of ht]
theorem rl_goto {o : Int} (t : Nat) (hc : am_cd z pc = some (.goto o)) (ht : (pc : Int) + o = (t : Int)) : am_rn call z pc ls st M X = am_rn call z t ls st M X := rn_goto hc ht
theorem rl_ifeq {o : Int} (t : Nat) (hc : am_cd z pc = some (.ifCond .eq o)) (ht : (pc : Int) + o = (t : Int)) : am_rn call z pc ls (am_I x :: st) M X = if x = 0 then am_rn call z t ls st M X else am_rn call z (pc + 3) ls st M X := rn_ifeq hc ht
theorem rl_ifne {o : Int} (t : Nat) (hc : am_cd z pc = some (.ifCond .ne o)) (ht : (pc : Int) + o = (t : Int)) : am_rn call z pc ls (am_I x :: st) M X = if x = 0 then am_rn call z (pc + 3) ls st M X else am_rn call z t ls st M X := rn_ifne hc ht
theorem rl_iflt {o : Int} (t : Nat) (hc : am_cd z pc = some (.ifCond .lt o)) (ht : (pc : Int) + o = (t : Int)) : am_rn call z pc ls (am_I x :: st) M X = if x < 0 then am_rn call z t ls st M X else am_rn call z (pc + 3) ls st M X := rn_iflt hc ht
theorem rl_ifge {o : Int} (t : Nat) (hc : am_cd z pc = some (.ifCond .ge o)) (ht : (pc : Int) + o = (t : Int)) : am_rn call z pc ls (am_I x :: st) M X = if x < 0 then am_rn call z (pc + 3) ls st M X else am_rn call z t ls st M X := rn_ifge hc ht
theorem rl_ifgt {o : Int} (t : Nat) (hc : am_cd z pc = some (.ifCond .gt o)) (ht : (pc : Int) + o = (t : Int)) : am_rn call z pc ls (am_I x :: st) M X = if 0 < x then am_rn call z t ls st M X else am_rn call z (pc + 3) ls st M X := rn_ifgt hc ht
theorem rl_ifle {o : Int} (t : Nat) (hc : am_cd z pc = some (.ifCond .le o)) (ht : (pc : Int) + o = (t : Int)) : am_rn call z pc ls (am_I x :: st) M X = if 0 < x then am_rn call z (pc + 3) ls st M X else am_rn call z t ls st M X := rn_ifle hc ht
theorem rl_iceq {o : Int} (t : Nat) (hc : am_cd z pc = some (.if_icmp .eq o)) (ht : (pc : Int) + o = (t : Int)) : am_rn call z pc ls (am_I y :: am_I x :: st) M X = if x = y then am_rn call z t ls st M X else am_rn call z (pc + 3) ls st M X := rn_iceq hc ht
theorem rl_icne {o : Int} (t : Nat) (hc : am_cd z pc = some (.if_icmp .ne o)) (ht : (pc : Int) + o = (t : Int)) : am_rn call z pc ls (am_I y :: am_I x :: st) M X = if x = y then am_rn call z (pc + 3) ls st M X else am_rn call z t ls st M X := rn_icne hc ht
theorem rl_iclt {o : Int} (t : Nat) (hc : am_cd z pc = some (.if_icmp .lt o)) (ht : (pc : Int) + o = (t : Int)) : am_rn call z pc ls (am_I y :: am_I x :: st) M X = if x < y then am_rn call z t ls st M X else am_rn call z (pc + 3) ls st M X := rn_iclt hc ht
theorem rl_icge {o : Int} (t : Nat) (hc : am_cd z pc = some (.if_icmp .ge o)) (ht : (pc : Int) + o = (t : Int)) : am_rn call z pc ls (am_I y :: am_I x :: st) M X = if x < y then am_rn call z (pc + 3) ls st M X else am_rn call z t ls st M X := rn_icge hc ht
theorem rl_icgt {o : Int} (t : Nat) (hc : am_cd z pc = some (.if_icmp .gt o)) (ht : (pc : Int) + o = (t : Int)) : am_rn call z pc ls (am_I y :: am_I x :: st) M X = if y < x then am_rn call z t ls st M X else am_rn call z (pc + 3) ls st M X := rn_icgt hc ht
theorem rl_icle {o : Int} (t : Nat) (hc : am_cd z pc = some (.if_icmp .le o)) (ht : (pc : Int) + o = (t : Int)) : am_rn call z pc ls (am_I y :: am_I x :: st) M X = if y < x then am_rn call z (pc + 3) ls st M X else am_rn call z t ls st M X := rn_icle hc ht
theorem am_chk_of {α : Type} {ci : Nat} {v : Option α} (h : am_ck l ci) : am_chk (am_Z w) l ci v = v := by
  unfold am_chk
  exact if_pos ⟨by show (am_ok l && true) = true; rw [h.1]; rfl, h.2⟩
theorem am_arr_of {α : Type} {k a b n : Nat} {i : Int32} {f : Nat → Option α} (h : am_ka l k a b) : am_arr (am_Z w) l k a b i n f = if am_in i n then f i.toNatClampNeg else none := by
  unfold am_arr
  have h1 : am_al (am_Z w).2.1 l = true := by show (am_ok l && true) = true; rw [h.1]; rfl
  by_cases hi : am_in i n
  · rw [if_pos ⟨h1, h.2, hi⟩, if_pos hi]
  · rw [if_neg (fun q => hi q.2.2), if_neg hi]
theorem rl_get {ix ci j : Nat} (hc : am_cd z pc = some (.getfield ix)) (hf : am_fl (am_own z) ix = some (ci, j)) (hk : (am_fk ci j == 3) = false) (h : am_ck l ci) : am_rn call z pc ls (am_P l :: st) M (am_Z w) = am_rn call z (pc + 3) ls (am_I (M l j) :: st) M (am_Z w) := by
  rw [rn_getI hc hf hk]; simp only [am_popP]; rw [am_chk_of h]
theorem rl_getP {ix ci j : Nat} {v : am_L} (hc : am_cd z pc = some (.getfield ix)) (hf : am_fl (am_own z) ix = some (ci, j)) (hk : (am_fk ci j == 3) = true) (h : am_ck l ci) (hv : am_T1 l j = some v) : am_rn call z pc ls (am_P l :: st) M (am_Z w) = am_rn call z (pc + 3) ls (am_P v :: st) M (am_Z w) := by
  rw [rn_getP hc hf hk]; simp only [am_popP]; rw [am_chk_of h, am_tf h hv]
theorem rl_put {ix ci j : Nat} (hc : am_cd z pc = some (.putfield ix)) (hf : am_fl (am_own z) ix = some (ci, j)) (ho : am_fo z ci j = true) (hk : am_fk ci j = 0) (h : am_ck l ci) : am_rn call z pc ls (am_I x :: am_P l :: st) M (am_Z w) = am_rn call z (pc + 3) ls st (am_set M l j x) (am_Z w) := by
  rw [rn_putI hc hf ho hk]; simp only [am_popI, am_popP]; rw [am_chk_of h]
theorem rl_putZ {ix ci j : Nat} (hc : am_cd z pc = some (.putfield ix)) (hf : am_fl (am_own z) ix = some (ci, j)) (ho : am_fo z ci j = true) (hk : am_fk ci j = 1) (h : am_ck l ci) : am_rn call z pc ls (am_I x :: am_P l :: st) M (am_Z w) = if am_pc 1 x = true then am_rn call z (pc + 3) ls st (am_set M l j x) (am_Z w) else none := by
  rw [rn_putK hc hf ho hk rfl]; simp only [am_popI, am_popP]; rw [am_chk_of h]
theorem rl_putC {ix ci j : Nat} (hc : am_cd z pc = some (.putfield ix)) (hf : am_fl (am_own z) ix = some (ci, j)) (ho : am_fo z ci j = true) (hk : am_fk ci j = 2) (h : am_ck l ci) : am_rn call z pc ls (am_I x :: am_P l :: st) M (am_Z w) = if am_pc 2 x = true then am_rn call z (pc + 3) ls st (am_set M l j x) (am_Z w) else none := by
  rw [rn_putK hc hf ho hk rfl]; simp only [am_popI, am_popP]; rw [am_chk_of h]
theorem rl_iald {n b : Nat} (hc : am_cd z pc = some .iaload) (h : am_ka l 1 n b) : am_rn call z pc ls (am_I x :: am_P l :: st) M (am_Z w) = if am_in x n then am_rn call z (pc + 1) ls (am_I (M l x.toNatClampNeg) :: st) M (am_Z w) else none := by
  rw [am_rn_eq hc]; simp only [am_ex, am_popI, am_popP]
  have h0 : ¬ l.1 = 0 := fun q => by
    have := h.2
    unfold am_kd at this
    rw [q] at this
    cases this
  have e1 : (am_kd l).2.1 = n := by rw [h.2]
  have e2 : (0 : Nat) = b ∨ b ≠ 0 := by omega
  rw [if_neg h0, e1]
  unfold am_arr
  have h1 : am_al (am_Z w).2.1 l = true := by show (am_ok l && true) = true; rw [h.1]; rfl
  have hb : b = 0 := by
    have := h.2
    unfold am_kd at this
    split at this <;> cases this <;> rfl
  subst hb
  by_cases hi : am_in x n
  · rw [if_pos ⟨h1, h.2, hi⟩, if_pos hi]
  · rw [if_neg (fun q => hi q.2.2), if_neg hi]
theorem rl_sald (hc : am_cd z pc = some .iaload) : am_rn call z pc ls (am_I x :: am_P (0, 0, 0) :: st) M X = if am_in x (M (0, 0, 1) 0).toNatClampNeg then am_rn call z (pc + 1) ls (am_I (M (0, 0, 0) x.toNatClampNeg) :: st) M X else none := by
  rw [am_rn_eq hc]; simp only [am_ex, am_popI, am_popP, if_true, true_and, am_in]
theorem rl_cald {n : Nat} (hc : am_cd z pc = some .caload) (h : am_ka l 2 n 0) : am_rn call z pc ls (am_I x :: am_P l :: st) M (am_Z w) = if am_in x n then am_rn call z (pc + 1) ls (am_I (M l x.toNatClampNeg) :: st) M (am_Z w) else none := by
  rw [am_rn_eq hc]; simp only [am_ex, am_popI, am_popP]
  rw [show (am_kd l).2.1 = n by rw [h.2], am_arr_of h]
theorem rl_iast {n : Nat} (hc : am_cd z pc = some .iastore) (h : am_ka l 1 n 0) : am_rn call z pc ls (am_I y :: am_I x :: am_P l :: st) M (am_Z w) = if am_in x n then am_rn call z (pc + 1) ls st (am_set M l x.toNatClampNeg y) (am_Z w) else none := by
  rw [am_rn_eq hc]; simp only [am_ex, am_popI, am_popP]
  rw [show (am_kd l).2.1 = n by rw [h.2], am_arr_of h]
theorem rl_cast {n : Nat} (hc : am_cd z pc = some .castore) (h : am_ka l 2 n 0) : am_rn call z pc ls (am_I y :: am_I x :: am_P l :: st) M (am_Z w) = if am_in x n then am_rn call z (pc + 1) ls st (am_set M l x.toNatClampNeg (vp_nar .char y)) (am_Z w) else none := by
  rw [am_rn_eq hc]; simp only [am_ex, am_popI, am_popP]
  rw [show (am_kd l).2.1 = n by rw [h.2], am_arr_of h]
theorem rl_aald {ci n : Nat} {v : am_L} (hc : am_cd z pc = some .aaload) (h : am_ka l 3 ci n) (hv : am_in x n → am_T1 l x.toNatClampNeg = some v) : am_rn call z pc ls (am_I x :: am_P l :: st) M (am_Z w) = if am_in x n then am_rn call z (pc + 1) ls (am_P v :: st) M (am_Z w) else none := by
  rw [am_rn_eq hc]; simp only [am_ex, am_popI, am_popP]
  rw [show (am_kd l).2.1 = ci by rw [h.2], show (am_kd l).2.2 = n by rw [h.2], am_arr_of h]
  exact am_ite (fun hi => by rw [am_ta h (hv hi)]) (fun _ => rfl)
theorem rl_lald (hc : am_cd z pc = some .laload) : am_rn call z pc ls (am_I 0 :: am_P (1, 0, 0) :: st) M (am_Z w) = am_rn call z (pc + 1) ls (.inl (.long w.2.2.1) :: st) M (am_Z w) := by
  rw [am_rn_eq hc]; simp only [am_ex, am_popI, am_popP]
  rw [am_arr_of ka1]; rfl
theorem rl_dald (hc : am_cd z pc = some .daload) : am_rn call z pc ls (am_I 0 :: am_P (2, 0, 0) :: st) M (am_Z w) = am_rn call z (pc + 1) ls (.inl (.double w.2.2.2) :: st) M (am_Z w) := by
  rw [am_rn_eq hc]; simp only [am_ex, am_popI, am_popP]
  rw [am_arr_of ka2]; rfl
theorem rl_last {v : Int64} (hc : am_cd z pc = some .lastore) : am_rn call z pc ls (.inl (.long v) :: am_I 0 :: am_P (1, 0, 0) :: st) M (am_Z w) = am_rn call z (pc + 1) ls st M (am_Z (w.1, w.2.1, v, w.2.2.2)) := by
  rw [am_rn_eq hc]; simp only [am_ex, am_popI, am_popP, am_popJ]
  rw [am_arr_of ka1]; rfl
theorem rl_dast {v : UInt64} (hc : am_cd z pc = some .dastore) : am_rn call z pc ls (.inl (.double v) :: am_I 0 :: am_P (2, 0, 0) :: st) M (am_Z w) = am_rn call z (pc + 1) ls st M (am_Z (w.1, w.2.1, w.2.2.1, v)) := by
  rw [am_rn_eq hc]; simp only [am_ex, am_popI, am_popP, am_popD]
  rw [am_arr_of ka2]; rfl
theorem rl_alen (hc : am_cd z pc = some .arraylength) : am_rn call z pc ls (am_P (0, 0, 0) :: st) M X = am_rn call z (pc + 1) ls (am_I (M (0, 0, 1) 0) :: st) M X := by
  rw [am_rn_eq hc]; simp only [am_ex, am_popP, if_true]
theorem am_b1_cb {r : Option am_R} {K : Option am_V → am_M → am_X → Option am_R} : am_b1 (α := Unit) r K = am_cb r K := by
  unfold am_b1 am_cb; split <;> rfl
theorem rl_inv {ix n o : Nat} (y : Nat) (as r : List am_V) (hc : am_cd z pc = some (.invokevirtual ix)) (hm : am_ml (am_own z) ix = some (0, y)) (hn : am_na y = n) (ho : am_own y = o) (hh : am_hs z = [] ∧ am_tr z = true) (hp : am_popN n [] st (fun as r => some (as, r)) = some (as, am_P l :: r)) (hr : am_sb r = true) (h : am_ck l o) : am_rn call z pc ls st M (am_Z w) = am_cb (call y (am_P l :: as) M (am_Z w)) fun v M X => am_rn call z (pc + 3) ls (v.toList ++ r) M X := by
  rw [rn_invV hc hm hn ho hh]
  have key : ∀ (n : Nat) (acc st as r : List am_V), am_popN n acc st (fun as r => some (as, r)) = some (as, r) → ∀ {α : Type} (f : List am_V → List am_V → Option α), am_popN n acc st f = f as r := by
    intro n
    induction n with
    | zero => intro acc st as r h α f; cases h; rfl
    | succ n ih =>
      intro acc st as r h α f
      unfold am_popN at h ⊢
      obtain ⟨v, t, rfl, hv, h2⟩ : ∃ v t, st = v :: t ∧ am_1 v = true ∧ am_popN n (v :: acc) t (fun as r => some (as, r)) = some (as, r) := by
        unfold am_pop1 at h
        split at h
        · exact ⟨_, _, rfl, rfl, h⟩
        · exact ⟨_, _, rfl, rfl, h⟩
        · cases h
      rw [am_pop1_of hv]
      exact ih _ _ _ _ h2 f
  rw [key _ _ _ _ _ hp]
  simp only [am_popP]
  rw [am_sm_of hr, am_chk_of h, am_b1_cb]
end AmRL
section AmRL2
variable {call : Nat → List am_V → am_M → am_X → Option am_R} {z pc : Nat} {ls : am_S} {st : List am_V} {M : am_M} {X : am_X} {w : am_W4} {x y : Int32} {l : am_L}
theorem am_popN_of : ∀ {n : Nat} {acc st as r : List am_V}, am_popN n acc st (fun as r => some (as, r)) = some (as, r) → ∀ {α : Type} (f : List am_V → List am_V → Option α), am_popN n acc st f = f as r := by
  intro n
  induction n with
  | zero => intro acc st as r h α f; cases h; rfl
  | succ n ih =>
    intro acc st as r h α f
    unfold am_popN at h ⊢
    obtain ⟨v, t, rfl, hv, h2⟩ : ∃ v t, st = v :: t ∧ am_1 v = true ∧ am_popN n (v :: acc) t (fun as r => some (as, r)) = some (as, r) := by
      unfold am_pop1 at h
      split at h
      · exact ⟨_, _, rfl, rfl, h⟩
      · exact ⟨_, _, rfl, rfl, h⟩
      · cases h
    rw [am_pop1_of hv]
    exact ih h2 f
theorem rl_invS {ix n k : Nat} (y : Nat) (as r : List am_V) (hc : am_cd z pc = some (.invokestatic ix)) (hm : am_ml (am_own z) ix = some (k, y)) (hk : k = 1 ∨ k = 4) (hn : am_na y = n) (hh : am_hs z = [] ∧ am_tr z = true) (hp : am_popN n [] st (fun as r => some (as, r)) = some (as, r)) (hr : am_sb r = true) : am_rn call z pc ls st M X = am_cb (call y as M X) fun v M X => am_rn call z (pc + 3) ls (v.toList ++ r) M X := by
  rw [rn_invS hc hm hk hn hh, am_popN_of hp, am_sm_of hr, am_b1_cb]
theorem rl_invH {ix n o : Nat} (y : Nat) (as r : List am_V) (hc : am_cd z pc = some (.invokevirtual ix)) (hm : am_ml (am_own z) ix = some (0, y)) (hn : am_na y = n) (ho : am_own y = o) (hp : am_popN n [] st (fun as r => some (as, r)) = some (as, am_P l :: r)) (hr : am_sb r = true) (h : am_ck l o) : am_rn call z pc ls st M (am_Z w) = am_bk z pc ls r (call y (am_P l :: as) M (am_Z w)) (am_rn call z) some := by
  rw [rn_invH hc hm hn ho, am_popN_of hp]
  simp only [am_popP]
  rw [am_sm_of hr, am_chk_of h]
theorem rl_min {ix y0 : Nat} (hc : am_cd z pc = some (.invokestatic ix)) (hm : am_ml (am_own z) ix = some (6, y0)) (hr : am_sb st = true) : am_rn call z pc ls (am_I y :: am_I x :: st) M X = am_rn call z (pc + 3) ls (am_I (if y < x then y else x) :: st) M X := by
  rw [rn_min hc hm]; simp only [am_popI]; rw [am_sm_of hr]
abbrev am_cpk (sp dp n : Int32) (n0 n1 : Nat) : Prop := ¬ sp < 0 ∧ ¬ dp < 0 ∧ ¬ n < 0 ∧ sp.toNatClampNeg + n.toNatClampNeg ≤ n0 ∧ dp.toNatClampNeg + n.toNatClampNeg ≤ n1
theorem rl_copy {ix y0 n0 n1 : Nat} {a a0 : am_L} {n dp sp : Int32} (hc : am_cd z pc = some (.invokestatic ix)) (hm : am_ml (am_own z) ix = some (7, y0)) (hr : am_sb st = true) (ha : am_ka a 1 n1 0) (ha0 : am_ka a0 1 n0 0) (hne : a ≠ a0) : am_rn call z pc ls (am_I n :: am_I dp :: am_P a :: am_I sp :: am_P a0 :: st) M (am_Z w) = if am_cpk sp dp n n0 n1 then am_rn call z (pc + 3) ls st (am_cp M a0 a sp.toNatClampNeg dp.toNatClampNeg n.toNatClampNeg) (am_Z w) else none := by
  rw [rn_copy hc hm]; simp only [am_popI, am_popP]; rw [am_sm_of hr]
  unfold am_cpy
  have h1 : am_al (am_Z w).2.1 a = true := by show (am_ok a && true) = true; rw [ha.1]; rfl
  have h2 : am_al (am_Z w).2.1 a0 = true := by show (am_ok a0 && true) = true; rw [ha0.1]; rfl
  rw [ha.2, ha0.2]
  by_cases h : am_cpk sp dp n n0 n1
  · rw [if_pos h, if_pos ⟨hne, h1, h2, rfl, rfl, h⟩]
  · rw [if_neg h, if_neg (fun q => h q.2.2.2.2.2)]
theorem rl_throw {ix E ic : Nat} (hc : am_cd z pc = some (.new ix)) (hm : am_nw (am_own z) ix = some (.inr (E, ic))) (h1 : am_cd z (pc + 3) = some .dup) (h2 : am_cd z (pc + 4) = some (.invokespecial ic)) (h3 : am_cd z (pc + 7) = some .athrow) (h4 : am_tr z = true) (hr : am_sb st = true) : am_rn call z pc ls st M (am_Z w) = some (.inr E, M, am_Z (am_bw w)) := by
  rw [rn_throw hc hm h1 h2 h3 h4, if_pos rfl, am_sm_of hr]; rfl
theorem rl_ret (hc : am_cd z pc = some .return_) (hr : am_rt z = 0) : am_rn call z pc ls [] M X = some (.inl none, M, X) := by
  rw [am_rn_eq hc]; simp only [am_ex, hr]
theorem rl_iret (hc : am_cd z pc = some .ireturn) (hr : am_rt z = 1) : am_rn call z pc ls [am_I x] M X = some (.inl (some (am_I x)), M, X) := by
  rw [am_rn_eq hc]; simp only [am_ex, hr]
theorem rl_zret (hc : am_cd z pc = some .ireturn) (hr : am_rt z = 2) : am_rn call z pc ls [am_I x] M X = if am_pc 1 x = true then some (.inl (some (am_I x)), M, X) else none := by
  rw [am_rn_eq hc]; simp only [am_ex, hr]
theorem rl_zretk (hc : am_cd z pc = some .ireturn) (hr : am_rt z = 2) (hx : am_pc 1 x = true) : am_rn call z pc ls [am_I x] M X = some (.inl (some (am_I x)), M, X) := by
  rw [rl_zret hc hr, if_pos hx]
theorem rl_cret (hc : am_cd z pc = some .ireturn) (hr : am_rt z = 3) : am_rn call z pc ls [am_I x] M X = if am_pc 2 x = true then some (.inl (some (am_I x)), M, X) else none := by
  rw [am_rn_eq hc]; simp only [am_ex, hr]
theorem rl_aret (hc : am_cd z pc = some .areturn) (hr : am_rt z = 6) : am_rn call z pc ls [am_P l] M X = some (.inl (some (am_P l)), M, X) := by
  rw [am_rn_eq hc]; simp only [am_ex, hr]
theorem rl_fret {v : UInt32} (hc : am_cd z pc = some .freturn) (hr : am_rt z = 4) : am_rn call z pc ls [.inl (.float v)] M X = some (.inl (some (.inl (.float v))), M, X) := by
  rw [am_rn_eq hc]; simp only [am_ex, hr]
theorem rl_dret {v : UInt64} (hc : am_cd z pc = some .dreturn) (hr : am_rt z = 5) : am_rn call z pc ls [.inl (.double v)] M X = some (.inl (some (.inl (.double v))), M, X) := by
  rw [am_rn_eq hc]; simp only [am_ex, hr]
theorem rl_ts {d lo hi : Int} {os : Array Int} (td : Nat) (ts : List Nat) (hc : am_cd z pc = some (.tableswitch d lo hi os)) (hok : am_tsok pc d lo hi os td ts = true) : am_rn call z pc ls (am_I x :: st) M X = am_sw x (fun t => am_rn call z t ls st M X) (am_rn call z td ls st M X) lo ts := by
  rw [rn_ts hc hok]; simp only [am_popI]
theorem rl_ls {d : Int} {ps : Array (Int × Int)} (td : Nat) (ts : List (Int × Nat)) (hc : am_cd z pc = some (.lookupswitch d ps)) (h0 : (ps.toList.zip (ps.toList.drop 1)).all (fun (a, next) => a.1 < next.1) = true) (h1 : (pc : Int) + d = (td : Int)) (h2 : ps.toList.map (fun q => (q.1, (pc : Int) + q.2)) = ts.map (fun q => (q.1, (q.2 : Int)))) : am_rn call z pc ls (am_I x :: st) M X = am_lk x (fun t => am_rn call z t ls st M X) (am_rn call z td ls st M X) ts := by
  rw [rn_ls hc h0 h1 h2]; simp only [am_popI]
theorem am_toInt_eq {x k : Int32} {a : Int} (hk : k.toInt = a) : x.toInt = a ↔ x = k := ⟨fun h => Int32.toInt_inj.mp (h.trans hk.symm), fun h => by rw [h]; exact hk⟩
theorem rl_sw {α : Type} {f : Nat → Option α} {d : Option α} {a : Int} {t : Nat} {ts : List Nat} (k : Int32) (hk : k.toInt = a) : am_sw x f d a (t :: ts) = if x = k then f t else am_sw x f d (a + 1) ts := by
  rw [am_sw]
  by_cases h : x = k
  · rw [if_pos h, if_pos ((am_toInt_eq hk).mpr h)]
  · rw [if_neg h, if_neg (fun q => h ((am_toInt_eq hk).mp q))]
theorem rl_lk {α : Type} {f : Nat → Option α} {d : Option α} {a : Int} {t : Nat} {ts : List (Int × Nat)} (k : Int32) (hk : k.toInt = a) : am_lk x f d ((a, t) :: ts) = if x = k then f t else am_lk x f d ts := by
  rw [am_lk]
  by_cases h : x = k
  · rw [if_pos h, if_pos ((am_toInt_eq hk).mpr h)]
  · rw [if_neg h, if_neg (fun q => h ((am_toInt_eq hk).mp q))]
theorem rl_iald' {n b : Nat} (j : Nat) (hc : am_cd z pc = some .iaload) (h : am_ka l 1 n b) (hi : decide (am_in x n) = true) (hj : x.toNatClampNeg = j) : am_rn call z pc ls (am_I x :: am_P l :: st) M (am_Z w) = am_rn call z (pc + 1) ls (am_I (M l j) :: st) M (am_Z w) := by
  rw [rl_iald hc h, if_pos (of_decide_eq_true hi), hj]
theorem rl_iast' {n : Nat} (j : Nat) (hc : am_cd z pc = some .iastore) (h : am_ka l 1 n 0) (hi : decide (am_in x n) = true) (hj : x.toNatClampNeg = j) : am_rn call z pc ls (am_I y :: am_I x :: am_P l :: st) M (am_Z w) = am_rn call z (pc + 1) ls st (am_set M l j y) (am_Z w) := by
  rw [rl_iast hc h, if_pos (of_decide_eq_true hi), hj]
theorem rl_putZk {ix ci j : Nat} (hc : am_cd z pc = some (.putfield ix)) (hf : am_fl (am_own z) ix = some (ci, j)) (ho : am_fo z ci j = true) (hk : am_fk ci j = 1) (h : am_ck l ci) (hx : am_pc 1 x = true) : am_rn call z pc ls (am_I x :: am_P l :: st) M (am_Z w) = am_rn call z (pc + 3) ls st (am_set M l j x) (am_Z w) := by
  rw [rl_putZ hc hf ho hk h, if_pos hx]
theorem rl_copy' {ix y0 n0 n1 : Nat} {a a0 : am_L} {n dp sp : Int32} (s' d' n' : Nat) (hc : am_cd z pc = some (.invokestatic ix)) (hm : am_ml (am_own z) ix = some (7, y0)) (hr : am_sb st = true) (ha : am_ka a 1 n1 0) (ha0 : am_ka a0 1 n0 0) (hne : a ≠ a0) (hk : decide (am_cpk sp dp n n0 n1) = true) (h1 : sp.toNatClampNeg = s') (h2 : dp.toNatClampNeg = d') (h3 : n.toNatClampNeg = n') : am_rn call z pc ls (am_I n :: am_I dp :: am_P a :: am_I sp :: am_P a0 :: st) M (am_Z w) = am_rn call z (pc + 3) ls st (am_cp M a0 a s' d' n') (am_Z w) := by
  rw [rl_copy hc hm hr ha ha0 hne, if_pos (of_decide_eq_true hk), h1, h2, h3]
end AmRL2
end
section
section AmBl
variable {call : Nat → List am_V → am_M → am_X → Option am_R}
theorem b1_0 {l : am_L} {x1 x2 x3 x4 : Int32} {M : am_M} {w : am_W4} (hl : am_ck l 0) : am_rn call 1 0 [some (am_P l), some (am_I x1), some (am_I x2), some (am_I x3), some (am_I x4)] [] M (am_Z w) = some (.inl none, (am_set (am_set (am_set (am_set M l 0 x1) l 1 x2) l 2 x3) l 3 x4), (am_Z w)) := by
  refine Eq.trans (rl_aloadn (j := 0) (by decide +kernel) rfl) ?_
  refine Eq.trans (rl_iloadn (j := 1) (by decide +kernel) rfl) ?_
  refine Eq.trans (rl_put (ix := 7) (ci := 0) (j := 0) (by decide +kernel) (by decide +kernel) (by decide +kernel) (by decide +kernel) hl) ?_
  refine Eq.trans (rl_aloadn (j := 0) (by decide +kernel) rfl) ?_
  refine Eq.trans (rl_iloadn (j := 2) (by decide +kernel) rfl) ?_
  refine Eq.trans (rl_put (ix := 13) (ci := 0) (j := 1) (by decide +kernel) (by decide +kernel) (by decide +kernel) (by decide +kernel) hl) ?_
  refine Eq.trans (rl_aloadn (j := 0) (by decide +kernel) rfl) ?_
  refine Eq.trans (rl_iloadn (j := 3) (by decide +kernel) rfl) ?_
  refine Eq.trans (rl_put (ix := 16) (ci := 0) (j := 2) (by decide +kernel) (by decide +kernel) (by decide +kernel) (by decide +kernel) hl) ?_
  refine Eq.trans (rl_aloadn (j := 0) (by decide +kernel) rfl) ?_
  refine Eq.trans (rl_iload (j := 4) (by decide +kernel) rfl) ?_
  refine Eq.trans (rl_put (ix := 19) (ci := 0) (j := 3) (by decide +kernel) (by decide +kernel) (by decide +kernel) (by decide +kernel) hl) ?_
  exact rl_ret (by decide +kernel) rfl
theorem b3_0 {x1 : Int32} {M : am_M} {w : am_W4}  : am_rn call 3 0 [some (am_P (8, 0, 0)), some (am_I x1)] [] M (am_Z w) = if (M (8, 0, 0) 1) < (60 : Int32) then if am_in (M (8, 0, 0) 1) 60 then am_rn call 3 19 [some (am_P (8, 0, 0)), some (am_I x1)] [] (am_set M (9, 0, 0) (M (8, 0, 0) 1).toNatClampNeg (vp_nar .char x1)) (am_Z w) else none else some (.inl none, M, (am_Z w)) := by
  refine Eq.trans (rl_aloadn (j := 0) (by decide +kernel) rfl) ?_
  refine Eq.trans (rl_get (ix := 22) (ci := 1) (j := 1) (by decide +kernel) (by decide +kernel) (by decide +kernel) ck8) ?_
  refine Eq.trans (rl_bipush (c := 60) (k := (60 : Int32)) (by decide +kernel) (by decide)) ?_
  refine Eq.trans (rl_icge (o := 23) 29 (by decide +kernel) (by decide)) ?_
  refine am_ite (fun h_1 => ?_) (fun h_1 => ?_)
  · skip
    refine Eq.trans (rl_aloadn (j := 0) (by decide +kernel) rfl) ?_
    refine Eq.trans (rl_getP (ix := 9) (ci := 1) (j := 0) (by decide +kernel) (by decide +kernel) (by decide +kernel) ck8 rfl) ?_
    refine Eq.trans (rl_aloadn (j := 0) (by decide +kernel) rfl) ?_
    refine Eq.trans (rl_get (ix := 22) (ci := 1) (j := 1) (by decide +kernel) (by decide +kernel) (by decide +kernel) ck8) ?_
    refine Eq.trans (rl_iloadn (j := 1) (by decide +kernel) rfl) ?_
    refine Eq.trans (rl_cast (by decide +kernel) ka9) ?_
    refine am_ite (fun h_2 => ?_) (fun _ => rfl)
    rfl
  · skip
    exact rl_ret (by decide +kernel) rfl
theorem b3_19 {x1 : Int32} {M : am_M} {w : am_W4}  : am_rn call 3 19 [some (am_P (8, 0, 0)), some (am_I x1)] [] M (am_Z w) = some (.inl none, (am_set M (8, 0, 0) 1 ((M (8, 0, 0) 1) + (1 : Int32))), (am_Z w)) := by
  refine Eq.trans (rl_aloadn (j := 0) (by decide +kernel) rfl) ?_
  refine Eq.trans (rl_dup (by decide +kernel) rfl) ?_
  refine Eq.trans (rl_get (ix := 22) (ci := 1) (j := 1) (by decide +kernel) (by decide +kernel) (by decide +kernel) ck8) ?_
  refine Eq.trans (rl_iconst (c := 1) (k := (1 : Int32)) (by decide +kernel) (by decide)) ?_
  refine Eq.trans (rl_iadd (by decide +kernel)) ?_
  refine Eq.trans (rl_put (ix := 22) (ci := 1) (j := 1) (by decide +kernel) (by decide +kernel) (by decide +kernel) (by decide +kernel) ck8) ?_
  exact rl_ret (by decide +kernel) rfl
theorem b4_0  {M : am_M} {w : am_W4}  : am_rn call 4 0 [some (am_P (8, 0, 0)), none, none] [] M (am_Z w) = am_cb (call 5 [am_P (8, 0, 0)] (am_set (am_set M (8, 0, 0) 4 (0 : Int32)) (8, 0, 0) 3 (0 : Int32)) (am_Z w)) fun v M' X' => am_rn call 4 14 [some (am_P (8, 0, 0)), none, none] (v.toList ++ []) M' X' := by
  refine Eq.trans (rl_aloadn (j := 0) (by decide +kernel) rfl) ?_
  refine Eq.trans (rl_iconst (c := 0) (k := (0 : Int32)) (by decide +kernel) (by decide)) ?_
  refine Eq.trans (rl_put (ix := 26) (ci := 1) (j := 4) (by decide +kernel) (by decide +kernel) (by decide +kernel) (by decide +kernel) ck8) ?_
  refine Eq.trans (rl_aloadn (j := 0) (by decide +kernel) rfl) ?_
  refine Eq.trans (rl_iconst (c := 0) (k := (0 : Int32)) (by decide +kernel) (by decide)) ?_
  refine Eq.trans (rl_put (ix := 29) (ci := 1) (j := 3) (by decide +kernel) (by decide +kernel) (by decide +kernel) (by decide +kernel) ck8) ?_
  refine Eq.trans (rl_aloadn (j := 0) (by decide +kernel) rfl) ?_
  refine Eq.trans (rl_inv (ix := 32) (n := 0) (o := 1) 5 [] [] (by decide +kernel) (by decide +kernel) (by decide +kernel) (by decide +kernel) ⟨rfl, rfl⟩ rfl rfl ck8) ?_
  rfl
theorem b4_14 {s0 : Int32} {M : am_M} {w : am_W4}  : am_rn call 4 14 [some (am_P (8, 0, 0)), none, none] [am_I s0] M (am_Z w) = am_rn call 4 17 [some (am_P (8, 0, 0)), some (am_I s0), some (am_I (0 : Int32))] [] M (am_Z w) := by
  refine Eq.trans (rl_istoren (j := 1) (ls' := [some (am_P (8, 0, 0)), some (am_I s0), none]) (by decide +kernel) rfl rfl) ?_
  refine Eq.trans (rl_iconst (c := 0) (k := (0 : Int32)) (by decide +kernel) (by decide)) ?_
  refine Eq.trans (rl_istoren (j := 2) (ls' := [some (am_P (8, 0, 0)), some (am_I s0), some (am_I (0 : Int32))]) (by decide +kernel) rfl rfl) ?_
  rfl
theorem b4_17 {x1 x2 : Int32} {M : am_M} {w : am_W4}  : am_rn call 4 17 [some (am_P (8, 0, 0)), some (am_I x1), some (am_I x2)] [] M (am_Z w) = if x1 = 0 then am_rn call 4 66 [some (am_P (8, 0, 0)), some (am_I x1), some (am_I x2)] [] M (am_Z w) else if (M (8, 0, 0) 4) < (M (8, 0, 0) 1) then if x2 < (60 : Int32) then am_cb (call 11 [am_P (8, 0, 0), am_I (59 : Int32)] M (am_Z w)) fun v M' X' => am_rn call 4 44 [some (am_P (8, 0, 0)), some (am_I x1), some (am_I x2)] (v.toList ++ []) M' X' else am_rn call 4 66 [some (am_P (8, 0, 0)), some (am_I x1), some (am_I x2)] [] M (am_Z w) else am_rn call 4 66 [some (am_P (8, 0, 0)), some (am_I x1), some (am_I x2)] [] M (am_Z w) := by
  refine Eq.trans (rl_iloadn (j := 1) (by decide +kernel) rfl) ?_
  refine Eq.trans (rl_ifeq (o := 48) 66 (by decide +kernel) (by decide)) ?_
  refine am_ite (fun h_1 => ?_) (fun h_1 => ?_)
  · skip
    rfl
  · skip
    refine Eq.trans (rl_aloadn (j := 0) (by decide +kernel) rfl) ?_
    refine Eq.trans (rl_get (ix := 26) (ci := 1) (j := 4) (by decide +kernel) (by decide +kernel) (by decide +kernel) ck8) ?_
    refine Eq.trans (rl_aloadn (j := 0) (by decide +kernel) rfl) ?_
    refine Eq.trans (rl_get (ix := 22) (ci := 1) (j := 1) (by decide +kernel) (by decide +kernel) (by decide +kernel) ck8) ?_
    refine Eq.trans (rl_icge (o := 37) 66 (by decide +kernel) (by decide)) ?_
    refine am_ite (fun h_2 => ?_) (fun h_2 => ?_)
    · skip
      refine Eq.trans (rl_iloadn (j := 2) (by decide +kernel) rfl) ?_
      refine Eq.trans (rl_bipush (c := 60) (k := (60 : Int32)) (by decide +kernel) (by decide)) ?_
      refine Eq.trans (rl_icge (o := 31) 66 (by decide +kernel) (by decide)) ?_
      refine am_ite (fun h_3 => ?_) (fun h_3 => ?_)
      · skip
        refine Eq.trans (rl_aloadn (j := 0) (by decide +kernel) rfl) ?_
        refine Eq.trans (rl_bipush (c := 59) (k := (59 : Int32)) (by decide +kernel) (by decide)) ?_
        refine Eq.trans (rl_inv (ix := 36) (n := 1) (o := 1) 11 [am_I (59 : Int32)] [] (by decide +kernel) (by decide +kernel) (by decide +kernel) (by decide +kernel) ⟨rfl, rfl⟩ rfl rfl ck8) ?_
        rfl
      · skip
        rfl
    · skip
      rfl
theorem b4_44 {x1 x2 s0 : Int32} {M : am_M} {w : am_W4}  : am_rn call 4 44 [some (am_P (8, 0, 0)), some (am_I x1), some (am_I x2)] [am_I s0] M (am_Z w) = if s0 = 0 then am_rn call 4 58 [some (am_P (8, 0, 0)), some (am_I x1), some (am_I x2)] [] M (am_Z w) else am_cb (call 5 [am_P (8, 0, 0)] M (am_Z w)) fun v M' X' => am_rn call 4 51 [some (am_P (8, 0, 0)), some (am_I x1), some (am_I x2)] (v.toList ++ []) M' X' := by
  refine Eq.trans (rl_ifeq (o := 14) 58 (by decide +kernel) (by decide)) ?_
  refine am_ite (fun h_1 => ?_) (fun h_1 => ?_)
  · skip
    rfl
  · skip
    refine Eq.trans (rl_aloadn (j := 0) (by decide +kernel) rfl) ?_
    refine Eq.trans (rl_inv (ix := 32) (n := 0) (o := 1) 5 [] [] (by decide +kernel) (by decide +kernel) (by decide +kernel) (by decide +kernel) ⟨rfl, rfl⟩ rfl rfl ck8) ?_
    rfl
theorem b4_51 {x1 x2 s0 : Int32} {M : am_M} {w : am_W4}  : am_rn call 4 51 [some (am_P (8, 0, 0)), some (am_I x1), some (am_I x2)] [am_I s0] M (am_Z w) = if s0 = 0 then am_rn call 4 58 [some (am_P (8, 0, 0)), some (am_I x1), some (am_I x2)] [] M (am_Z w) else am_rn call 4 59 [some (am_P (8, 0, 0)), some (am_I x1), some (am_I x2)] [am_I (1 : Int32)] M (am_Z w) := by
  refine Eq.trans (rl_ifeq (o := 7) 58 (by decide +kernel) (by decide)) ?_
  refine am_ite (fun h_1 => ?_) (fun h_1 => ?_)
  · skip
    rfl
  · skip
    refine Eq.trans (rl_iconst (c := 1) (k := (1 : Int32)) (by decide +kernel) (by decide)) ?_
    refine Eq.trans (rl_goto (o := 4) 59 (by decide +kernel) (by decide)) ?_
    rfl
theorem b4_58 {x1 x2 : Int32} {M : am_M} {w : am_W4}  : am_rn call 4 58 [some (am_P (8, 0, 0)), some (am_I x1), some (am_I x2)] [] M (am_Z w) = am_rn call 4 59 [some (am_P (8, 0, 0)), some (am_I x1), some (am_I x2)] [am_I (0 : Int32)] M (am_Z w) := by
  refine Eq.trans (rl_iconst (c := 0) (k := (0 : Int32)) (by decide +kernel) (by decide)) ?_
  rfl
theorem b4_59 {x1 x2 s0 : Int32} {M : am_M} {w : am_W4}  : am_rn call 4 59 [some (am_P (8, 0, 0)), some (am_I x1), some (am_I x2)] [am_I s0] M (am_Z w) = am_rn call 4 17 [some (am_P (8, 0, 0)), some (am_I s0), some (am_I (x2 + (1 : Int32)))] [] M (am_Z w) := by
  refine Eq.trans (rl_istoren (j := 1) (ls' := [some (am_P (8, 0, 0)), some (am_I s0), some (am_I x2)]) (by decide +kernel) rfl rfl) ?_
  refine Eq.trans (rl_iinc (j := 2) (c := 1) (k := (1 : Int32)) (ls' := [some (am_P (8, 0, 0)), some (am_I s0), some (am_I (x2 + (1 : Int32)))]) (by decide +kernel) (by decide) rfl rfl) ?_
  refine Eq.trans (rl_goto (o := (-46)) 17 (by decide +kernel) (by decide)) ?_
  rfl
theorem b4_66 {x1 x2 : Int32} {M : am_M} {w : am_W4}  : am_rn call 4 66 [some (am_P (8, 0, 0)), some (am_I x1), some (am_I x2)] [] M (am_Z w) = if x1 = 0 then some (.inl (some (am_I (M (8, 0, 0) 4))), M, (am_Z w)) else some (.inl (some (am_I (-1 : Int32))), M, (am_Z w)) := by
  refine Eq.trans (rl_iloadn (j := 1) (by decide +kernel) rfl) ?_
  refine Eq.trans (rl_ifeq (o := 7) 74 (by decide +kernel) (by decide)) ?_
  refine am_ite (fun h_1 => ?_) (fun h_1 => ?_)
  · skip
    refine Eq.trans (rl_aloadn (j := 0) (by decide +kernel) rfl) ?_
    refine Eq.trans (rl_get (ix := 26) (ci := 1) (j := 4) (by decide +kernel) (by decide +kernel) (by decide +kernel) ck8) ?_
    exact rl_iret (by decide +kernel) rfl
  · skip
    refine Eq.trans (rl_iconst (c := -1) (k := (-1 : Int32)) (by decide +kernel) (by decide)) ?_
    refine Eq.trans (rl_goto (o := 7) 78 (by decide +kernel) (by decide)) ?_
    exact rl_iret (by decide +kernel) rfl
theorem b5_0  {M : am_M} {w : am_W4}  : am_rn call 5 0 [some (am_P (8, 0, 0)), none] [] M (am_Z w) = if (M (8, 0, 0) 3) < (20 : Int32) then if am_in (M (8, 0, 0) 3) 20 then am_cb (call 10 [am_P (8, 0, 0)] (am_set M (8, 0, 0) 3 ((M (8, 0, 0) 3) + (1 : Int32))) (am_Z w)) fun v M' X' => am_rn call 5 35 [some (am_P (8, 0, 0)), some (am_P (11, 0, (M (8, 0, 0) 3).toNatClampNeg))] (v.toList ++ []) M' X' else none else some (.inl (some (am_I (0 : Int32))), M, (am_Z w)) := by
  refine Eq.trans (rl_aloadn (j := 0) (by decide +kernel) rfl) ?_
  refine Eq.trans (rl_get (ix := 29) (ci := 1) (j := 3) (by decide +kernel) (by decide +kernel) (by decide +kernel) ck8) ?_
  refine Eq.trans (rl_bipush (c := 20) (k := (20 : Int32)) (by decide +kernel) (by decide)) ?_
  refine Eq.trans (rl_iclt (o := 5) 11 (by decide +kernel) (by decide)) ?_
  refine am_ite (fun h_1 => ?_) (fun h_1 => ?_)
  · skip
    refine Eq.trans (rl_aloadn (j := 0) (by decide +kernel) rfl) ?_
    refine Eq.trans (rl_getP (ix := 17) (ci := 1) (j := 2) (by decide +kernel) (by decide +kernel) (by decide +kernel) ck8 rfl) ?_
    refine Eq.trans (rl_aloadn (j := 0) (by decide +kernel) rfl) ?_
    refine Eq.trans (rl_get (ix := 29) (ci := 1) (j := 3) (by decide +kernel) (by decide +kernel) (by decide +kernel) ck8) ?_
    refine Eq.trans (rl_aald (v := (11, 0, (M (8, 0, 0) 3).toNatClampNeg)) (by decide +kernel) ka10 (fun h => if_pos (am_in_lt' h))) ?_
    refine am_ite (fun h_2 => ?_) (fun _ => rfl)
    refine Eq.trans (rl_astoren (j := 1) (ls' := [some (am_P (8, 0, 0)), some (am_P (11, 0, (M (8, 0, 0) 3).toNatClampNeg))]) (by decide +kernel) rfl rfl) ?_
    refine Eq.trans (rl_aloadn (j := 0) (by decide +kernel) rfl) ?_
    refine Eq.trans (rl_dup (by decide +kernel) rfl) ?_
    refine Eq.trans (rl_get (ix := 29) (ci := 1) (j := 3) (by decide +kernel) (by decide +kernel) (by decide +kernel) ck8) ?_
    refine Eq.trans (rl_iconst (c := 1) (k := (1 : Int32)) (by decide +kernel) (by decide)) ?_
    refine Eq.trans (rl_iadd (by decide +kernel)) ?_
    refine Eq.trans (rl_put (ix := 29) (ci := 1) (j := 3) (by decide +kernel) (by decide +kernel) (by decide +kernel) (by decide +kernel) ck8) ?_
    refine Eq.trans (rl_aloadn (j := 0) (by decide +kernel) rfl) ?_
    refine Eq.trans (rl_inv (ix := 40) (n := 0) (o := 1) 10 [] [] (by decide +kernel) (by decide +kernel) (by decide +kernel) (by decide +kernel) ⟨rfl, rfl⟩ rfl rfl ck8) ?_
    rfl
  · skip
    refine Eq.trans (rl_iconst (c := 0) (k := (0 : Int32)) (by decide +kernel) (by decide)) ?_
    exact rl_zretk (by decide +kernel) rfl rfl
theorem b5_35 {x1 : Nat} {s0 : Int32} {M : am_M} {w : am_W4} (h1 : x1 < 20) : am_rn call 5 35 [some (am_P (8, 0, 0)), some (am_P (11, 0, x1))] [am_I s0] M (am_Z w) = if s0 = (100 : Int32) then am_cb (call 7 [am_P (8, 0, 0), am_P (11, 0, x1), am_I (6 : Int32)] M (am_Z w)) fun v M' X' => am_rn call 5 169 [some (am_P (8, 0, 0)), some (am_P (11, 0, x1))] (v.toList ++ []) M' X' else if s0 = (101 : Int32) then am_cb (call 9 [am_P (8, 0, 0), am_P (11, 0, x1), am_I (4 : Int32)] M (am_Z w)) fun v M' X' => am_rn call 5 161 [some (am_P (8, 0, 0)), some (am_P (11, 0, x1))] (v.toList ++ []) M' X' else if s0 = (102 : Int32) then some (.inl (some (am_I (0 : Int32))), M, (am_Z w)) else if s0 = (103 : Int32) then some (.inl (some (am_I (0 : Int32))), M, (am_Z w)) else if s0 = (104 : Int32) then am_cb (call 7 [am_P (8, 0, 0), am_P (11, 0, x1), am_I (7 : Int32)] M (am_Z w)) fun v M' X' => am_rn call 5 141 [some (am_P (8, 0, 0)), some (am_P (11, 0, x1))] (v.toList ++ []) M' X' else if s0 = (105 : Int32) then some (.inl (some (am_I (0 : Int32))), M, (am_Z w)) else if s0 = (106 : Int32) then some (.inl (some (am_I (0 : Int32))), M, (am_Z w)) else if s0 = (107 : Int32) then some (.inl (some (am_I (0 : Int32))), M, (am_Z w)) else if s0 = (108 : Int32) then some (.inl (some (am_I (0 : Int32))), M, (am_Z w)) else if s0 = (109 : Int32) then some (.inl (some (am_I (0 : Int32))), M, (am_Z w)) else if s0 = (110 : Int32) then some (.inl (some (am_I (0 : Int32))), M, (am_Z w)) else if s0 = (111 : Int32) then some (.inl (some (am_I (0 : Int32))), M, (am_Z w)) else if s0 = (112 : Int32) then some (.inl (some (am_I (0 : Int32))), M, (am_Z w)) else if s0 = (113 : Int32) then am_cb (call 8 [am_P (8, 0, 0), am_P (11, 0, x1)] M (am_Z w)) fun v M' X' => am_rn call 5 147 [some (am_P (8, 0, 0)), some (am_P (11, 0, x1))] (v.toList ++ []) M' X' else if s0 = (114 : Int32) then some (.inl (some (am_I (0 : Int32))), M, (am_Z w)) else if s0 = (115 : Int32) then am_cb (call 6 [am_P (8, 0, 0), am_P (11, 0, x1)] M (am_Z w)) fun v M' X' => am_rn call 5 133 [some (am_P (8, 0, 0)), some (am_P (11, 0, x1))] (v.toList ++ []) M' X' else if s0 = (116 : Int32) then some (.inl (some (am_I (0 : Int32))), M, (am_Z w)) else if s0 = (117 : Int32) then some (.inl (some (am_I (0 : Int32))), M, (am_Z w)) else if s0 = (118 : Int32) then some (.inl (some (am_I (0 : Int32))), M, (am_Z w)) else if s0 = (119 : Int32) then am_cb (call 9 [am_P (8, 0, 0), am_P (11, 0, x1), am_I (3 : Int32)] M (am_Z w)) fun v M' X' => am_rn call 5 154 [some (am_P (8, 0, 0)), some (am_P (11, 0, x1))] (v.toList ++ []) M' X' else some (.inl (some (am_I (0 : Int32))), M, (am_Z w)) := by
  refine Eq.trans (rl_ts (d := 135) (lo := 100) (hi := 119) (os := #[127, 120, 135, 135, 99, 135, 135, 135, 135, 135, 135, 135, 135, 107, 135, 93, 135, 135, 135, 113]) 170 [162, 155, 170, 170, 134, 170, 170, 170, 170, 170, 170, 170, 170, 142, 170, 128, 170, 170, 170, 148] (by decide +kernel) (by decide +kernel)) ?_
  refine Eq.trans (rl_sw (100 : Int32) (by decide)) ?_
  refine am_ite (fun _ => ?_) (fun _ => ?_)
  · skip
    refine Eq.trans (rl_aloadn (j := 0) (by decide +kernel) rfl) ?_
    refine Eq.trans (rl_aloadn (j := 1) (by decide +kernel) rfl) ?_
    refine Eq.trans (rl_bipush (c := 6) (k := (6 : Int32)) (by decide +kernel) (by decide)) ?_
    refine Eq.trans (rl_inv (ix := 48) (n := 2) (o := 1) 7 [am_P (11, 0, x1), am_I (6 : Int32)] [] (by decide +kernel) (by decide +kernel) (by decide +kernel) (by decide +kernel) ⟨rfl, rfl⟩ rfl rfl ck8) ?_
    rfl
  refine Eq.trans (rl_sw (101 : Int32) (by decide)) ?_
  refine am_ite (fun _ => ?_) (fun _ => ?_)
  · skip
    refine Eq.trans (rl_aloadn (j := 0) (by decide +kernel) rfl) ?_
    refine Eq.trans (rl_aloadn (j := 1) (by decide +kernel) rfl) ?_
    refine Eq.trans (rl_iconst (c := 4) (k := (4 : Int32)) (by decide +kernel) (by decide)) ?_
    refine Eq.trans (rl_inv (ix := 55) (n := 2) (o := 1) 9 [am_P (11, 0, x1), am_I (4 : Int32)] [] (by decide +kernel) (by decide +kernel) (by decide +kernel) (by decide +kernel) ⟨rfl, rfl⟩ rfl rfl ck8) ?_
    rfl
  refine Eq.trans (rl_sw (102 : Int32) (by decide)) ?_
  refine am_ite (fun _ => ?_) (fun _ => ?_)
  · skip
    refine Eq.trans (rl_iconst (c := 0) (k := (0 : Int32)) (by decide +kernel) (by decide)) ?_
    exact rl_zretk (by decide +kernel) rfl rfl
  refine Eq.trans (rl_sw (103 : Int32) (by decide)) ?_
  refine am_ite (fun _ => ?_) (fun _ => ?_)
  · skip
    refine Eq.trans (rl_iconst (c := 0) (k := (0 : Int32)) (by decide +kernel) (by decide)) ?_
    exact rl_zretk (by decide +kernel) rfl rfl
  refine Eq.trans (rl_sw (104 : Int32) (by decide)) ?_
  refine am_ite (fun _ => ?_) (fun _ => ?_)
  · skip
    refine Eq.trans (rl_aloadn (j := 0) (by decide +kernel) rfl) ?_
    refine Eq.trans (rl_aloadn (j := 1) (by decide +kernel) rfl) ?_
    refine Eq.trans (rl_bipush (c := 7) (k := (7 : Int32)) (by decide +kernel) (by decide)) ?_
    refine Eq.trans (rl_inv (ix := 48) (n := 2) (o := 1) 7 [am_P (11, 0, x1), am_I (7 : Int32)] [] (by decide +kernel) (by decide +kernel) (by decide +kernel) (by decide +kernel) ⟨rfl, rfl⟩ rfl rfl ck8) ?_
    rfl
  refine Eq.trans (rl_sw (105 : Int32) (by decide)) ?_
  refine am_ite (fun _ => ?_) (fun _ => ?_)
  · skip
    refine Eq.trans (rl_iconst (c := 0) (k := (0 : Int32)) (by decide +kernel) (by decide)) ?_
    exact rl_zretk (by decide +kernel) rfl rfl
  refine Eq.trans (rl_sw (106 : Int32) (by decide)) ?_
  refine am_ite (fun _ => ?_) (fun _ => ?_)
  · skip
    refine Eq.trans (rl_iconst (c := 0) (k := (0 : Int32)) (by decide +kernel) (by decide)) ?_
    exact rl_zretk (by decide +kernel) rfl rfl
  refine Eq.trans (rl_sw (107 : Int32) (by decide)) ?_
  refine am_ite (fun _ => ?_) (fun _ => ?_)
  · skip
    refine Eq.trans (rl_iconst (c := 0) (k := (0 : Int32)) (by decide +kernel) (by decide)) ?_
    exact rl_zretk (by decide +kernel) rfl rfl
  refine Eq.trans (rl_sw (108 : Int32) (by decide)) ?_
  refine am_ite (fun _ => ?_) (fun _ => ?_)
  · skip
    refine Eq.trans (rl_iconst (c := 0) (k := (0 : Int32)) (by decide +kernel) (by decide)) ?_
    exact rl_zretk (by decide +kernel) rfl rfl
  refine Eq.trans (rl_sw (109 : Int32) (by decide)) ?_
  refine am_ite (fun _ => ?_) (fun _ => ?_)
  · skip
    refine Eq.trans (rl_iconst (c := 0) (k := (0 : Int32)) (by decide +kernel) (by decide)) ?_
    exact rl_zretk (by decide +kernel) rfl rfl
  refine Eq.trans (rl_sw (110 : Int32) (by decide)) ?_
  refine am_ite (fun _ => ?_) (fun _ => ?_)
  · skip
    refine Eq.trans (rl_iconst (c := 0) (k := (0 : Int32)) (by decide +kernel) (by decide)) ?_
    exact rl_zretk (by decide +kernel) rfl rfl
  refine Eq.trans (rl_sw (111 : Int32) (by decide)) ?_
  refine am_ite (fun _ => ?_) (fun _ => ?_)
  · skip
    refine Eq.trans (rl_iconst (c := 0) (k := (0 : Int32)) (by decide +kernel) (by decide)) ?_
    exact rl_zretk (by decide +kernel) rfl rfl
  refine Eq.trans (rl_sw (112 : Int32) (by decide)) ?_
  refine am_ite (fun _ => ?_) (fun _ => ?_)
  · skip
    refine Eq.trans (rl_iconst (c := 0) (k := (0 : Int32)) (by decide +kernel) (by decide)) ?_
    exact rl_zretk (by decide +kernel) rfl rfl
  refine Eq.trans (rl_sw (113 : Int32) (by decide)) ?_
  refine am_ite (fun _ => ?_) (fun _ => ?_)
  · skip
    refine Eq.trans (rl_aloadn (j := 0) (by decide +kernel) rfl) ?_
    refine Eq.trans (rl_aloadn (j := 1) (by decide +kernel) rfl) ?_
    refine Eq.trans (rl_inv (ix := 52) (n := 1) (o := 1) 8 [am_P (11, 0, x1)] [] (by decide +kernel) (by decide +kernel) (by decide +kernel) (by decide +kernel) ⟨rfl, rfl⟩ rfl rfl ck8) ?_
    rfl
  refine Eq.trans (rl_sw (114 : Int32) (by decide)) ?_
  refine am_ite (fun _ => ?_) (fun _ => ?_)
  · skip
    refine Eq.trans (rl_iconst (c := 0) (k := (0 : Int32)) (by decide +kernel) (by decide)) ?_
    exact rl_zretk (by decide +kernel) rfl rfl
  refine Eq.trans (rl_sw (115 : Int32) (by decide)) ?_
  refine am_ite (fun _ => ?_) (fun _ => ?_)
  · skip
    refine Eq.trans (rl_aloadn (j := 0) (by decide +kernel) rfl) ?_
    refine Eq.trans (rl_aloadn (j := 1) (by decide +kernel) rfl) ?_
    refine Eq.trans (rl_inv (ix := 44) (n := 1) (o := 1) 6 [am_P (11, 0, x1)] [] (by decide +kernel) (by decide +kernel) (by decide +kernel) (by decide +kernel) ⟨rfl, rfl⟩ rfl rfl ck8) ?_
    rfl
  refine Eq.trans (rl_sw (116 : Int32) (by decide)) ?_
  refine am_ite (fun _ => ?_) (fun _ => ?_)
  · skip
    refine Eq.trans (rl_iconst (c := 0) (k := (0 : Int32)) (by decide +kernel) (by decide)) ?_
    exact rl_zretk (by decide +kernel) rfl rfl
  refine Eq.trans (rl_sw (117 : Int32) (by decide)) ?_
  refine am_ite (fun _ => ?_) (fun _ => ?_)
  · skip
    refine Eq.trans (rl_iconst (c := 0) (k := (0 : Int32)) (by decide +kernel) (by decide)) ?_
    exact rl_zretk (by decide +kernel) rfl rfl
  refine Eq.trans (rl_sw (118 : Int32) (by decide)) ?_
  refine am_ite (fun _ => ?_) (fun _ => ?_)
  · skip
    refine Eq.trans (rl_iconst (c := 0) (k := (0 : Int32)) (by decide +kernel) (by decide)) ?_
    exact rl_zretk (by decide +kernel) rfl rfl
  refine Eq.trans (rl_sw (119 : Int32) (by decide)) ?_
  refine am_ite (fun _ => ?_) (fun _ => ?_)
  · skip
    refine Eq.trans (rl_aloadn (j := 0) (by decide +kernel) rfl) ?_
    refine Eq.trans (rl_aloadn (j := 1) (by decide +kernel) rfl) ?_
    refine Eq.trans (rl_iconst (c := 3) (k := (3 : Int32)) (by decide +kernel) (by decide)) ?_
    refine Eq.trans (rl_inv (ix := 55) (n := 2) (o := 1) 9 [am_P (11, 0, x1), am_I (3 : Int32)] [] (by decide +kernel) (by decide +kernel) (by decide +kernel) (by decide +kernel) ⟨rfl, rfl⟩ rfl rfl ck8) ?_
    rfl
  show am_rn call 5 170 _ _ _ _ = _
  refine Eq.trans (rl_iconst (c := 0) (k := (0 : Int32)) (by decide +kernel) (by decide)) ?_
  exact rl_zretk (by decide +kernel) rfl rfl
theorem b5_133 {x1 : Nat} {s0 : Int32} {M : am_M} {w : am_W4} (h1 : x1 < 20) : am_rn call 5 133 [some (am_P (8, 0, 0)), some (am_P (11, 0, x1))] [am_I s0] M (am_Z w) = if am_pc 1 s0 = true then some (.inl (some (am_I s0)), M, (am_Z w)) else none := by
  exact rl_zret (by decide +kernel) rfl
theorem b5_141 {x1 : Nat} {s0 : Int32} {M : am_M} {w : am_W4} (h1 : x1 < 20) : am_rn call 5 141 [some (am_P (8, 0, 0)), some (am_P (11, 0, x1))] [am_I s0] M (am_Z w) = if am_pc 1 s0 = true then some (.inl (some (am_I s0)), M, (am_Z w)) else none := by
  exact rl_zret (by decide +kernel) rfl
theorem b5_147 {x1 : Nat} {s0 : Int32} {M : am_M} {w : am_W4} (h1 : x1 < 20) : am_rn call 5 147 [some (am_P (8, 0, 0)), some (am_P (11, 0, x1))] [am_I s0] M (am_Z w) = if am_pc 1 s0 = true then some (.inl (some (am_I s0)), M, (am_Z w)) else none := by
  exact rl_zret (by decide +kernel) rfl
theorem b5_154 {x1 : Nat} {s0 : Int32} {M : am_M} {w : am_W4} (h1 : x1 < 20) : am_rn call 5 154 [some (am_P (8, 0, 0)), some (am_P (11, 0, x1))] [am_I s0] M (am_Z w) = if am_pc 1 s0 = true then some (.inl (some (am_I s0)), M, (am_Z w)) else none := by
  exact rl_zret (by decide +kernel) rfl
theorem b5_161 {x1 : Nat} {s0 : Int32} {M : am_M} {w : am_W4} (h1 : x1 < 20) : am_rn call 5 161 [some (am_P (8, 0, 0)), some (am_P (11, 0, x1))] [am_I s0] M (am_Z w) = if am_pc 1 s0 = true then some (.inl (some (am_I s0)), M, (am_Z w)) else none := by
  exact rl_zret (by decide +kernel) rfl
theorem b5_169 {x1 : Nat} {s0 : Int32} {M : am_M} {w : am_W4} (h1 : x1 < 20) : am_rn call 5 169 [some (am_P (8, 0, 0)), some (am_P (11, 0, x1))] [am_I s0] M (am_Z w) = if am_pc 1 s0 = true then some (.inl (some (am_I s0)), M, (am_Z w)) else none := by
  exact rl_zret (by decide +kernel) rfl
theorem b6_0 {l : am_L} {M : am_M} {w : am_W4} (hl : am_ck l 0) : am_rn call 6 0 [some (am_P (8, 0, 0)), some (am_P l), none, none, none] [] M (am_Z w) = am_cb (call 12 [am_P (8, 0, 0), am_I (0 : Int32), am_I (9 : Int32)] (am_set M (8, 0, 0) 4 ((M (8, 0, 0) 4) + (1 : Int32))) (am_Z w)) fun v M' X' => am_rn call 6 17 [some (am_P (8, 0, 0)), some (am_P l), none, none, none] (v.toList ++ []) M' X' := by
  refine Eq.trans (rl_aloadn (j := 0) (by decide +kernel) rfl) ?_
  refine Eq.trans (rl_dup (by decide +kernel) rfl) ?_
  refine Eq.trans (rl_get (ix := 26) (ci := 1) (j := 4) (by decide +kernel) (by decide +kernel) (by decide +kernel) ck8) ?_
  refine Eq.trans (rl_iconst (c := 1) (k := (1 : Int32)) (by decide +kernel) (by decide)) ?_
  refine Eq.trans (rl_iadd (by decide +kernel)) ?_
  refine Eq.trans (rl_put (ix := 26) (ci := 1) (j := 4) (by decide +kernel) (by decide +kernel) (by decide +kernel) (by decide +kernel) ck8) ?_
  refine Eq.trans (rl_aloadn (j := 0) (by decide +kernel) rfl) ?_
  refine Eq.trans (rl_iconst (c := 0) (k := (0 : Int32)) (by decide +kernel) (by decide)) ?_
  refine Eq.trans (rl_bipush (c := 9) (k := (9 : Int32)) (by decide +kernel) (by decide)) ?_
  refine Eq.trans (rl_inv (ix := 58) (n := 2) (o := 1) 12 [am_I (0 : Int32), am_I (9 : Int32)] [] (by decide +kernel) (by decide +kernel) (by decide +kernel) (by decide +kernel) ⟨rfl, rfl⟩ rfl rfl ck8) ?_
  rfl
theorem b6_17 {l : am_L} {s0 : Int32} {M : am_M} {w : am_W4} (hl : am_ck l 0) : am_rn call 6 17 [some (am_P (8, 0, 0)), some (am_P l), none, none, none] [am_I s0] M (am_Z w) = if s0 = (-1 : Int32) then some (.inl (some (am_I (0 : Int32))), M, (am_Z w)) else am_cb (call 11 [am_P (8, 0, 0), am_I (62 : Int32)] M (am_Z w)) fun v M' X' => am_rn call 6 29 [some (am_P (8, 0, 0)), some (am_P l), some (am_I s0), none, none] (v.toList ++ []) M' X' := by
  refine Eq.trans (rl_istoren (j := 2) (ls' := [some (am_P (8, 0, 0)), some (am_P l), some (am_I s0), none, none]) (by decide +kernel) rfl rfl) ?_
  refine Eq.trans (rl_iloadn (j := 2) (by decide +kernel) rfl) ?_
  refine Eq.trans (rl_iconst (c := -1) (k := (-1 : Int32)) (by decide +kernel) (by decide)) ?_
  refine Eq.trans (rl_iceq (o := 12) 32 (by decide +kernel) (by decide)) ?_
  refine am_ite (fun h_1 => ?_) (fun h_1 => ?_)
  · skip
    refine Eq.trans (rl_iconst (c := 0) (k := (0 : Int32)) (by decide +kernel) (by decide)) ?_
    exact rl_zretk (by decide +kernel) rfl rfl
  · skip
    refine Eq.trans (rl_aloadn (j := 0) (by decide +kernel) rfl) ?_
    refine Eq.trans (rl_bipush (c := 62) (k := (62 : Int32)) (by decide +kernel) (by decide)) ?_
    refine Eq.trans (rl_inv (ix := 36) (n := 1) (o := 1) 11 [am_I (62 : Int32)] [] (by decide +kernel) (by decide +kernel) (by decide +kernel) (by decide +kernel) ⟨rfl, rfl⟩ rfl rfl ck8) ?_
    rfl
theorem b6_29 {l : am_L} {x2 s0 : Int32} {M : am_M} {w : am_W4} (hl : am_ck l 0) : am_rn call 6 29 [some (am_P (8, 0, 0)), some (am_P l), some (am_I x2), none, none] [am_I s0] M (am_Z w) = if s0 = 0 then some (.inl (some (am_I (0 : Int32))), M, (am_Z w)) else am_cb (call 12 [am_P (8, 0, 0), am_I (0 : Int32), am_I (9 : Int32)] M (am_Z w)) fun v M' X' => am_rn call 6 41 [some (am_P (8, 0, 0)), some (am_P l), some (am_I x2), none, none] (v.toList ++ []) M' X' := by
  refine Eq.trans (rl_ifne (o := 5) 34 (by decide +kernel) (by decide)) ?_
  refine am_ite (fun h_1 => ?_) (fun h_1 => ?_)
  · skip
    refine Eq.trans (rl_iconst (c := 0) (k := (0 : Int32)) (by decide +kernel) (by decide)) ?_
    exact rl_zretk (by decide +kernel) rfl rfl
  · skip
    refine Eq.trans (rl_aloadn (j := 0) (by decide +kernel) rfl) ?_
    refine Eq.trans (rl_iconst (c := 0) (k := (0 : Int32)) (by decide +kernel) (by decide)) ?_
    refine Eq.trans (rl_bipush (c := 9) (k := (9 : Int32)) (by decide +kernel) (by decide)) ?_
    refine Eq.trans (rl_inv (ix := 58) (n := 2) (o := 1) 12 [am_I (0 : Int32), am_I (9 : Int32)] [] (by decide +kernel) (by decide +kernel) (by decide +kernel) (by decide +kernel) ⟨rfl, rfl⟩ rfl rfl ck8) ?_
    rfl
theorem b6_41 {l : am_L} {x2 s0 : Int32} {M : am_M} {w : am_W4} (hl : am_ck l 0) : am_rn call 6 41 [some (am_P (8, 0, 0)), some (am_P l), some (am_I x2), none, none] [am_I s0] M (am_Z w) = if s0 = (-1 : Int32) then some (.inl (some (am_I (0 : Int32))), M, (am_Z w)) else am_cb (call 11 [am_P (8, 0, 0), am_I (58 : Int32)] M (am_Z w)) fun v M' X' => am_rn call 6 53 [some (am_P (8, 0, 0)), some (am_P l), some (am_I x2), some (am_I s0), none] (v.toList ++ []) M' X' := by
  refine Eq.trans (rl_istoren (j := 3) (ls' := [some (am_P (8, 0, 0)), some (am_P l), some (am_I x2), some (am_I s0), none]) (by decide +kernel) rfl rfl) ?_
  refine Eq.trans (rl_iloadn (j := 3) (by decide +kernel) rfl) ?_
  refine Eq.trans (rl_iconst (c := -1) (k := (-1 : Int32)) (by decide +kernel) (by decide)) ?_
  refine Eq.trans (rl_iceq (o := 12) 56 (by decide +kernel) (by decide)) ?_
  refine am_ite (fun h_1 => ?_) (fun h_1 => ?_)
  · skip
    refine Eq.trans (rl_iconst (c := 0) (k := (0 : Int32)) (by decide +kernel) (by decide)) ?_
    exact rl_zretk (by decide +kernel) rfl rfl
  · skip
    refine Eq.trans (rl_aloadn (j := 0) (by decide +kernel) rfl) ?_
    refine Eq.trans (rl_bipush (c := 58) (k := (58 : Int32)) (by decide +kernel) (by decide)) ?_
    refine Eq.trans (rl_inv (ix := 36) (n := 1) (o := 1) 11 [am_I (58 : Int32)] [] (by decide +kernel) (by decide +kernel) (by decide +kernel) (by decide +kernel) ⟨rfl, rfl⟩ rfl rfl ck8) ?_
    rfl
theorem b6_53 {l : am_L} {x2 x3 s0 : Int32} {M : am_M} {w : am_W4} (hl : am_ck l 0) : am_rn call 6 53 [some (am_P (8, 0, 0)), some (am_P l), some (am_I x2), some (am_I x3), none] [am_I s0] M (am_Z w) = if s0 = 0 then some (.inl (some (am_I (0 : Int32))), M, (am_Z w)) else am_cb (call 14 [am_P (8, 0, 0)] M (am_Z w)) fun v M' X' => am_rn call 6 62 [some (am_P (8, 0, 0)), some (am_P l), some (am_I x2), some (am_I x3), none] (v.toList ++ []) M' X' := by
  refine Eq.trans (rl_ifne (o := 5) 58 (by decide +kernel) (by decide)) ?_
  refine am_ite (fun h_1 => ?_) (fun h_1 => ?_)
  · skip
    refine Eq.trans (rl_iconst (c := 0) (k := (0 : Int32)) (by decide +kernel) (by decide)) ?_
    exact rl_zretk (by decide +kernel) rfl rfl
  · skip
    refine Eq.trans (rl_aloadn (j := 0) (by decide +kernel) rfl) ?_
    refine Eq.trans (rl_inv (ix := 62) (n := 0) (o := 1) 14 [] [] (by decide +kernel) (by decide +kernel) (by decide +kernel) (by decide +kernel) ⟨rfl, rfl⟩ rfl rfl ck8) ?_
    rfl
theorem b6_62 {l : am_L} {x2 x3 s0 : Int32} {M : am_M} {w : am_W4} (hl : am_ck l 0) : am_rn call 6 62 [some (am_P (8, 0, 0)), some (am_P l), some (am_I x2), some (am_I x3), none] [am_I s0] M (am_Z w) = am_cb (call 1 [am_P l, am_I (5 : Int32), am_I x2, am_I x3, am_I s0] M (am_Z w)) fun v M' X' => am_rn call 6 73 [some (am_P (8, 0, 0)), some (am_P l), some (am_I x2), some (am_I x3), some (am_I s0)] (v.toList ++ []) M' X' := by
  refine Eq.trans (rl_istore (j := 4) (ls' := [some (am_P (8, 0, 0)), some (am_P l), some (am_I x2), some (am_I x3), some (am_I s0)]) (by decide +kernel) rfl rfl) ?_
  refine Eq.trans (rl_aloadn (j := 1) (by decide +kernel) rfl) ?_
  refine Eq.trans (rl_iconst (c := 5) (k := (5 : Int32)) (by decide +kernel) (by decide)) ?_
  refine Eq.trans (rl_iloadn (j := 2) (by decide +kernel) rfl) ?_
  refine Eq.trans (rl_iloadn (j := 3) (by decide +kernel) rfl) ?_
  refine Eq.trans (rl_iload (j := 4) (by decide +kernel) rfl) ?_
  refine Eq.trans (rl_inv (ix := 65) (n := 4) (o := 0) 1 [am_I (5 : Int32), am_I x2, am_I x3, am_I s0] [] (by decide +kernel) (by decide +kernel) (by decide +kernel) (by decide +kernel) ⟨rfl, rfl⟩ rfl rfl hl) ?_
  rfl
theorem b6_73 {l : am_L} {x2 x3 x4 : Int32} {M : am_M} {w : am_W4} (hl : am_ck l 0) : am_rn call 6 73 [some (am_P (8, 0, 0)), some (am_P l), some (am_I x2), some (am_I x3), some (am_I x4)] [] M (am_Z w) = if x4 = (-1 : Int32) then some (.inl (some (am_I (0 : Int32))), M, (am_Z w)) else some (.inl (some (am_I (1 : Int32))), M, (am_Z w)) := by
  refine Eq.trans (rl_iload (j := 4) (by decide +kernel) rfl) ?_
  refine Eq.trans (rl_iconst (c := -1) (k := (-1 : Int32)) (by decide +kernel) (by decide)) ?_
  refine Eq.trans (rl_iceq (o := 7) 83 (by decide +kernel) (by decide)) ?_
  refine am_ite (fun h_1 => ?_) (fun h_1 => ?_)
  · skip
    refine Eq.trans (rl_iconst (c := 0) (k := (0 : Int32)) (by decide +kernel) (by decide)) ?_
    exact rl_zretk (by decide +kernel) rfl rfl
  · skip
    refine Eq.trans (rl_iconst (c := 1) (k := (1 : Int32)) (by decide +kernel) (by decide)) ?_
    refine Eq.trans (rl_goto (o := 4) 84 (by decide +kernel) (by decide)) ?_
    exact rl_zretk (by decide +kernel) rfl rfl
theorem b7_0 {l : am_L} {x2 : Int32} {M : am_M} {w : am_W4} (hl : am_ck l 0) : am_rn call 7 0 [some (am_P (8, 0, 0)), some (am_P l), some (am_I x2), none] [] M (am_Z w) = am_cb (call 13 [am_P (8, 0, 0)] (am_set M (8, 0, 0) 4 ((M (8, 0, 0) 4) + (1 : Int32))) (am_Z w)) fun v M' X' => am_rn call 7 14 [some (am_P (8, 0, 0)), some (am_P l), some (am_I x2), none] (v.toList ++ []) M' X' := by
  refine Eq.trans (rl_aloadn (j := 0) (by decide +kernel) rfl) ?_
  refine Eq.trans (rl_dup (by decide +kernel) rfl) ?_
  refine Eq.trans (rl_get (ix := 26) (ci := 1) (j := 4) (by decide +kernel) (by decide +kernel) (by decide +kernel) ck8) ?_
  refine Eq.trans (rl_iconst (c := 1) (k := (1 : Int32)) (by decide +kernel) (by decide)) ?_
  refine Eq.trans (rl_iadd (by decide +kernel)) ?_
  refine Eq.trans (rl_put (ix := 26) (ci := 1) (j := 4) (by decide +kernel) (by decide +kernel) (by decide +kernel) (by decide +kernel) ck8) ?_
  refine Eq.trans (rl_aloadn (j := 0) (by decide +kernel) rfl) ?_
  refine Eq.trans (rl_inv (ix := 69) (n := 0) (o := 1) 13 [] [] (by decide +kernel) (by decide +kernel) (by decide +kernel) (by decide +kernel) ⟨rfl, rfl⟩ rfl rfl ck8) ?_
  rfl
theorem b7_14 {l : am_L} {x2 s0 : Int32} {M : am_M} {w : am_W4} (hl : am_ck l 0) : am_rn call 7 14 [some (am_P (8, 0, 0)), some (am_P l), some (am_I x2), none] [am_I s0] M (am_Z w) = am_cb (call 1 [am_P l, am_I x2, am_I s0, am_I (0 : Int32), am_I (0 : Int32)] M (am_Z w)) fun v M' X' => am_rn call 7 23 [some (am_P (8, 0, 0)), some (am_P l), some (am_I x2), some (am_I s0)] (v.toList ++ []) M' X' := by
  refine Eq.trans (rl_istoren (j := 3) (ls' := [some (am_P (8, 0, 0)), some (am_P l), some (am_I x2), some (am_I s0)]) (by decide +kernel) rfl rfl) ?_
  refine Eq.trans (rl_aloadn (j := 1) (by decide +kernel) rfl) ?_
  refine Eq.trans (rl_iloadn (j := 2) (by decide +kernel) rfl) ?_
  refine Eq.trans (rl_iloadn (j := 3) (by decide +kernel) rfl) ?_
  refine Eq.trans (rl_iconst (c := 0) (k := (0 : Int32)) (by decide +kernel) (by decide)) ?_
  refine Eq.trans (rl_iconst (c := 0) (k := (0 : Int32)) (by decide +kernel) (by decide)) ?_
  refine Eq.trans (rl_inv (ix := 65) (n := 4) (o := 0) 1 [am_I x2, am_I s0, am_I (0 : Int32), am_I (0 : Int32)] [] (by decide +kernel) (by decide +kernel) (by decide +kernel) (by decide +kernel) ⟨rfl, rfl⟩ rfl rfl hl) ?_
  rfl
theorem b7_23 {l : am_L} {x2 x3 : Int32} {M : am_M} {w : am_W4} (hl : am_ck l 0) : am_rn call 7 23 [some (am_P (8, 0, 0)), some (am_P l), some (am_I x2), some (am_I x3)] [] M (am_Z w) = if x3 = (-1 : Int32) then some (.inl (some (am_I (0 : Int32))), M, (am_Z w)) else some (.inl (some (am_I (1 : Int32))), M, (am_Z w)) := by
  refine Eq.trans (rl_iloadn (j := 3) (by decide +kernel) rfl) ?_
  refine Eq.trans (rl_iconst (c := -1) (k := (-1 : Int32)) (by decide +kernel) (by decide)) ?_
  refine Eq.trans (rl_iceq (o := 7) 32 (by decide +kernel) (by decide)) ?_
  refine am_ite (fun h_1 => ?_) (fun h_1 => ?_)
  · skip
    refine Eq.trans (rl_iconst (c := 0) (k := (0 : Int32)) (by decide +kernel) (by decide)) ?_
    exact rl_zretk (by decide +kernel) rfl rfl
  · skip
    refine Eq.trans (rl_iconst (c := 1) (k := (1 : Int32)) (by decide +kernel) (by decide)) ?_
    refine Eq.trans (rl_goto (o := 4) 33 (by decide +kernel) (by decide)) ?_
    exact rl_zretk (by decide +kernel) rfl rfl
theorem b8_0 {l : am_L} {M : am_M} {w : am_W4} (hl : am_ck l 0) : am_rn call 8 0 [some (am_P (8, 0, 0)), some (am_P l), none, none, none] [] M (am_Z w) = am_cb (call 12 [am_P (8, 0, 0), am_I (0 : Int32), am_I (9 : Int32)] (am_set M (8, 0, 0) 4 ((M (8, 0, 0) 4) + (1 : Int32))) (am_Z w)) fun v M' X' => am_rn call 8 17 [some (am_P (8, 0, 0)), some (am_P l), none, none, none] (v.toList ++ []) M' X' := by
  refine Eq.trans (rl_aloadn (j := 0) (by decide +kernel) rfl) ?_
  refine Eq.trans (rl_dup (by decide +kernel) rfl) ?_
  refine Eq.trans (rl_get (ix := 26) (ci := 1) (j := 4) (by decide +kernel) (by decide +kernel) (by decide +kernel) ck8) ?_
  refine Eq.trans (rl_iconst (c := 1) (k := (1 : Int32)) (by decide +kernel) (by decide)) ?_
  refine Eq.trans (rl_iadd (by decide +kernel)) ?_
  refine Eq.trans (rl_put (ix := 26) (ci := 1) (j := 4) (by decide +kernel) (by decide +kernel) (by decide +kernel) (by decide +kernel) ck8) ?_
  refine Eq.trans (rl_aloadn (j := 0) (by decide +kernel) rfl) ?_
  refine Eq.trans (rl_iconst (c := 0) (k := (0 : Int32)) (by decide +kernel) (by decide)) ?_
  refine Eq.trans (rl_bipush (c := 9) (k := (9 : Int32)) (by decide +kernel) (by decide)) ?_
  refine Eq.trans (rl_inv (ix := 58) (n := 2) (o := 1) 12 [am_I (0 : Int32), am_I (9 : Int32)] [] (by decide +kernel) (by decide +kernel) (by decide +kernel) (by decide +kernel) ⟨rfl, rfl⟩ rfl rfl ck8) ?_
  rfl
theorem b8_17 {l : am_L} {s0 : Int32} {M : am_M} {w : am_W4} (hl : am_ck l 0) : am_rn call 8 17 [some (am_P (8, 0, 0)), some (am_P l), none, none, none] [am_I s0] M (am_Z w) = if s0 = (-1 : Int32) then some (.inl (some (am_I (0 : Int32))), M, (am_Z w)) else am_cb (call 11 [am_P (8, 0, 0), am_I (58 : Int32)] M (am_Z w)) fun v M' X' => am_rn call 8 29 [some (am_P (8, 0, 0)), some (am_P l), some (am_I s0), none, none] (v.toList ++ []) M' X' := by
  refine Eq.trans (rl_istoren (j := 2) (ls' := [some (am_P (8, 0, 0)), some (am_P l), some (am_I s0), none, none]) (by decide +kernel) rfl rfl) ?_
  refine Eq.trans (rl_iloadn (j := 2) (by decide +kernel) rfl) ?_
  refine Eq.trans (rl_iconst (c := -1) (k := (-1 : Int32)) (by decide +kernel) (by decide)) ?_
  refine Eq.trans (rl_iceq (o := 12) 32 (by decide +kernel) (by decide)) ?_
  refine am_ite (fun h_1 => ?_) (fun h_1 => ?_)
  · skip
    refine Eq.trans (rl_iconst (c := 0) (k := (0 : Int32)) (by decide +kernel) (by decide)) ?_
    exact rl_zretk (by decide +kernel) rfl rfl
  · skip
    refine Eq.trans (rl_aloadn (j := 0) (by decide +kernel) rfl) ?_
    refine Eq.trans (rl_bipush (c := 58) (k := (58 : Int32)) (by decide +kernel) (by decide)) ?_
    refine Eq.trans (rl_inv (ix := 36) (n := 1) (o := 1) 11 [am_I (58 : Int32)] [] (by decide +kernel) (by decide +kernel) (by decide +kernel) (by decide +kernel) ⟨rfl, rfl⟩ rfl rfl ck8) ?_
    rfl
theorem b8_29 {l : am_L} {x2 s0 : Int32} {M : am_M} {w : am_W4} (hl : am_ck l 0) : am_rn call 8 29 [some (am_P (8, 0, 0)), some (am_P l), some (am_I x2), none, none] [am_I s0] M (am_Z w) = if s0 = 0 then some (.inl (some (am_I (0 : Int32))), M, (am_Z w)) else am_cb (call 13 [am_P (8, 0, 0)] M (am_Z w)) fun v M' X' => am_rn call 8 38 [some (am_P (8, 0, 0)), some (am_P l), some (am_I x2), none, none] (v.toList ++ []) M' X' := by
  refine Eq.trans (rl_ifne (o := 5) 34 (by decide +kernel) (by decide)) ?_
  refine am_ite (fun h_1 => ?_) (fun h_1 => ?_)
  · skip
    refine Eq.trans (rl_iconst (c := 0) (k := (0 : Int32)) (by decide +kernel) (by decide)) ?_
    exact rl_zretk (by decide +kernel) rfl rfl
  · skip
    refine Eq.trans (rl_aloadn (j := 0) (by decide +kernel) rfl) ?_
    refine Eq.trans (rl_inv (ix := 69) (n := 0) (o := 1) 13 [] [] (by decide +kernel) (by decide +kernel) (by decide +kernel) (by decide +kernel) ⟨rfl, rfl⟩ rfl rfl ck8) ?_
    rfl
theorem b8_38 {l : am_L} {x2 s0 : Int32} {M : am_M} {w : am_W4} (hl : am_ck l 0) : am_rn call 8 38 [some (am_P (8, 0, 0)), some (am_P l), some (am_I x2), none, none] [am_I s0] M (am_Z w) = if s0 = (-1 : Int32) then some (.inl (some (am_I (0 : Int32))), M, (am_Z w)) else am_cb (call 11 [am_P (8, 0, 0), am_I (45 : Int32)] M (am_Z w)) fun v M' X' => am_rn call 8 50 [some (am_P (8, 0, 0)), some (am_P l), some (am_I x2), some (am_I s0), none] (v.toList ++ []) M' X' := by
  refine Eq.trans (rl_istoren (j := 3) (ls' := [some (am_P (8, 0, 0)), some (am_P l), some (am_I x2), some (am_I s0), none]) (by decide +kernel) rfl rfl) ?_
  refine Eq.trans (rl_iloadn (j := 3) (by decide +kernel) rfl) ?_
  refine Eq.trans (rl_iconst (c := -1) (k := (-1 : Int32)) (by decide +kernel) (by decide)) ?_
  refine Eq.trans (rl_iceq (o := 12) 53 (by decide +kernel) (by decide)) ?_
  refine am_ite (fun h_1 => ?_) (fun h_1 => ?_)
  · skip
    refine Eq.trans (rl_iconst (c := 0) (k := (0 : Int32)) (by decide +kernel) (by decide)) ?_
    exact rl_zretk (by decide +kernel) rfl rfl
  · skip
    refine Eq.trans (rl_aloadn (j := 0) (by decide +kernel) rfl) ?_
    refine Eq.trans (rl_bipush (c := 45) (k := (45 : Int32)) (by decide +kernel) (by decide)) ?_
    refine Eq.trans (rl_inv (ix := 36) (n := 1) (o := 1) 11 [am_I (45 : Int32)] [] (by decide +kernel) (by decide +kernel) (by decide +kernel) (by decide +kernel) ⟨rfl, rfl⟩ rfl rfl ck8) ?_
    rfl
theorem b8_50 {l : am_L} {x2 x3 s0 : Int32} {M : am_M} {w : am_W4} (hl : am_ck l 0) : am_rn call 8 50 [some (am_P (8, 0, 0)), some (am_P l), some (am_I x2), some (am_I x3), none] [am_I s0] M (am_Z w) = if s0 = 0 then some (.inl (some (am_I (0 : Int32))), M, (am_Z w)) else am_cb (call 13 [am_P (8, 0, 0)] M (am_Z w)) fun v M' X' => am_rn call 8 59 [some (am_P (8, 0, 0)), some (am_P l), some (am_I x2), some (am_I x3), none] (v.toList ++ []) M' X' := by
  refine Eq.trans (rl_ifne (o := 5) 55 (by decide +kernel) (by decide)) ?_
  refine am_ite (fun h_1 => ?_) (fun h_1 => ?_)
  · skip
    refine Eq.trans (rl_iconst (c := 0) (k := (0 : Int32)) (by decide +kernel) (by decide)) ?_
    exact rl_zretk (by decide +kernel) rfl rfl
  · skip
    refine Eq.trans (rl_aloadn (j := 0) (by decide +kernel) rfl) ?_
    refine Eq.trans (rl_inv (ix := 69) (n := 0) (o := 1) 13 [] [] (by decide +kernel) (by decide +kernel) (by decide +kernel) (by decide +kernel) ⟨rfl, rfl⟩ rfl rfl ck8) ?_
    rfl
theorem b8_59 {l : am_L} {x2 x3 s0 : Int32} {M : am_M} {w : am_W4} (hl : am_ck l 0) : am_rn call 8 59 [some (am_P (8, 0, 0)), some (am_P l), some (am_I x2), some (am_I x3), none] [am_I s0] M (am_Z w) = am_cb (call 1 [am_P l, am_I (2 : Int32), am_I x2, am_I x3, am_I s0] M (am_Z w)) fun v M' X' => am_rn call 8 70 [some (am_P (8, 0, 0)), some (am_P l), some (am_I x2), some (am_I x3), some (am_I s0)] (v.toList ++ []) M' X' := by
  refine Eq.trans (rl_istore (j := 4) (ls' := [some (am_P (8, 0, 0)), some (am_P l), some (am_I x2), some (am_I x3), some (am_I s0)]) (by decide +kernel) rfl rfl) ?_
  refine Eq.trans (rl_aloadn (j := 1) (by decide +kernel) rfl) ?_
  refine Eq.trans (rl_iconst (c := 2) (k := (2 : Int32)) (by decide +kernel) (by decide)) ?_
  refine Eq.trans (rl_iloadn (j := 2) (by decide +kernel) rfl) ?_
  refine Eq.trans (rl_iloadn (j := 3) (by decide +kernel) rfl) ?_
  refine Eq.trans (rl_iload (j := 4) (by decide +kernel) rfl) ?_
  refine Eq.trans (rl_inv (ix := 65) (n := 4) (o := 0) 1 [am_I (2 : Int32), am_I x2, am_I x3, am_I s0] [] (by decide +kernel) (by decide +kernel) (by decide +kernel) (by decide +kernel) ⟨rfl, rfl⟩ rfl rfl hl) ?_
  rfl
theorem b8_70 {l : am_L} {x2 x3 x4 : Int32} {M : am_M} {w : am_W4} (hl : am_ck l 0) : am_rn call 8 70 [some (am_P (8, 0, 0)), some (am_P l), some (am_I x2), some (am_I x3), some (am_I x4)] [] M (am_Z w) = if x4 = (-1 : Int32) then some (.inl (some (am_I (0 : Int32))), M, (am_Z w)) else some (.inl (some (am_I (1 : Int32))), M, (am_Z w)) := by
  refine Eq.trans (rl_iload (j := 4) (by decide +kernel) rfl) ?_
  refine Eq.trans (rl_iconst (c := -1) (k := (-1 : Int32)) (by decide +kernel) (by decide)) ?_
  refine Eq.trans (rl_iceq (o := 7) 80 (by decide +kernel) (by decide)) ?_
  refine am_ite (fun h_1 => ?_) (fun h_1 => ?_)
  · skip
    refine Eq.trans (rl_iconst (c := 0) (k := (0 : Int32)) (by decide +kernel) (by decide)) ?_
    exact rl_zretk (by decide +kernel) rfl rfl
  · skip
    refine Eq.trans (rl_iconst (c := 1) (k := (1 : Int32)) (by decide +kernel) (by decide)) ?_
    refine Eq.trans (rl_goto (o := 4) 81 (by decide +kernel) (by decide)) ?_
    exact rl_zretk (by decide +kernel) rfl rfl
theorem b9_0 {l : am_L} {x2 : Int32} {M : am_M} {w : am_W4} (hl : am_ck l 0) : am_rn call 9 0 [some (am_P (8, 0, 0)), some (am_P l), some (am_I x2), none, none] [] M (am_Z w) = am_cb (call 12 [am_P (8, 0, 0), am_I (0 : Int32), am_I (9 : Int32)] (am_set M (8, 0, 0) 4 ((M (8, 0, 0) 4) + (1 : Int32))) (am_Z w)) fun v M' X' => am_rn call 9 17 [some (am_P (8, 0, 0)), some (am_P l), some (am_I x2), none, none] (v.toList ++ []) M' X' := by
  refine Eq.trans (rl_aloadn (j := 0) (by decide +kernel) rfl) ?_
  refine Eq.trans (rl_dup (by decide +kernel) rfl) ?_
  refine Eq.trans (rl_get (ix := 26) (ci := 1) (j := 4) (by decide +kernel) (by decide +kernel) (by decide +kernel) ck8) ?_
  refine Eq.trans (rl_iconst (c := 1) (k := (1 : Int32)) (by decide +kernel) (by decide)) ?_
  refine Eq.trans (rl_iadd (by decide +kernel)) ?_
  refine Eq.trans (rl_put (ix := 26) (ci := 1) (j := 4) (by decide +kernel) (by decide +kernel) (by decide +kernel) (by decide +kernel) ck8) ?_
  refine Eq.trans (rl_aloadn (j := 0) (by decide +kernel) rfl) ?_
  refine Eq.trans (rl_iconst (c := 0) (k := (0 : Int32)) (by decide +kernel) (by decide)) ?_
  refine Eq.trans (rl_bipush (c := 9) (k := (9 : Int32)) (by decide +kernel) (by decide)) ?_
  refine Eq.trans (rl_inv (ix := 58) (n := 2) (o := 1) 12 [am_I (0 : Int32), am_I (9 : Int32)] [] (by decide +kernel) (by decide +kernel) (by decide +kernel) (by decide +kernel) ⟨rfl, rfl⟩ rfl rfl ck8) ?_
  rfl
theorem b9_17 {l : am_L} {x2 s0 : Int32} {M : am_M} {w : am_W4} (hl : am_ck l 0) : am_rn call 9 17 [some (am_P (8, 0, 0)), some (am_P l), some (am_I x2), none, none] [am_I s0] M (am_Z w) = if s0 = (-1 : Int32) then some (.inl (some (am_I (0 : Int32))), M, (am_Z w)) else am_cb (call 11 [am_P (8, 0, 0), am_I (61 : Int32)] M (am_Z w)) fun v M' X' => am_rn call 9 29 [some (am_P (8, 0, 0)), some (am_P l), some (am_I x2), some (am_I s0), none] (v.toList ++ []) M' X' := by
  refine Eq.trans (rl_istoren (j := 3) (ls' := [some (am_P (8, 0, 0)), some (am_P l), some (am_I x2), some (am_I s0), none]) (by decide +kernel) rfl rfl) ?_
  refine Eq.trans (rl_iloadn (j := 3) (by decide +kernel) rfl) ?_
  refine Eq.trans (rl_iconst (c := -1) (k := (-1 : Int32)) (by decide +kernel) (by decide)) ?_
  refine Eq.trans (rl_iceq (o := 12) 32 (by decide +kernel) (by decide)) ?_
  refine am_ite (fun h_1 => ?_) (fun h_1 => ?_)
  · skip
    refine Eq.trans (rl_iconst (c := 0) (k := (0 : Int32)) (by decide +kernel) (by decide)) ?_
    exact rl_zretk (by decide +kernel) rfl rfl
  · skip
    refine Eq.trans (rl_aloadn (j := 0) (by decide +kernel) rfl) ?_
    refine Eq.trans (rl_bipush (c := 61) (k := (61 : Int32)) (by decide +kernel) (by decide)) ?_
    refine Eq.trans (rl_inv (ix := 36) (n := 1) (o := 1) 11 [am_I (61 : Int32)] [] (by decide +kernel) (by decide +kernel) (by decide +kernel) (by decide +kernel) ⟨rfl, rfl⟩ rfl rfl ck8) ?_
    rfl
theorem b9_29 {l : am_L} {x2 x3 s0 : Int32} {M : am_M} {w : am_W4} (hl : am_ck l 0) : am_rn call 9 29 [some (am_P (8, 0, 0)), some (am_P l), some (am_I x2), some (am_I x3), none] [am_I s0] M (am_Z w) = if s0 = 0 then some (.inl (some (am_I (0 : Int32))), M, (am_Z w)) else am_cb (call 12 [am_P (8, 0, 0), am_I (0 : Int32), am_I (9 : Int32)] M (am_Z w)) fun v M' X' => am_rn call 9 41 [some (am_P (8, 0, 0)), some (am_P l), some (am_I x2), some (am_I x3), none] (v.toList ++ []) M' X' := by
  refine Eq.trans (rl_ifne (o := 5) 34 (by decide +kernel) (by decide)) ?_
  refine am_ite (fun h_1 => ?_) (fun h_1 => ?_)
  · skip
    refine Eq.trans (rl_iconst (c := 0) (k := (0 : Int32)) (by decide +kernel) (by decide)) ?_
    exact rl_zretk (by decide +kernel) rfl rfl
  · skip
    refine Eq.trans (rl_aloadn (j := 0) (by decide +kernel) rfl) ?_
    refine Eq.trans (rl_iconst (c := 0) (k := (0 : Int32)) (by decide +kernel) (by decide)) ?_
    refine Eq.trans (rl_bipush (c := 9) (k := (9 : Int32)) (by decide +kernel) (by decide)) ?_
    refine Eq.trans (rl_inv (ix := 58) (n := 2) (o := 1) 12 [am_I (0 : Int32), am_I (9 : Int32)] [] (by decide +kernel) (by decide +kernel) (by decide +kernel) (by decide +kernel) ⟨rfl, rfl⟩ rfl rfl ck8) ?_
    rfl
theorem b9_41 {l : am_L} {x2 x3 s0 : Int32} {M : am_M} {w : am_W4} (hl : am_ck l 0) : am_rn call 9 41 [some (am_P (8, 0, 0)), some (am_P l), some (am_I x2), some (am_I x3), none] [am_I s0] M (am_Z w) = am_cb (call 1 [am_P l, am_I x2, am_I x3, am_I s0, am_I (0 : Int32)] M (am_Z w)) fun v M' X' => am_rn call 9 52 [some (am_P (8, 0, 0)), some (am_P l), some (am_I x2), some (am_I x3), some (am_I s0)] (v.toList ++ []) M' X' := by
  refine Eq.trans (rl_istore (j := 4) (ls' := [some (am_P (8, 0, 0)), some (am_P l), some (am_I x2), some (am_I x3), some (am_I s0)]) (by decide +kernel) rfl rfl) ?_
  refine Eq.trans (rl_aloadn (j := 1) (by decide +kernel) rfl) ?_
  refine Eq.trans (rl_iloadn (j := 2) (by decide +kernel) rfl) ?_
  refine Eq.trans (rl_iloadn (j := 3) (by decide +kernel) rfl) ?_
  refine Eq.trans (rl_iload (j := 4) (by decide +kernel) rfl) ?_
  refine Eq.trans (rl_iconst (c := 0) (k := (0 : Int32)) (by decide +kernel) (by decide)) ?_
  refine Eq.trans (rl_inv (ix := 65) (n := 4) (o := 0) 1 [am_I x2, am_I x3, am_I s0, am_I (0 : Int32)] [] (by decide +kernel) (by decide +kernel) (by decide +kernel) (by decide +kernel) ⟨rfl, rfl⟩ rfl rfl hl) ?_
  rfl
theorem b9_52 {l : am_L} {x2 x3 x4 : Int32} {M : am_M} {w : am_W4} (hl : am_ck l 0) : am_rn call 9 52 [some (am_P (8, 0, 0)), some (am_P l), some (am_I x2), some (am_I x3), some (am_I x4)] [] M (am_Z w) = if x4 = (-1 : Int32) then some (.inl (some (am_I (0 : Int32))), M, (am_Z w)) else some (.inl (some (am_I (1 : Int32))), M, (am_Z w)) := by
  refine Eq.trans (rl_iload (j := 4) (by decide +kernel) rfl) ?_
  refine Eq.trans (rl_iconst (c := -1) (k := (-1 : Int32)) (by decide +kernel) (by decide)) ?_
  refine Eq.trans (rl_iceq (o := 7) 62 (by decide +kernel) (by decide)) ?_
  refine am_ite (fun h_1 => ?_) (fun h_1 => ?_)
  · skip
    refine Eq.trans (rl_iconst (c := 0) (k := (0 : Int32)) (by decide +kernel) (by decide)) ?_
    exact rl_zretk (by decide +kernel) rfl rfl
  · skip
    refine Eq.trans (rl_iconst (c := 1) (k := (1 : Int32)) (by decide +kernel) (by decide)) ?_
    refine Eq.trans (rl_goto (o := 4) 63 (by decide +kernel) (by decide)) ?_
    exact rl_zretk (by decide +kernel) rfl rfl
theorem b10_0  {M : am_M} {w : am_W4}  : am_rn call 10 0 [some (am_P (8, 0, 0))] [] M (am_Z w) = if (M (8, 0, 0) 4) < (M (8, 0, 0) 1) then if am_in (M (8, 0, 0) 4) 60 then some (.inl (some (am_I (M (9, 0, 0) (M (8, 0, 0) 4).toNatClampNeg))), M, (am_Z w)) else none else some (.inl (some (am_I (-1 : Int32))), M, (am_Z w)) := by
  refine Eq.trans (rl_aloadn (j := 0) (by decide +kernel) rfl) ?_
  refine Eq.trans (rl_get (ix := 26) (ci := 1) (j := 4) (by decide +kernel) (by decide +kernel) (by decide +kernel) ck8) ?_
  refine Eq.trans (rl_aloadn (j := 0) (by decide +kernel) rfl) ?_
  refine Eq.trans (rl_get (ix := 22) (ci := 1) (j := 1) (by decide +kernel) (by decide +kernel) (by decide +kernel) ck8) ?_
  refine Eq.trans (rl_icge (o := 15) 23 (by decide +kernel) (by decide)) ?_
  refine am_ite (fun h_1 => ?_) (fun h_1 => ?_)
  · skip
    refine Eq.trans (rl_aloadn (j := 0) (by decide +kernel) rfl) ?_
    refine Eq.trans (rl_getP (ix := 9) (ci := 1) (j := 0) (by decide +kernel) (by decide +kernel) (by decide +kernel) ck8 rfl) ?_
    refine Eq.trans (rl_aloadn (j := 0) (by decide +kernel) rfl) ?_
    refine Eq.trans (rl_get (ix := 26) (ci := 1) (j := 4) (by decide +kernel) (by decide +kernel) (by decide +kernel) ck8) ?_
    refine Eq.trans (rl_cald (by decide +kernel) ka9) ?_
    refine am_ite (fun h_2 => ?_) (fun _ => rfl)
    refine Eq.trans (rl_goto (o := 4) 24 (by decide +kernel) (by decide)) ?_
    exact rl_iret (by decide +kernel) rfl
  · skip
    refine Eq.trans (rl_iconst (c := -1) (k := (-1 : Int32)) (by decide +kernel) (by decide)) ?_
    exact rl_iret (by decide +kernel) rfl
theorem b11_0 {x1 : Int32} {M : am_M} {w : am_W4}  : am_rn call 11 0 [some (am_P (8, 0, 0)), some (am_I x1)] [] M (am_Z w) = am_cb (call 10 [am_P (8, 0, 0)] M (am_Z w)) fun v M' X' => am_rn call 11 4 [some (am_P (8, 0, 0)), some (am_I x1)] (v.toList ++ []) M' X' := by
  refine Eq.trans (rl_aloadn (j := 0) (by decide +kernel) rfl) ?_
  refine Eq.trans (rl_inv (ix := 40) (n := 0) (o := 1) 10 [] [] (by decide +kernel) (by decide +kernel) (by decide +kernel) (by decide +kernel) ⟨rfl, rfl⟩ rfl rfl ck8) ?_
  rfl
theorem b11_4 {x1 s0 : Int32} {M : am_M} {w : am_W4}  : am_rn call 11 4 [some (am_P (8, 0, 0)), some (am_I x1)] [am_I s0] M (am_Z w) = if s0 = x1 then some (.inl (some (am_I (1 : Int32))), (am_set M (8, 0, 0) 4 ((M (8, 0, 0) 4) + (1 : Int32))), (am_Z w)) else some (.inl (some (am_I (0 : Int32))), M, (am_Z w)) := by
  refine Eq.trans (rl_iloadn (j := 1) (by decide +kernel) rfl) ?_
  refine Eq.trans (rl_iceq (o := 5) 10 (by decide +kernel) (by decide)) ?_
  refine am_ite (fun h_1 => ?_) (fun h_1 => ?_)
  · skip
    refine Eq.trans (rl_aloadn (j := 0) (by decide +kernel) rfl) ?_
    refine Eq.trans (rl_dup (by decide +kernel) rfl) ?_
    refine Eq.trans (rl_get (ix := 26) (ci := 1) (j := 4) (by decide +kernel) (by decide +kernel) (by decide +kernel) ck8) ?_
    refine Eq.trans (rl_iconst (c := 1) (k := (1 : Int32)) (by decide +kernel) (by decide)) ?_
    refine Eq.trans (rl_iadd (by decide +kernel)) ?_
    refine Eq.trans (rl_put (ix := 26) (ci := 1) (j := 4) (by decide +kernel) (by decide +kernel) (by decide +kernel) (by decide +kernel) ck8) ?_
    refine Eq.trans (rl_iconst (c := 1) (k := (1 : Int32)) (by decide +kernel) (by decide)) ?_
    exact rl_zretk (by decide +kernel) rfl rfl
  · skip
    refine Eq.trans (rl_iconst (c := 0) (k := (0 : Int32)) (by decide +kernel) (by decide)) ?_
    exact rl_zretk (by decide +kernel) rfl rfl
theorem b12_0 {x1 x2 : Int32} {M : am_M} {w : am_W4}  : am_rn call 12 0 [some (am_P (8, 0, 0)), some (am_I x1), some (am_I x2), none] [] M (am_Z w) = am_cb (call 10 [am_P (8, 0, 0)] M (am_Z w)) fun v M' X' => am_rn call 12 4 [some (am_P (8, 0, 0)), some (am_I x1), some (am_I x2), none] (v.toList ++ []) M' X' := by
  refine Eq.trans (rl_aloadn (j := 0) (by decide +kernel) rfl) ?_
  refine Eq.trans (rl_inv (ix := 40) (n := 0) (o := 1) 10 [] [] (by decide +kernel) (by decide +kernel) (by decide +kernel) (by decide +kernel) ⟨rfl, rfl⟩ rfl rfl ck8) ?_
  rfl
theorem b12_4 {x1 x2 s0 : Int32} {M : am_M} {w : am_W4}  : am_rn call 12 4 [some (am_P (8, 0, 0)), some (am_I x1), some (am_I x2), none] [am_I s0] M (am_Z w) = if (s0 - (48 : Int32)) < x1 then some (.inl (some (am_I (-1 : Int32))), M, (am_Z w)) else if x2 < (s0 - (48 : Int32)) then some (.inl (some (am_I (-1 : Int32))), M, (am_Z w)) else some (.inl (some (am_I (s0 - (48 : Int32)))), (am_set M (8, 0, 0) 4 ((M (8, 0, 0) 4) + (1 : Int32))), (am_Z w)) := by
  refine Eq.trans (rl_bipush (c := 48) (k := (48 : Int32)) (by decide +kernel) (by decide)) ?_
  refine Eq.trans (rl_isub (by decide +kernel)) ?_
  refine Eq.trans (rl_istoren (j := 3) (ls' := [some (am_P (8, 0, 0)), some (am_I x1), some (am_I x2), some (am_I (s0 - (48 : Int32)))]) (by decide +kernel) rfl rfl) ?_
  refine Eq.trans (rl_iloadn (j := 3) (by decide +kernel) rfl) ?_
  refine Eq.trans (rl_iloadn (j := 1) (by decide +kernel) rfl) ?_
  refine Eq.trans (rl_iclt (o := 8) 18 (by decide +kernel) (by decide)) ?_
  refine am_ite (fun h_1 => ?_) (fun h_1 => ?_)
  · skip
    refine Eq.trans (rl_iconst (c := -1) (k := (-1 : Int32)) (by decide +kernel) (by decide)) ?_
    exact rl_iret (by decide +kernel) rfl
  · skip
    refine Eq.trans (rl_iloadn (j := 3) (by decide +kernel) rfl) ?_
    refine Eq.trans (rl_iloadn (j := 2) (by decide +kernel) rfl) ?_
    refine Eq.trans (rl_icle (o := 5) 20 (by decide +kernel) (by decide)) ?_
    refine am_ite (fun h_2 => ?_) (fun h_2 => ?_)
    · skip
      refine Eq.trans (rl_iconst (c := -1) (k := (-1 : Int32)) (by decide +kernel) (by decide)) ?_
      exact rl_iret (by decide +kernel) rfl
    · skip
      refine Eq.trans (rl_aloadn (j := 0) (by decide +kernel) rfl) ?_
      refine Eq.trans (rl_dup (by decide +kernel) rfl) ?_
      refine Eq.trans (rl_get (ix := 26) (ci := 1) (j := 4) (by decide +kernel) (by decide +kernel) (by decide +kernel) ck8) ?_
      refine Eq.trans (rl_iconst (c := 1) (k := (1 : Int32)) (by decide +kernel) (by decide)) ?_
      refine Eq.trans (rl_iadd (by decide +kernel)) ?_
      refine Eq.trans (rl_put (ix := 26) (ci := 1) (j := 4) (by decide +kernel) (by decide +kernel) (by decide +kernel) (by decide +kernel) ck8) ?_
      refine Eq.trans (rl_iloadn (j := 3) (by decide +kernel) rfl) ?_
      exact rl_iret (by decide +kernel) rfl
theorem b13_0  {M : am_M} {w : am_W4}  : am_rn call 13 0 [some (am_P (8, 0, 0)), none, none] [] M (am_Z w) = am_cb (call 12 [am_P (8, 0, 0), am_I (0 : Int32), am_I (9 : Int32)] M (am_Z w)) fun v M' X' => am_rn call 13 7 [some (am_P (8, 0, 0)), none, none] (v.toList ++ []) M' X' := by
  refine Eq.trans (rl_aloadn (j := 0) (by decide +kernel) rfl) ?_
  refine Eq.trans (rl_iconst (c := 0) (k := (0 : Int32)) (by decide +kernel) (by decide)) ?_
  refine Eq.trans (rl_bipush (c := 9) (k := (9 : Int32)) (by decide +kernel) (by decide)) ?_
  refine Eq.trans (rl_inv (ix := 58) (n := 2) (o := 1) 12 [am_I (0 : Int32), am_I (9 : Int32)] [] (by decide +kernel) (by decide +kernel) (by decide +kernel) (by decide +kernel) ⟨rfl, rfl⟩ rfl rfl ck8) ?_
  rfl
theorem b13_7 {s0 : Int32} {M : am_M} {w : am_W4}  : am_rn call 13 7 [some (am_P (8, 0, 0)), none, none] [am_I s0] M (am_Z w) = if s0 = (-1 : Int32) then some (.inl (some (am_I (-1 : Int32))), M, (am_Z w)) else am_cb (call 12 [am_P (8, 0, 0), am_I (0 : Int32), am_I (9 : Int32)] M (am_Z w)) fun v M' X' => am_rn call 13 22 [some (am_P (8, 0, 0)), some (am_I s0), none] (v.toList ++ []) M' X' := by
  refine Eq.trans (rl_istoren (j := 1) (ls' := [some (am_P (8, 0, 0)), some (am_I s0), none]) (by decide +kernel) rfl rfl) ?_
  refine Eq.trans (rl_iloadn (j := 1) (by decide +kernel) rfl) ?_
  refine Eq.trans (rl_iconst (c := -1) (k := (-1 : Int32)) (by decide +kernel) (by decide)) ?_
  refine Eq.trans (rl_icne (o := 5) 15 (by decide +kernel) (by decide)) ?_
  refine am_ite (fun h_1 => ?_) (fun h_1 => ?_)
  · skip
    refine Eq.trans (rl_iconst (c := -1) (k := (-1 : Int32)) (by decide +kernel) (by decide)) ?_
    exact rl_iret (by decide +kernel) rfl
  · skip
    refine Eq.trans (rl_aloadn (j := 0) (by decide +kernel) rfl) ?_
    refine Eq.trans (rl_iconst (c := 0) (k := (0 : Int32)) (by decide +kernel) (by decide)) ?_
    refine Eq.trans (rl_bipush (c := 9) (k := (9 : Int32)) (by decide +kernel) (by decide)) ?_
    refine Eq.trans (rl_inv (ix := 58) (n := 2) (o := 1) 12 [am_I (0 : Int32), am_I (9 : Int32)] [] (by decide +kernel) (by decide +kernel) (by decide +kernel) (by decide +kernel) ⟨rfl, rfl⟩ rfl rfl ck8) ?_
    rfl
theorem b13_22 {x1 s0 : Int32} {M : am_M} {w : am_W4}  : am_rn call 13 22 [some (am_P (8, 0, 0)), some (am_I x1), none] [am_I s0] M (am_Z w) = if s0 = (-1 : Int32) then some (.inl (some (am_I x1)), M, (am_Z w)) else some (.inl (some (am_I (((10 : Int32) * x1) + s0))), M, (am_Z w)) := by
  refine Eq.trans (rl_istoren (j := 2) (ls' := [some (am_P (8, 0, 0)), some (am_I x1), some (am_I s0)]) (by decide +kernel) rfl rfl) ?_
  refine Eq.trans (rl_iloadn (j := 2) (by decide +kernel) rfl) ?_
  refine Eq.trans (rl_iconst (c := -1) (k := (-1 : Int32)) (by decide +kernel) (by decide)) ?_
  refine Eq.trans (rl_icne (o := 7) 32 (by decide +kernel) (by decide)) ?_
  refine am_ite (fun h_1 => ?_) (fun h_1 => ?_)
  · skip
    refine Eq.trans (rl_iloadn (j := 1) (by decide +kernel) rfl) ?_
    refine Eq.trans (rl_goto (o := 9) 38 (by decide +kernel) (by decide)) ?_
    exact rl_iret (by decide +kernel) rfl
  · skip
    refine Eq.trans (rl_bipush (c := 10) (k := (10 : Int32)) (by decide +kernel) (by decide)) ?_
    refine Eq.trans (rl_iloadn (j := 1) (by decide +kernel) rfl) ?_
    refine Eq.trans (rl_imul (by decide +kernel)) ?_
    refine Eq.trans (rl_iloadn (j := 2) (by decide +kernel) rfl) ?_
    refine Eq.trans (rl_iadd (by decide +kernel)) ?_
    exact rl_iret (by decide +kernel) rfl
theorem b14_0  {M : am_M} {w : am_W4}  : am_rn call 14 0 [some (am_P (8, 0, 0)), none, none, none] [] M (am_Z w) = am_rn call 14 4 [some (am_P (8, 0, 0)), some (am_I (-1 : Int32)), some (am_I (0 : Int32)), none] [] M (am_Z w) := by
  refine Eq.trans (rl_iconst (c := -1) (k := (-1 : Int32)) (by decide +kernel) (by decide)) ?_
  refine Eq.trans (rl_istoren (j := 1) (ls' := [some (am_P (8, 0, 0)), some (am_I (-1 : Int32)), none, none]) (by decide +kernel) rfl rfl) ?_
  refine Eq.trans (rl_iconst (c := 0) (k := (0 : Int32)) (by decide +kernel) (by decide)) ?_
  refine Eq.trans (rl_istoren (j := 2) (ls' := [some (am_P (8, 0, 0)), some (am_I (-1 : Int32)), some (am_I (0 : Int32)), none]) (by decide +kernel) rfl rfl) ?_
  rfl
theorem b14_4 {x1 x2 : Int32} {x3 : Option am_V} {M : am_M} {w : am_W4}  : am_rn call 14 4 [some (am_P (8, 0, 0)), some (am_I x1), some (am_I x2), x3] [] M (am_Z w) = if x2 < (8 : Int32) then am_cb (call 12 [am_P (8, 0, 0), am_I (1 : Int32), am_I (8 : Int32)] M (am_Z w)) fun v M' X' => am_rn call 14 17 [some (am_P (8, 0, 0)), some (am_I x1), some (am_I x2), x3] (v.toList ++ []) M' X' else some (.inl (some (am_I x1)), M, (am_Z w)) := by
  refine Eq.trans (rl_iloadn (j := 2) (by decide +kernel) rfl) ?_
  refine Eq.trans (rl_bipush (c := 8) (k := (8 : Int32)) (by decide +kernel) (by decide)) ?_
  refine Eq.trans (rl_icge (o := 39) 46 (by decide +kernel) (by decide)) ?_
  refine am_ite (fun h_1 => ?_) (fun h_1 => ?_)
  · skip
    refine Eq.trans (rl_aloadn (j := 0) (by decide +kernel) rfl) ?_
    refine Eq.trans (rl_iconst (c := 1) (k := (1 : Int32)) (by decide +kernel) (by decide)) ?_
    refine Eq.trans (rl_bipush (c := 8) (k := (8 : Int32)) (by decide +kernel) (by decide)) ?_
    refine Eq.trans (rl_inv (ix := 58) (n := 2) (o := 1) 12 [am_I (1 : Int32), am_I (8 : Int32)] [] (by decide +kernel) (by decide +kernel) (by decide +kernel) (by decide +kernel) ⟨rfl, rfl⟩ rfl rfl ck8) ?_
    rfl
  · skip
    refine Eq.trans (rl_iloadn (j := 1) (by decide +kernel) rfl) ?_
    exact rl_iret (by decide +kernel) rfl
theorem b14_17 {x1 x2 s0 : Int32} {x3 : Option am_V} {M : am_M} {w : am_W4}  : am_rn call 14 17 [some (am_P (8, 0, 0)), some (am_I x1), some (am_I x2), x3] [am_I s0] M (am_Z w) = if s0 = (-1 : Int32) then some (.inl (some (am_I x1)), M, (am_Z w)) else if x2 = 0 then am_rn call 14 39 [some (am_P (8, 0, 0)), some (am_I x1), some (am_I x2), some (am_I s0)] [am_I s0] M (am_Z w) else am_rn call 14 39 [some (am_P (8, 0, 0)), some (am_I x1), some (am_I x2), some (am_I s0)] [am_I (((10 : Int32) * x1) + s0)] M (am_Z w) := by
  refine Eq.trans (rl_istoren (j := 3) (ls' := [some (am_P (8, 0, 0)), some (am_I x1), some (am_I x2), some (am_I s0)]) (by decide +kernel) rfl rfl) ?_
  refine Eq.trans (rl_iloadn (j := 3) (by decide +kernel) rfl) ?_
  refine Eq.trans (rl_iconst (c := -1) (k := (-1 : Int32)) (by decide +kernel) (by decide)) ?_
  refine Eq.trans (rl_icne (o := 5) 25 (by decide +kernel) (by decide)) ?_
  refine am_ite (fun h_1 => ?_) (fun h_1 => ?_)
  · skip
    refine Eq.trans (rl_iloadn (j := 1) (by decide +kernel) rfl) ?_
    exact rl_iret (by decide +kernel) rfl
  · skip
    refine Eq.trans (rl_iloadn (j := 2) (by decide +kernel) rfl) ?_
    refine Eq.trans (rl_ifne (o := 7) 33 (by decide +kernel) (by decide)) ?_
    refine am_ite (fun h_2 => ?_) (fun h_2 => ?_)
    · skip
      refine Eq.trans (rl_iloadn (j := 3) (by decide +kernel) rfl) ?_
      refine Eq.trans (rl_goto (o := 9) 39 (by decide +kernel) (by decide)) ?_
      rfl
    · skip
      refine Eq.trans (rl_bipush (c := 10) (k := (10 : Int32)) (by decide +kernel) (by decide)) ?_
      refine Eq.trans (rl_iloadn (j := 1) (by decide +kernel) rfl) ?_
      refine Eq.trans (rl_imul (by decide +kernel)) ?_
      refine Eq.trans (rl_iloadn (j := 3) (by decide +kernel) rfl) ?_
      refine Eq.trans (rl_iadd (by decide +kernel)) ?_
      rfl
theorem b14_39 {x1 x2 x3 s0 : Int32} {M : am_M} {w : am_W4}  : am_rn call 14 39 [some (am_P (8, 0, 0)), some (am_I x1), some (am_I x2), some (am_I x3)] [am_I s0] M (am_Z w) = am_rn call 14 4 [some (am_P (8, 0, 0)), some (am_I s0), some (am_I (x2 + (1 : Int32))), some (am_I x3)] [] M (am_Z w) := by
  refine Eq.trans (rl_istoren (j := 1) (ls' := [some (am_P (8, 0, 0)), some (am_I s0), some (am_I x2), some (am_I x3)]) (by decide +kernel) rfl rfl) ?_
  refine Eq.trans (rl_iinc (j := 2) (c := 1) (k := (1 : Int32)) (ls' := [some (am_P (8, 0, 0)), some (am_I s0), some (am_I (x2 + (1 : Int32))), some (am_I x3)]) (by decide +kernel) (by decide) rfl rfl) ?_
  refine Eq.trans (rl_goto (o := (-39)) 4 (by decide +kernel) (by decide)) ?_
  rfl
theorem b16_0 {n k : Nat} {x1 x2 : Int32} {M : am_M} {w : am_W4} (hn : n < 12) (hk : k < 6) : am_rn call 16 0 [some (am_P (21, n, k)), some (am_I x1), some (am_I x2)] [] M (am_Z w) = some (.inl none, (am_set (am_set (am_set (am_set (am_set (am_set (am_set M (21, n, k) 0 x1) (21, n, k) 1 x2) (21, n, k) 2 (0 : Int32)) (21, n, k) 3 (0 : Int32)) (21, n, k) 4 (0 : Int32)) (21, n, k) 5 (0 : Int32)) (21, n, k) 6 (0 : Int32)), (am_Z w)) := by
  refine Eq.trans (rl_aloadn (j := 0) (by decide +kernel) rfl) ?_
  refine Eq.trans (rl_iloadn (j := 1) (by decide +kernel) rfl) ?_
  refine Eq.trans (rl_put (ix := 15) (ci := 2) (j := 0) (by decide +kernel) (by decide +kernel) (by decide +kernel) (by decide +kernel) (ck21 hn hk)) ?_
  refine Eq.trans (rl_aloadn (j := 0) (by decide +kernel) rfl) ?_
  refine Eq.trans (rl_iloadn (j := 2) (by decide +kernel) rfl) ?_
  refine Eq.trans (rl_put (ix := 19) (ci := 2) (j := 1) (by decide +kernel) (by decide +kernel) (by decide +kernel) (by decide +kernel) (ck21 hn hk)) ?_
  refine Eq.trans (rl_aloadn (j := 0) (by decide +kernel) rfl) ?_
  refine Eq.trans (rl_iconst (c := 0) (k := (0 : Int32)) (by decide +kernel) (by decide)) ?_
  refine Eq.trans (rl_put (ix := 22) (ci := 2) (j := 2) (by decide +kernel) (by decide +kernel) (by decide +kernel) (by decide +kernel) (ck21 hn hk)) ?_
  refine Eq.trans (rl_aloadn (j := 0) (by decide +kernel) rfl) ?_
  refine Eq.trans (rl_iconst (c := 0) (k := (0 : Int32)) (by decide +kernel) (by decide)) ?_
  refine Eq.trans (rl_put (ix := 25) (ci := 2) (j := 3) (by decide +kernel) (by decide +kernel) (by decide +kernel) (by decide +kernel) (ck21 hn hk)) ?_
  refine Eq.trans (rl_aloadn (j := 0) (by decide +kernel) rfl) ?_
  refine Eq.trans (rl_iconst (c := 0) (k := (0 : Int32)) (by decide +kernel) (by decide)) ?_
  refine Eq.trans (rl_put (ix := 28) (ci := 2) (j := 4) (by decide +kernel) (by decide +kernel) (by decide +kernel) (by decide +kernel) (ck21 hn hk)) ?_
  refine Eq.trans (rl_aloadn (j := 0) (by decide +kernel) rfl) ?_
  refine Eq.trans (rl_iconst (c := 0) (k := (0 : Int32)) (by decide +kernel) (by decide)) ?_
  refine Eq.trans (rl_put (ix := 31) (ci := 2) (j := 5) (by decide +kernel) (by decide +kernel) (by decide +kernel) (by decide +kernel) (ck21 hn hk)) ?_
  refine Eq.trans (rl_aloadn (j := 0) (by decide +kernel) rfl) ?_
  refine Eq.trans (rl_iconst (c := 0) (k := (0 : Int32)) (by decide +kernel) (by decide)) ?_
  refine Eq.trans (rl_put (ix := 34) (ci := 2) (j := 6) (by decide +kernel) (by decide +kernel) (by decide +kernel) (by decide +kernel) (ck21 hn hk)) ?_
  exact rl_ret (by decide +kernel) rfl
theorem b17_0 {n k n2 k2 : Nat} {M : am_M} {w : am_W4} (hn : n < 12) (hk : k < 6) (hn2 : n2 < 12) (hk2 : k2 < 6) : am_rn call 17 0 [some (am_P (21, n, k)), some (am_P (21, n2, k2))] [] M (am_Z w) = am_rn call 17 8 [some (am_P (21, n, k)), some (am_P (21, n2, k2))] [] (am_set M (21, n, k) 0 (M (21, n2, k2) 0)) (am_Z w) := by
  refine Eq.trans (rl_aloadn (j := 0) (by decide +kernel) rfl) ?_
  refine Eq.trans (rl_aloadn (j := 1) (by decide +kernel) rfl) ?_
  refine Eq.trans (rl_get (ix := 15) (ci := 2) (j := 0) (by decide +kernel) (by decide +kernel) (by decide +kernel) (ck21 hn2 hk2)) ?_
  refine Eq.trans (rl_put (ix := 15) (ci := 2) (j := 0) (by decide +kernel) (by decide +kernel) (by decide +kernel) (by decide +kernel) (ck21 hn hk)) ?_
  rfl
theorem b17_8 {n k n2 k2 : Nat} {M : am_M} {w : am_W4} (hn : n < 12) (hk : k < 6) (hn2 : n2 < 12) (hk2 : k2 < 6) : am_rn call 17 8 [some (am_P (21, n, k)), some (am_P (21, n2, k2))] [] M (am_Z w) = am_rn call 17 16 [some (am_P (21, n, k)), some (am_P (21, n2, k2))] [] (am_set M (21, n, k) 1 (M (21, n2, k2) 1)) (am_Z w) := by
  refine Eq.trans (rl_aloadn (j := 0) (by decide +kernel) rfl) ?_
  refine Eq.trans (rl_aloadn (j := 1) (by decide +kernel) rfl) ?_
  refine Eq.trans (rl_get (ix := 19) (ci := 2) (j := 1) (by decide +kernel) (by decide +kernel) (by decide +kernel) (ck21 hn2 hk2)) ?_
  refine Eq.trans (rl_put (ix := 19) (ci := 2) (j := 1) (by decide +kernel) (by decide +kernel) (by decide +kernel) (by decide +kernel) (ck21 hn hk)) ?_
  rfl
theorem b17_16 {n k n2 k2 : Nat} {M : am_M} {w : am_W4} (hn : n < 12) (hk : k < 6) (hn2 : n2 < 12) (hk2 : k2 < 6) : am_rn call 17 16 [some (am_P (21, n, k)), some (am_P (21, n2, k2))] [] M (am_Z w) = am_rn call 17 24 [some (am_P (21, n, k)), some (am_P (21, n2, k2))] [] (am_set M (21, n, k) 2 (M (21, n2, k2) 2)) (am_Z w) := by
  refine Eq.trans (rl_aloadn (j := 0) (by decide +kernel) rfl) ?_
  refine Eq.trans (rl_aloadn (j := 1) (by decide +kernel) rfl) ?_
  refine Eq.trans (rl_get (ix := 22) (ci := 2) (j := 2) (by decide +kernel) (by decide +kernel) (by decide +kernel) (ck21 hn2 hk2)) ?_
  refine Eq.trans (rl_put (ix := 22) (ci := 2) (j := 2) (by decide +kernel) (by decide +kernel) (by decide +kernel) (by decide +kernel) (ck21 hn hk)) ?_
  rfl
theorem b17_24 {n k n2 k2 : Nat} {M : am_M} {w : am_W4} (hn : n < 12) (hk : k < 6) (hn2 : n2 < 12) (hk2 : k2 < 6) : am_rn call 17 24 [some (am_P (21, n, k)), some (am_P (21, n2, k2))] [] M (am_Z w) = am_rn call 17 32 [some (am_P (21, n, k)), some (am_P (21, n2, k2))] [] (am_set M (21, n, k) 3 (M (21, n2, k2) 3)) (am_Z w) := by
  refine Eq.trans (rl_aloadn (j := 0) (by decide +kernel) rfl) ?_
  refine Eq.trans (rl_aloadn (j := 1) (by decide +kernel) rfl) ?_
  refine Eq.trans (rl_get (ix := 25) (ci := 2) (j := 3) (by decide +kernel) (by decide +kernel) (by decide +kernel) (ck21 hn2 hk2)) ?_
  refine Eq.trans (rl_put (ix := 25) (ci := 2) (j := 3) (by decide +kernel) (by decide +kernel) (by decide +kernel) (by decide +kernel) (ck21 hn hk)) ?_
  rfl
theorem b17_32 {n k n2 k2 : Nat} {M : am_M} {w : am_W4} (hn : n < 12) (hk : k < 6) (hn2 : n2 < 12) (hk2 : k2 < 6) : am_rn call 17 32 [some (am_P (21, n, k)), some (am_P (21, n2, k2))] [] M (am_Z w) = am_rn call 17 40 [some (am_P (21, n, k)), some (am_P (21, n2, k2))] [] (am_set M (21, n, k) 4 (M (21, n2, k2) 4)) (am_Z w) := by
  refine Eq.trans (rl_aloadn (j := 0) (by decide +kernel) rfl) ?_
  refine Eq.trans (rl_aloadn (j := 1) (by decide +kernel) rfl) ?_
  refine Eq.trans (rl_get (ix := 28) (ci := 2) (j := 4) (by decide +kernel) (by decide +kernel) (by decide +kernel) (ck21 hn2 hk2)) ?_
  refine Eq.trans (rl_put (ix := 28) (ci := 2) (j := 4) (by decide +kernel) (by decide +kernel) (by decide +kernel) (by decide +kernel) (ck21 hn hk)) ?_
  rfl
theorem b17_40 {n k n2 k2 : Nat} {M : am_M} {w : am_W4} (hn : n < 12) (hk : k < 6) (hn2 : n2 < 12) (hk2 : k2 < 6) : am_rn call 17 40 [some (am_P (21, n, k)), some (am_P (21, n2, k2))] [] M (am_Z w) = am_rn call 17 48 [some (am_P (21, n, k)), some (am_P (21, n2, k2))] [] (am_set M (21, n, k) 5 (M (21, n2, k2) 5)) (am_Z w) := by
  refine Eq.trans (rl_aloadn (j := 0) (by decide +kernel) rfl) ?_
  refine Eq.trans (rl_aloadn (j := 1) (by decide +kernel) rfl) ?_
  refine Eq.trans (rl_get (ix := 31) (ci := 2) (j := 5) (by decide +kernel) (by decide +kernel) (by decide +kernel) (ck21 hn2 hk2)) ?_
  refine Eq.trans (rl_put (ix := 31) (ci := 2) (j := 5) (by decide +kernel) (by decide +kernel) (by decide +kernel) (by decide +kernel) (ck21 hn hk)) ?_
  rfl
theorem b17_48 {n k n2 k2 : Nat} {M : am_M} {w : am_W4} (hn : n < 12) (hk : k < 6) (hn2 : n2 < 12) (hk2 : k2 < 6) (hne : n ≠ n2) : am_rn call 17 48 [some (am_P (21, n, k)), some (am_P (21, n2, k2))] [] M (am_Z w) = some (.inl none, (am_cp (am_set M (21, n, k) 6 (M (21, n2, k2) 6)) (22, n2, k2) (22, n, k) 0 0 16), (am_Z w)) := by
  refine Eq.trans (rl_aloadn (j := 0) (by decide +kernel) rfl) ?_
  refine Eq.trans (rl_aloadn (j := 1) (by decide +kernel) rfl) ?_
  refine Eq.trans (rl_get (ix := 34) (ci := 2) (j := 6) (by decide +kernel) (by decide +kernel) (by decide +kernel) (ck21 hn2 hk2)) ?_
  refine Eq.trans (rl_put (ix := 34) (ci := 2) (j := 6) (by decide +kernel) (by decide +kernel) (by decide +kernel) (by decide +kernel) (ck21 hn hk)) ?_
  refine Eq.trans (rl_aloadn (j := 1) (by decide +kernel) rfl) ?_
  refine Eq.trans (rl_getP (ix := 9) (ci := 2) (j := 7) (by decide +kernel) (by decide +kernel) (by decide +kernel) (ck21 hn2 hk2) rfl) ?_
  refine Eq.trans (rl_iconst (c := 0) (k := (0 : Int32)) (by decide +kernel) (by decide)) ?_
  refine Eq.trans (rl_aloadn (j := 0) (by decide +kernel) rfl) ?_
  refine Eq.trans (rl_getP (ix := 9) (ci := 2) (j := 7) (by decide +kernel) (by decide +kernel) (by decide +kernel) (ck21 hn hk) rfl) ?_
  refine Eq.trans (rl_iconst (c := 0) (k := (0 : Int32)) (by decide +kernel) (by decide)) ?_
  refine Eq.trans (rl_bipush (c := 16) (k := (16 : Int32)) (by decide +kernel) (by decide)) ?_
  refine Eq.trans (rl_copy' (ix := 37) (y0 := 0) 0 0 16 (by decide +kernel) (by decide +kernel) rfl (ka22 hn hk) (ka22 hn2 hk2) (fun e => hne (congrArg (fun l : am_L => l.2.1) e)) rfl rfl rfl rfl) ?_
  exact rl_ret (by decide +kernel) rfl
theorem b18_0 {n k : Nat} {x1 : Int32} {M : am_M} {w : am_W4} (hn : n < 12) (hk : k < 6) : am_rn call 18 0 [some (am_P (21, n, k)), some (am_I x1)] [] M (am_Z w) = if (M (21, n, k) 3) < (M (21, n, k) 2) then if x1 < (M (21, n, k) 2) then if x1 < (M (21, n, k) 3) then some (.inl (some (am_I (1 : Int32))), M, (am_Z w)) else some (.inl (some (am_I (0 : Int32))), M, (am_Z w)) else some (.inl (some (am_I (1 : Int32))), M, (am_Z w)) else if x1 < (M (21, n, k) 2) then some (.inl (some (am_I (0 : Int32))), M, (am_Z w)) else if x1 < (M (21, n, k) 3) then some (.inl (some (am_I (1 : Int32))), M, (am_Z w)) else some (.inl (some (am_I (0 : Int32))), M, (am_Z w)) := by
  refine Eq.trans (rl_aloadn (j := 0) (by decide +kernel) rfl) ?_
  refine Eq.trans (rl_get (ix := 22) (ci := 2) (j := 2) (by decide +kernel) (by decide +kernel) (by decide +kernel) (ck21 hn hk)) ?_
  refine Eq.trans (rl_aloadn (j := 0) (by decide +kernel) rfl) ?_
  refine Eq.trans (rl_get (ix := 25) (ci := 2) (j := 3) (by decide +kernel) (by decide +kernel) (by decide +kernel) (ck21 hn hk)) ?_
  refine Eq.trans (rl_icgt (o := 25) 33 (by decide +kernel) (by decide)) ?_
  refine am_ite (fun h_1 => ?_) (fun h_1 => ?_)
  · skip
    refine Eq.trans (rl_iloadn (j := 1) (by decide +kernel) rfl) ?_
    refine Eq.trans (rl_aloadn (j := 0) (by decide +kernel) rfl) ?_
    refine Eq.trans (rl_get (ix := 22) (ci := 2) (j := 2) (by decide +kernel) (by decide +kernel) (by decide +kernel) (ck21 hn hk)) ?_
    refine Eq.trans (rl_icge (o := 11) 49 (by decide +kernel) (by decide)) ?_
    refine am_ite (fun h_2 => ?_) (fun h_2 => ?_)
    · skip
      refine Eq.trans (rl_iloadn (j := 1) (by decide +kernel) rfl) ?_
      refine Eq.trans (rl_aloadn (j := 0) (by decide +kernel) rfl) ?_
      refine Eq.trans (rl_get (ix := 25) (ci := 2) (j := 3) (by decide +kernel) (by decide +kernel) (by decide +kernel) (ck21 hn hk)) ?_
      refine Eq.trans (rl_icge (o := 7) 53 (by decide +kernel) (by decide)) ?_
      refine am_ite (fun h_3 => ?_) (fun h_3 => ?_)
      · skip
        refine Eq.trans (rl_iconst (c := 1) (k := (1 : Int32)) (by decide +kernel) (by decide)) ?_
        refine Eq.trans (rl_goto (o := 4) 54 (by decide +kernel) (by decide)) ?_
        exact rl_zretk (by decide +kernel) rfl rfl
      · skip
        refine Eq.trans (rl_iconst (c := 0) (k := (0 : Int32)) (by decide +kernel) (by decide)) ?_
        exact rl_zretk (by decide +kernel) rfl rfl
    · skip
      refine Eq.trans (rl_iconst (c := 1) (k := (1 : Int32)) (by decide +kernel) (by decide)) ?_
      refine Eq.trans (rl_goto (o := 4) 54 (by decide +kernel) (by decide)) ?_
      exact rl_zretk (by decide +kernel) rfl rfl
  · skip
    refine Eq.trans (rl_iloadn (j := 1) (by decide +kernel) rfl) ?_
    refine Eq.trans (rl_aloadn (j := 0) (by decide +kernel) rfl) ?_
    refine Eq.trans (rl_get (ix := 22) (ci := 2) (j := 2) (by decide +kernel) (by decide +kernel) (by decide +kernel) (ck21 hn hk)) ?_
    refine Eq.trans (rl_iclt (o := 15) 31 (by decide +kernel) (by decide)) ?_
    refine am_ite (fun h_4 => ?_) (fun h_4 => ?_)
    · skip
      refine Eq.trans (rl_iconst (c := 0) (k := (0 : Int32)) (by decide +kernel) (by decide)) ?_
      exact rl_zretk (by decide +kernel) rfl rfl
    · skip
      refine Eq.trans (rl_iloadn (j := 1) (by decide +kernel) rfl) ?_
      refine Eq.trans (rl_aloadn (j := 0) (by decide +kernel) rfl) ?_
      refine Eq.trans (rl_get (ix := 25) (ci := 2) (j := 3) (by decide +kernel) (by decide +kernel) (by decide +kernel) (ck21 hn hk)) ?_
      refine Eq.trans (rl_icge (o := 7) 31 (by decide +kernel) (by decide)) ?_
      refine am_ite (fun h_5 => ?_) (fun h_5 => ?_)
      · skip
        refine Eq.trans (rl_iconst (c := 1) (k := (1 : Int32)) (by decide +kernel) (by decide)) ?_
        refine Eq.trans (rl_goto (o := 4) 32 (by decide +kernel) (by decide)) ?_
        exact rl_zretk (by decide +kernel) rfl rfl
      · skip
        refine Eq.trans (rl_iconst (c := 0) (k := (0 : Int32)) (by decide +kernel) (by decide)) ?_
        exact rl_zretk (by decide +kernel) rfl rfl
theorem b19_0 {n k : Nat} {x1 : Int32} {M : am_M} {w : am_W4} (hn : n < 12) (hk : k < 6) : am_rn call 19 0 [some (am_P (21, n, k)), some (am_I x1)] [] M (am_Z w) = if (M (21, n, k) 6) < (16 : Int32) then if am_in (M (21, n, k) 6) 16 then am_rn call 19 19 [some (am_P (21, n, k)), some (am_I x1)] [] (am_set M (22, n, k) (M (21, n, k) 6).toNatClampNeg x1) (am_Z w) else none else some (.inl none, M, (am_Z w)) := by
  refine Eq.trans (rl_aloadn (j := 0) (by decide +kernel) rfl) ?_
  refine Eq.trans (rl_get (ix := 34) (ci := 2) (j := 6) (by decide +kernel) (by decide +kernel) (by decide +kernel) (ck21 hn hk)) ?_
  refine Eq.trans (rl_bipush (c := 16) (k := (16 : Int32)) (by decide +kernel) (by decide)) ?_
  refine Eq.trans (rl_icge (o := 23) 29 (by decide +kernel) (by decide)) ?_
  refine am_ite (fun h_1 => ?_) (fun h_1 => ?_)
  · skip
    refine Eq.trans (rl_aloadn (j := 0) (by decide +kernel) rfl) ?_
    refine Eq.trans (rl_getP (ix := 9) (ci := 2) (j := 7) (by decide +kernel) (by decide +kernel) (by decide +kernel) (ck21 hn hk) rfl) ?_
    refine Eq.trans (rl_aloadn (j := 0) (by decide +kernel) rfl) ?_
    refine Eq.trans (rl_get (ix := 34) (ci := 2) (j := 6) (by decide +kernel) (by decide +kernel) (by decide +kernel) (ck21 hn hk)) ?_
    refine Eq.trans (rl_iloadn (j := 1) (by decide +kernel) rfl) ?_
    refine Eq.trans (rl_iast (by decide +kernel) (ka22 hn hk)) ?_
    refine am_ite (fun h_2 => ?_) (fun _ => rfl)
    rfl
  · skip
    exact rl_ret (by decide +kernel) rfl
theorem b19_19 {n k : Nat} {x1 : Int32} {M : am_M} {w : am_W4} (hn : n < 12) (hk : k < 6) : am_rn call 19 19 [some (am_P (21, n, k)), some (am_I x1)] [] M (am_Z w) = some (.inl none, (am_set M (21, n, k) 6 ((M (21, n, k) 6) + (1 : Int32))), (am_Z w)) := by
  refine Eq.trans (rl_aloadn (j := 0) (by decide +kernel) rfl) ?_
  refine Eq.trans (rl_dup (by decide +kernel) rfl) ?_
  refine Eq.trans (rl_get (ix := 34) (ci := 2) (j := 6) (by decide +kernel) (by decide +kernel) (by decide +kernel) (ck21 hn hk)) ?_
  refine Eq.trans (rl_iconst (c := 1) (k := (1 : Int32)) (by decide +kernel) (by decide)) ?_
  refine Eq.trans (rl_iadd (by decide +kernel)) ?_
  refine Eq.trans (rl_put (ix := 34) (ci := 2) (j := 6) (by decide +kernel) (by decide +kernel) (by decide +kernel) (by decide +kernel) (ck21 hn hk)) ?_
  exact rl_ret (by decide +kernel) rfl
theorem b20_0 {n k : Nat} {x1 : Int32} {M : am_M} {w : am_W4} (hn : n < 12) (hk : k < 6) : am_rn call 20 0 [some (am_P (21, n, k)), some (am_I x1), none, none] [] M (am_Z w) = am_rn call 20 4 [some (am_P (21, n, k)), some (am_I x1), some (am_I (0 : Int32)), some (am_I (0 : Int32))] [] M (am_Z w) := by
  refine Eq.trans (rl_iconst (c := 0) (k := (0 : Int32)) (by decide +kernel) (by decide)) ?_
  refine Eq.trans (rl_istoren (j := 2) (ls' := [some (am_P (21, n, k)), some (am_I x1), some (am_I (0 : Int32)), none]) (by decide +kernel) rfl rfl) ?_
  refine Eq.trans (rl_iconst (c := 0) (k := (0 : Int32)) (by decide +kernel) (by decide)) ?_
  refine Eq.trans (rl_istoren (j := 3) (ls' := [some (am_P (21, n, k)), some (am_I x1), some (am_I (0 : Int32)), some (am_I (0 : Int32))]) (by decide +kernel) rfl rfl) ?_
  rfl
theorem b20_4 {n k : Nat} {x1 x2 x3 : Int32} {M : am_M} {w : am_W4} (hn : n < 12) (hk : k < 6) : am_rn call 20 4 [some (am_P (21, n, k)), some (am_I x1), some (am_I x2), some (am_I x3)] [] M (am_Z w) = if x3 < (M (21, n, k) 6) then if am_in x3 16 then if (M (22, n, k) x3.toNatClampNeg) = x1 then am_rn call 20 37 [some (am_P (21, n, k)), some (am_I x1), some (am_I x2), some (am_I x3)] [] M (am_Z w) else if am_in x3 16 then if am_in x2 16 then am_rn call 20 37 [some (am_P (21, n, k)), some (am_I x1), some (am_I (x2 + (1 : Int32))), some (am_I x3)] [] (am_set M (22, n, k) x2.toNatClampNeg (M (22, n, k) x3.toNatClampNeg)) (am_Z w) else none else none else none else some (.inl none, (am_set M (21, n, k) 6 x2), (am_Z w)) := by
  refine Eq.trans (rl_iloadn (j := 3) (by decide +kernel) rfl) ?_
  refine Eq.trans (rl_aloadn (j := 0) (by decide +kernel) rfl) ?_
  refine Eq.trans (rl_get (ix := 34) (ci := 2) (j := 6) (by decide +kernel) (by decide +kernel) (by decide +kernel) (ck21 hn hk)) ?_
  refine Eq.trans (rl_icge (o := 34) 43 (by decide +kernel) (by decide)) ?_
  refine am_ite (fun h_1 => ?_) (fun h_1 => ?_)
  · skip
    refine Eq.trans (rl_aloadn (j := 0) (by decide +kernel) rfl) ?_
    refine Eq.trans (rl_getP (ix := 9) (ci := 2) (j := 7) (by decide +kernel) (by decide +kernel) (by decide +kernel) (ck21 hn hk) rfl) ?_
    refine Eq.trans (rl_iloadn (j := 3) (by decide +kernel) rfl) ?_
    refine Eq.trans (rl_iald (by decide +kernel) (ka22 hn hk)) ?_
    refine am_ite (fun h_2 => ?_) (fun _ => rfl)
    refine Eq.trans (rl_iloadn (j := 1) (by decide +kernel) rfl) ?_
    refine Eq.trans (rl_iceq (o := 18) 37 (by decide +kernel) (by decide)) ?_
    refine am_ite (fun h_3 => ?_) (fun h_3 => ?_)
    · skip
      rfl
    · skip
      refine Eq.trans (rl_aloadn (j := 0) (by decide +kernel) rfl) ?_
      refine Eq.trans (rl_getP (ix := 9) (ci := 2) (j := 7) (by decide +kernel) (by decide +kernel) (by decide +kernel) (ck21 hn hk) rfl) ?_
      refine Eq.trans (rl_iloadn (j := 2) (by decide +kernel) rfl) ?_
      refine Eq.trans (rl_aloadn (j := 0) (by decide +kernel) rfl) ?_
      refine Eq.trans (rl_getP (ix := 9) (ci := 2) (j := 7) (by decide +kernel) (by decide +kernel) (by decide +kernel) (ck21 hn hk) rfl) ?_
      refine Eq.trans (rl_iloadn (j := 3) (by decide +kernel) rfl) ?_
      refine Eq.trans (rl_iald (by decide +kernel) (ka22 hn hk)) ?_
      refine am_ite (fun h_4 => ?_) (fun _ => rfl)
      refine Eq.trans (rl_iast (by decide +kernel) (ka22 hn hk)) ?_
      refine am_ite (fun h_5 => ?_) (fun _ => rfl)
      refine Eq.trans (rl_iinc (j := 2) (c := 1) (k := (1 : Int32)) (ls' := [some (am_P (21, n, k)), some (am_I x1), some (am_I (x2 + (1 : Int32))), some (am_I x3)]) (by decide +kernel) (by decide) rfl rfl) ?_
      rfl
  · skip
    refine Eq.trans (rl_aloadn (j := 0) (by decide +kernel) rfl) ?_
    refine Eq.trans (rl_iloadn (j := 2) (by decide +kernel) rfl) ?_
    refine Eq.trans (rl_put (ix := 34) (ci := 2) (j := 6) (by decide +kernel) (by decide +kernel) (by decide +kernel) (by decide +kernel) (ck21 hn hk)) ?_
    exact rl_ret (by decide +kernel) rfl
theorem b20_37 {n k : Nat} {x1 x2 x3 : Int32} {M : am_M} {w : am_W4} (hn : n < 12) (hk : k < 6) : am_rn call 20 37 [some (am_P (21, n, k)), some (am_I x1), some (am_I x2), some (am_I x3)] [] M (am_Z w) = am_rn call 20 4 [some (am_P (21, n, k)), some (am_I x1), some (am_I x2), some (am_I (x3 + (1 : Int32)))] [] M (am_Z w) := by
  refine Eq.trans (rl_iinc (j := 3) (c := 1) (k := (1 : Int32)) (ls' := [some (am_P (21, n, k)), some (am_I x1), some (am_I x2), some (am_I (x3 + (1 : Int32)))]) (by decide +kernel) (by decide) rfl rfl) ?_
  refine Eq.trans (rl_goto (o := (-36)) 4 (by decide +kernel) (by decide)) ?_
  rfl
theorem b22_0  {M : am_M} {w : am_W4}  : am_rn call 22 0 [some (am_P (4, 0, 0))] [] M (am_Z w) = if am_in (M (4, 0, 0) 1) 9 then some (.inl (some (am_P (13, ((M (4, 0, 0) 1).toNatClampNeg + 3), 0))), M, (am_Z w)) else none := by
  refine Eq.trans (rl_aloadn (j := 0) (by decide +kernel) rfl) ?_
  refine Eq.trans (rl_getP (ix := 11) (ci := 3) (j := 0) (by decide +kernel) (by decide +kernel) (by decide +kernel) ck4 rfl) ?_
  refine Eq.trans (rl_aloadn (j := 0) (by decide +kernel) rfl) ?_
  refine Eq.trans (rl_get (ix := 18) (ci := 3) (j := 1) (by decide +kernel) (by decide +kernel) (by decide +kernel) ck4) ?_
  refine Eq.trans (rl_aald (v := (13, ((M (4, 0, 0) 1).toNatClampNeg + 3), 0)) (by decide +kernel) ka5 (fun h => if_pos (am_in_lt' h))) ?_
  refine am_ite (fun h_1 => ?_) (fun _ => rfl)
  exact rl_aret (by decide +kernel) rfl
theorem b23_0  {M : am_M} {w : am_W4}  : am_rn call 23 0 [some (am_P (4, 0, 0))] [] M (am_Z w) = am_rn call 23 13 [some (am_P (4, 0, 0))] [] (am_set M (4, 0, 0) 1 (((M (4, 0, 0) 1) + (1 : Int32)) - ((M (4, 0, 0) 1) + (1 : Int32)) / (9 : Int32) * (9 : Int32))) (am_Z w) := by
  refine Eq.trans (rl_aloadn (j := 0) (by decide +kernel) rfl) ?_
  refine Eq.trans (rl_aloadn (j := 0) (by decide +kernel) rfl) ?_
  refine Eq.trans (rl_get (ix := 18) (ci := 3) (j := 1) (by decide +kernel) (by decide +kernel) (by decide +kernel) ck4) ?_
  refine Eq.trans (rl_iconst (c := 1) (k := (1 : Int32)) (by decide +kernel) (by decide)) ?_
  refine Eq.trans (rl_iadd (by decide +kernel)) ?_
  refine Eq.trans (rl_bipush (c := 9) (k := (9 : Int32)) (by decide +kernel) (by decide)) ?_
  refine Eq.trans (rl_irem (by decide +kernel) rfl) ?_
  refine Eq.trans (rl_put (ix := 18) (ci := 3) (j := 1) (by decide +kernel) (by decide +kernel) (by decide +kernel) (by decide +kernel) ck4) ?_
  rfl
theorem b23_13  {M : am_M} {w : am_W4}  : am_rn call 23 13 [some (am_P (4, 0, 0))] [] M (am_Z w) = if (M (4, 0, 0) 2) < (8 : Int32) then some (.inl none, (am_set M (4, 0, 0) 2 ((M (4, 0, 0) 2) + (1 : Int32))), (am_Z w)) else some (.inl none, M, (am_Z w)) := by
  refine Eq.trans (rl_aloadn (j := 0) (by decide +kernel) rfl) ?_
  refine Eq.trans (rl_get (ix := 22) (ci := 3) (j := 2) (by decide +kernel) (by decide +kernel) (by decide +kernel) ck4) ?_
  refine Eq.trans (rl_bipush (c := 8) (k := (8 : Int32)) (by decide +kernel) (by decide)) ?_
  refine Eq.trans (rl_icge (o := 13) 32 (by decide +kernel) (by decide)) ?_
  refine am_ite (fun h_1 => ?_) (fun h_1 => ?_)
  · skip
    refine Eq.trans (rl_aloadn (j := 0) (by decide +kernel) rfl) ?_
    refine Eq.trans (rl_dup (by decide +kernel) rfl) ?_
    refine Eq.trans (rl_get (ix := 22) (ci := 3) (j := 2) (by decide +kernel) (by decide +kernel) (by decide +kernel) ck4) ?_
    refine Eq.trans (rl_iconst (c := 1) (k := (1 : Int32)) (by decide +kernel) (by decide)) ?_
    refine Eq.trans (rl_iadd (by decide +kernel)) ?_
    refine Eq.trans (rl_put (ix := 22) (ci := 3) (j := 2) (by decide +kernel) (by decide +kernel) (by decide +kernel) (by decide +kernel) ck4) ?_
    exact rl_ret (by decide +kernel) rfl
  · skip
    exact rl_ret (by decide +kernel) rfl
theorem b24_0  {M : am_M} {w : am_W4}  : am_rn call 24 0 [some (am_P (4, 0, 0))] [] M (am_Z w) = am_rn call 24 14 [some (am_P (4, 0, 0))] [] (am_set M (4, 0, 0) 1 (((M (4, 0, 0) 1) + (8 : Int32)) - ((M (4, 0, 0) 1) + (8 : Int32)) / (9 : Int32) * (9 : Int32))) (am_Z w) := by
  refine Eq.trans (rl_aloadn (j := 0) (by decide +kernel) rfl) ?_
  refine Eq.trans (rl_aloadn (j := 0) (by decide +kernel) rfl) ?_
  refine Eq.trans (rl_get (ix := 18) (ci := 3) (j := 1) (by decide +kernel) (by decide +kernel) (by decide +kernel) ck4) ?_
  refine Eq.trans (rl_bipush (c := 8) (k := (8 : Int32)) (by decide +kernel) (by decide)) ?_
  refine Eq.trans (rl_iadd (by decide +kernel)) ?_
  refine Eq.trans (rl_bipush (c := 9) (k := (9 : Int32)) (by decide +kernel) (by decide)) ?_
  refine Eq.trans (rl_irem (by decide +kernel) rfl) ?_
  refine Eq.trans (rl_put (ix := 18) (ci := 3) (j := 1) (by decide +kernel) (by decide +kernel) (by decide +kernel) (by decide +kernel) ck4) ?_
  rfl
theorem b24_14  {M : am_M} {w : am_W4}  : am_rn call 24 14 [some (am_P (4, 0, 0))] [] M (am_Z w) = am_rn call 24 24 [some (am_P (4, 0, 0))] [] (am_set M (4, 0, 0) 2 ((M (4, 0, 0) 2) - (1 : Int32))) (am_Z w) := by
  refine Eq.trans (rl_aloadn (j := 0) (by decide +kernel) rfl) ?_
  refine Eq.trans (rl_dup (by decide +kernel) rfl) ?_
  refine Eq.trans (rl_get (ix := 22) (ci := 3) (j := 2) (by decide +kernel) (by decide +kernel) (by decide +kernel) ck4) ?_
  refine Eq.trans (rl_iconst (c := 1) (k := (1 : Int32)) (by decide +kernel) (by decide)) ?_
  refine Eq.trans (rl_isub (by decide +kernel)) ?_
  refine Eq.trans (rl_put (ix := 22) (ci := 3) (j := 2) (by decide +kernel) (by decide +kernel) (by decide +kernel) (by decide +kernel) ck4) ?_
  rfl
theorem b24_24  {M : am_M} {w : am_W4}  : am_rn call 24 24 [some (am_P (4, 0, 0))] [] M (am_Z w) = if am_in (M (4, 0, 0) 1) 9 then some (.inl (some (am_P (13, ((M (4, 0, 0) 1).toNatClampNeg + 3), 0))), M, (am_Z w)) else none := by
  refine Eq.trans (rl_aloadn (j := 0) (by decide +kernel) rfl) ?_
  refine Eq.trans (rl_getP (ix := 11) (ci := 3) (j := 0) (by decide +kernel) (by decide +kernel) (by decide +kernel) ck4 rfl) ?_
  refine Eq.trans (rl_aloadn (j := 0) (by decide +kernel) rfl) ?_
  refine Eq.trans (rl_get (ix := 18) (ci := 3) (j := 1) (by decide +kernel) (by decide +kernel) (by decide +kernel) ck4) ?_
  refine Eq.trans (rl_aald (v := (13, ((M (4, 0, 0) 1).toNatClampNeg + 3), 0)) (by decide +kernel) ka5 (fun h => if_pos (am_in_lt' h))) ?_
  refine am_ite (fun h_1 => ?_) (fun _ => rfl)
  exact rl_aret (by decide +kernel) rfl
theorem b26_0 {n k : Nat} {x1 x2 x3 : Int32} {M : am_M} {w : am_W4} (hn : n < 12) (hk : k < 16) : am_rn call 26 0 [some (am_P (24, n, k)), some (am_I x1), some (am_I x2), some (am_I x3)] [] M (am_Z w) = am_cb (call 28 [am_P (24, n, k), am_I (0 : Int32)] (am_set (am_set (am_set (am_set (am_set M (24, n, k) 0 x1) (24, n, k) 1 x2) (24, n, k) 2 x1) (24, n, k) 3 (0 : Int32)) (24, n, k) 4 x3) (am_Z w)) fun v M' X' => am_rn call 26 30 [some (am_P (24, n, k)), some (am_I x1), some (am_I x2), some (am_I x3)] (v.toList ++ []) M' X' := by
  refine Eq.trans (rl_aloadn (j := 0) (by decide +kernel) rfl) ?_
  refine Eq.trans (rl_iloadn (j := 1) (by decide +kernel) rfl) ?_
  refine Eq.trans (rl_put (ix := 15) (ci := 4) (j := 0) (by decide +kernel) (by decide +kernel) (by decide +kernel) (by decide +kernel) (ck24 hn hk)) ?_
  refine Eq.trans (rl_aloadn (j := 0) (by decide +kernel) rfl) ?_
  refine Eq.trans (rl_iloadn (j := 2) (by decide +kernel) rfl) ?_
  refine Eq.trans (rl_put (ix := 19) (ci := 4) (j := 1) (by decide +kernel) (by decide +kernel) (by decide +kernel) (by decide +kernel) (ck24 hn hk)) ?_
  refine Eq.trans (rl_aloadn (j := 0) (by decide +kernel) rfl) ?_
  refine Eq.trans (rl_iloadn (j := 1) (by decide +kernel) rfl) ?_
  refine Eq.trans (rl_put (ix := 22) (ci := 4) (j := 2) (by decide +kernel) (by decide +kernel) (by decide +kernel) (by decide +kernel) (ck24 hn hk)) ?_
  refine Eq.trans (rl_aloadn (j := 0) (by decide +kernel) rfl) ?_
  refine Eq.trans (rl_iconst (c := 0) (k := (0 : Int32)) (by decide +kernel) (by decide)) ?_
  refine Eq.trans (rl_put (ix := 25) (ci := 4) (j := 3) (by decide +kernel) (by decide +kernel) (by decide +kernel) (by decide +kernel) (ck24 hn hk)) ?_
  refine Eq.trans (rl_aloadn (j := 0) (by decide +kernel) rfl) ?_
  refine Eq.trans (rl_iloadn (j := 3) (by decide +kernel) rfl) ?_
  refine Eq.trans (rl_put (ix := 28) (ci := 4) (j := 4) (by decide +kernel) (by decide +kernel) (by decide +kernel) (by decide +kernel) (ck24 hn hk)) ?_
  refine Eq.trans (rl_aloadn (j := 0) (by decide +kernel) rfl) ?_
  refine Eq.trans (rl_iconst (c := 0) (k := (0 : Int32)) (by decide +kernel) (by decide)) ?_
  refine Eq.trans (rl_inv (ix := 31) (n := 1) (o := 4) 28 [am_I (0 : Int32)] [] (by decide +kernel) (by decide +kernel) (by decide +kernel) (by decide +kernel) ⟨rfl, rfl⟩ rfl rfl (ck24 hn hk)) ?_
  rfl
theorem b26_30 {n k : Nat} {x1 x2 x3 : Int32} {M : am_M} {w : am_W4} (hn : n < 12) (hk : k < 16) : am_rn call 26 30 [some (am_P (24, n, k)), some (am_I x1), some (am_I x2), some (am_I x3)] [] M (am_Z w) = some (.inl none, M, (am_Z w)) := by
  exact rl_ret (by decide +kernel) rfl
theorem b27_0 {n k n2 k2 : Nat} {M : am_M} {w : am_W4} (hn : n < 12) (hk : k < 16) (hn2 : n2 < 12) (hk2 : k2 < 16) : am_rn call 27 0 [some (am_P (24, n, k)), some (am_P (24, n2, k2))] [] M (am_Z w) = am_rn call 27 8 [some (am_P (24, n, k)), some (am_P (24, n2, k2))] [] (am_set M (24, n, k) 0 (M (24, n2, k2) 0)) (am_Z w) := by
  refine Eq.trans (rl_aloadn (j := 0) (by decide +kernel) rfl) ?_
  refine Eq.trans (rl_aloadn (j := 1) (by decide +kernel) rfl) ?_
  refine Eq.trans (rl_get (ix := 15) (ci := 4) (j := 0) (by decide +kernel) (by decide +kernel) (by decide +kernel) (ck24 hn2 hk2)) ?_
  refine Eq.trans (rl_put (ix := 15) (ci := 4) (j := 0) (by decide +kernel) (by decide +kernel) (by decide +kernel) (by decide +kernel) (ck24 hn hk)) ?_
  rfl
theorem b27_8 {n k n2 k2 : Nat} {M : am_M} {w : am_W4} (hn : n < 12) (hk : k < 16) (hn2 : n2 < 12) (hk2 : k2 < 16) : am_rn call 27 8 [some (am_P (24, n, k)), some (am_P (24, n2, k2))] [] M (am_Z w) = am_rn call 27 16 [some (am_P (24, n, k)), some (am_P (24, n2, k2))] [] (am_set M (24, n, k) 1 (M (24, n2, k2) 1)) (am_Z w) := by
  refine Eq.trans (rl_aloadn (j := 0) (by decide +kernel) rfl) ?_
  refine Eq.trans (rl_aloadn (j := 1) (by decide +kernel) rfl) ?_
  refine Eq.trans (rl_get (ix := 19) (ci := 4) (j := 1) (by decide +kernel) (by decide +kernel) (by decide +kernel) (ck24 hn2 hk2)) ?_
  refine Eq.trans (rl_put (ix := 19) (ci := 4) (j := 1) (by decide +kernel) (by decide +kernel) (by decide +kernel) (by decide +kernel) (ck24 hn hk)) ?_
  rfl
theorem b27_16 {n k n2 k2 : Nat} {M : am_M} {w : am_W4} (hn : n < 12) (hk : k < 16) (hn2 : n2 < 12) (hk2 : k2 < 16) : am_rn call 27 16 [some (am_P (24, n, k)), some (am_P (24, n2, k2))] [] M (am_Z w) = am_rn call 27 24 [some (am_P (24, n, k)), some (am_P (24, n2, k2))] [] (am_set M (24, n, k) 2 (M (24, n2, k2) 2)) (am_Z w) := by
  refine Eq.trans (rl_aloadn (j := 0) (by decide +kernel) rfl) ?_
  refine Eq.trans (rl_aloadn (j := 1) (by decide +kernel) rfl) ?_
  refine Eq.trans (rl_get (ix := 22) (ci := 4) (j := 2) (by decide +kernel) (by decide +kernel) (by decide +kernel) (ck24 hn2 hk2)) ?_
  refine Eq.trans (rl_put (ix := 22) (ci := 4) (j := 2) (by decide +kernel) (by decide +kernel) (by decide +kernel) (by decide +kernel) (ck24 hn hk)) ?_
  rfl
theorem b27_24 {n k n2 k2 : Nat} {M : am_M} {w : am_W4} (hn : n < 12) (hk : k < 16) (hn2 : n2 < 12) (hk2 : k2 < 16) : am_rn call 27 24 [some (am_P (24, n, k)), some (am_P (24, n2, k2))] [] M (am_Z w) = am_rn call 27 32 [some (am_P (24, n, k)), some (am_P (24, n2, k2))] [] (am_set M (24, n, k) 3 (M (24, n2, k2) 3)) (am_Z w) := by
  refine Eq.trans (rl_aloadn (j := 0) (by decide +kernel) rfl) ?_
  refine Eq.trans (rl_aloadn (j := 1) (by decide +kernel) rfl) ?_
  refine Eq.trans (rl_get (ix := 25) (ci := 4) (j := 3) (by decide +kernel) (by decide +kernel) (by decide +kernel) (ck24 hn2 hk2)) ?_
  refine Eq.trans (rl_put (ix := 25) (ci := 4) (j := 3) (by decide +kernel) (by decide +kernel) (by decide +kernel) (by decide +kernel) (ck24 hn hk)) ?_
  rfl
theorem b27_32 {n k n2 k2 : Nat} {M : am_M} {w : am_W4} (hn : n < 12) (hk : k < 16) (hn2 : n2 < 12) (hk2 : k2 < 16) : am_rn call 27 32 [some (am_P (24, n, k)), some (am_P (24, n2, k2))] [] M (am_Z w) = am_rn call 27 40 [some (am_P (24, n, k)), some (am_P (24, n2, k2))] [] (am_set M (24, n, k) 4 (M (24, n2, k2) 4)) (am_Z w) := by
  refine Eq.trans (rl_aloadn (j := 0) (by decide +kernel) rfl) ?_
  refine Eq.trans (rl_aloadn (j := 1) (by decide +kernel) rfl) ?_
  refine Eq.trans (rl_get (ix := 28) (ci := 4) (j := 4) (by decide +kernel) (by decide +kernel) (by decide +kernel) (ck24 hn2 hk2)) ?_
  refine Eq.trans (rl_put (ix := 28) (ci := 4) (j := 4) (by decide +kernel) (by decide +kernel) (by decide +kernel) (by decide +kernel) (ck24 hn hk)) ?_
  rfl
theorem b27_40 {n k n2 k2 : Nat} {M : am_M} {w : am_W4} (hn : n < 12) (hk : k < 16) (hn2 : n2 < 12) (hk2 : k2 < 16) : am_rn call 27 40 [some (am_P (24, n, k)), some (am_P (24, n2, k2))] [] M (am_Z w) = am_rn call 27 48 [some (am_P (24, n, k)), some (am_P (24, n2, k2))] [] (am_set M (24, n, k) 5 (M (24, n2, k2) 5)) (am_Z w) := by
  refine Eq.trans (rl_aloadn (j := 0) (by decide +kernel) rfl) ?_
  refine Eq.trans (rl_aloadn (j := 1) (by decide +kernel) rfl) ?_
  refine Eq.trans (rl_get (ix := 35) (ci := 4) (j := 5) (by decide +kernel) (by decide +kernel) (by decide +kernel) (ck24 hn2 hk2)) ?_
  refine Eq.trans (rl_put (ix := 35) (ci := 4) (j := 5) (by decide +kernel) (by decide +kernel) (by decide +kernel) (by decide +kernel) (ck24 hn hk)) ?_
  rfl
theorem b27_48 {n k n2 k2 : Nat} {M : am_M} {w : am_W4} (hn : n < 12) (hk : k < 16) (hn2 : n2 < 12) (hk2 : k2 < 16) : am_rn call 27 48 [some (am_P (24, n, k)), some (am_P (24, n2, k2))] [] M (am_Z w) = am_rn call 27 56 [some (am_P (24, n, k)), some (am_P (24, n2, k2))] [] (am_set M (24, n, k) 6 (M (24, n2, k2) 6)) (am_Z w) := by
  refine Eq.trans (rl_aloadn (j := 0) (by decide +kernel) rfl) ?_
  refine Eq.trans (rl_aloadn (j := 1) (by decide +kernel) rfl) ?_
  refine Eq.trans (rl_get (ix := 38) (ci := 4) (j := 6) (by decide +kernel) (by decide +kernel) (by decide +kernel) (ck24 hn2 hk2)) ?_
  refine Eq.trans (rl_put (ix := 38) (ci := 4) (j := 6) (by decide +kernel) (by decide +kernel) (by decide +kernel) (by decide +kernel) (ck24 hn hk)) ?_
  rfl
theorem b27_56 {n k n2 k2 : Nat} {M : am_M} {w : am_W4} (hn : n < 12) (hk : k < 16) (hn2 : n2 < 12) (hk2 : k2 < 16) : am_rn call 27 56 [some (am_P (24, n, k)), some (am_P (24, n2, k2))] [] M (am_Z w) = if am_pc 1 (M (24, n2, k2) 7) = true then am_rn call 27 64 [some (am_P (24, n, k)), some (am_P (24, n2, k2))] [] (am_set M (24, n, k) 7 (M (24, n2, k2) 7)) (am_Z w) else none := by
  refine Eq.trans (rl_aloadn (j := 0) (by decide +kernel) rfl) ?_
  refine Eq.trans (rl_aloadn (j := 1) (by decide +kernel) rfl) ?_
  refine Eq.trans (rl_get (ix := 41) (ci := 4) (j := 7) (by decide +kernel) (by decide +kernel) (by decide +kernel) (ck24 hn2 hk2)) ?_
  refine Eq.trans (rl_putZ (ix := 41) (ci := 4) (j := 7) (by decide +kernel) (by decide +kernel) (by decide +kernel) (by decide +kernel) (ck24 hn hk)) ?_
  refine am_ite (fun h_1 => ?_) (fun _ => rfl)
  rfl
theorem b27_64 {n k n2 k2 : Nat} {M : am_M} {w : am_W4} (hn : n < 12) (hk : k < 16) (hn2 : n2 < 12) (hk2 : k2 < 16) (hne : n ≠ n2) : am_rn call 27 64 [some (am_P (24, n, k)), some (am_P (24, n2, k2))] [] M (am_Z w) = some (.inl none, (am_cp (am_set M (24, n, k) 8 (M (24, n2, k2) 8)) (25, n2, k2) (25, n, k) 0 0 8), (am_Z w)) := by
  refine Eq.trans (rl_aloadn (j := 0) (by decide +kernel) rfl) ?_
  refine Eq.trans (rl_aloadn (j := 1) (by decide +kernel) rfl) ?_
  refine Eq.trans (rl_get (ix := 45) (ci := 4) (j := 8) (by decide +kernel) (by decide +kernel) (by decide +kernel) (ck24 hn2 hk2)) ?_
  refine Eq.trans (rl_put (ix := 45) (ci := 4) (j := 8) (by decide +kernel) (by decide +kernel) (by decide +kernel) (by decide +kernel) (ck24 hn hk)) ?_
  refine Eq.trans (rl_aloadn (j := 1) (by decide +kernel) rfl) ?_
  refine Eq.trans (rl_getP (ix := 9) (ci := 4) (j := 9) (by decide +kernel) (by decide +kernel) (by decide +kernel) (ck24 hn2 hk2) rfl) ?_
  refine Eq.trans (rl_iconst (c := 0) (k := (0 : Int32)) (by decide +kernel) (by decide)) ?_
  refine Eq.trans (rl_aloadn (j := 0) (by decide +kernel) rfl) ?_
  refine Eq.trans (rl_getP (ix := 9) (ci := 4) (j := 9) (by decide +kernel) (by decide +kernel) (by decide +kernel) (ck24 hn hk) rfl) ?_
  refine Eq.trans (rl_iconst (c := 0) (k := (0 : Int32)) (by decide +kernel) (by decide)) ?_
  refine Eq.trans (rl_bipush (c := 8) (k := (8 : Int32)) (by decide +kernel) (by decide)) ?_
  refine Eq.trans (rl_copy' (ix := 48) (y0 := 0) 0 0 8 (by decide +kernel) (by decide +kernel) rfl (ka25 hn hk) (ka25 hn2 hk2) (fun e => hne (congrArg (fun l : am_L => l.2.1) e)) rfl rfl rfl rfl) ?_
  exact rl_ret (by decide +kernel) rfl
theorem b28_0 {n k : Nat} {x1 : Int32} {M : am_M} {w : am_W4} (hn : n < 12) (hk : k < 16) : am_rn call 28 0 [some (am_P (24, n, k)), some (am_I x1)] [] M (am_Z w) = some (.inl none, (am_set (am_set (am_set M (24, n, k) 5 x1) (24, n, k) 6 (0 : Int32)) (24, n, k) 7 (1 : Int32)), (am_Z w)) := by
  refine Eq.trans (rl_aloadn (j := 0) (by decide +kernel) rfl) ?_
  refine Eq.trans (rl_iloadn (j := 1) (by decide +kernel) rfl) ?_
  refine Eq.trans (rl_put (ix := 35) (ci := 4) (j := 5) (by decide +kernel) (by decide +kernel) (by decide +kernel) (by decide +kernel) (ck24 hn hk)) ?_
  refine Eq.trans (rl_aloadn (j := 0) (by decide +kernel) rfl) ?_
  refine Eq.trans (rl_iconst (c := 0) (k := (0 : Int32)) (by decide +kernel) (by decide)) ?_
  refine Eq.trans (rl_put (ix := 38) (ci := 4) (j := 6) (by decide +kernel) (by decide +kernel) (by decide +kernel) (by decide +kernel) (ck24 hn hk)) ?_
  refine Eq.trans (rl_aloadn (j := 0) (by decide +kernel) rfl) ?_
  refine Eq.trans (rl_iconst (c := 1) (k := (1 : Int32)) (by decide +kernel) (by decide)) ?_
  refine Eq.trans (rl_putZk (ix := 41) (ci := 4) (j := 7) (by decide +kernel) (by decide +kernel) (by decide +kernel) (by decide +kernel) (ck24 hn hk) rfl) ?_
  exact rl_ret (by decide +kernel) rfl
theorem b29_0 {n k : Nat} {M : am_M} {w : am_W4} (hn : n < 12) (hk : k < 16) : am_rn call 29 0 [some (am_P (24, n, k))] [] M (am_Z w) = if (M (24, n, k) 5) < (M (24, n, k) 8) then some (.inl (some (am_I (0 : Int32))), M, (am_Z w)) else some (.inl (some (am_I (1 : Int32))), M, (am_Z w)) := by
  refine Eq.trans (rl_aloadn (j := 0) (by decide +kernel) rfl) ?_
  refine Eq.trans (rl_get (ix := 35) (ci := 4) (j := 5) (by decide +kernel) (by decide +kernel) (by decide +kernel) (ck24 hn hk)) ?_
  refine Eq.trans (rl_aloadn (j := 0) (by decide +kernel) rfl) ?_
  refine Eq.trans (rl_get (ix := 45) (ci := 4) (j := 8) (by decide +kernel) (by decide +kernel) (by decide +kernel) (ck24 hn hk)) ?_
  refine Eq.trans (rl_iclt (o := 7) 15 (by decide +kernel) (by decide)) ?_
  refine am_ite (fun h_1 => ?_) (fun h_1 => ?_)
  · skip
    refine Eq.trans (rl_iconst (c := 0) (k := (0 : Int32)) (by decide +kernel) (by decide)) ?_
    exact rl_zretk (by decide +kernel) rfl rfl
  · skip
    refine Eq.trans (rl_iconst (c := 1) (k := (1 : Int32)) (by decide +kernel) (by decide)) ?_
    refine Eq.trans (rl_goto (o := 4) 16 (by decide +kernel) (by decide)) ?_
    exact rl_zretk (by decide +kernel) rfl rfl
theorem b30_0 {n k : Nat} {M : am_M} {w : am_W4} (hn : n < 12) (hk : k < 16) : am_rn call 30 0 [some (am_P (24, n, k))] [] M (am_Z w) = am_cb (call 29 [am_P (24, n, k)] M (am_Z w)) fun v M' X' => am_rn call 30 4 [some (am_P (24, n, k))] (v.toList ++ []) M' X' := by
  refine Eq.trans (rl_aloadn (j := 0) (by decide +kernel) rfl) ?_
  refine Eq.trans (rl_inv (ix := 54) (n := 0) (o := 4) 29 [] [] (by decide +kernel) (by decide +kernel) (by decide +kernel) (by decide +kernel) ⟨rfl, rfl⟩ rfl rfl (ck24 hn hk)) ?_
  rfl
theorem b30_4 {n k : Nat} {s0 : Int32} {M : am_M} {w : am_W4} (hn : n < 12) (hk : k < 16) : am_rn call 30 4 [some (am_P (24, n, k))] [am_I s0] M (am_Z w) = if s0 = 0 then if am_in (M (24, n, k) 5) 8 then some (.inl (some (am_I (M (25, n, k) (M (24, n, k) 5).toNatClampNeg))), M, (am_Z w)) else none else some (.inl (some (am_I (0 : Int32))), M, (am_Z w)) := by
  refine Eq.trans (rl_ifeq (o := 7) 11 (by decide +kernel) (by decide)) ?_
  refine am_ite (fun h_1 => ?_) (fun h_1 => ?_)
  · skip
    refine Eq.trans (rl_aloadn (j := 0) (by decide +kernel) rfl) ?_
    refine Eq.trans (rl_getP (ix := 9) (ci := 4) (j := 9) (by decide +kernel) (by decide +kernel) (by decide +kernel) (ck24 hn hk) rfl) ?_
    refine Eq.trans (rl_aloadn (j := 0) (by decide +kernel) rfl) ?_
    refine Eq.trans (rl_get (ix := 35) (ci := 4) (j := 5) (by decide +kernel) (by decide +kernel) (by decide +kernel) (ck24 hn hk)) ?_
    refine Eq.trans (rl_iald (by decide +kernel) (ka25 hn hk)) ?_
    refine am_ite (fun h_2 => ?_) (fun _ => rfl)
    exact rl_iret (by decide +kernel) rfl
  · skip
    refine Eq.trans (rl_iconst (c := 0) (k := (0 : Int32)) (by decide +kernel) (by decide)) ?_
    refine Eq.trans (rl_goto (o := 12) 20 (by decide +kernel) (by decide)) ?_
    exact rl_iret (by decide +kernel) rfl
theorem b31_0 {n k : Nat} {M : am_M} {w : am_W4} (hn : n < 12) (hk : k < 16) : am_rn call 31 0 [some (am_P (24, n, k))] [] M (am_Z w) = if (M (24, n, k) 2) < (M (24, n, k) 1) then some (.inl (some (am_I ((M (24, n, k) 2) + (1 : Int32)))), M, (am_Z w)) else some (.inl (some (am_I ((M (24, n, k) 2) - (1 : Int32)))), M, (am_Z w)) := by
  refine Eq.trans (rl_aloadn (j := 0) (by decide +kernel) rfl) ?_
  refine Eq.trans (rl_get (ix := 19) (ci := 4) (j := 1) (by decide +kernel) (by decide +kernel) (by decide +kernel) (ck24 hn hk)) ?_
  refine Eq.trans (rl_aloadn (j := 0) (by decide +kernel) rfl) ?_
  refine Eq.trans (rl_get (ix := 22) (ci := 4) (j := 2) (by decide +kernel) (by decide +kernel) (by decide +kernel) (ck24 hn hk)) ?_
  refine Eq.trans (rl_icle (o := 12) 20 (by decide +kernel) (by decide)) ?_
  refine am_ite (fun h_1 => ?_) (fun h_1 => ?_)
  · skip
    refine Eq.trans (rl_aloadn (j := 0) (by decide +kernel) rfl) ?_
    refine Eq.trans (rl_get (ix := 22) (ci := 4) (j := 2) (by decide +kernel) (by decide +kernel) (by decide +kernel) (ck24 hn hk)) ?_
    refine Eq.trans (rl_iconst (c := 1) (k := (1 : Int32)) (by decide +kernel) (by decide)) ?_
    refine Eq.trans (rl_iadd (by decide +kernel)) ?_
    refine Eq.trans (rl_goto (o := 9) 26 (by decide +kernel) (by decide)) ?_
    exact rl_iret (by decide +kernel) rfl
  · skip
    refine Eq.trans (rl_aloadn (j := 0) (by decide +kernel) rfl) ?_
    refine Eq.trans (rl_get (ix := 22) (ci := 4) (j := 2) (by decide +kernel) (by decide +kernel) (by decide +kernel) (ck24 hn hk)) ?_
    refine Eq.trans (rl_iconst (c := 1) (k := (1 : Int32)) (by decide +kernel) (by decide)) ?_
    refine Eq.trans (rl_isub (by decide +kernel)) ?_
    exact rl_iret (by decide +kernel) rfl
theorem b32_0 {n k : Nat} {M : am_M} {w : am_W4} (hn : n < 12) (hk : k < 16) : am_rn call 32 0 [some (am_P (24, n, k)), none, none] [] M (am_Z w) = am_rn call 32 4 [some (am_P (24, n, k)), some (am_I (0 : Int32)), some (am_I (0 : Int32))] [] M (am_Z w) := by
  refine Eq.trans (rl_iconst (c := 0) (k := (0 : Int32)) (by decide +kernel) (by decide)) ?_
  refine Eq.trans (rl_istoren (j := 1) (ls' := [some (am_P (24, n, k)), some (am_I (0 : Int32)), none]) (by decide +kernel) rfl rfl) ?_
  refine Eq.trans (rl_iconst (c := 0) (k := (0 : Int32)) (by decide +kernel) (by decide)) ?_
  refine Eq.trans (rl_istoren (j := 2) (ls' := [some (am_P (24, n, k)), some (am_I (0 : Int32)), some (am_I (0 : Int32))]) (by decide +kernel) rfl rfl) ?_
  rfl
theorem b32_4 {n k : Nat} {x1 x2 : Int32} {M : am_M} {w : am_W4} (hn : n < 12) (hk : k < 16) : am_rn call 32 4 [some (am_P (24, n, k)), some (am_I x1), some (am_I x2)] [] M (am_Z w) = if x2 < (M (24, n, k) 8) then if am_in x2 8 then if (M (25, n, k) x2.toNatClampNeg) = 0 then am_rn call 32 24 [some (am_P (24, n, k)), some (am_I (x1 + (1 : Int32))), some (am_I x2)] [] M (am_Z w) else am_rn call 32 24 [some (am_P (24, n, k)), some (am_I x1), some (am_I x2)] [] M (am_Z w) else none else some (.inl (some (am_I x1)), M, (am_Z w)) := by
  refine Eq.trans (rl_iloadn (j := 2) (by decide +kernel) rfl) ?_
  refine Eq.trans (rl_aloadn (j := 0) (by decide +kernel) rfl) ?_
  refine Eq.trans (rl_get (ix := 45) (ci := 4) (j := 8) (by decide +kernel) (by decide +kernel) (by decide +kernel) (ck24 hn hk)) ?_
  refine Eq.trans (rl_icge (o := 21) 30 (by decide +kernel) (by decide)) ?_
  refine am_ite (fun h_1 => ?_) (fun h_1 => ?_)
  · skip
    refine Eq.trans (rl_aloadn (j := 0) (by decide +kernel) rfl) ?_
    refine Eq.trans (rl_getP (ix := 9) (ci := 4) (j := 9) (by decide +kernel) (by decide +kernel) (by decide +kernel) (ck24 hn hk) rfl) ?_
    refine Eq.trans (rl_iloadn (j := 2) (by decide +kernel) rfl) ?_
    refine Eq.trans (rl_iald (by decide +kernel) (ka25 hn hk)) ?_
    refine am_ite (fun h_2 => ?_) (fun _ => rfl)
    refine Eq.trans (rl_ifne (o := 6) 24 (by decide +kernel) (by decide)) ?_
    refine am_ite (fun h_3 => ?_) (fun h_3 => ?_)
    · skip
      refine Eq.trans (rl_iinc (j := 1) (c := 1) (k := (1 : Int32)) (ls' := [some (am_P (24, n, k)), some (am_I (x1 + (1 : Int32))), some (am_I x2)]) (by decide +kernel) (by decide) rfl rfl) ?_
      rfl
    · skip
      rfl
  · skip
    refine Eq.trans (rl_iloadn (j := 1) (by decide +kernel) rfl) ?_
    exact rl_iret (by decide +kernel) rfl
theorem b32_24 {n k : Nat} {x1 x2 : Int32} {M : am_M} {w : am_W4} (hn : n < 12) (hk : k < 16) : am_rn call 32 24 [some (am_P (24, n, k)), some (am_I x1), some (am_I x2)] [] M (am_Z w) = am_rn call 32 4 [some (am_P (24, n, k)), some (am_I x1), some (am_I (x2 + (1 : Int32)))] [] M (am_Z w) := by
  refine Eq.trans (rl_iinc (j := 2) (c := 1) (k := (1 : Int32)) (ls' := [some (am_P (24, n, k)), some (am_I x1), some (am_I (x2 + (1 : Int32)))]) (by decide +kernel) (by decide) rfl rfl) ?_
  refine Eq.trans (rl_goto (o := (-23)) 4 (by decide +kernel) (by decide)) ?_
  rfl
end AmBl
end
