-- ===== PART A: goes FIRST, ahead of the names: the tables' words, and 'selects' of the private methods out of them =====
/-- a private method of a class that the tables say can be made, by its rows of tables_1 -/
def lw_okq (q : MethodName × Nat) : Prop := (q.1.cls ≠ "java/lang/invoke/MethodHandle" ∧ q.1.cls ≠ "java/lang/invoke/VarHandle") ∧ Cond.instantiable q.1.cls q.2 ∈ tables_1 ∧ Cond.privateMethod q.1 ∈ tables_1 ∧ Cond.instanceMethod q.1 ∈ tables_1
theorem lw_p0 : lw_okq (⟨"ChalkRoads", "hearCells", "(II)Z"⟩, 12) := ⟨⟨by decide +kernel, by decide +kernel⟩, List.mem_of_getElem? (i := 20) (by decide +kernel), List.mem_of_getElem? (i := 966) (by decide +kernel), List.mem_of_getElem? (i := 967) (by decide +kernel)⟩
theorem lw_p1 : lw_okq (⟨"ChalkRoadsModel", "firstDraft", "()V"⟩, 45) := ⟨⟨by decide +kernel, by decide +kernel⟩, List.mem_of_getElem? (i := 986) (by decide +kernel), List.mem_of_getElem? (i := 992) (by decide +kernel), List.mem_of_getElem? (i := 993) (by decide +kernel)⟩
theorem lw_p2 : lw_okq (⟨"ChalkRoadsModel", "keepDraft", "()V"⟩, 45) := ⟨⟨by decide +kernel, by decide +kernel⟩, List.mem_of_getElem? (i := 986) (by decide +kernel), List.mem_of_getElem? (i := 996) (by decide +kernel), List.mem_of_getElem? (i := 997) (by decide +kernel)⟩
theorem lw_p3 : lw_okq (⟨"ChalkRoadsModel", "next", "()V"⟩, 45) := ⟨⟨by decide +kernel, by decide +kernel⟩, List.mem_of_getElem? (i := 986) (by decide +kernel), List.mem_of_getElem? (i := 1153) (by decide +kernel), List.mem_of_getElem? (i := 1154) (by decide +kernel)⟩
theorem lw_p4 : lw_okq (⟨"ChalkRoadsModel", "look", "(I)I"⟩, 45) := ⟨⟨by decide +kernel, by decide +kernel⟩, List.mem_of_getElem? (i := 986) (by decide +kernel), List.mem_of_getElem? (i := 1157) (by decide +kernel), List.mem_of_getElem? (i := 1158) (by decide +kernel)⟩
theorem lw_p5 : lw_okq (⟨"ChalkRoadsModel", "needs", "(ZI)V"⟩, 45) := ⟨⟨by decide +kernel, by decide +kernel⟩, List.mem_of_getElem? (i := 986) (by decide +kernel), List.mem_of_getElem? (i := 1165) (by decide +kernel), List.mem_of_getElem? (i := 1166) (by decide +kernel)⟩
theorem lw_p6 : lw_okq (⟨"ChalkRoadsModel", "readLine", "()V"⟩, 45) := ⟨⟨by decide +kernel, by decide +kernel⟩, List.mem_of_getElem? (i := 986) (by decide +kernel), List.mem_of_getElem? (i := 1169) (by decide +kernel), List.mem_of_getElem? (i := 1170) (by decide +kernel)⟩
theorem lw_p7 : lw_okq (⟨"ChalkRoadsModel", "lineNow", "()I"⟩, 45) := ⟨⟨by decide +kernel, by decide +kernel⟩, List.mem_of_getElem? (i := 986) (by decide +kernel), List.mem_of_getElem? (i := 1173) (by decide +kernel), List.mem_of_getElem? (i := 1174) (by decide +kernel)⟩
theorem lw_p8 : lw_okq (⟨"ChalkRoadsModel", "is", "(IIII)Z"⟩, 45) := ⟨⟨by decide +kernel, by decide +kernel⟩, List.mem_of_getElem? (i := 986) (by decide +kernel), List.mem_of_getElem? (i := 1177) (by decide +kernel), List.mem_of_getElem? (i := 1178) (by decide +kernel)⟩
theorem lw_p9 : lw_okq (⟨"ChalkRoadsModel", "ends", "(III)Z"⟩, 45) := ⟨⟨by decide +kernel, by decide +kernel⟩, List.mem_of_getElem? (i := 986) (by decide +kernel), List.mem_of_getElem? (i := 1181) (by decide +kernel), List.mem_of_getElem? (i := 1182) (by decide +kernel)⟩
theorem lw_p10 : lw_okq (⟨"ChalkRoadsModel", "readLineOf", "(I)V"⟩, 45) := ⟨⟨by decide +kernel, by decide +kernel⟩, List.mem_of_getElem? (i := 986) (by decide +kernel), List.mem_of_getElem? (i := 1185) (by decide +kernel), List.mem_of_getElem? (i := 1186) (by decide +kernel)⟩
theorem lw_p11 : lw_okq (⟨"ChalkRoadsModel", "readNumber", "(II)I"⟩, 45) := ⟨⟨by decide +kernel, by decide +kernel⟩, List.mem_of_getElem? (i := 986) (by decide +kernel), List.mem_of_getElem? (i := 1189) (by decide +kernel), List.mem_of_getElem? (i := 1190) (by decide +kernel)⟩
theorem lw_p12 : lw_okq (⟨"ChalkRoadsModel", "looked", "(II)I"⟩, 45) := ⟨⟨by decide +kernel, by decide +kernel⟩, List.mem_of_getElem? (i := 986) (by decide +kernel), List.mem_of_getElem? (i := 1193) (by decide +kernel), List.mem_of_getElem? (i := 1194) (by decide +kernel)⟩
theorem lw_p13 : lw_okq (⟨"ChalkRoadsModel", "lookedPoint", "()I"⟩, 45) := ⟨⟨by decide +kernel, by decide +kernel⟩, List.mem_of_getElem? (i := 986) (by decide +kernel), List.mem_of_getElem? (i := 1197) (by decide +kernel), List.mem_of_getElem? (i := 1198) (by decide +kernel)⟩
theorem lw_p14 : lw_okq (⟨"ChalkRoadsModel", "readLineAt", "()V"⟩, 45) := ⟨⟨by decide +kernel, by decide +kernel⟩, List.mem_of_getElem? (i := 986) (by decide +kernel), List.mem_of_getElem? (i := 1201) (by decide +kernel), List.mem_of_getElem? (i := 1202) (by decide +kernel)⟩
theorem lw_p15 : lw_okq (⟨"ChalkRoadsModel", "readPoint", "()I"⟩, 45) := ⟨⟨by decide +kernel, by decide +kernel⟩, List.mem_of_getElem? (i := 986) (by decide +kernel), List.mem_of_getElem? (i := 1205) (by decide +kernel), List.mem_of_getElem? (i := 1206) (by decide +kernel)⟩
def lw_privs_1 : List (MethodName × Nat) := [(⟨"ChalkRoads", "hearCells", "(II)Z"⟩, 12), (⟨"ChalkRoadsModel", "firstDraft", "()V"⟩, 45), (⟨"ChalkRoadsModel", "keepDraft", "()V"⟩, 45), (⟨"ChalkRoadsModel", "next", "()V"⟩, 45), (⟨"ChalkRoadsModel", "look", "(I)I"⟩, 45), (⟨"ChalkRoadsModel", "needs", "(ZI)V"⟩, 45), (⟨"ChalkRoadsModel", "readLine", "()V"⟩, 45), (⟨"ChalkRoadsModel", "lineNow", "()I"⟩, 45), (⟨"ChalkRoadsModel", "is", "(IIII)Z"⟩, 45), (⟨"ChalkRoadsModel", "ends", "(III)Z"⟩, 45), (⟨"ChalkRoadsModel", "readLineOf", "(I)V"⟩, 45), (⟨"ChalkRoadsModel", "readNumber", "(II)I"⟩, 45), (⟨"ChalkRoadsModel", "looked", "(II)I"⟩, 45), (⟨"ChalkRoadsModel", "lookedPoint", "()I"⟩, 45), (⟨"ChalkRoadsModel", "readLineAt", "()V"⟩, 45), (⟨"ChalkRoadsModel", "readPoint", "()I"⟩, 45)]
theorem lw_r1 : ∀ q ∈ lw_privs_1, lw_okq q := List.forall_mem_cons.mpr ⟨lw_p0, List.forall_mem_cons.mpr ⟨lw_p1, List.forall_mem_cons.mpr ⟨lw_p2, List.forall_mem_cons.mpr ⟨lw_p3, List.forall_mem_cons.mpr ⟨lw_p4, List.forall_mem_cons.mpr ⟨lw_p5, List.forall_mem_cons.mpr ⟨lw_p6, List.forall_mem_cons.mpr ⟨lw_p7, List.forall_mem_cons.mpr ⟨lw_p8, List.forall_mem_cons.mpr ⟨lw_p9, List.forall_mem_cons.mpr ⟨lw_p10, List.forall_mem_cons.mpr ⟨lw_p11, List.forall_mem_cons.mpr ⟨lw_p12, List.forall_mem_cons.mpr ⟨lw_p13, List.forall_mem_cons.mpr ⟨lw_p14, List.forall_mem_cons.mpr ⟨lw_p15, fun _ h => absurd h List.not_mem_nil⟩⟩⟩⟩⟩⟩⟩⟩⟩⟩⟩⟩⟩⟩⟩⟩
theorem lw_p16 : lw_okq (⟨"ChalkRoadsModel", "readOther", "(I)I"⟩, 45) := ⟨⟨by decide +kernel, by decide +kernel⟩, List.mem_of_getElem? (i := 986) (by decide +kernel), List.mem_of_getElem? (i := 1209) (by decide +kernel), List.mem_of_getElem? (i := 1210) (by decide +kernel)⟩
theorem lw_p17 : lw_okq (⟨"ChalkRoadsModel", "isRoof", "()Z"⟩, 45) := ⟨⟨by decide +kernel, by decide +kernel⟩, List.mem_of_getElem? (i := 986) (by decide +kernel), List.mem_of_getElem? (i := 1213) (by decide +kernel), List.mem_of_getElem? (i := 1214) (by decide +kernel)⟩
theorem lw_p18 : lw_okq (⟨"ChalkRoadsModel", "readOne", "()V"⟩, 45) := ⟨⟨by decide +kernel, by decide +kernel⟩, List.mem_of_getElem? (i := 986) (by decide +kernel), List.mem_of_getElem? (i := 1217) (by decide +kernel), List.mem_of_getElem? (i := 1218) (by decide +kernel)⟩
theorem lw_p19 : lw_okq (⟨"ChalkRoadsModel", "isLine", "(I)Z"⟩, 45) := ⟨⟨by decide +kernel, by decide +kernel⟩, List.mem_of_getElem? (i := 986) (by decide +kernel), List.mem_of_getElem? (i := 1233) (by decide +kernel), List.mem_of_getElem? (i := 1234) (by decide +kernel)⟩
theorem lw_p20 : lw_okq (⟨"ChalkRoadsModel", "of", "(II)I"⟩, 45) := ⟨⟨by decide +kernel, by decide +kernel⟩, List.mem_of_getElem? (i := 986) (by decide +kernel), List.mem_of_getElem? (i := 1238) (by decide +kernel), List.mem_of_getElem? (i := 1239) (by decide +kernel)⟩
theorem lw_p21 : lw_okq (⟨"ChalkRoadsModel", "isDrawer", "(I)Z"⟩, 45) := ⟨⟨by decide +kernel, by decide +kernel⟩, List.mem_of_getElem? (i := 986) (by decide +kernel), List.mem_of_getElem? (i := 1246) (by decide +kernel), List.mem_of_getElem? (i := 1247) (by decide +kernel)⟩
theorem lw_p22 : lw_okq (⟨"ChalkRoadsModel", "isOne", "(I)Z"⟩, 45) := ⟨⟨by decide +kernel, by decide +kernel⟩, List.mem_of_getElem? (i := 986) (by decide +kernel), List.mem_of_getElem? (i := 1254) (by decide +kernel), List.mem_of_getElem? (i := 1255) (by decide +kernel)⟩
theorem lw_p23 : lw_okq (⟨"ChalkRoadsModel", "isPoint", "(I)Z"⟩, 45) := ⟨⟨by decide +kernel, by decide +kernel⟩, List.mem_of_getElem? (i := 986) (by decide +kernel), List.mem_of_getElem? (i := 1291) (by decide +kernel), List.mem_of_getElem? (i := 1292) (by decide +kernel)⟩
theorem lw_p24 : lw_okq (⟨"ChalkRoadsModel", "strongNow", "()V"⟩, 45) := ⟨⟨by decide +kernel, by decide +kernel⟩, List.mem_of_getElem? (i := 986) (by decide +kernel), List.mem_of_getElem? (i := 1305) (by decide +kernel), List.mem_of_getElem? (i := 1306) (by decide +kernel)⟩
theorem lw_p25 : lw_okq (⟨"ChalkRoadsModel", "findLeast", "(I)V"⟩, 45) := ⟨⟨by decide +kernel, by decide +kernel⟩, List.mem_of_getElem? (i := 986) (by decide +kernel), List.mem_of_getElem? (i := 1309) (by decide +kernel), List.mem_of_getElem? (i := 1310) (by decide +kernel)⟩
theorem lw_p26 : lw_okq (⟨"ChalkRoadsModel", "firstLine", "(I)I"⟩, 45) := ⟨⟨by decide +kernel, by decide +kernel⟩, List.mem_of_getElem? (i := 986) (by decide +kernel), List.mem_of_getElem? (i := 1314) (by decide +kernel), List.mem_of_getElem? (i := 1315) (by decide +kernel)⟩
theorem lw_p27 : lw_okq (⟨"ChalkRoadsModel", "otherEnd", "(II)I"⟩, 45) := ⟨⟨by decide +kernel, by decide +kernel⟩, List.mem_of_getElem? (i := 986) (by decide +kernel), List.mem_of_getElem? (i := 1318) (by decide +kernel), List.mem_of_getElem? (i := 1319) (by decide +kernel)⟩
theorem lw_p28 : lw_okq (⟨"ChalkRoadsModel", "wholeLines", "()I"⟩, 45) := ⟨⟨by decide +kernel, by decide +kernel⟩, List.mem_of_getElem? (i := 986) (by decide +kernel), List.mem_of_getElem? (i := 1326) (by decide +kernel), List.mem_of_getElem? (i := 1327) (by decide +kernel)⟩
theorem lw_p29 : lw_okq (⟨"ChalkRoadsModel", "partOf", "(II)I"⟩, 45) := ⟨⟨by decide +kernel, by decide +kernel⟩, List.mem_of_getElem? (i := 986) (by decide +kernel), List.mem_of_getElem? (i := 1330) (by decide +kernel), List.mem_of_getElem? (i := 1331) (by decide +kernel)⟩
theorem lw_p30 : lw_okq (⟨"ChalkRoadsModel", "areLines", "(I)Z"⟩, 45) := ⟨⟨by decide +kernel, by decide +kernel⟩, List.mem_of_getElem? (i := 986) (by decide +kernel), List.mem_of_getElem? (i := 1338) (by decide +kernel), List.mem_of_getElem? (i := 1339) (by decide +kernel)⟩
theorem lw_p31 : lw_okq (⟨"ChalkRoadsModel", "doMeet", "(I)Z"⟩, 45) := ⟨⟨by decide +kernel, by decide +kernel⟩, List.mem_of_getElem? (i := 986) (by decide +kernel), List.mem_of_getElem? (i := 1342) (by decide +kernel), List.mem_of_getElem? (i := 1343) (by decide +kernel)⟩
def lw_privs_2 : List (MethodName × Nat) := [(⟨"ChalkRoadsModel", "readOther", "(I)I"⟩, 45), (⟨"ChalkRoadsModel", "isRoof", "()Z"⟩, 45), (⟨"ChalkRoadsModel", "readOne", "()V"⟩, 45), (⟨"ChalkRoadsModel", "isLine", "(I)Z"⟩, 45), (⟨"ChalkRoadsModel", "of", "(II)I"⟩, 45), (⟨"ChalkRoadsModel", "isDrawer", "(I)Z"⟩, 45), (⟨"ChalkRoadsModel", "isOne", "(I)Z"⟩, 45), (⟨"ChalkRoadsModel", "isPoint", "(I)Z"⟩, 45), (⟨"ChalkRoadsModel", "strongNow", "()V"⟩, 45), (⟨"ChalkRoadsModel", "findLeast", "(I)V"⟩, 45), (⟨"ChalkRoadsModel", "firstLine", "(I)I"⟩, 45), (⟨"ChalkRoadsModel", "otherEnd", "(II)I"⟩, 45), (⟨"ChalkRoadsModel", "wholeLines", "()I"⟩, 45), (⟨"ChalkRoadsModel", "partOf", "(II)I"⟩, 45), (⟨"ChalkRoadsModel", "areLines", "(I)Z"⟩, 45), (⟨"ChalkRoadsModel", "doMeet", "(I)Z"⟩, 45)]
theorem lw_r2 : ∀ q ∈ lw_privs_2, lw_okq q := List.forall_mem_cons.mpr ⟨lw_p16, List.forall_mem_cons.mpr ⟨lw_p17, List.forall_mem_cons.mpr ⟨lw_p18, List.forall_mem_cons.mpr ⟨lw_p19, List.forall_mem_cons.mpr ⟨lw_p20, List.forall_mem_cons.mpr ⟨lw_p21, List.forall_mem_cons.mpr ⟨lw_p22, List.forall_mem_cons.mpr ⟨lw_p23, List.forall_mem_cons.mpr ⟨lw_p24, List.forall_mem_cons.mpr ⟨lw_p25, List.forall_mem_cons.mpr ⟨lw_p26, List.forall_mem_cons.mpr ⟨lw_p27, List.forall_mem_cons.mpr ⟨lw_p28, List.forall_mem_cons.mpr ⟨lw_p29, List.forall_mem_cons.mpr ⟨lw_p30, List.forall_mem_cons.mpr ⟨lw_p31, fun _ h => absurd h List.not_mem_nil⟩⟩⟩⟩⟩⟩⟩⟩⟩⟩⟩⟩⟩⟩⟩⟩
theorem lw_p32 : lw_okq (⟨"ChalkRoadsModel", "runs", "(I)V"⟩, 45) := ⟨⟨by decide +kernel, by decide +kernel⟩, List.mem_of_getElem? (i := 986) (by decide +kernel), List.mem_of_getElem? (i := 1358) (by decide +kernel), List.mem_of_getElem? (i := 1359) (by decide +kernel)⟩
theorem lw_p33 : lw_okq (⟨"ChalkRoadsModel", "startRun", "()V"⟩, 45) := ⟨⟨by decide +kernel, by decide +kernel⟩, List.mem_of_getElem? (i := 986) (by decide +kernel), List.mem_of_getElem? (i := 1362) (by decide +kernel), List.mem_of_getElem? (i := 1363) (by decide +kernel)⟩
theorem lw_p34 : lw_okq (⟨"ChalkRoadsModel", "rains", "()V"⟩, 45) := ⟨⟨by decide +kernel, by decide +kernel⟩, List.mem_of_getElem? (i := 986) (by decide +kernel), List.mem_of_getElem? (i := 1366) (by decide +kernel), List.mem_of_getElem? (i := 1367) (by decide +kernel)⟩
theorem lw_p35 : lw_okq (⟨"ChalkRoadsModel", "loses", "()V"⟩, 45) := ⟨⟨by decide +kernel, by decide +kernel⟩, List.mem_of_getElem? (i := 986) (by decide +kernel), List.mem_of_getElem? (i := 1370) (by decide +kernel), List.mem_of_getElem? (i := 1371) (by decide +kernel)⟩
theorem lw_p36 : lw_okq (⟨"ChalkRoadsModel", "goesOne", "(II)V"⟩, 45) := ⟨⟨by decide +kernel, by decide +kernel⟩, List.mem_of_getElem? (i := 986) (by decide +kernel), List.mem_of_getElem? (i := 1374) (by decide +kernel), List.mem_of_getElem? (i := 1375) (by decide +kernel)⟩
theorem lw_p37 : lw_okq (⟨"ChalkRoadsModel", "arrives", "(II)V"⟩, 45) := ⟨⟨by decide +kernel, by decide +kernel⟩, List.mem_of_getElem? (i := 986) (by decide +kernel), List.mem_of_getElem? (i := 1378) (by decide +kernel), List.mem_of_getElem? (i := 1379) (by decide +kernel)⟩
theorem lw_p38 : lw_okq (⟨"ChalkRoadsModel", "findDawn", "(ZI)I"⟩, 45) := ⟨⟨by decide +kernel, by decide +kernel⟩, List.mem_of_getElem? (i := 986) (by decide +kernel), List.mem_of_getElem? (i := 1413) (by decide +kernel), List.mem_of_getElem? (i := 1414) (by decide +kernel)⟩
theorem lw_p39 : lw_okq (⟨"ChalkRoadsModel", "yardsOf", "(I)I"⟩, 45) := ⟨⟨by decide +kernel, by decide +kernel⟩, List.mem_of_getElem? (i := 986) (by decide +kernel), List.mem_of_getElem? (i := 1417) (by decide +kernel), List.mem_of_getElem? (i := 1418) (by decide +kernel)⟩
theorem lw_p40 : lw_okq (⟨"ChalkRoadsModel", "areSure", "(I)Z"⟩, 45) := ⟨⟨by decide +kernel, by decide +kernel⟩, List.mem_of_getElem? (i := 986) (by decide +kernel), List.mem_of_getElem? (i := 1421) (by decide +kernel), List.mem_of_getElem? (i := 1422) (by decide +kernel)⟩
theorem lw_p41 : lw_okq (⟨"ChalkRoadsModel", "fewestDrawers", "(I)I"⟩, 45) := ⟨⟨by decide +kernel, by decide +kernel⟩, List.mem_of_getElem? (i := 986) (by decide +kernel), List.mem_of_getElem? (i := 1433) (by decide +kernel), List.mem_of_getElem? (i := 1434) (by decide +kernel)⟩
theorem lw_p42 : lw_okq (⟨"ChalkRoadsModel", "leftNow", "()V"⟩, 45) := ⟨⟨by decide +kernel, by decide +kernel⟩, List.mem_of_getElem? (i := 986) (by decide +kernel), List.mem_of_getElem? (i := 1437) (by decide +kernel), List.mem_of_getElem? (i := 1438) (by decide +kernel)⟩
theorem lw_p43 : lw_okq (⟨"ChalkRoadsModel", "findRow", "(I)V"⟩, 45) := ⟨⟨by decide +kernel, by decide +kernel⟩, List.mem_of_getElem? (i := 986) (by decide +kernel), List.mem_of_getElem? (i := 1441) (by decide +kernel), List.mem_of_getElem? (i := 1442) (by decide +kernel)⟩
theorem lw_p44 : lw_okq (⟨"ChalkRoadsModel", "canDraw", "(I)Z"⟩, 45) := ⟨⟨by decide +kernel, by decide +kernel⟩, List.mem_of_getElem? (i := 986) (by decide +kernel), List.mem_of_getElem? (i := 1445) (by decide +kernel), List.mem_of_getElem? (i := 1446) (by decide +kernel)⟩
theorem lw_p45 : lw_okq (⟨"ChalkRoadsModel", "usedThen", "(II)I"⟩, 45) := ⟨⟨by decide +kernel, by decide +kernel⟩, List.mem_of_getElem? (i := 986) (by decide +kernel), List.mem_of_getElem? (i := 1449) (by decide +kernel), List.mem_of_getElem? (i := 1450) (by decide +kernel)⟩
theorem lw_p46 : lw_okq (⟨"ChalkRoadsModel", "findBreaks", "()V"⟩, 45) := ⟨⟨by decide +kernel, by decide +kernel⟩, List.mem_of_getElem? (i := 986) (by decide +kernel), List.mem_of_getElem? (i := 1466) (by decide +kernel), List.mem_of_getElem? (i := 1467) (by decide +kernel)⟩
theorem lw_p47 : lw_okq (⟨"ChalkRoadsModel", "isBreak", "(I)Z"⟩, 45) := ⟨⟨by decide +kernel, by decide +kernel⟩, List.mem_of_getElem? (i := 986) (by decide +kernel), List.mem_of_getElem? (i := 1470) (by decide +kernel), List.mem_of_getElem? (i := 1471) (by decide +kernel)⟩
def lw_privs_3 : List (MethodName × Nat) := [(⟨"ChalkRoadsModel", "runs", "(I)V"⟩, 45), (⟨"ChalkRoadsModel", "startRun", "()V"⟩, 45), (⟨"ChalkRoadsModel", "rains", "()V"⟩, 45), (⟨"ChalkRoadsModel", "loses", "()V"⟩, 45), (⟨"ChalkRoadsModel", "goesOne", "(II)V"⟩, 45), (⟨"ChalkRoadsModel", "arrives", "(II)V"⟩, 45), (⟨"ChalkRoadsModel", "findDawn", "(ZI)I"⟩, 45), (⟨"ChalkRoadsModel", "yardsOf", "(I)I"⟩, 45), (⟨"ChalkRoadsModel", "areSure", "(I)Z"⟩, 45), (⟨"ChalkRoadsModel", "fewestDrawers", "(I)I"⟩, 45), (⟨"ChalkRoadsModel", "leftNow", "()V"⟩, 45), (⟨"ChalkRoadsModel", "findRow", "(I)V"⟩, 45), (⟨"ChalkRoadsModel", "canDraw", "(I)Z"⟩, 45), (⟨"ChalkRoadsModel", "usedThen", "(II)I"⟩, 45), (⟨"ChalkRoadsModel", "findBreaks", "()V"⟩, 45), (⟨"ChalkRoadsModel", "isBreak", "(I)Z"⟩, 45)]
theorem lw_r3 : ∀ q ∈ lw_privs_3, lw_okq q := List.forall_mem_cons.mpr ⟨lw_p32, List.forall_mem_cons.mpr ⟨lw_p33, List.forall_mem_cons.mpr ⟨lw_p34, List.forall_mem_cons.mpr ⟨lw_p35, List.forall_mem_cons.mpr ⟨lw_p36, List.forall_mem_cons.mpr ⟨lw_p37, List.forall_mem_cons.mpr ⟨lw_p38, List.forall_mem_cons.mpr ⟨lw_p39, List.forall_mem_cons.mpr ⟨lw_p40, List.forall_mem_cons.mpr ⟨lw_p41, List.forall_mem_cons.mpr ⟨lw_p42, List.forall_mem_cons.mpr ⟨lw_p43, List.forall_mem_cons.mpr ⟨lw_p44, List.forall_mem_cons.mpr ⟨lw_p45, List.forall_mem_cons.mpr ⟨lw_p46, List.forall_mem_cons.mpr ⟨lw_p47, fun _ h => absurd h List.not_mem_nil⟩⟩⟩⟩⟩⟩⟩⟩⟩⟩⟩⟩⟩⟩⟩⟩
theorem lw_p48 : lw_okq (⟨"ChalkRoadsModel", "copies", "(II)V"⟩, 45) := ⟨⟨by decide +kernel, by decide +kernel⟩, List.mem_of_getElem? (i := 986) (by decide +kernel), List.mem_of_getElem? (i := 1486) (by decide +kernel), List.mem_of_getElem? (i := 1487) (by decide +kernel)⟩
def lw_privs_4 : List (MethodName × Nat) := [(⟨"ChalkRoadsModel", "copies", "(II)V"⟩, 45)]
theorem lw_r4 : ∀ q ∈ lw_privs_4, lw_okq q := List.forall_mem_cons.mpr ⟨lw_p48, fun _ h => absurd h List.not_mem_nil⟩
def lw_privs : List (MethodName × Nat) := lw_privs_1 ++ (lw_privs_2 ++ (lw_privs_3 ++ (lw_privs_4)))
def lw_tbl : List Cond := k2_sels lw_privs ++ tables_1
theorem lw_privs_ok : ∀ q ∈ lw_privs, lw_okq q := by
  show ∀ q ∈ lw_privs_1 ++ (lw_privs_2 ++ (lw_privs_3 ++ (lw_privs_4))), lw_okq q
  exact List.forall_mem_append.mpr ⟨lw_r1, List.forall_mem_append.mpr ⟨lw_r2, List.forall_mem_append.mpr ⟨lw_r3, lw_r4⟩⟩⟩

/-! ===== BEGIN printed: names, fields, word lists, decode rows ===== -/
def RX0 : String := "ChalkRoads$Dawn"
def TX0 : u_T := fun k => match k with
  | 0 => ("ChalkRoads$Dawn", "rock", "LChalkRoads$Rock;", true)
  | 1 => ("ChalkRoads$Dawn", "ways", "LChalkRoads$Ways;", true)
  | 2 => ("ChalkRoads$Dawn", "yards", "I", false)
  | _ => ("ChalkRoads$Dawn", "drawn", "I", false)
def tyX0 : Nat → FieldType := fun k => match k with
  | 0 => .object "ChalkRoads$Rock"
  | 1 => .object "ChalkRoads$Ways"
  | 2 => .int
  | _ => .int
abbrev wsX00 : List Cond := u_ws RX0 TX0 4
theorem nmX0 : ∀ a, a < 4 → ∀ b, b < 4 → a ≠ b → (TX0 a).2.1 ≠ (TX0 b).2.1 := by decide +kernel
theorem tyX0_ok : ∀ k, k < 4 → parseFieldDescriptor (TX0 k).2.2.1 = some (tyX0 k) := by decide +kernel
abbrev cX0_init : ByteArray := prog_2_method_1_code
def yX0_init : MethodName := ⟨RX0, "<init>", "(LChalkRoads$Rock;LChalkRoads$Ways;)V"⟩
abbrev cX0_answer : ByteArray := prog_2_method_2_code
def yX0_answer : MethodName := ⟨RX0, "answer", "(IZ)I"⟩
abbrev cX0_seek : ByteArray := prog_2_method_3_code
def yX0_seek : MethodName := ⟨RX0, "seek", "(Z)V"⟩
def RX1 : String := "ChalkRoads$Guess"
def TX1 : u_T := fun k => match k with
  | 0 => ("ChalkRoads$Guess", "rock", "LChalkRoads$Rock;", true)
  | 1 => ("ChalkRoads$Guess", "many", "I", false)
  | 2 => ("ChalkRoads$Guess", "fewest", "I", false)
  | 3 => ("ChalkRoads$Guess", "first", "I", false)
  | 4 => ("ChalkRoads$Guess", "manyFewest", "I", false)
  | 5 => ("ChalkRoads$Guess", "inAll", "I", false)
  | 6 => ("ChalkRoads$Guess", "inAny", "I", false)
  | _ => ("ChalkRoads$Guess", "manyWith", "[I", true)
def tyX1 : Nat → FieldType := fun k => match k with
  | 0 => .object "ChalkRoads$Rock"
  | 1 => .int
  | 2 => .int
  | 3 => .int
  | 4 => .int
  | 5 => .int
  | 6 => .int
  | _ => .array .int
abbrev wsX10 : List Cond := u_ws RX1 TX1 8
theorem nmX1 : ∀ a, a < 8 → ∀ b, b < 8 → a ≠ b → (TX1 a).2.1 ≠ (TX1 b).2.1 := by decide +kernel
theorem tyX1_ok : ∀ k, k < 8 → parseFieldDescriptor (TX1 k).2.2.1 = some (tyX1 k) := by decide +kernel
abbrev cX1_init : ByteArray := prog_3_method_1_code
def yX1_init : MethodName := ⟨RX1, "<init>", "(LChalkRoads$Rock;)V"⟩
abbrev cX1_reckon : ByteArray := prog_3_method_2_code
def yX1_reckon : MethodName := ⟨RX1, "reckon", "()V"⟩
abbrev cX1_fits : ByteArray := prog_3_method_3_code
def yX1_fits : MethodName := ⟨RX1, "fits", "(I)Z"⟩
abbrev cX1_add : ByteArray := prog_3_method_4_code
def yX1_add : MethodName := ⟨RX1, "add", "(I)V"⟩
abbrev cX1_leftAtWorst : ByteArray := prog_3_method_5_code
def yX1_leftAtWorst : MethodName := ⟨RX1, "leftAtWorst", "(I)I"⟩
abbrev cX1_bestToAsk : ByteArray := prog_3_method_6_code
def yX1_bestToAsk : MethodName := ⟨RX1, "bestToAsk", "()I"⟩
def RX2 : String := "ChalkRoads$Reader"
def TX2 : u_T := fun k => match k with
  | 0 => ("ChalkRoads$Reader", "tape", "LChalkRoads$Tape;", true)
  | 1 => ("ChalkRoads$Reader", "told", "LChalkRoads$Rock;", true)
  | 2 => ("ChalkRoads$Reader", "toldLines", "I", false)
  | 3 => ("ChalkRoads$Reader", "fault", "I", false)
  | 4 => ("ChalkRoads$Reader", "faultPlace", "I", false)
  | 5 => ("ChalkRoads$Reader", "pointsTold", "Z", false)
  | 6 => ("ChalkRoads$Reader", "kind", "I", false)
  | 7 => ("ChalkRoads$Reader", "place", "I", false)
  | 8 => ("ChalkRoads$Reader", "behind", "I", false)
  | _ => ("ChalkRoads$Reader", "value", "I", false)
def tyX2 : Nat → FieldType := fun k => match k with
  | 0 => .object "ChalkRoads$Tape"
  | 1 => .object "ChalkRoads$Rock"
  | 2 => .int
  | 3 => .int
  | 4 => .int
  | 5 => .boolean
  | 6 => .int
  | 7 => .int
  | 8 => .int
  | _ => .int
abbrev wsX20 : List Cond := u_ws RX2 TX2 10
theorem nmX2 : ∀ a, a < 10 → ∀ b, b < 10 → a ≠ b → (TX2 a).2.1 ≠ (TX2 b).2.1 := by decide +kernel
theorem tyX2_ok : ∀ k, k < 10 → parseFieldDescriptor (TX2 k).2.2.1 = some (tyX2 k) := by decide +kernel
abbrev cX2_init : ByteArray := prog_4_method_1_code
def yX2_init : MethodName := ⟨RX2, "<init>", "(LChalkRoads$Tape;)V"⟩
abbrev cX2_readAll : ByteArray := prog_4_method_2_code
def yX2_readAll : MethodName := ⟨RX2, "readAll", "()I"⟩
abbrev cX2_readOneLine : ByteArray := prog_4_method_3_code
def yX2_readOneLine : MethodName := ⟨RX2, "readOneLine", "()Z"⟩
abbrev cX2_readPoints : ByteArray := prog_4_method_4_code
def yX2_readPoints : MethodName := ⟨RX2, "readPoints", "()Z"⟩
abbrev cX2_readHouse : ByteArray := prog_4_method_5_code
def yX2_readHouse : MethodName := ⟨RX2, "readHouse", "()Z"⟩
abbrev cX2_readLine : ByteArray := prog_4_method_6_code
def yX2_readLine : MethodName := ⟨RX2, "readLine", "()Z"⟩
abbrev cX2_nextRoof : ByteArray := prog_4_method_7_code
def yX2_nextRoof : MethodName := ⟨RX2, "nextRoof", "()Z"⟩
abbrev cX2_readDrawer : ByteArray := prog_4_method_8_code
def yX2_readDrawer : MethodName := ⟨RX2, "readDrawer", "()Z"⟩
abbrev cX2_readOne : ByteArray := prog_4_method_9_code
def yX2_readOne : MethodName := ⟨RX2, "readOne", "()Z"⟩
abbrev cX2_readRain : ByteArray := prog_4_method_10_code
def yX2_readRain : MethodName := ⟨RX2, "readRain", "()Z"⟩
abbrev cX2_fail : ByteArray := prog_4_method_11_code
def yX2_fail : MethodName := ⟨RX2, "fail", "(II)Z"⟩
abbrev cX2_nextSign : ByteArray := prog_4_method_12_code
def yX2_nextSign : MethodName := ⟨RX2, "nextSign", "()Z"⟩
abbrev cX2_nextNumber : ByteArray := prog_4_method_13_code
def yX2_nextNumber : MethodName := ⟨RX2, "nextNumber", "(II)Z"⟩
abbrev cX2_nextToken : ByteArray := prog_4_method_14_code
def yX2_nextToken : MethodName := ⟨RX2, "nextToken", "()Z"⟩
abbrev cX2_nameIs : ByteArray := prog_4_method_15_code
def yX2_nameIs : MethodName := ⟨RX2, "nameIs", "(Ljava/lang/String;)Z"⟩
def RX3 : String := "ChalkRoads$Rock"
def TX3 : u_T := fun k => match k with
  | 0 => ("ChalkRoads$Rock", "points", "I", false)
  | 1 => ("ChalkRoads$Rock", "houses", "I", false)
  | 2 => ("ChalkRoads$Rock", "lines", "I", false)
  | 3 => ("ChalkRoads$Rock", "from", "[I", true)
  | 4 => ("ChalkRoads$Rock", "to", "[I", true)
  | 5 => ("ChalkRoads$Rock", "yards", "[I", true)
  | 6 => ("ChalkRoads$Rock", "strength", "[I", true)
  | 7 => ("ChalkRoads$Rock", "roofs", "I", false)
  | 8 => ("ChalkRoads$Rock", "drawers", "I", false)
  | 9 => ("ChalkRoads$Rock", "chalk", "[I", true)
  | 10 => ("ChalkRoads$Rock", "people", "I", false)
  | 11 => ("ChalkRoads$Rock", "home", "[I", true)
  | 12 => ("ChalkRoads$Rock", "goal", "[I", true)
  | 13 => ("ChalkRoads$Rock", "start", "[I", true)
  | 14 => ("ChalkRoads$Rock", "rainBits", "J", false)
  | 15 => ("ChalkRoads$Rock", "heard", "I", false)
  | 16 => ("ChalkRoads$Rock", "heardOver", "[I", true)
  | _ => ("ChalkRoads$Rock", "heardCame", "I", false)
def tyX3 : Nat → FieldType := fun k => match k with
  | 0 => .int
  | 1 => .int
  | 2 => .int
  | 3 => .array .int
  | 4 => .array .int
  | 5 => .array .int
  | 6 => .array .int
  | 7 => .int
  | 8 => .int
  | 9 => .array .int
  | 10 => .int
  | 11 => .array .int
  | 12 => .array .int
  | 13 => .array .int
  | 14 => .long
  | 15 => .int
  | 16 => .array .int
  | _ => .int
abbrev wsX30 : List Cond := u_ws RX3 TX3 18
theorem nmX3 : ∀ a, a < 18 → ∀ b, b < 18 → a ≠ b → (TX3 a).2.1 ≠ (TX3 b).2.1 := by decide +kernel
theorem tyX3_ok : ∀ k, k < 18 → parseFieldDescriptor (TX3 k).2.2.1 = some (tyX3 k) := by decide +kernel
abbrev cX3_init : ByteArray := prog_5_method_1_code
def yX3_init : MethodName := ⟨RX3, "<init>", "()V"⟩
abbrev cX3_clear : ByteArray := prog_5_method_2_code
def yX3_clear : MethodName := ⟨RX3, "clear", "()V"⟩
abbrev cX3_copyOf : ByteArray := prog_5_method_3_code
def yX3_copyOf : MethodName := ⟨RX3, "copyOf", "(LChalkRoads$Rock;)V"⟩
abbrev cX3_hasPoint : ByteArray := prog_5_method_4_code
def yX3_hasPoint : MethodName := ⟨RX3, "hasPoint", "(I)Z"⟩
abbrev cX3_hasLine : ByteArray := prog_5_method_5_code
def yX3_hasLine : MethodName := ⟨RX3, "hasLine", "(I)Z"⟩
abbrev cX3_hasLines : ByteArray := prog_5_method_6_code
def yX3_hasLines : MethodName := ⟨RX3, "hasLines", "(I)Z"⟩
abbrev cX3_hasDrawer : ByteArray := prog_5_method_7_code
def yX3_hasDrawer : MethodName := ⟨RX3, "hasDrawer", "(I)Z"⟩
abbrev cX3_hasOne : ByteArray := prog_5_method_8_code
def yX3_hasOne : MethodName := ⟨RX3, "hasOne", "(I)Z"⟩
abbrev cX3_hasRoof : ByteArray := prog_5_method_9_code
def yX3_hasRoof : MethodName := ⟨RX3, "hasRoof", "(I)Z"⟩
abbrev cX3_isHouse : ByteArray := prog_5_method_10_code
def yX3_isHouse : MethodName := ⟨RX3, "isHouse", "(I)Z"⟩
abbrev cX3_setHouse : ByteArray := prog_5_method_11_code
def yX3_setHouse : MethodName := ⟨RX3, "setHouse", "(IZ)V"⟩
abbrev cX3_rainsIn : ByteArray := prog_5_method_12_code
def yX3_rainsIn : MethodName := ⟨RX3, "rainsIn", "(I)Z"⟩
abbrev cX3_setRain : ByteArray := prog_5_method_13_code
def yX3_setRain : MethodName := ⟨RX3, "setRain", "(IZ)V"⟩
abbrev cX3_allLines : ByteArray := prog_5_method_14_code
def yX3_allLines : MethodName := ⟨RX3, "allLines", "()I"⟩
abbrev cX3_wholeLines : ByteArray := prog_5_method_15_code
def yX3_wholeLines : MethodName := ⟨RX3, "wholeLines", "()I"⟩
abbrev cX3_wholeBy : ByteArray := prog_5_method_16_code
def yX3_wholeBy : MethodName := ⟨RX3, "wholeBy", "([I)I"⟩
abbrev cX3_rainRubs : ByteArray := prog_5_method_17_code
def yX3_rainRubs : MethodName := ⟨RX3, "rainRubs", "([I)V"⟩
abbrev cX3_highestPoint : ByteArray := prog_5_method_18_code
def yX3_highestPoint : MethodName := ⟨RX3, "highestPoint", "()I"⟩
abbrev cX3_otherEnd : ByteArray := prog_5_method_19_code
def yX3_otherEnd : MethodName := ⟨RX3, "otherEnd", "(II)I"⟩
abbrev cX3_yardsOf : ByteArray := prog_5_method_20_code
def yX3_yardsOf : MethodName := ⟨RX3, "yardsOf", "(I)I"⟩
abbrev cX3_addLine : ByteArray := prog_5_method_21_code
def yX3_addLine : MethodName := ⟨RX3, "addLine", "(IIII)I"⟩
abbrev cX3_addDrawer : ByteArray := prog_5_method_22_code
def yX3_addDrawer : MethodName := ⟨RX3, "addDrawer", "(I)V"⟩
abbrev cX3_addOne : ByteArray := prog_5_method_23_code
def yX3_addOne : MethodName := ⟨RX3, "addOne", "(III)V"⟩
abbrev cX3_addHeard : ByteArray := prog_5_method_24_code
def yX3_addHeard : MethodName := ⟨RX3, "addHeard", "(IZ)I"⟩
def RX4 : String := "ChalkRoads$Sharing"
def TX4 : u_T := fun k => match k with
  | 0 => ("ChalkRoads$Sharing", "rock", "LChalkRoads$Rock;", true)
  | 1 => ("ChalkRoads$Sharing", "left", "[I", true)
  | _ => ("ChalkRoads$Sharing", "drawerOf", "[I", true)
def tyX4 : Nat → FieldType := fun k => match k with
  | 0 => .object "ChalkRoads$Rock"
  | 1 => .array .int
  | _ => .array .int
abbrev wsX40 : List Cond := u_ws RX4 TX4 3
theorem nmX4 : ∀ a, a < 3 → ∀ b, b < 3 → a ≠ b → (TX4 a).2.1 ≠ (TX4 b).2.1 := by decide +kernel
theorem tyX4_ok : ∀ k, k < 3 → parseFieldDescriptor (TX4 k).2.2.1 = some (tyX4 k) := by decide +kernel
abbrev cX4_init : ByteArray := prog_6_method_1_code
def yX4_init : MethodName := ⟨RX4, "<init>", "(LChalkRoads$Rock;)V"⟩
abbrev cX4_fewestDrawers : ByteArray := prog_6_method_2_code
def yX4_fewestDrawers : MethodName := ⟨RX4, "fewestDrawers", "(I)I"⟩
abbrev cX4_canDraw : ByteArray := prog_6_method_3_code
def yX4_canDraw : MethodName := ⟨RX4, "canDraw", "(II)Z"⟩
abbrev cX4_give : ByteArray := prog_6_method_4_code
def yX4_give : MethodName := ⟨RX4, "give", "(LChalkRoads$Rock;II[I[I)Z"⟩
def RX5 : String := "ChalkRoads$Sheets"
def TX5 : u_T := fun k => match k with
  | 0 => ("ChalkRoads$Sheets", "cells", "[I", true)
  | 1 => ("ChalkRoads$Sheets", "lanes", "[I", true)
  | _ => ("ChalkRoads$Sheets", "sizes", "[I", true)
def tyX5 : Nat → FieldType := fun k => match k with
  | 0 => .array .int
  | 1 => .array .int
  | _ => .array .int
abbrev wsX50 : List Cond := u_ws RX5 TX5 3
theorem nmX5 : ∀ a, a < 3 → ∀ b, b < 3 → a ≠ b → (TX5 a).2.1 ≠ (TX5 b).2.1 := by decide +kernel
theorem tyX5_ok : ∀ k, k < 3 → parseFieldDescriptor (TX5 k).2.2.1 = some (tyX5 k) := by decide +kernel
abbrev cX5_init : ByteArray := prog_7_method_1_code
def yX5_init : MethodName := ⟨RX5, "<init>", "()V"⟩
abbrev cX5_hasSheet : ByteArray := prog_7_method_2_code
def yX5_hasSheet : MethodName := ⟨RX5, "hasSheet", "(I)Z"⟩
abbrev cX5_hasLane : ByteArray := prog_7_method_3_code
def yX5_hasLane : MethodName := ⟨RX5, "hasLane", "(I)Z"⟩
abbrev cX5_isNothing : ByteArray := prog_7_method_4_code
def yX5_isNothing : MethodName := ⟨RX5, "isNothing", "(I)Z"⟩
abbrev cX5_sizeOf : ByteArray := prog_7_method_5_code
def yX5_sizeOf : MethodName := ⟨RX5, "sizeOf", "(I)I"⟩
abbrev cX5_hasCell : ByteArray := prog_7_method_6_code
def yX5_hasCell : MethodName := ⟨RX5, "hasCell", "(II)Z"⟩
abbrev cX5_hasTwoCells : ByteArray := prog_7_method_7_code
def yX5_hasTwoCells : MethodName := ⟨RX5, "hasTwoCells", "(II)Z"⟩
abbrev cX5_cell : ByteArray := prog_7_method_8_code
def yX5_cell : MethodName := ⟨RX5, "cell", "(II)I"⟩
abbrev cX5_makeAnew : ByteArray := prog_7_method_9_code
def yX5_makeAnew : MethodName := ⟨RX5, "makeAnew", "(III)V"⟩
abbrev cX5_setCell : ByteArray := prog_7_method_10_code
def yX5_setCell : MethodName := ⟨RX5, "setCell", "(III)V"⟩
abbrev cX5_faultOfTaking : ByteArray := prog_7_method_11_code
def yX5_faultOfTaking : MethodName := ⟨RX5, "faultOfTaking", "(II)I"⟩
def RX6 : String := "ChalkRoads$Tape"
def TX6 : u_T := fun k => match k with
  | 0 => ("ChalkRoads$Tape", "bytes", "[I", true)
  | _ => ("ChalkRoads$Tape", "length", "I", false)
def tyX6 : Nat → FieldType := fun k => match k with
  | 0 => .array .int
  | _ => .int
abbrev wsX60 : List Cond := u_ws RX6 TX6 2
theorem nmX6 : ∀ a, a < 2 → ∀ b, b < 2 → a ≠ b → (TX6 a).2.1 ≠ (TX6 b).2.1 := by decide +kernel
theorem tyX6_ok : ∀ k, k < 2 → parseFieldDescriptor (TX6 k).2.2.1 = some (tyX6 k) := by decide +kernel
abbrev cX6_init : ByteArray := prog_8_method_1_code
def yX6_init : MethodName := ⟨RX6, "<init>", "()V"⟩
abbrev cX6_append : ByteArray := prog_8_method_2_code
def yX6_append : MethodName := ⟨RX6, "append", "(J)I"⟩
abbrev cX6_cut : ByteArray := prog_8_method_3_code
def yX6_cut : MethodName := ⟨RX6, "cut", "(I)I"⟩
abbrev cX6_byteAt : ByteArray := prog_8_method_4_code
def yX6_byteAt : MethodName := ⟨RX6, "byteAt", "(I)I"⟩
abbrev cX6_behindAll : ByteArray := prog_8_method_5_code
def yX6_behindAll : MethodName := ⟨RX6, "behindAll", "(III)I"⟩
abbrev cX6_numberOf : ByteArray := prog_8_method_6_code
def yX6_numberOf : MethodName := ⟨RX6, "numberOf", "(II)I"⟩
def RX7 : String := "ChalkRoads$Walk"
def TX7 : u_T := fun k => match k with
  | 0 => ("ChalkRoads$Walk", "rock", "LChalkRoads$Rock;", true)
  | 1 => ("ChalkRoads$Walk", "ways", "LChalkRoads$Ways;", true)
  | 2 => ("ChalkRoads$Walk", "strengths", "[I", true)
  | 3 => ("ChalkRoads$Walk", "at", "[I", true)
  | 4 => ("ChalkRoads$Walk", "yardsToGo", "[I", true)
  | 5 => ("ChalkRoads$Walk", "nextPoint", "[I", true)
  | 6 => ("ChalkRoads$Walk", "waits", "[I", true)
  | _ => ("ChalkRoads$Walk", "cameIn", "[I", true)
def tyX7 : Nat → FieldType := fun k => match k with
  | 0 => .object "ChalkRoads$Rock"
  | 1 => .object "ChalkRoads$Ways"
  | 2 => .array .int
  | 3 => .array .int
  | 4 => .array .int
  | 5 => .array .int
  | 6 => .array .int
  | _ => .array .int
abbrev wsX70 : List Cond := u_ws RX7 TX7 8
theorem nmX7 : ∀ a, a < 8 → ∀ b, b < 8 → a ≠ b → (TX7 a).2.1 ≠ (TX7 b).2.1 := by decide +kernel
theorem tyX7_ok : ∀ k, k < 8 → parseFieldDescriptor (TX7 k).2.2.1 = some (tyX7 k) := by decide +kernel
abbrev cX7_init : ByteArray := prog_9_method_1_code
def yX7_init : MethodName := ⟨RX7, "<init>", "(LChalkRoads$Rock;LChalkRoads$Ways;)V"⟩
abbrev cX7_run : ByteArray := prog_9_method_2_code
def yX7_run : MethodName := ⟨RX7, "run", "(II)V"⟩
abbrev cX7_fallOfRain : ByteArray := prog_9_method_3_code
def yX7_fallOfRain : MethodName := ⟨RX7, "fallOfRain", "()V"⟩
abbrev cX7_loseIfBroken : ByteArray := prog_9_method_4_code
def yX7_loseIfBroken : MethodName := ⟨RX7, "loseIfBroken", "(I)V"⟩
abbrev cX7_step : ByteArray := prog_9_method_5_code
def yX7_step : MethodName := ⟨RX7, "step", "(II)V"⟩
abbrev cX7_goOn : ByteArray := prog_9_method_6_code
def yX7_goOn : MethodName := ⟨RX7, "goOn", "(III)V"⟩
abbrev cX7_setOut : ByteArray := prog_9_method_7_code
def yX7_setOut : MethodName := ⟨RX7, "setOut", "(II)V"⟩
abbrev cX7_whoIsLost : ByteArray := prog_9_method_8_code
def yX7_whoIsLost : MethodName := ⟨RX7, "whoIsLost", "()I"⟩
abbrev cX7_whoIsInTheOpen : ByteArray := prog_9_method_9_code
def yX7_whoIsInTheOpen : MethodName := ⟨RX7, "whoIsInTheOpen", "()I"⟩
def RX8 : String := "ChalkRoads$Ways"
def TX8 : u_T := fun k => match k with
  | 0 => ("ChalkRoads$Ways", "rock", "LChalkRoads$Rock;", true)
  | 1 => ("ChalkRoads$Ways", "costs", "[I", true)
  | _ => ("ChalkRoads$Ways", "reckonedBy", "[I", true)
def tyX8 : Nat → FieldType := fun k => match k with
  | 0 => .object "ChalkRoads$Rock"
  | 1 => .array .int
  | _ => .array .int
abbrev wsX80 : List Cond := u_ws RX8 TX8 3
theorem nmX8 : ∀ a, a < 3 → ∀ b, b < 3 → a ≠ b → (TX8 a).2.1 ≠ (TX8 b).2.1 := by decide +kernel
theorem tyX8_ok : ∀ k, k < 3 → parseFieldDescriptor (TX8 k).2.2.1 = some (tyX8 k) := by decide +kernel
abbrev cX8_init : ByteArray := prog_10_method_1_code
def yX8_init : MethodName := ⟨RX8, "<init>", "(LChalkRoads$Rock;)V"⟩
abbrev cX8_beginAnew : ByteArray := prog_10_method_2_code
def yX8_beginAnew : MethodName := ⟨RX8, "beginAnew", "()V"⟩
abbrev cX8_yardsOfWay : ByteArray := prog_10_method_3_code
def yX8_yardsOfWay : MethodName := ⟨RX8, "yardsOfWay", "(III)I"⟩
abbrev cX8_linesOfWay : ByteArray := prog_10_method_4_code
def yX8_linesOfWay : MethodName := ⟨RX8, "linesOfWay", "(III)I"⟩
abbrev cX8_lineOfWay : ByteArray := prog_10_method_5_code
def yX8_lineOfWay : MethodName := ⟨RX8, "lineOfWay", "(IIII)I"⟩
abbrev cX8_firstLine : ByteArray := prog_10_method_6_code
def yX8_firstLine : MethodName := ⟨RX8, "firstLine", "(III)I"⟩
abbrev cX8_costOver : ByteArray := prog_10_method_7_code
def yX8_costOver : MethodName := ⟨RX8, "costOver", "(I)I"⟩
abbrev cX8_reckonTo : ByteArray := prog_10_method_8_code
def yX8_reckonTo : MethodName := ⟨RX8, "reckonTo", "(II)V"⟩
abbrev cX8_reached : ByteArray := prog_10_method_9_code
def yX8_reached : MethodName := ⟨RX8, "reached", "(II)I"⟩
abbrev cX8_housesMeet : ByteArray := prog_10_method_10_code
def yX8_housesMeet : MethodName := ⟨RX8, "housesMeet", "(I)Z"⟩
abbrev cX8_linesNeeded : ByteArray := prog_10_method_11_code
def yX8_linesNeeded : MethodName := ⟨RX8, "linesNeeded", "(I)I"⟩
def RX9 : String := "ChalkRoads"
def TX9 : u_T := fun k => match k with
  | 0 => ("ChalkRoads", "rock", "LChalkRoads$Rock;", true)
  | 1 => ("ChalkRoads", "tape", "LChalkRoads$Tape;", true)
  | 2 => ("ChalkRoads", "reader", "LChalkRoads$Reader;", true)
  | 3 => ("ChalkRoads", "ways", "LChalkRoads$Ways;", true)
  | 4 => ("ChalkRoads", "walk", "LChalkRoads$Walk;", true)
  | 5 => ("ChalkRoads", "morning", "LChalkRoads$Dawn;", true)
  | 6 => ("ChalkRoads", "sharing", "LChalkRoads$Sharing;", true)
  | 7 => ("ChalkRoads", "guess", "LChalkRoads$Guess;", true)
  | 8 => ("ChalkRoads", "sheets", "LChalkRoads$Sheets;", true)
  | 9 => ("ChalkRoads", "images", "[LChalkRoads$Rock;", true)
  | 10 => ("ChalkRoads", "imagesKept", "I", false)
  | _ => ("ChalkRoads", "tornFault", "I", false)
def tyX9 : Nat → FieldType := fun k => match k with
  | 0 => .object "ChalkRoads$Rock"
  | 1 => .object "ChalkRoads$Tape"
  | 2 => .object "ChalkRoads$Reader"
  | 3 => .object "ChalkRoads$Ways"
  | 4 => .object "ChalkRoads$Walk"
  | 5 => .object "ChalkRoads$Dawn"
  | 6 => .object "ChalkRoads$Sharing"
  | 7 => .object "ChalkRoads$Guess"
  | 8 => .object "ChalkRoads$Sheets"
  | 9 => .array (.object "ChalkRoads$Rock")
  | 10 => .int
  | _ => .int
abbrev wsX90 : List Cond := u_ws RX9 TX9 12
theorem nmX9 : ∀ a, a < 12 → ∀ b, b < 12 → a ≠ b → (TX9 a).2.1 ≠ (TX9 b).2.1 := by decide +kernel
theorem tyX9_ok : ∀ k, k < 12 → parseFieldDescriptor (TX9 k).2.2.1 = some (tyX9 k) := by decide +kernel
abbrev cX9_init : ByteArray := prog_1_method_1_code
def yX9_init : MethodName := ⟨RX9, "<init>", "()V"⟩
abbrev cX9_feed : ByteArray := prog_1_method_2_code
def yX9_feed : MethodName := ⟨RX9, "feed", "(J)I"⟩
abbrev cX9_end : ByteArray := prog_1_method_3_code
def yX9_end : MethodName := ⟨RX9, "end", "(I)I"⟩
abbrev cX9_text : ByteArray := prog_1_method_4_code
def yX9_text : MethodName := ⟨RX9, "text", "()I"⟩
abbrev cX9_fault : ByteArray := prog_1_method_5_code
def yX9_fault : MethodName := ⟨RX9, "fault", "()I"⟩
abbrev cX9_rule : ByteArray := prog_1_method_6_code
def yX9_rule : MethodName := ⟨RX9, "rule", "(I)I"⟩
abbrev cX9_line : ByteArray := prog_1_method_7_code
def yX9_line : MethodName := ⟨RX9, "line", "(II)I"⟩
abbrev cX9_chalk : ByteArray := prog_1_method_8_code
def yX9_chalk : MethodName := ⟨RX9, "chalk", "(I)I"⟩
abbrev cX9_one : ByteArray := prog_1_method_9_code
def yX9_one : MethodName := ⟨RX9, "one", "(II)I"⟩
abbrev cX9_rain : ByteArray := prog_1_method_10_code
def yX9_rain : MethodName := ⟨RX9, "rain", "(I)I"⟩
abbrev cX9_draw : ByteArray := prog_1_method_11_code
def yX9_draw : MethodName := ⟨RX9, "draw", "(II)I"⟩
abbrev cX9_rub : ByteArray := prog_1_method_12_code
def yX9_rub : MethodName := ⟨RX9, "rub", "(II)I"⟩
abbrev cX9_wet : ByteArray := prog_1_method_13_code
def yX9_wet : MethodName := ⟨RX9, "wet", "()I"⟩
abbrev cX9_cloud : ByteArray := prog_1_method_14_code
def yX9_cloud : MethodName := ⟨RX9, "cloud", "(IZ)I"⟩
abbrev cX9_build : ByteArray := prog_1_method_15_code
def yX9_build : MethodName := ⟨RX9, "build", "(IZ)I"⟩
abbrev cX9_plan : ByteArray := prog_1_method_16_code
def yX9_plan : MethodName := ⟨RX9, "plan", "(III)I"⟩
abbrev cX9_way : ByteArray := prog_1_method_17_code
def yX9_way : MethodName := ⟨RX9, "way", "(III)I"⟩
abbrev cX9_part : ByteArray := prog_1_method_18_code
def yX9_part : MethodName := ⟨RX9, "part", "(I)I"⟩
abbrev cX9_meet : ByteArray := prog_1_method_19_code
def yX9_meet : MethodName := ⟨RX9, "meet", "(I)I"⟩
abbrev cX9_needed : ByteArray := prog_1_method_20_code
def yX9_needed : MethodName := ⟨RX9, "needed", "()I"⟩
abbrev cX9_where : ByteArray := prog_1_method_21_code
def yX9_where : MethodName := ⟨RX9, "where", "(II)I"⟩
abbrev cX9_strength : ByteArray := prog_1_method_22_code
def yX9_strength : MethodName := ⟨RX9, "strength", "(II)I"⟩
abbrev cX9_comes : ByteArray := prog_1_method_23_code
def yX9_comes : MethodName := ⟨RX9, "comes", "(I)I"⟩
abbrev cX9_waited : ByteArray := prog_1_method_24_code
def yX9_waited : MethodName := ⟨RX9, "waited", "(II)I"⟩
abbrev cX9_lost : ByteArray := prog_1_method_25_code
def yX9_lost : MethodName := ⟨RX9, "lost", "(I)I"⟩
abbrev cX9_storm : ByteArray := prog_1_method_26_code
def yX9_storm : MethodName := ⟨RX9, "storm", "(I)I"⟩
abbrev cX9_worst : ByteArray := prog_1_method_27_code
def yX9_worst : MethodName := ⟨RX9, "worst", "(I)I"⟩
abbrev cX9_dawn : ByteArray := prog_1_method_28_code
def yX9_dawn : MethodName := ⟨RX9, "dawn", "(I)I"⟩
abbrev cX9_sure : ByteArray := prog_1_method_29_code
def yX9_sure : MethodName := ⟨RX9, "sure", "(I)I"⟩
abbrev cX9_share : ByteArray := prog_1_method_30_code
def yX9_share : MethodName := ⟨RX9, "share", "(II)I"⟩
abbrev cX9_hear : ByteArray := prog_1_method_31_code
def yX9_hear : MethodName := ⟨RX9, "hear", "(IZ)I"⟩
abbrev cX9_forget : ByteArray := prog_1_method_32_code
def yX9_forget : MethodName := ⟨RX9, "forget", "(I)I"⟩
abbrev cX9_breaks : ByteArray := prog_1_method_33_code
def yX9_breaks : MethodName := ⟨RX9, "breaks", "(I)I"⟩
abbrev cX9_known : ByteArray := prog_1_method_34_code
def yX9_known : MethodName := ⟨RX9, "known", "(I)I"⟩
abbrev cX9_ask : ByteArray := prog_1_method_35_code
def yX9_ask : MethodName := ⟨RX9, "ask", "(I)I"⟩
abbrev cX9_keep : ByteArray := prog_1_method_36_code
def yX9_keep : MethodName := ⟨RX9, "keep", "(I)I"⟩
abbrev cX9_back : ByteArray := prog_1_method_37_code
def yX9_back : MethodName := ⟨RX9, "back", "(I)I"⟩
abbrev cX9_sheet : ByteArray := prog_1_method_38_code
def yX9_sheet : MethodName := ⟨RX9, "sheet", "(III)I"⟩
abbrev cX9_lay : ByteArray := prog_1_method_39_code
def yX9_lay : MethodName := ⟨RX9, "lay", "(III)I"⟩
abbrev cX9_read : ByteArray := prog_1_method_40_code
def yX9_read : MethodName := ⟨RX9, "read", "(IIII)I"⟩
abbrev cX9_torn : ByteArray := prog_1_method_41_code
def yX9_torn : MethodName := ⟨RX9, "torn", "()I"⟩
abbrev cX9_count : ByteArray := prog_1_method_42_code
def yX9_count : MethodName := ⟨RX9, "count", "(I)I"⟩
abbrev cX9_hearCells : ByteArray := prog_1_method_43_code
def yX9_hearCells : MethodName := ⟨RX9, "hearCells", "(II)Z"⟩
abbrev cX9_isRainQuarter : ByteArray := prog_1_method_44_code
def yX9_isRainQuarter : MethodName := ⟨RX9, "isRainQuarter", "(I)Z"⟩
abbrev cX9_isQuarterBehind : ByteArray := prog_1_method_45_code
def yX9_isQuarterBehind : MethodName := ⟨RX9, "isQuarterBehind", "(I)Z"⟩
abbrev cX9_isWayQuestion : ByteArray := prog_1_method_46_code
def yX9_isWayQuestion : MethodName := ⟨RX9, "isWayQuestion", "(I)Z"⟩
abbrev cX9_bit : ByteArray := prog_1_method_47_code
def yX9_bit : MethodName := ⟨RX9, "bit", "(Z)I"⟩
abbrev cX9_has : ByteArray := prog_1_method_48_code
def yX9_has : MethodName := ⟨RX9, "has", "(II)Z"⟩
def RX10 : String := "ChalkRoadsModel"
def TX10 : u_T := fun k => match k with
  | 0 => ("ChalkRoadsModel", "st", "[I", true)
  | 1 => ("ChalkRoadsModel", "isKept", "[Z", true)
  | 2 => ("ChalkRoadsModel", "points", "I", false)
  | 3 => ("ChalkRoadsModel", "drawers", "I", false)
  | 4 => ("ChalkRoadsModel", "people", "I", false)
  | 5 => ("ChalkRoadsModel", "start", "[I", true)
  | 6 => ("ChalkRoadsModel", "draft", "[I", true)
  | 7 => ("ChalkRoadsModel", "dPoints", "I", false)
  | 8 => ("ChalkRoadsModel", "dDrawers", "I", false)
  | 9 => ("ChalkRoadsModel", "dPeople", "I", false)
  | 10 => ("ChalkRoadsModel", "dStart", "[I", true)
  | 11 => ("ChalkRoadsModel", "hasPoints", "Z", false)
  | 12 => ("ChalkRoadsModel", "highest", "I", false)
  | 13 => ("ChalkRoadsModel", "tape", "[I", true)
  | 14 => ("ChalkRoadsModel", "taped", "I", false)
  | 15 => ("ChalkRoadsModel", "pos", "I", false)
  | 16 => ("ChalkRoadsModel", "from", "I", false)
  | 17 => ("ChalkRoadsModel", "sort", "I", false)
  | 18 => ("ChalkRoadsModel", "value", "I", false)
  | 19 => ("ChalkRoadsModel", "fault", "I", false)
  | 20 => ("ChalkRoadsModel", "wrongAt", "I", false)
  | 21 => ("ChalkRoadsModel", "strong", "[I", true)
  | 22 => ("ChalkRoadsModel", "least", "[I", true)
  | 23 => ("ChalkRoadsModel", "at", "[I", true)
  | 24 => ("ChalkRoadsModel", "on", "[I", true)
  | 25 => ("ChalkRoadsModel", "left", "[I", true)
  | 26 => ("ChalkRoadsModel", "came", "[I", true)
  | 27 => ("ChalkRoadsModel", "waits", "[I", true)
  | 28 => ("ChalkRoadsModel", "gone", "I", false)
  | 29 => ("ChalkRoadsModel", "extra", "I", false)
  | 30 => ("ChalkRoadsModel", "used", "[I", true)
  | 31 => ("ChalkRoadsModel", "hasLeft", "[I", true)
  | 32 => ("ChalkRoadsModel", "row", "[I", true)
  | 33 => ("ChalkRoadsModel", "rowMany", "I", false)
  | 34 => ("ChalkRoadsModel", "breakMany", "I", false)
  | 35 => ("ChalkRoadsModel", "fewestBroken", "I", false)
  | 36 => ("ChalkRoadsModel", "firstBreak", "I", false)
  | 37 => ("ChalkRoadsModel", "fewestMany", "I", false)
  | 38 => ("ChalkRoadsModel", "byAll", "I", false)
  | 39 => ("ChalkRoadsModel", "byAny", "I", false)
  | 40 => ("ChalkRoadsModel", "broken", "[I", true)
  | 41 => ("ChalkRoadsModel", "lanes", "[I", true)
  | 42 => ("ChalkRoadsModel", "sizes", "[I", true)
  | 43 => ("ChalkRoadsModel", "cells", "[I", true)
  | _ => ("ChalkRoadsModel", "torn", "I", false)
def tyX10 : Nat → FieldType := fun k => match k with
  | 0 => .array .int
  | 1 => .array .boolean
  | 2 => .int
  | 3 => .int
  | 4 => .int
  | 5 => .array .int
  | 6 => .array .int
  | 7 => .int
  | 8 => .int
  | 9 => .int
  | 10 => .array .int
  | 11 => .boolean
  | 12 => .int
  | 13 => .array .int
  | 14 => .int
  | 15 => .int
  | 16 => .int
  | 17 => .int
  | 18 => .int
  | 19 => .int
  | 20 => .int
  | 21 => .array .int
  | 22 => .array .int
  | 23 => .array .int
  | 24 => .array .int
  | 25 => .array .int
  | 26 => .array .int
  | 27 => .array .int
  | 28 => .int
  | 29 => .int
  | 30 => .array .int
  | 31 => .array .int
  | 32 => .array .int
  | 33 => .int
  | 34 => .int
  | 35 => .int
  | 36 => .int
  | 37 => .int
  | 38 => .int
  | 39 => .int
  | 40 => .array .int
  | 41 => .array .int
  | 42 => .array .int
  | 43 => .array .int
  | _ => .int
abbrev wsX100 : List Cond := u_ws RX10 TX10 45
theorem nmX10 : ∀ a, a < 45 → ∀ b, b < 45 → a ≠ b → (TX10 a).2.1 ≠ (TX10 b).2.1 := by decide +kernel
theorem tyX10_ok : ∀ k, k < 45 → parseFieldDescriptor (TX10 k).2.2.1 = some (tyX10 k) := by decide +kernel
abbrev cX10_init : ByteArray := prog_12_method_1_code
def yX10_init : MethodName := ⟨RX10, "<init>", "()V"⟩
abbrev cX10_in : ByteArray := prog_12_method_3_code
def yX10_in : MethodName := ⟨RX10, "in", "(JJJ)Z"⟩
abbrev cX10_flag : ByteArray := prog_12_method_4_code
def yX10_flag : MethodName := ⟨RX10, "flag", "(Z)I"⟩
abbrev cX10_bitsOf : ByteArray := prog_12_method_5_code
def yX10_bitsOf : MethodName := ⟨RX10, "bitsOf", "(I)I"⟩
abbrev cX10_firstDraft : ByteArray := prog_12_method_6_code
def yX10_firstDraft : MethodName := ⟨RX10, "firstDraft", "()V"⟩
abbrev cX10_keepDraft : ByteArray := prog_12_method_7_code
def yX10_keepDraft : MethodName := ⟨RX10, "keepDraft", "()V"⟩
abbrev cX10_feed : ByteArray := prog_12_method_8_code
def yX10_feed : MethodName := ⟨RX10, "feed", "(J)I"⟩
abbrev cX10_end : ByteArray := prog_12_method_9_code
def yX10_end : MethodName := ⟨RX10, "end", "(I)I"⟩
abbrev cX10_needs : ByteArray := prog_12_method_10_code
def yX10_needs : MethodName := ⟨RX10, "needs", "(ZI)V"⟩
abbrev cX10_look : ByteArray := prog_12_method_11_code
def yX10_look : MethodName := ⟨RX10, "look", "(I)I"⟩
abbrev cX10_is : ByteArray := prog_12_method_12_code
def yX10_is : MethodName := ⟨RX10, "is", "(IIII)Z"⟩
abbrev cX10_ends : ByteArray := prog_12_method_13_code
def yX10_ends : MethodName := ⟨RX10, "ends", "(III)Z"⟩
abbrev cX10_lineNow : ByteArray := prog_12_method_14_code
def yX10_lineNow : MethodName := ⟨RX10, "lineNow", "()I"⟩
abbrev cX10_isRoof : ByteArray := prog_12_method_15_code
def yX10_isRoof : MethodName := ⟨RX10, "isRoof", "()Z"⟩
abbrev cX10_next : ByteArray := prog_12_method_16_code
def yX10_next : MethodName := ⟨RX10, "next", "()V"⟩
abbrev cX10_looked : ByteArray := prog_12_method_17_code
def yX10_looked : MethodName := ⟨RX10, "looked", "(II)I"⟩
abbrev cX10_readNumber : ByteArray := prog_12_method_18_code
def yX10_readNumber : MethodName := ⟨RX10, "readNumber", "(II)I"⟩
abbrev cX10_lookedPoint : ByteArray := prog_12_method_19_code
def yX10_lookedPoint : MethodName := ⟨RX10, "lookedPoint", "()I"⟩
abbrev cX10_readPoint : ByteArray := prog_12_method_20_code
def yX10_readPoint : MethodName := ⟨RX10, "readPoint", "()I"⟩
abbrev cX10_readOther : ByteArray := prog_12_method_21_code
def yX10_readOther : MethodName := ⟨RX10, "readOther", "(I)I"⟩
abbrev cX10_readLineAt : ByteArray := prog_12_method_22_code
def yX10_readLineAt : MethodName := ⟨RX10, "readLineAt", "()V"⟩
abbrev cX10_readOne : ByteArray := prog_12_method_23_code
def yX10_readOne : MethodName := ⟨RX10, "readOne", "()V"⟩
abbrev cX10_readLineOf : ByteArray := prog_12_method_24_code
def yX10_readLineOf : MethodName := ⟨RX10, "readLineOf", "(I)V"⟩
abbrev cX10_readLine : ByteArray := prog_12_method_25_code
def yX10_readLine : MethodName := ⟨RX10, "readLine", "()V"⟩
abbrev cX10_text : ByteArray := prog_12_method_26_code
def yX10_text : MethodName := ⟨RX10, "text", "()I"⟩
abbrev cX10_fault : ByteArray := prog_12_method_27_code
def yX10_fault : MethodName := ⟨RX10, "fault", "()I"⟩
abbrev cX10_isPoint : ByteArray := prog_12_method_28_code
def yX10_isPoint : MethodName := ⟨RX10, "isPoint", "(I)Z"⟩
abbrev cX10_isLine : ByteArray := prog_12_method_29_code
def yX10_isLine : MethodName := ⟨RX10, "isLine", "(I)Z"⟩
abbrev cX10_isOne : ByteArray := prog_12_method_30_code
def yX10_isOne : MethodName := ⟨RX10, "isOne", "(I)Z"⟩
abbrev cX10_isDrawer : ByteArray := prog_12_method_31_code
def yX10_isDrawer : MethodName := ⟨RX10, "isDrawer", "(I)Z"⟩
abbrev cX10_isRainy : ByteArray := prog_12_method_32_code
def yX10_isRainy : MethodName := ⟨RX10, "isRainy", "(I)Z"⟩
abbrev cX10_of : ByteArray := prog_12_method_33_code
def yX10_of : MethodName := ⟨RX10, "of", "(II)I"⟩
abbrev cX10_rule : ByteArray := prog_12_method_34_code
def yX10_rule : MethodName := ⟨RX10, "rule", "(I)I"⟩
abbrev cX10_line : ByteArray := prog_12_method_35_code
def yX10_line : MethodName := ⟨RX10, "line", "(II)I"⟩
abbrev cX10_chalk : ByteArray := prog_12_method_36_code
def yX10_chalk : MethodName := ⟨RX10, "chalk", "(I)I"⟩
abbrev cX10_one : ByteArray := prog_12_method_37_code
def yX10_one : MethodName := ⟨RX10, "one", "(II)I"⟩
abbrev cX10_rain : ByteArray := prog_12_method_38_code
def yX10_rain : MethodName := ⟨RX10, "rain", "(I)I"⟩
abbrev cX10_draw : ByteArray := prog_12_method_39_code
def yX10_draw : MethodName := ⟨RX10, "draw", "(II)I"⟩
abbrev cX10_rub : ByteArray := prog_12_method_40_code
def yX10_rub : MethodName := ⟨RX10, "rub", "(II)I"⟩
abbrev cX10_wet : ByteArray := prog_12_method_41_code
def yX10_wet : MethodName := ⟨RX10, "wet", "()I"⟩
abbrev cX10_cloud : ByteArray := prog_12_method_42_code
def yX10_cloud : MethodName := ⟨RX10, "cloud", "(IZ)I"⟩
abbrev cX10_build : ByteArray := prog_12_method_43_code
def yX10_build : MethodName := ⟨RX10, "build", "(IZ)I"⟩
abbrev cX10_plan : ByteArray := prog_12_method_44_code
def yX10_plan : MethodName := ⟨RX10, "plan", "(III)I"⟩
abbrev cX10_strongNow : ByteArray := prog_12_method_45_code
def yX10_strongNow : MethodName := ⟨RX10, "strongNow", "()V"⟩
abbrev cX10_otherEnd : ByteArray := prog_12_method_46_code
def yX10_otherEnd : MethodName := ⟨RX10, "otherEnd", "(II)I"⟩
abbrev cX10_findLeast : ByteArray := prog_12_method_47_code
def yX10_findLeast : MethodName := ⟨RX10, "findLeast", "(I)V"⟩
abbrev cX10_firstLine : ByteArray := prog_12_method_48_code
def yX10_firstLine : MethodName := ⟨RX10, "firstLine", "(I)I"⟩
abbrev cX10_way : ByteArray := prog_12_method_49_code
def yX10_way : MethodName := ⟨RX10, "way", "(III)I"⟩
abbrev cX10_wholeLines : ByteArray := prog_12_method_50_code
def yX10_wholeLines : MethodName := ⟨RX10, "wholeLines", "()I"⟩
abbrev cX10_partOf : ByteArray := prog_12_method_51_code
def yX10_partOf : MethodName := ⟨RX10, "partOf", "(II)I"⟩
abbrev cX10_part : ByteArray := prog_12_method_52_code
def yX10_part : MethodName := ⟨RX10, "part", "(I)I"⟩
abbrev cX10_doMeet : ByteArray := prog_12_method_53_code
def yX10_doMeet : MethodName := ⟨RX10, "doMeet", "(I)Z"⟩
abbrev cX10_areLines : ByteArray := prog_12_method_54_code
def yX10_areLines : MethodName := ⟨RX10, "areLines", "(I)Z"⟩
abbrev cX10_meet : ByteArray := prog_12_method_55_code
def yX10_meet : MethodName := ⟨RX10, "meet", "(I)I"⟩
abbrev cX10_needed : ByteArray := prog_12_method_56_code
def yX10_needed : MethodName := ⟨RX10, "needed", "()I"⟩
abbrev cX10_startRun : ByteArray := prog_12_method_57_code
def yX10_startRun : MethodName := ⟨RX10, "startRun", "()V"⟩
abbrev cX10_loses : ByteArray := prog_12_method_58_code
def yX10_loses : MethodName := ⟨RX10, "loses", "()V"⟩
abbrev cX10_rains : ByteArray := prog_12_method_59_code
def yX10_rains : MethodName := ⟨RX10, "rains", "()V"⟩
abbrev cX10_arrives : ByteArray := prog_12_method_60_code
def yX10_arrives : MethodName := ⟨RX10, "arrives", "(II)V"⟩
abbrev cX10_goesOne : ByteArray := prog_12_method_61_code
def yX10_goesOne : MethodName := ⟨RX10, "goesOne", "(II)V"⟩
abbrev cX10_runs : ByteArray := prog_12_method_62_code
def yX10_runs : MethodName := ⟨RX10, "runs", "(I)V"⟩
abbrev cX10_isQuarter : ByteArray := prog_12_method_63_code
def yX10_isQuarter : MethodName := ⟨RX10, "isQuarter", "(I)Z"⟩
abbrev cX10_where : ByteArray := prog_12_method_64_code
def yX10_where : MethodName := ⟨RX10, "where", "(II)I"⟩
abbrev cX10_strength : ByteArray := prog_12_method_65_code
def yX10_strength : MethodName := ⟨RX10, "strength", "(II)I"⟩
abbrev cX10_comes : ByteArray := prog_12_method_66_code
def yX10_comes : MethodName := ⟨RX10, "comes", "(I)I"⟩
abbrev cX10_waited : ByteArray := prog_12_method_67_code
def yX10_waited : MethodName := ⟨RX10, "waited", "(II)I"⟩
abbrev cX10_lost : ByteArray := prog_12_method_68_code
def yX10_lost : MethodName := ⟨RX10, "lost", "(I)I"⟩
abbrev cX10_storm : ByteArray := prog_12_method_69_code
def yX10_storm : MethodName := ⟨RX10, "storm", "(I)I"⟩
abbrev cX10_worst : ByteArray := prog_12_method_70_code
def yX10_worst : MethodName := ⟨RX10, "worst", "(I)I"⟩
abbrev cX10_yardsOf : ByteArray := prog_12_method_71_code
def yX10_yardsOf : MethodName := ⟨RX10, "yardsOf", "(I)I"⟩
abbrev cX10_areSure : ByteArray := prog_12_method_72_code
def yX10_areSure : MethodName := ⟨RX10, "areSure", "(I)Z"⟩
abbrev cX10_findDawn : ByteArray := prog_12_method_73_code
def yX10_findDawn : MethodName := ⟨RX10, "findDawn", "(ZI)I"⟩
abbrev cX10_dawn : ByteArray := prog_12_method_74_code
def yX10_dawn : MethodName := ⟨RX10, "dawn", "(I)I"⟩
abbrev cX10_sure : ByteArray := prog_12_method_75_code
def yX10_sure : MethodName := ⟨RX10, "sure", "(I)I"⟩
abbrev cX10_findRow : ByteArray := prog_12_method_76_code
def yX10_findRow : MethodName := ⟨RX10, "findRow", "(I)V"⟩
abbrev cX10_usedThen : ByteArray := prog_12_method_77_code
def yX10_usedThen : MethodName := ⟨RX10, "usedThen", "(II)I"⟩
abbrev cX10_canDraw : ByteArray := prog_12_method_78_code
def yX10_canDraw : MethodName := ⟨RX10, "canDraw", "(I)Z"⟩
abbrev cX10_leftNow : ByteArray := prog_12_method_79_code
def yX10_leftNow : MethodName := ⟨RX10, "leftNow", "()V"⟩
abbrev cX10_fewestDrawers : ByteArray := prog_12_method_80_code
def yX10_fewestDrawers : MethodName := ⟨RX10, "fewestDrawers", "(I)I"⟩
abbrev cX10_share : ByteArray := prog_12_method_81_code
def yX10_share : MethodName := ⟨RX10, "share", "(II)I"⟩
abbrev cX10_hear : ByteArray := prog_12_method_82_code
def yX10_hear : MethodName := ⟨RX10, "hear", "(IZ)I"⟩
abbrev cX10_forget : ByteArray := prog_12_method_83_code
def yX10_forget : MethodName := ⟨RX10, "forget", "(I)I"⟩
abbrev cX10_isBreak : ByteArray := prog_12_method_84_code
def yX10_isBreak : MethodName := ⟨RX10, "isBreak", "(I)Z"⟩
abbrev cX10_findBreaks : ByteArray := prog_12_method_85_code
def yX10_findBreaks : MethodName := ⟨RX10, "findBreaks", "()V"⟩
abbrev cX10_breaks : ByteArray := prog_12_method_86_code
def yX10_breaks : MethodName := ⟨RX10, "breaks", "(I)I"⟩
abbrev cX10_known : ByteArray := prog_12_method_87_code
def yX10_known : MethodName := ⟨RX10, "known", "(I)I"⟩
abbrev cX10_ask : ByteArray := prog_12_method_88_code
def yX10_ask : MethodName := ⟨RX10, "ask", "(I)I"⟩
abbrev cX10_copies : ByteArray := prog_12_method_89_code
def yX10_copies : MethodName := ⟨RX10, "copies", "(II)V"⟩
abbrev cX10_keep : ByteArray := prog_12_method_90_code
def yX10_keep : MethodName := ⟨RX10, "keep", "(I)I"⟩
abbrev cX10_back : ByteArray := prog_12_method_91_code
def yX10_back : MethodName := ⟨RX10, "back", "(I)I"⟩
abbrev cX10_isSheet : ByteArray := prog_12_method_92_code
def yX10_isSheet : MethodName := ⟨RX10, "isSheet", "(II)Z"⟩
abbrev cX10_sheet : ByteArray := prog_12_method_93_code
def yX10_sheet : MethodName := ⟨RX10, "sheet", "(III)I"⟩
abbrev cX10_lay : ByteArray := prog_12_method_94_code
def yX10_lay : MethodName := ⟨RX10, "lay", "(III)I"⟩
abbrev cX10_read : ByteArray := prog_12_method_95_code
def yX10_read : MethodName := ⟨RX10, "read", "(IIII)I"⟩
abbrev cX10_torn : ByteArray := prog_12_method_96_code
def yX10_torn : MethodName := ⟨RX10, "torn", "()I"⟩
abbrev cX10_count : ByteArray := prog_12_method_97_code
def yX10_count : MethodName := ⟨RX10, "count", "(I)I"⟩
def RJ6 : String := "java/lang/Integer"
def TJ6 : u_T := fun k => match k with
  | _ => ("", "", "", false)
def tyJ6 : Nat → FieldType := fun k => match k with
  | _ => .int
abbrev wsJ60 : List Cond := u_ws RJ6 TJ6 0
theorem nmJ6 : ∀ a, a < 0 → ∀ b, b < 0 → a ≠ b → (TJ6 a).2.1 ≠ (TJ6 b).2.1 := by decide +kernel
theorem tyJ6_ok : ∀ k, k < 0 → parseFieldDescriptor (TJ6 k).2.2.1 = some (tyJ6 k) := by decide +kernel
abbrev cJ6_numberOfTrailingZeros_0f7a4 : ByteArray := prog_13_method_48_code
def yJ6_numberOfTrailingZeros_0f7a4 : MethodName := ⟨RJ6, "numberOfTrailingZeros", "(I)I"⟩
abbrev cJ6_bitCount_0f7a4 : ByteArray := prog_13_method_49_code
def yJ6_bitCount_0f7a4 : MethodName := ⟨RJ6, "bitCount", "(I)I"⟩
def RJ9 : String := "java/lang/Math"
def TJ9 : u_T := fun k => match k with
  | _ => ("", "", "", false)
def tyJ9 : Nat → FieldType := fun k => match k with
  | _ => .int
abbrev wsJ90 : List Cond := u_ws RJ9 TJ9 0
theorem nmJ9 : ∀ a, a < 0 → ∀ b, b < 0 → a ≠ b → (TJ9 a).2.1 ≠ (TJ9 b).2.1 := by decide +kernel
theorem tyJ9_ok : ∀ k, k < 0 → parseFieldDescriptor (TJ9 k).2.2.1 = some (tyJ9 k) := by decide +kernel
abbrev cJ9_abs_0f7a4 : ByteArray := prog_14_method_59_code
def yJ9_abs_0f7a4 : MethodName := ⟨RJ9, "abs", "(I)I"⟩
abbrev cJ9_max_7cf53 : ByteArray := prog_14_method_65_code
def yJ9_max_7cf53 : MethodName := ⟨RJ9, "max", "(II)I"⟩
abbrev cJ9_min_7cf53 : ByteArray := prog_14_method_69_code
def yJ9_min_7cf53 : MethodName := ⟨RJ9, "min", "(II)I"⟩
def RJ0 : String := "java/lang/String"
def TJ0 : u_T := fun k => match k with
  | _ => ("", "", "", false)
def tyJ0 : Nat → FieldType := fun k => match k with
  | _ => .int
abbrev wsJ00 : List Cond := u_ws RJ0 TJ0 0
theorem nmJ0 : ∀ a, a < 0 → ∀ b, b < 0 → a ≠ b → (TJ0 a).2.1 ≠ (TJ0 b).2.1 := by decide +kernel
theorem tyJ0_ok : ∀ k, k < 0 → parseFieldDescriptor (TJ0 k).2.2.1 = some (tyJ0 k) := by decide +kernel
abbrev cJ0_length_8abf5 : ByteArray := prog_15_method_54_code
def yJ0_length_8abf5 : MethodName := ⟨RJ0, "length", "()I"⟩
abbrev cJ0_charAt_5068e : ByteArray := prog_15_method_56_code
def yJ0_charAt_5068e : MethodName := ⟨RJ0, "charAt", "(I)C"⟩
abbrev cJ0_coder_7d493 : ByteArray := prog_15_method_152_code
def yJ0_coder_7d493 : MethodName := ⟨RJ0, "coder", "()B"⟩
abbrev cJ0_isLatin1_aae02 : ByteArray := prog_15_method_154_code
def yJ0_isLatin1_aae02 : MethodName := ⟨RJ0, "isLatin1", "()Z"⟩
abbrev cJ0_checkIndex_df160 : ByteArray := prog_15_method_155_code
def yJ0_checkIndex_df160 : MethodName := ⟨RJ0, "checkIndex", "(II)V"⟩
def RJ1 : String := "java/lang/StringLatin1"
def TJ1 : u_T := fun k => match k with
  | _ => ("", "", "", false)
def tyJ1 : Nat → FieldType := fun k => match k with
  | _ => .int
abbrev wsJ10 : List Cond := u_ws RJ1 TJ1 0
theorem nmJ1 : ∀ a, a < 0 → ∀ b, b < 0 → a ≠ b → (TJ1 a).2.1 ≠ (TJ1 b).2.1 := by decide +kernel
theorem tyJ1_ok : ∀ k, k < 0 → parseFieldDescriptor (TJ1 k).2.2.1 = some (tyJ1 k) := by decide +kernel
abbrev cJ1_charAt_3b067 : ByteArray := prog_16_method_2_code
def yJ1_charAt_3b067 : MethodName := ⟨RJ1, "charAt", "([BI)C"⟩
def RJ2 : String := "java/lang/StringUTF16"
def TJ2 : u_T := fun k => match k with
  | _ => ("", "", "", false)
def tyJ2 : Nat → FieldType := fun k => match k with
  | _ => .int
abbrev wsJ20 : List Cond := u_ws RJ2 TJ2 0
theorem nmJ2 : ∀ a, a < 0 → ∀ b, b < 0 → a ≠ b → (TJ2 a).2.1 ≠ (TJ2 b).2.1 := by decide +kernel
theorem tyJ2_ok : ∀ k, k < 0 → parseFieldDescriptor (TJ2 k).2.2.1 = some (tyJ2 k) := by decide +kernel
abbrev cJ2_getChar_3b067 : ByteArray := prog_17_method_5_code
def yJ2_getChar_3b067 : MethodName := ⟨RJ2, "getChar", "([BI)C"⟩
abbrev cJ2_length_9d52b : ByteArray := prog_17_method_6_code
def yJ2_length_9d52b : MethodName := ⟨RJ2, "length", "([B)I"⟩
abbrev cJ2_charAt_3b067 : ByteArray := prog_17_method_83_code
def yJ2_charAt_3b067 : MethodName := ⟨RJ2, "charAt", "([BI)C"⟩
abbrev cJ2_checkIndex_2214a : ByteArray := prog_17_method_91_code
def yJ2_checkIndex_2214a : MethodName := ⟨RJ2, "checkIndex", "(I[B)V"⟩
def RJ10 : String := "java/lang/System"
def TJ10 : u_T := fun k => match k with
  | _ => ("", "", "", false)
def tyJ10 : Nat → FieldType := fun k => match k with
  | _ => .int
abbrev wsJ100 : List Cond := u_ws RJ10 TJ10 0
theorem nmJ10 : ∀ a, a < 0 → ∀ b, b < 0 → a ≠ b → (TJ10 a).2.1 ≠ (TJ10 b).2.1 := by decide +kernel
theorem tyJ10_ok : ∀ k, k < 0 → parseFieldDescriptor (TJ10 k).2.2.1 = some (tyJ10 k) := by decide +kernel
def RJ3 : String := "jdk/internal/util/Preconditions"
def TJ3 : u_T := fun k => match k with
  | _ => ("", "", "", false)
def tyJ3 : Nat → FieldType := fun k => match k with
  | _ => .int
abbrev wsJ30 : List Cond := u_ws RJ3 TJ3 0
theorem nmJ3 : ∀ a, a < 0 → ∀ b, b < 0 → a ≠ b → (TJ3 a).2.1 ≠ (TJ3 b).2.1 := by decide +kernel
theorem tyJ3_ok : ∀ k, k < 0 → parseFieldDescriptor (TJ3 k).2.2.1 = some (tyJ3 k) := by decide +kernel
abbrev cJ3_checkIndex_8e157 : ByteArray := prog_19_method_11_code
def yJ3_checkIndex_8e157 : MethodName := ⟨RJ3, "checkIndex", "(IILjava/util/function/BiFunction;)I"⟩
def RL : String := "ChalkRoadsLaw"
abbrev cL_law : ByteArray := code
def yL_law : MethodName := ⟨RL, "law", "([I)Z"⟩
abbrev vwCl : List vw_C := [(RX0, TX0, 4), (RX1, TX1, 8), (RX2, TX2, 10), (RX3, TX3, 18), (RX4, TX4, 3), (RX5, TX5, 3), (RX6, TX6, 2), (RX7, TX7, 8), (RX8, TX8, 3), (RX9, TX9, 12), (RX10, TX10, 45)]
