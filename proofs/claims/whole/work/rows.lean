section
-- ===== PART A: goes FIRST, ahead of the names: the tables' words, and 'selects' of the private methods out of them =====
/-- a private method of a class that the tables say can be made, by its rows of tables_1 -/
def lw_okq (q : MethodName × Nat) : Prop := (q.1.cls ≠ "java/lang/invoke/MethodHandle" ∧ q.1.cls ≠ "java/lang/invoke/VarHandle") ∧ Cond.instantiable q.1.cls q.2 ∈ tables_1 ∧ Cond.privateMethod q.1 ∈ tables_1 ∧ Cond.instanceMethod q.1 ∈ tables_1
theorem lw_p0 : lw_okq (⟨"BambooTower$Reasons", "putBehind", "(II)V"⟩, 3) := ⟨⟨by decide +kernel, by decide +kernel⟩, List.mem_of_getElem? (i := 35) (by decide +kernel), List.mem_of_getElem? (i := 411) (by decide +kernel), List.mem_of_getElem? (i := 412) (by decide +kernel)⟩
theorem lw_p1 : lw_okq (⟨"BambooTower", "kept", "(I)I"⟩, 10) := ⟨⟨by decide +kernel, by decide +kernel⟩, List.mem_of_getElem? (i := 21) (by decide +kernel), List.mem_of_getElem? (i := 423) (by decide +kernel), List.mem_of_getElem? (i := 424) (by decide +kernel)⟩
theorem lw_p2 : lw_okq (⟨"BambooTower$Scaffold", "letFallFrom", "(I)V"⟩, 14) := ⟨⟨by decide +kernel, by decide +kernel⟩, List.mem_of_getElem? (i := 52) (by decide +kernel), List.mem_of_getElem? (i := 721) (by decide +kernel), List.mem_of_getElem? (i := 722) (by decide +kernel)⟩
theorem lw_p3 : lw_okq (⟨"BambooTower$Orders", "readOrder", "(LBambooTower$Line;)Z"⟩, 4) := ⟨⟨by decide +kernel, by decide +kernel⟩, List.mem_of_getElem? (i := 264) (by decide +kernel), List.mem_of_getElem? (i := 743) (by decide +kernel), List.mem_of_getElem? (i := 744) (by decide +kernel)⟩
theorem lw_p4 : lw_okq (⟨"BambooTower$Orders", "readSign", "(LBambooTower$Line;C)Z"⟩, 4) := ⟨⟨by decide +kernel, by decide +kernel⟩, List.mem_of_getElem? (i := 264) (by decide +kernel), List.mem_of_getElem? (i := 813) (by decide +kernel), List.mem_of_getElem? (i := 814) (by decide +kernel)⟩
theorem lw_p5 : lw_okq (⟨"BambooTower$Orders", "readNumber", "(LBambooTower$Line;IZ)Z"⟩, 4) := ⟨⟨by decide +kernel, by decide +kernel⟩, List.mem_of_getElem? (i := 264) (by decide +kernel), List.mem_of_getElem? (i := 817) (by decide +kernel), List.mem_of_getElem? (i := 818) (by decide +kernel)⟩
theorem lw_p6 : lw_okq (⟨"BambooTower", "obey", "(I)I"⟩, 10) := ⟨⟨by decide +kernel, by decide +kernel⟩, List.mem_of_getElem? (i := 21) (by decide +kernel), List.mem_of_getElem? (i := 828) (by decide +kernel), List.mem_of_getElem? (i := 829) (by decide +kernel)⟩
theorem lw_p7 : lw_okq (⟨"BambooTower$Storeys", "placeByTieOf", "(I)I"⟩, 7) := ⟨⟨by decide +kernel, by decide +kernel⟩, List.mem_of_getElem? (i := 76) (by decide +kernel), List.mem_of_getElem? (i := 911) (by decide +kernel), List.mem_of_getElem? (i := 912) (by decide +kernel)⟩
theorem lw_p8 : lw_okq (⟨"BambooTower", "worksToday", "(I)Z"⟩, 10) := ⟨⟨by decide +kernel, by decide +kernel⟩, List.mem_of_getElem? (i := 21) (by decide +kernel), List.mem_of_getElem? (i := 922) (by decide +kernel), List.mem_of_getElem? (i := 923) (by decide +kernel)⟩
theorem lw_p9 : lw_okq (⟨"BambooTower", "writeStorey", "(I)V"⟩, 10) := ⟨⟨by decide +kernel, by decide +kernel⟩, List.mem_of_getElem? (i := 21) (by decide +kernel), List.mem_of_getElem? (i := 976) (by decide +kernel), List.mem_of_getElem? (i := 977) (by decide +kernel)⟩
theorem lw_p10 : lw_okq (⟨"BambooTower", "writeBare", "()V"⟩, 10) := ⟨⟨by decide +kernel, by decide +kernel⟩, List.mem_of_getElem? (i := 21) (by decide +kernel), List.mem_of_getElem? (i := 986) (by decide +kernel), List.mem_of_getElem? (i := 987) (by decide +kernel)⟩
theorem lw_p11 : lw_okq (⟨"BambooTowerModel", "begins", "()V"⟩, 18) := ⟨⟨by decide +kernel, by decide +kernel⟩, List.mem_of_getElem? (i := 1060) (by decide +kernel), List.mem_of_getElem? (i := 1066) (by decide +kernel), List.mem_of_getElem? (i := 1067) (by decide +kernel)⟩
theorem lw_p12 : lw_okq (⟨"BambooTowerModel", "tries", "()V"⟩, 18) := ⟨⟨by decide +kernel, by decide +kernel⟩, List.mem_of_getElem? (i := 1060) (by decide +kernel), List.mem_of_getElem? (i := 1140) (by decide +kernel), List.mem_of_getElem? (i := 1141) (by decide +kernel)⟩
theorem lw_p13 : lw_okq (⟨"BambooTowerModel", "refuses", "(II)I"⟩, 18) := ⟨⟨by decide +kernel, by decide +kernel⟩, List.mem_of_getElem? (i := 1060) (by decide +kernel), List.mem_of_getElem? (i := 1144) (by decide +kernel), List.mem_of_getElem? (i := 1145) (by decide +kernel)⟩
theorem lw_p14 : lw_okq (⟨"BambooTowerModel", "keeps", "(I)I"⟩, 18) := ⟨⟨by decide +kernel, by decide +kernel⟩, List.mem_of_getElem? (i := 1060) (by decide +kernel), List.mem_of_getElem? (i := 1148) (by decide +kernel), List.mem_of_getElem? (i := 1149) (by decide +kernel)⟩
theorem lw_p15 : lw_okq (⟨"BambooTowerModel", "builds", "(III)I"⟩, 18) := ⟨⟨by decide +kernel, by decide +kernel⟩, List.mem_of_getElem? (i := 1060) (by decide +kernel), List.mem_of_getElem? (i := 1161) (by decide +kernel), List.mem_of_getElem? (i := 1162) (by decide +kernel)⟩
def lw_privs_1 : List (MethodName × Nat) := [(⟨"BambooTower$Reasons", "putBehind", "(II)V"⟩, 3), (⟨"BambooTower", "kept", "(I)I"⟩, 10), (⟨"BambooTower$Scaffold", "letFallFrom", "(I)V"⟩, 14), (⟨"BambooTower$Orders", "readOrder", "(LBambooTower$Line;)Z"⟩, 4), (⟨"BambooTower$Orders", "readSign", "(LBambooTower$Line;C)Z"⟩, 4), (⟨"BambooTower$Orders", "readNumber", "(LBambooTower$Line;IZ)Z"⟩, 4), (⟨"BambooTower", "obey", "(I)I"⟩, 10), (⟨"BambooTower$Storeys", "placeByTieOf", "(I)I"⟩, 7), (⟨"BambooTower", "worksToday", "(I)Z"⟩, 10), (⟨"BambooTower", "writeStorey", "(I)V"⟩, 10), (⟨"BambooTower", "writeBare", "()V"⟩, 10), (⟨"BambooTowerModel", "begins", "()V"⟩, 18), (⟨"BambooTowerModel", "tries", "()V"⟩, 18), (⟨"BambooTowerModel", "refuses", "(II)I"⟩, 18), (⟨"BambooTowerModel", "keeps", "(I)I"⟩, 18), (⟨"BambooTowerModel", "builds", "(III)I"⟩, 18)]
theorem lw_r1 : ∀ q ∈ lw_privs_1, lw_okq q := List.forall_mem_cons.mpr ⟨lw_p0, List.forall_mem_cons.mpr ⟨lw_p1, List.forall_mem_cons.mpr ⟨lw_p2, List.forall_mem_cons.mpr ⟨lw_p3, List.forall_mem_cons.mpr ⟨lw_p4, List.forall_mem_cons.mpr ⟨lw_p5, List.forall_mem_cons.mpr ⟨lw_p6, List.forall_mem_cons.mpr ⟨lw_p7, List.forall_mem_cons.mpr ⟨lw_p8, List.forall_mem_cons.mpr ⟨lw_p9, List.forall_mem_cons.mpr ⟨lw_p10, List.forall_mem_cons.mpr ⟨lw_p11, List.forall_mem_cons.mpr ⟨lw_p12, List.forall_mem_cons.mpr ⟨lw_p13, List.forall_mem_cons.mpr ⟨lw_p14, List.forall_mem_cons.mpr ⟨lw_p15, fun _ h => absurd h List.not_mem_nil⟩⟩⟩⟩⟩⟩⟩⟩⟩⟩⟩⟩⟩⟩⟩⟩
theorem lw_p16 : lw_okq (⟨"BambooTowerModel", "isBundle", "(I)Z"⟩, 18) := ⟨⟨by decide +kernel, by decide +kernel⟩, List.mem_of_getElem? (i := 1060) (by decide +kernel), List.mem_of_getElem? (i := 1165) (by decide +kernel), List.mem_of_getElem? (i := 1166) (by decide +kernel)⟩
theorem lw_p17 : lw_okq (⟨"BambooTowerModel", "sets", "(III)V"⟩, 18) := ⟨⟨by decide +kernel, by decide +kernel⟩, List.mem_of_getElem? (i := 1060) (by decide +kernel), List.mem_of_getElem? (i := 1169) (by decide +kernel), List.mem_of_getElem? (i := 1170) (by decide +kernel)⟩
theorem lw_p18 : lw_okq (⟨"BambooTowerModel", "does", "(I)I"⟩, 18) := ⟨⟨by decide +kernel, by decide +kernel⟩, List.mem_of_getElem? (i := 1060) (by decide +kernel), List.mem_of_getElem? (i := 1173) (by decide +kernel), List.mem_of_getElem? (i := 1174) (by decide +kernel)⟩
theorem lw_p19 : lw_okq (⟨"BambooTowerModel", "ends", "(I)I"⟩, 18) := ⟨⟨by decide +kernel, by decide +kernel⟩, List.mem_of_getElem? (i := 1060) (by decide +kernel), List.mem_of_getElem? (i := 1177) (by decide +kernel), List.mem_of_getElem? (i := 1178) (by decide +kernel)⟩
theorem lw_p20 : lw_okq (⟨"BambooTowerModel", "ties", "(I)I"⟩, 18) := ⟨⟨by decide +kernel, by decide +kernel⟩, List.mem_of_getElem? (i := 1060) (by decide +kernel), List.mem_of_getElem? (i := 1185) (by decide +kernel), List.mem_of_getElem? (i := 1186) (by decide +kernel)⟩
theorem lw_p21 : lw_okq (⟨"BambooTowerModel", "isStorey", "(I)Z"⟩, 18) := ⟨⟨by decide +kernel, by decide +kernel⟩, List.mem_of_getElem? (i := 1060) (by decide +kernel), List.mem_of_getElem? (i := 1189) (by decide +kernel), List.mem_of_getElem? (i := 1190) (by decide +kernel)⟩
theorem lw_p22 : lw_okq (⟨"BambooTowerModel", "of", "(II)I"⟩, 18) := ⟨⟨by decide +kernel, by decide +kernel⟩, List.mem_of_getElem? (i := 1060) (by decide +kernel), List.mem_of_getElem? (i := 1193) (by decide +kernel), List.mem_of_getElem? (i := 1194) (by decide +kernel)⟩
theorem lw_p23 : lw_okq (⟨"BambooTowerModel", "goesUp", "(II)I"⟩, 18) := ⟨⟨by decide +kernel, by decide +kernel⟩, List.mem_of_getElem? (i := 1060) (by decide +kernel), List.mem_of_getElem? (i := 1205) (by decide +kernel), List.mem_of_getElem? (i := 1206) (by decide +kernel)⟩
theorem lw_p24 : lw_okq (⟨"BambooTowerModel", "isCrew", "(I)Z"⟩, 18) := ⟨⟨by decide +kernel, by decide +kernel⟩, List.mem_of_getElem? (i := 1060) (by decide +kernel), List.mem_of_getElem? (i := 1209) (by decide +kernel), List.mem_of_getElem? (i := 1210) (by decide +kernel)⟩
theorem lw_p25 : lw_okq (⟨"BambooTowerModel", "where", "(I)I"⟩, 18) := ⟨⟨by decide +kernel, by decide +kernel⟩, List.mem_of_getElem? (i := 1060) (by decide +kernel), List.mem_of_getElem? (i := 1213) (by decide +kernel), List.mem_of_getElem? (i := 1214) (by decide +kernel)⟩
theorem lw_p26 : lw_okq (⟨"BambooTowerModel", "oldUpTo", "(I)I"⟩, 18) := ⟨⟨by decide +kernel, by decide +kernel⟩, List.mem_of_getElem? (i := 1060) (by decide +kernel), List.mem_of_getElem? (i := 1217) (by decide +kernel), List.mem_of_getElem? (i := 1218) (by decide +kernel)⟩
theorem lw_p27 : lw_okq (⟨"BambooTowerModel", "refusesBy", "(II)I"⟩, 18) := ⟨⟨by decide +kernel, by decide +kernel⟩, List.mem_of_getElem? (i := 1060) (by decide +kernel), List.mem_of_getElem? (i := 1221) (by decide +kernel), List.mem_of_getElem? (i := 1222) (by decide +kernel)⟩
theorem lw_p28 : lw_okq (⟨"BambooTowerModel", "crewsOn", "(I)I"⟩, 18) := ⟨⟨by decide +kernel, by decide +kernel⟩, List.mem_of_getElem? (i := 1060) (by decide +kernel), List.mem_of_getElem? (i := 1225) (by decide +kernel), List.mem_of_getElem? (i := 1226) (by decide +kernel)⟩
theorem lw_p29 : lw_okq (⟨"BambooTowerModel", "comesDown", "(I)I"⟩, 18) := ⟨⟨by decide +kernel, by decide +kernel⟩, List.mem_of_getElem? (i := 1060) (by decide +kernel), List.mem_of_getElem? (i := 1234) (by decide +kernel), List.mem_of_getElem? (i := 1235) (by decide +kernel)⟩
theorem lw_p30 : lw_okq (⟨"BambooTowerModel", "lifts", "(II)I"⟩, 18) := ⟨⟨by decide +kernel, by decide +kernel⟩, List.mem_of_getElem? (i := 1060) (by decide +kernel), List.mem_of_getElem? (i := 1242) (by decide +kernel), List.mem_of_getElem? (i := 1243) (by decide +kernel)⟩
theorem lw_p31 : lw_okq (⟨"BambooTowerModel", "signals", "(I)I"⟩, 18) := ⟨⟨by decide +kernel, by decide +kernel⟩, List.mem_of_getElem? (i := 1060) (by decide +kernel), List.mem_of_getElem? (i := 1250) (by decide +kernel), List.mem_of_getElem? (i := 1251) (by decide +kernel)⟩
def lw_privs_2 : List (MethodName × Nat) := [(⟨"BambooTowerModel", "isBundle", "(I)Z"⟩, 18), (⟨"BambooTowerModel", "sets", "(III)V"⟩, 18), (⟨"BambooTowerModel", "does", "(I)I"⟩, 18), (⟨"BambooTowerModel", "ends", "(I)I"⟩, 18), (⟨"BambooTowerModel", "ties", "(I)I"⟩, 18), (⟨"BambooTowerModel", "isStorey", "(I)Z"⟩, 18), (⟨"BambooTowerModel", "of", "(II)I"⟩, 18), (⟨"BambooTowerModel", "goesUp", "(II)I"⟩, 18), (⟨"BambooTowerModel", "isCrew", "(I)Z"⟩, 18), (⟨"BambooTowerModel", "where", "(I)I"⟩, 18), (⟨"BambooTowerModel", "oldUpTo", "(I)I"⟩, 18), (⟨"BambooTowerModel", "refusesBy", "(II)I"⟩, 18), (⟨"BambooTowerModel", "crewsOn", "(I)I"⟩, 18), (⟨"BambooTowerModel", "comesDown", "(I)I"⟩, 18), (⟨"BambooTowerModel", "lifts", "(II)I"⟩, 18), (⟨"BambooTowerModel", "signals", "(I)I"⟩, 18)]
theorem lw_r2 : ∀ q ∈ lw_privs_2, lw_okq q := List.forall_mem_cons.mpr ⟨lw_p16, List.forall_mem_cons.mpr ⟨lw_p17, List.forall_mem_cons.mpr ⟨lw_p18, List.forall_mem_cons.mpr ⟨lw_p19, List.forall_mem_cons.mpr ⟨lw_p20, List.forall_mem_cons.mpr ⟨lw_p21, List.forall_mem_cons.mpr ⟨lw_p22, List.forall_mem_cons.mpr ⟨lw_p23, List.forall_mem_cons.mpr ⟨lw_p24, List.forall_mem_cons.mpr ⟨lw_p25, List.forall_mem_cons.mpr ⟨lw_p26, List.forall_mem_cons.mpr ⟨lw_p27, List.forall_mem_cons.mpr ⟨lw_p28, List.forall_mem_cons.mpr ⟨lw_p29, List.forall_mem_cons.mpr ⟨lw_p30, List.forall_mem_cons.mpr ⟨lw_p31, fun _ h => absurd h List.not_mem_nil⟩⟩⟩⟩⟩⟩⟩⟩⟩⟩⟩⟩⟩⟩⟩⟩
theorem lw_p32 : lw_okq (⟨"BambooTowerModel", "inspects", "(II)I"⟩, 18) := ⟨⟨by decide +kernel, by decide +kernel⟩, List.mem_of_getElem? (i := 1060) (by decide +kernel), List.mem_of_getElem? (i := 1262) (by decide +kernel), List.mem_of_getElem? (i := 1263) (by decide +kernel)⟩
theorem lw_p33 : lw_okq (⟨"BambooTowerModel", "isInspector", "(I)Z"⟩, 18) := ⟨⟨by decide +kernel, by decide +kernel⟩, List.mem_of_getElem? (i := 1060) (by decide +kernel), List.mem_of_getElem? (i := 1266) (by decide +kernel), List.mem_of_getElem? (i := 1267) (by decide +kernel)⟩
theorem lw_p34 : lw_okq (⟨"BambooTowerModel", "days", "(I)I"⟩, 18) := ⟨⟨by decide +kernel, by decide +kernel⟩, List.mem_of_getElem? (i := 1060) (by decide +kernel), List.mem_of_getElem? (i := 1274) (by decide +kernel), List.mem_of_getElem? (i := 1275) (by decide +kernel)⟩
theorem lw_p35 : lw_okq (⟨"BambooTowerModel", "passes", "()I"⟩, 18) := ⟨⟨by decide +kernel, by decide +kernel⟩, List.mem_of_getElem? (i := 1060) (by decide +kernel), List.mem_of_getElem? (i := 1278) (by decide +kernel), List.mem_of_getElem? (i := 1279) (by decide +kernel)⟩
theorem lw_p36 : lw_okq (⟨"BambooTowerModel", "works", "(I)Z"⟩, 18) := ⟨⟨by decide +kernel, by decide +kernel⟩, List.mem_of_getElem? (i := 1060) (by decide +kernel), List.mem_of_getElem? (i := 1282) (by decide +kernel), List.mem_of_getElem? (i := 1283) (by decide +kernel)⟩
theorem lw_p37 : lw_okq (⟨"BambooTowerModel", "fallsBy", "(I)I"⟩, 18) := ⟨⟨by decide +kernel, by decide +kernel⟩, List.mem_of_getElem? (i := 1060) (by decide +kernel), List.mem_of_getElem? (i := 1286) (by decide +kernel), List.mem_of_getElem? (i := 1287) (by decide +kernel)⟩
theorem lw_p38 : lw_okq (⟨"BambooTowerModel", "strong", "(I)I"⟩, 18) := ⟨⟨by decide +kernel, by decide +kernel⟩, List.mem_of_getElem? (i := 1060) (by decide +kernel), List.mem_of_getElem? (i := 1290) (by decide +kernel), List.mem_of_getElem? (i := 1291) (by decide +kernel)⟩
theorem lw_p39 : lw_okq (⟨"BambooTowerModel", "isOrder", "()Z"⟩, 18) := ⟨⟨by decide +kernel, by decide +kernel⟩, List.mem_of_getElem? (i := 1060) (by decide +kernel), List.mem_of_getElem? (i := 1299) (by decide +kernel), List.mem_of_getElem? (i := 1300) (by decide +kernel)⟩
theorem lw_p40 : lw_okq (⟨"BambooTowerModel", "digits", "(II)Z"⟩, 18) := ⟨⟨by decide +kernel, by decide +kernel⟩, List.mem_of_getElem? (i := 1060) (by decide +kernel), List.mem_of_getElem? (i := 1303) (by decide +kernel), List.mem_of_getElem? (i := 1304) (by decide +kernel)⟩
theorem lw_p41 : lw_okq (⟨"BambooTowerModel", "isNext", "(C)Z"⟩, 18) := ⟨⟨by decide +kernel, by decide +kernel⟩, List.mem_of_getElem? (i := 1060) (by decide +kernel), List.mem_of_getElem? (i := 1307) (by decide +kernel), List.mem_of_getElem? (i := 1308) (by decide +kernel)⟩
theorem lw_p42 : lw_okq (⟨"BambooTowerModel", "carries", "()I"⟩, 18) := ⟨⟨by decide +kernel, by decide +kernel⟩, List.mem_of_getElem? (i := 1060) (by decide +kernel), List.mem_of_getElem? (i := 1311) (by decide +kernel), List.mem_of_getElem? (i := 1312) (by decide +kernel)⟩
theorem lw_p43 : lw_okq (⟨"BambooTowerModel", "comesBack", "()V"⟩, 18) := ⟨⟨by decide +kernel, by decide +kernel⟩, List.mem_of_getElem? (i := 1060) (by decide +kernel), List.mem_of_getElem? (i := 1315) (by decide +kernel), List.mem_of_getElem? (i := 1316) (by decide +kernel)⟩
theorem lw_p44 : lw_okq (⟨"BambooTowerModel", "wouldWork", "(I)Z"⟩, 18) := ⟨⟨by decide +kernel, by decide +kernel⟩, List.mem_of_getElem? (i := 1060) (by decide +kernel), List.mem_of_getElem? (i := 1351) (by decide +kernel), List.mem_of_getElem? (i := 1352) (by decide +kernel)⟩
theorem lw_p45 : lw_okq (⟨"BambooTowerModel", "thinks", "()V"⟩, 18) := ⟨⟨by decide +kernel, by decide +kernel⟩, List.mem_of_getElem? (i := 1060) (by decide +kernel), List.mem_of_getElem? (i := 1371) (by decide +kernel), List.mem_of_getElem? (i := 1372) (by decide +kernel)⟩
theorem lw_p46 : lw_okq (⟨"BambooTowerModel", "thinksNoMore", "()V"⟩, 18) := ⟨⟨by decide +kernel, by decide +kernel⟩, List.mem_of_getElem? (i := 1060) (by decide +kernel), List.mem_of_getElem? (i := 1375) (by decide +kernel), List.mem_of_getElem? (i := 1376) (by decide +kernel)⟩
theorem lw_p47 : lw_okq (⟨"BambooTowerModel", "writesNumber", "(I)V"⟩, 18) := ⟨⟨by decide +kernel, by decide +kernel⟩, List.mem_of_getElem? (i := 1060) (by decide +kernel), List.mem_of_getElem? (i := 1387) (by decide +kernel), List.mem_of_getElem? (i := 1388) (by decide +kernel)⟩
def lw_privs_3 : List (MethodName × Nat) := [(⟨"BambooTowerModel", "inspects", "(II)I"⟩, 18), (⟨"BambooTowerModel", "isInspector", "(I)Z"⟩, 18), (⟨"BambooTowerModel", "days", "(I)I"⟩, 18), (⟨"BambooTowerModel", "passes", "()I"⟩, 18), (⟨"BambooTowerModel", "works", "(I)Z"⟩, 18), (⟨"BambooTowerModel", "fallsBy", "(I)I"⟩, 18), (⟨"BambooTowerModel", "strong", "(I)I"⟩, 18), (⟨"BambooTowerModel", "isOrder", "()Z"⟩, 18), (⟨"BambooTowerModel", "digits", "(II)Z"⟩, 18), (⟨"BambooTowerModel", "isNext", "(C)Z"⟩, 18), (⟨"BambooTowerModel", "carries", "()I"⟩, 18), (⟨"BambooTowerModel", "comesBack", "()V"⟩, 18), (⟨"BambooTowerModel", "wouldWork", "(I)Z"⟩, 18), (⟨"BambooTowerModel", "thinks", "()V"⟩, 18), (⟨"BambooTowerModel", "thinksNoMore", "()V"⟩, 18), (⟨"BambooTowerModel", "writesNumber", "(I)V"⟩, 18)]
theorem lw_r3 : ∀ q ∈ lw_privs_3, lw_okq q := List.forall_mem_cons.mpr ⟨lw_p32, List.forall_mem_cons.mpr ⟨lw_p33, List.forall_mem_cons.mpr ⟨lw_p34, List.forall_mem_cons.mpr ⟨lw_p35, List.forall_mem_cons.mpr ⟨lw_p36, List.forall_mem_cons.mpr ⟨lw_p37, List.forall_mem_cons.mpr ⟨lw_p38, List.forall_mem_cons.mpr ⟨lw_p39, List.forall_mem_cons.mpr ⟨lw_p40, List.forall_mem_cons.mpr ⟨lw_p41, List.forall_mem_cons.mpr ⟨lw_p42, List.forall_mem_cons.mpr ⟨lw_p43, List.forall_mem_cons.mpr ⟨lw_p44, List.forall_mem_cons.mpr ⟨lw_p45, List.forall_mem_cons.mpr ⟨lw_p46, List.forall_mem_cons.mpr ⟨lw_p47, fun _ h => absurd h List.not_mem_nil⟩⟩⟩⟩⟩⟩⟩⟩⟩⟩⟩⟩⟩⟩⟩⟩
theorem lw_p48 : lw_okq (⟨"BambooTowerModel", "writes", "(C)V"⟩, 18) := ⟨⟨by decide +kernel, by decide +kernel⟩, List.mem_of_getElem? (i := 1060) (by decide +kernel), List.mem_of_getElem? (i := 1391) (by decide +kernel), List.mem_of_getElem? (i := 1392) (by decide +kernel)⟩
theorem lw_p49 : lw_okq (⟨"BambooTowerModel", "sum", "(I)I"⟩, 18) := ⟨⟨by decide +kernel, by decide +kernel⟩, List.mem_of_getElem? (i := 1060) (by decide +kernel), List.mem_of_getElem? (i := 1405) (by decide +kernel), List.mem_of_getElem? (i := 1406) (by decide +kernel)⟩
def lw_privs_4 : List (MethodName × Nat) := [(⟨"BambooTowerModel", "writes", "(C)V"⟩, 18), (⟨"BambooTowerModel", "sum", "(I)I"⟩, 18)]
theorem lw_r4 : ∀ q ∈ lw_privs_4, lw_okq q := List.forall_mem_cons.mpr ⟨lw_p48, List.forall_mem_cons.mpr ⟨lw_p49, fun _ h => absurd h List.not_mem_nil⟩⟩
def lw_privs : List (MethodName × Nat) := lw_privs_1 ++ (lw_privs_2 ++ (lw_privs_3 ++ (lw_privs_4)))
def lw_tbl : List Cond := k2_sels lw_privs ++ tables_1
theorem lw_privs_ok : ∀ q ∈ lw_privs, lw_okq q := by
  show ∀ q ∈ lw_privs_1 ++ (lw_privs_2 ++ (lw_privs_3 ++ (lw_privs_4))), lw_okq q
  exact List.forall_mem_append.mpr ⟨lw_r1, List.forall_mem_append.mpr ⟨lw_r2, List.forall_mem_append.mpr ⟨lw_r3, lw_r4⟩⟩⟩
/-- the streams that the claim lets the run draw from -/
abbrev lw_cs : List Choice := [Jvm.Choice.named "NaN.bits"]
theorem lw_bits : nanBits ∈ lw_cs := by first | decide | exact List.mem_cons_self | simp [lw_cs, nanBits]
end
section
def RX0 : String := "BambooTower$Bundles"
def TX0 : u_T := fun k => match k with
  | 0 => ("BambooTower$Bundles", "poles", "[I", true)
  | 1 => ("BambooTower$Bundles", "weeks", "[I", true)
  | _ => ("BambooTower$Bundles", "count", "I", false)
def tyX0 : Nat → FieldType := fun k => match k with
  | 0 => .array .int
  | 1 => .array .int
  | _ => .int
abbrev wsX00 : List Cond := u_ws RX0 TX0 3
theorem nmX0 : ∀ a, a < 3 → ∀ b, b < 3 → a ≠ b → (TX0 a).2.1 ≠ (TX0 b).2.1 := by decide +kernel
theorem tyX0_ok : ∀ k, k < 3 → parseFieldDescriptor (TX0 k).2.2.1 = some (tyX0 k) := by decide +kernel
abbrev cX0_init : ByteArray := prog_2_method_1_code
def yX0_init : MethodName := ⟨RX0, "<init>", "()V"⟩
abbrev cX0_has : ByteArray := prog_2_method_2_code
def yX0_has : MethodName := ⟨RX0, "has", "(I)Z"⟩
abbrev cX0_polesOf : ByteArray := prog_2_method_3_code
def yX0_polesOf : MethodName := ⟨RX0, "polesOf", "(I)I"⟩
abbrev cX0_weeksOf : ByteArray := prog_2_method_4_code
def yX0_weeksOf : MethodName := ⟨RX0, "weeksOf", "(I)I"⟩
abbrev cX0_allPoles : ByteArray := prog_2_method_5_code
def yX0_allPoles : MethodName := ⟨RX0, "allPoles", "()I"⟩
abbrev cX0_add : ByteArray := prog_2_method_6_code
def yX0_add : MethodName := ⟨RX0, "add", "(II)I"⟩
abbrev cX0_takeOut : ByteArray := prog_2_method_7_code
def yX0_takeOut : MethodName := ⟨RX0, "takeOut", "(II)V"⟩
abbrev cX0_getOlder : ByteArray := prog_2_method_8_code
def yX0_getOlder : MethodName := ⟨RX0, "getOlder", "()V"⟩
abbrev cX0_makeNone : ByteArray := prog_2_method_9_code
def yX0_makeNone : MethodName := ⟨RX0, "makeNone", "()V"⟩
abbrev cX0_take : ByteArray := prog_2_method_10_code
def yX0_take : MethodName := ⟨RX0, "take", "(LBambooTower$Bundles;)V"⟩
def RX1 : String := "BambooTower$Crews"
def TX1 : u_T := fun k => match k with
  | 0 => ("BambooTower$Crews", "skills", "[I", true)
  | 1 => ("BambooTower$Crews", "places", "[I", true)
  | 2 => ("BambooTower$Crews", "hours", "[I", true)
  | _ => ("BambooTower$Crews", "count", "I", false)
def tyX1 : Nat → FieldType := fun k => match k with
  | 0 => .array .int
  | 1 => .array .int
  | 2 => .array .int
  | _ => .int
abbrev wsX10 : List Cond := u_ws RX1 TX1 4
theorem nmX1 : ∀ a, a < 4 → ∀ b, b < 4 → a ≠ b → (TX1 a).2.1 ≠ (TX1 b).2.1 := by decide +kernel
theorem tyX1_ok : ∀ k, k < 4 → parseFieldDescriptor (TX1 k).2.2.1 = some (tyX1 k) := by decide +kernel
abbrev cX1_init : ByteArray := prog_3_method_1_code
def yX1_init : MethodName := ⟨RX1, "<init>", "()V"⟩
abbrev cX1_has : ByteArray := prog_3_method_2_code
def yX1_has : MethodName := ⟨RX1, "has", "(I)Z"⟩
abbrev cX1_skillOf : ByteArray := prog_3_method_3_code
def yX1_skillOf : MethodName := ⟨RX1, "skillOf", "(I)I"⟩
abbrev cX1_placeOf : ByteArray := prog_3_method_4_code
def yX1_placeOf : MethodName := ⟨RX1, "placeOf", "(I)I"⟩
abbrev cX1_hoursOf : ByteArray := prog_3_method_5_code
def yX1_hoursOf : MethodName := ⟨RX1, "hoursOf", "(I)I"⟩
abbrev cX1_isUp : ByteArray := prog_3_method_6_code
def yX1_isUp : MethodName := ⟨RX1, "isUp", "(I)Z"⟩
abbrev cX1_bitsOn : ByteArray := prog_3_method_7_code
def yX1_bitsOn : MethodName := ⟨RX1, "bitsOn", "(I)I"⟩
abbrev cX1_howManyOn : ByteArray := prog_3_method_8_code
def yX1_howManyOn : MethodName := ⟨RX1, "howManyOn", "(I)I"⟩
abbrev cX1_howManyUp : ByteArray := prog_3_method_9_code
def yX1_howManyUp : MethodName := ⟨RX1, "howManyUp", "()I"⟩
abbrev cX1_add : ByteArray := prog_3_method_10_code
def yX1_add : MethodName := ⟨RX1, "add", "(I)I"⟩
abbrev cX1_moveTo : ByteArray := prog_3_method_11_code
def yX1_moveTo : MethodName := ⟨RX1, "moveTo", "(II)V"⟩
abbrev cX1_addHours : ByteArray := prog_3_method_12_code
def yX1_addHours : MethodName := ⟨RX1, "addHours", "(II)V"⟩
abbrev cX1_comeDownFrom : ByteArray := prog_3_method_13_code
def yX1_comeDownFrom : MethodName := ⟨RX1, "comeDownFrom", "(I)V"⟩
abbrev cX1_allComeDown : ByteArray := prog_3_method_14_code
def yX1_allComeDown : MethodName := ⟨RX1, "allComeDown", "()V"⟩
abbrev cX1_makeNone : ByteArray := prog_3_method_15_code
def yX1_makeNone : MethodName := ⟨RX1, "makeNone", "()V"⟩
abbrev cX1_take : ByteArray := prog_3_method_16_code
def yX1_take : MethodName := ⟨RX1, "take", "(LBambooTower$Crews;)V"⟩
def RX2 : String := "BambooTower$History"
def TX2 : u_T := fun k => match k with
  | 0 => ("BambooTower$History", "places", "[LBambooTower$Scaffold;", true)
  | 1 => ("BambooTower$History", "spare", "LBambooTower$Scaffold;", true)
  | 2 => ("BambooTower$History", "next", "I", false)
  | _ => ("BambooTower$History", "count", "I", false)
def tyX2 : Nat → FieldType := fun k => match k with
  | 0 => .array (.object "BambooTower$Scaffold")
  | 1 => .object "BambooTower$Scaffold"
  | 2 => .int
  | _ => .int
abbrev wsX20 : List Cond := u_ws RX2 TX2 4
theorem nmX2 : ∀ a, a < 4 → ∀ b, b < 4 → a ≠ b → (TX2 a).2.1 ≠ (TX2 b).2.1 := by decide +kernel
theorem tyX2_ok : ∀ k, k < 4 → parseFieldDescriptor (TX2 k).2.2.1 = some (tyX2 k) := by decide +kernel
abbrev cX2_init : ByteArray := prog_4_method_1_code
def yX2_init : MethodName := ⟨RX2, "<init>", "()V"⟩
abbrev cX2_note : ByteArray := prog_4_method_2_code
def yX2_note : MethodName := ⟨RX2, "note", "(LBambooTower$Scaffold;)V"⟩
abbrev cX2_noted : ByteArray := prog_4_method_3_code
def yX2_noted : MethodName := ⟨RX2, "noted", "()LBambooTower$Scaffold;"⟩
abbrev cX2_keepNoted : ByteArray := prog_4_method_4_code
def yX2_keepNoted : MethodName := ⟨RX2, "keepNoted", "()V"⟩
abbrev cX2_stepBack : ByteArray := prog_4_method_5_code
def yX2_stepBack : MethodName := ⟨RX2, "stepBack", "()LBambooTower$Scaffold;"⟩
abbrev cX2_forget : ByteArray := prog_4_method_6_code
def yX2_forget : MethodName := ⟨RX2, "forget", "()V"⟩
def RX3 : String := "BambooTower$Inspectors"
def TX3 : u_T := fun k => match k with
  | 0 => ("BambooTower$Inspectors", "noses", "[I", true)
  | 1 => ("BambooTower$Inspectors", "finds", "[I", true)
  | _ => ("BambooTower$Inspectors", "count", "I", false)
def tyX3 : Nat → FieldType := fun k => match k with
  | 0 => .array .int
  | 1 => .array .int
  | _ => .int
abbrev wsX30 : List Cond := u_ws RX3 TX3 3
theorem nmX3 : ∀ a, a < 3 → ∀ b, b < 3 → a ≠ b → (TX3 a).2.1 ≠ (TX3 b).2.1 := by decide +kernel
theorem tyX3_ok : ∀ k, k < 3 → parseFieldDescriptor (TX3 k).2.2.1 = some (tyX3 k) := by decide +kernel
abbrev cX3_init : ByteArray := prog_5_method_1_code
def yX3_init : MethodName := ⟨RX3, "<init>", "()V"⟩
abbrev cX3_has : ByteArray := prog_5_method_2_code
def yX3_has : MethodName := ⟨RX3, "has", "(I)Z"⟩
abbrev cX3_noseOf : ByteArray := prog_5_method_3_code
def yX3_noseOf : MethodName := ⟨RX3, "noseOf", "(I)I"⟩
abbrev cX3_findsOf : ByteArray := prog_5_method_4_code
def yX3_findsOf : MethodName := ⟨RX3, "findsOf", "(I)I"⟩
abbrev cX3_add : ByteArray := prog_5_method_5_code
def yX3_add : MethodName := ⟨RX3, "add", "(I)I"⟩
abbrev cX3_addFind : ByteArray := prog_5_method_6_code
def yX3_addFind : MethodName := ⟨RX3, "addFind", "(I)V"⟩
abbrev cX3_makeNone : ByteArray := prog_5_method_7_code
def yX3_makeNone : MethodName := ⟨RX3, "makeNone", "()V"⟩
abbrev cX3_take : ByteArray := prog_5_method_8_code
def yX3_take : MethodName := ⟨RX3, "take", "(LBambooTower$Inspectors;)V"⟩
def RX4 : String := "BambooTower$Line"
def TX4 : u_T := fun k => match k with
  | 0 => ("BambooTower$Line", "signs", "[C", true)
  | _ => ("BambooTower$Line", "length", "I", false)
def tyX4 : Nat → FieldType := fun k => match k with
  | 0 => .array .char
  | _ => .int
abbrev wsX40 : List Cond := u_ws RX4 TX4 2
theorem nmX4 : ∀ a, a < 2 → ∀ b, b < 2 → a ≠ b → (TX4 a).2.1 ≠ (TX4 b).2.1 := by decide +kernel
theorem tyX4_ok : ∀ k, k < 2 → parseFieldDescriptor (TX4 k).2.2.1 = some (tyX4 k) := by decide +kernel
abbrev cX4_init : ByteArray := prog_6_method_1_code
def yX4_init : MethodName := ⟨RX4, "<init>", "(I)V"⟩
abbrev cX4_makeEmpty : ByteArray := prog_6_method_2_code
def yX4_makeEmpty : MethodName := ⟨RX4, "makeEmpty", "()V"⟩
abbrev cX4_put : ByteArray := prog_6_method_3_code
def yX4_put : MethodName := ⟨RX4, "put", "(C)V"⟩
abbrev cX4_putNumber : ByteArray := prog_6_method_4_code
def yX4_putNumber : MethodName := ⟨RX4, "putNumber", "(I)V"⟩
abbrev cX4_signAt : ByteArray := prog_6_method_5_code
def yX4_signAt : MethodName := ⟨RX4, "signAt", "(I)C"⟩
def RX5 : String := "BambooTower$Orders"
def TX5 : u_T := fun k => match k with
  | 0 => ("BambooTower$Orders", "letters", "[I", true)
  | 1 => ("BambooTower$Orders", "numbers", "[I", true)
  | 2 => ("BambooTower$Orders", "count", "I", false)
  | _ => ("BambooTower$Orders", "place", "I", false)
def tyX5 : Nat → FieldType := fun k => match k with
  | 0 => .array .int
  | 1 => .array .int
  | 2 => .int
  | _ => .int
abbrev wsX50 : List Cond := u_ws RX5 TX5 4
theorem nmX5 : ∀ a, a < 4 → ∀ b, b < 4 → a ≠ b → (TX5 a).2.1 ≠ (TX5 b).2.1 := by decide +kernel
theorem tyX5_ok : ∀ k, k < 4 → parseFieldDescriptor (TX5 k).2.2.1 = some (tyX5 k) := by decide +kernel
abbrev cX5_init : ByteArray := prog_7_method_1_code
def yX5_init : MethodName := ⟨RX5, "<init>", "()V"⟩
abbrev cX5_read : ByteArray := prog_7_method_2_code
def yX5_read : MethodName := ⟨RX5, "read", "(LBambooTower$Line;)I"⟩
abbrev cX5_letterOf : ByteArray := prog_7_method_3_code
def yX5_letterOf : MethodName := ⟨RX5, "letterOf", "(I)I"⟩
abbrev cX5_numberOf : ByteArray := prog_7_method_4_code
def yX5_numberOf : MethodName := ⟨RX5, "numberOf", "(II)I"⟩
abbrev cX5_readOrder : ByteArray := prog_7_method_5_code
def yX5_readOrder : MethodName := ⟨RX5, "readOrder", "(LBambooTower$Line;)Z"⟩
abbrev cX5_formOf : ByteArray := prog_7_method_6_code
def yX5_formOf : MethodName := ⟨RX5, "formOf", "(C)Ljava/lang/String;"⟩
abbrev cX5_readSign : ByteArray := prog_7_method_7_code
def yX5_readSign : MethodName := ⟨RX5, "readSign", "(LBambooTower$Line;C)Z"⟩
abbrev cX5_readNumber : ByteArray := prog_7_method_8_code
def yX5_readNumber : MethodName := ⟨RX5, "readNumber", "(LBambooTower$Line;IZ)Z"⟩
abbrev cX5_isDigit : ByteArray := prog_7_method_9_code
def yX5_isDigit : MethodName := ⟨RX5, "isDigit", "(C)Z"⟩
def RX6 : String := "BambooTower$Reasons"
def TX6 : u_T := fun k => match k with
  | 0 => ("BambooTower$Reasons", "kinds", "[I", true)
  | 1 => ("BambooTower$Reasons", "details", "[I", true)
  | _ => ("BambooTower$Reasons", "count", "I", false)
def tyX6 : Nat → FieldType := fun k => match k with
  | 0 => .array .int
  | 1 => .array .int
  | _ => .int
abbrev wsX60 : List Cond := u_ws RX6 TX6 3
theorem nmX6 : ∀ a, a < 3 → ∀ b, b < 3 → a ≠ b → (TX6 a).2.1 ≠ (TX6 b).2.1 := by decide +kernel
theorem tyX6_ok : ∀ k, k < 3 → parseFieldDescriptor (TX6 k).2.2.1 = some (tyX6 k) := by decide +kernel
abbrev cX6_init : ByteArray := prog_8_method_1_code
def yX6_init : MethodName := ⟨RX6, "<init>", "()V"⟩
abbrev cX6_refuse : ByteArray := prog_8_method_2_code
def yX6_refuse : MethodName := ⟨RX6, "refuse", "(II)I"⟩
abbrev cX6_refuseShut : ByteArray := prog_8_method_3_code
def yX6_refuseShut : MethodName := ⟨RX6, "refuseShut", "(II)I"⟩
abbrev cX6_refuseOrder : ByteArray := prog_8_method_4_code
def yX6_refuseOrder : MethodName := ⟨RX6, "refuseOrder", "(IZ)I"⟩
abbrev cX6_tell : ByteArray := prog_8_method_5_code
def yX6_tell : MethodName := ⟨RX6, "tell", "(IZ)I"⟩
abbrev cX6_putBehind : ByteArray := prog_8_method_6_code
def yX6_putBehind : MethodName := ⟨RX6, "putBehind", "(II)V"⟩
def RX7 : String := "BambooTower$Scaffold"
def TX7 : u_T := fun k => match k with
  | 0 => ("BambooTower$Scaffold", "bundles", "LBambooTower$Bundles;", true)
  | 1 => ("BambooTower$Scaffold", "storeys", "LBambooTower$Storeys;", true)
  | 2 => ("BambooTower$Scaffold", "crews", "LBambooTower$Crews;", true)
  | 3 => ("BambooTower$Scaffold", "inspectors", "LBambooTower$Inspectors;", true)
  | 4 => ("BambooTower$Scaffold", "day", "I", false)
  | 5 => ("BambooTower$Scaffold", "signal", "I", false)
  | 6 => ("BambooTower$Scaffold", "strips", "I", false)
  | 7 => ("BambooTower$Scaffold", "turns", "I", false)
  | 8 => ("BambooTower$Scaffold", "fines", "I", false)
  | 9 => ("BambooTower$Scaffold", "toldHours", "I", false)
  | 10 => ("BambooTower$Scaffold", "doneHours", "I", false)
  | 11 => ("BambooTower$Scaffold", "lostHours", "I", false)
  | 12 => ("BambooTower$Scaffold", "fallenStoreys", "I", false)
  | _ => ("BambooTower$Scaffold", "lostPoles", "I", false)
def tyX7 : Nat → FieldType := fun k => match k with
  | 0 => .object "BambooTower$Bundles"
  | 1 => .object "BambooTower$Storeys"
  | 2 => .object "BambooTower$Crews"
  | 3 => .object "BambooTower$Inspectors"
  | 4 => .int
  | 5 => .int
  | 6 => .int
  | 7 => .int
  | 8 => .int
  | 9 => .int
  | 10 => .int
  | 11 => .int
  | 12 => .int
  | _ => .int
abbrev wsX70 : List Cond := u_ws RX7 TX7 14
theorem nmX7 : ∀ a, a < 14 → ∀ b, b < 14 → a ≠ b → (TX7 a).2.1 ≠ (TX7 b).2.1 := by decide +kernel
theorem tyX7_ok : ∀ k, k < 14 → parseFieldDescriptor (TX7 k).2.2.1 = some (tyX7 k) := by decide +kernel
abbrev cX7_init : ByteArray := prog_9_method_1_code
def yX7_init : MethodName := ⟨RX7, "<init>", "()V"⟩
abbrev cX7_isWarned : ByteArray := prog_9_method_2_code
def yX7_isWarned : MethodName := ⟨RX7, "isWarned", "()Z"⟩
abbrev cX7_passDay : ByteArray := prog_9_method_3_code
def yX7_passDay : MethodName := ⟨RX7, "passDay", "()V"⟩
abbrev cX7_wouldWork : ByteArray := prog_9_method_4_code
def yX7_wouldWork : MethodName := ⟨RX7, "wouldWork", "(I)Z"⟩
abbrev cX7_letWork : ByteArray := prog_9_method_5_code
def yX7_letWork : MethodName := ⟨RX7, "letWork", "(I)V"⟩
abbrev cX7_letFallFrom : ByteArray := prog_9_method_6_code
def yX7_letFallFrom : MethodName := ⟨RX7, "letFallFrom", "(I)V"⟩
abbrev cX7_makeBare : ByteArray := prog_9_method_7_code
def yX7_makeBare : MethodName := ⟨RX7, "makeBare", "()V"⟩
abbrev cX7_take : ByteArray := prog_9_method_8_code
def yX7_take : MethodName := ⟨RX7, "take", "(LBambooTower$Scaffold;)V"⟩
def RX8 : String := "BambooTower$Site"
def TX8 : u_T := fun k => match k with
  | 0 => ("BambooTower$Site", "reasons", "LBambooTower$Reasons;", true)
  | _ => ("BambooTower$Site", "scaffold", "LBambooTower$Scaffold;", true)
def tyX8 : Nat → FieldType := fun k => match k with
  | 0 => .object "BambooTower$Reasons"
  | _ => .object "BambooTower$Scaffold"
abbrev wsX80 : List Cond := u_ws RX8 TX8 2
theorem nmX8 : ∀ a, a < 2 → ∀ b, b < 2 → a ≠ b → (TX8 a).2.1 ≠ (TX8 b).2.1 := by decide +kernel
theorem tyX8_ok : ∀ k, k < 2 → parseFieldDescriptor (TX8 k).2.2.1 = some (tyX8 k) := by decide +kernel
abbrev cX8_init : ByteArray := prog_10_method_1_code
def yX8_init : MethodName := ⟨RX8, "<init>", "()V"⟩
abbrev cX8_addBundle : ByteArray := prog_10_method_2_code
def yX8_addBundle : MethodName := ⟨RX8, "addBundle", "(II)I"⟩
abbrev cX8_addStrips : ByteArray := prog_10_method_3_code
def yX8_addStrips : MethodName := ⟨RX8, "addStrips", "(I)I"⟩
abbrev cX8_addStorey : ByteArray := prog_10_method_4_code
def yX8_addStorey : MethodName := ⟨RX8, "addStorey", "(III)I"⟩
abbrev cX8_tieAnew : ByteArray := prog_10_method_5_code
def yX8_tieAnew : MethodName := ⟨RX8, "tieAnew", "(I)I"⟩
abbrev cX8_addCrew : ByteArray := prog_10_method_6_code
def yX8_addCrew : MethodName := ⟨RX8, "addCrew", "(I)I"⟩
abbrev cX8_sendUp : ByteArray := prog_10_method_7_code
def yX8_sendUp : MethodName := ⟨RX8, "sendUp", "(II)I"⟩
abbrev cX8_callDown : ByteArray := prog_10_method_8_code
def yX8_callDown : MethodName := ⟨RX8, "callDown", "(I)I"⟩
abbrev cX8_bringLoads : ByteArray := prog_10_method_9_code
def yX8_bringLoads : MethodName := ⟨RX8, "bringLoads", "(II)I"⟩
abbrev cX8_changeSignal : ByteArray := prog_10_method_10_code
def yX8_changeSignal : MethodName := ⟨RX8, "changeSignal", "(I)I"⟩
abbrev cX8_addInspector : ByteArray := prog_10_method_11_code
def yX8_addInspector : MethodName := ⟨RX8, "addInspector", "(I)I"⟩
abbrev cX8_lookAt : ByteArray := prog_10_method_12_code
def yX8_lookAt : MethodName := ⟨RX8, "lookAt", "(II)I"⟩
abbrev cX8_passDays : ByteArray := prog_10_method_13_code
def yX8_passDays : MethodName := ⟨RX8, "passDays", "(I)I"⟩
def RX9 : String := "BambooTower$Storeys"
def TX9 : u_T := fun k => match k with
  | 0 => ("BambooTower$Storeys", "poles", "[I", true)
  | 1 => ("BambooTower$Storeys", "weeks", "[I", true)
  | 2 => ("BambooTower$Storeys", "ties", "[I", true)
  | 3 => ("BambooTower$Storeys", "hours", "[I", true)
  | 4 => ("BambooTower$Storeys", "loads", "[I", true)
  | 5 => ("BambooTower$Storeys", "shutters", "[I", true)
  | _ => ("BambooTower$Storeys", "count", "I", false)
def tyX9 : Nat → FieldType := fun k => match k with
  | 0 => .array .int
  | 1 => .array .int
  | 2 => .array .int
  | 3 => .array .int
  | 4 => .array .int
  | 5 => .array .int
  | _ => .int
abbrev wsX90 : List Cond := u_ws RX9 TX9 7
theorem nmX9 : ∀ a, a < 7 → ∀ b, b < 7 → a ≠ b → (TX9 a).2.1 ≠ (TX9 b).2.1 := by decide +kernel
theorem tyX9_ok : ∀ k, k < 7 → parseFieldDescriptor (TX9 k).2.2.1 = some (tyX9 k) := by decide +kernel
abbrev cX9_init : ByteArray := prog_11_method_1_code
def yX9_init : MethodName := ⟨RX9, "<init>", "()V"⟩
abbrev cX9_has : ByteArray := prog_11_method_2_code
def yX9_has : MethodName := ⟨RX9, "has", "(I)Z"⟩
abbrev cX9_polesOf : ByteArray := prog_11_method_3_code
def yX9_polesOf : MethodName := ⟨RX9, "polesOf", "(I)I"⟩
abbrev cX9_weeksOf : ByteArray := prog_11_method_4_code
def yX9_weeksOf : MethodName := ⟨RX9, "weeksOf", "(I)I"⟩
abbrev cX9_tieOf : ByteArray := prog_11_method_5_code
def yX9_tieOf : MethodName := ⟨RX9, "tieOf", "(I)I"⟩
abbrev cX9_hoursOf : ByteArray := prog_11_method_6_code
def yX9_hoursOf : MethodName := ⟨RX9, "hoursOf", "(I)I"⟩
abbrev cX9_loadsOf : ByteArray := prog_11_method_7_code
def yX9_loadsOf : MethodName := ⟨RX9, "loadsOf", "(I)I"⟩
abbrev cX9_shutterOf : ByteArray := prog_11_method_8_code
def yX9_shutterOf : MethodName := ⟨RX9, "shutterOf", "(I)I"⟩
abbrev cX9_isShut : ByteArray := prog_11_method_9_code
def yX9_isShut : MethodName := ⟨RX9, "isShut", "(I)Z"⟩
abbrev cX9_isOld : ByteArray := prog_11_method_10_code
def yX9_isOld : MethodName := ⟨RX9, "isOld", "(I)Z"⟩
abbrev cX9_stripsFor : ByteArray := prog_11_method_11_code
def yX9_stripsFor : MethodName := ⟨RX9, "stripsFor", "(I)I"⟩
abbrev cX9_strengthOf : ByteArray := prog_11_method_12_code
def yX9_strengthOf : MethodName := ⟨RX9, "strengthOf", "(I)I"⟩
abbrev cX9_strengthByStepsOf : ByteArray := prog_11_method_13_code
def yX9_strengthByStepsOf : MethodName := ⟨RX9, "strengthByStepsOf", "(I)I"⟩
abbrev cX9_allStrength : ByteArray := prog_11_method_14_code
def yX9_allStrength : MethodName := ⟨RX9, "allStrength", "()I"⟩
abbrev cX9_allHours : ByteArray := prog_11_method_15_code
def yX9_allHours : MethodName := ⟨RX9, "allHours", "()I"⟩
abbrev cX9_allLoads : ByteArray := prog_11_method_16_code
def yX9_allLoads : MethodName := ⟨RX9, "allLoads", "()I"⟩
abbrev cX9_howManyShut : ByteArray := prog_11_method_17_code
def yX9_howManyShut : MethodName := ⟨RX9, "howManyShut", "()I"⟩
abbrev cX9_howManyShutBy : ByteArray := prog_11_method_18_code
def yX9_howManyShutBy : MethodName := ⟨RX9, "howManyShutBy", "(I)I"⟩
abbrev cX9_howManyOld : ByteArray := prog_11_method_19_code
def yX9_howManyOld : MethodName := ⟨RX9, "howManyOld", "()I"⟩
abbrev cX9_lowestOldUpTo : ByteArray := prog_11_method_20_code
def yX9_lowestOldUpTo : MethodName := ⟨RX9, "lowestOldUpTo", "(I)I"⟩
abbrev cX9_lowestWeakerThan : ByteArray := prog_11_method_21_code
def yX9_lowestWeakerThan : MethodName := ⟨RX9, "lowestWeakerThan", "(I)I"⟩
abbrev cX9_leastStrong : ByteArray := prog_11_method_22_code
def yX9_leastStrong : MethodName := ⟨RX9, "leastStrong", "()I"⟩
abbrev cX9_highestOpen : ByteArray := prog_11_method_23_code
def yX9_highestOpen : MethodName := ⟨RX9, "highestOpen", "()I"⟩
abbrev cX9_atPlaceByTie : ByteArray := prog_11_method_24_code
def yX9_atPlaceByTie : MethodName := ⟨RX9, "atPlaceByTie", "(I)I"⟩
abbrev cX9_placeByTieOf : ByteArray := prog_11_method_25_code
def yX9_placeByTieOf : MethodName := ⟨RX9, "placeByTieOf", "(I)I"⟩
abbrev cX9_add : ByteArray := prog_11_method_26_code
def yX9_add : MethodName := ⟨RX9, "add", "(III)I"⟩
abbrev cX9_bind : ByteArray := prog_11_method_27_code
def yX9_bind : MethodName := ⟨RX9, "bind", "(I)V"⟩
abbrev cX9_shut : ByteArray := prog_11_method_28_code
def yX9_shut : MethodName := ⟨RX9, "shut", "(II)V"⟩
abbrev cX9_addLoads : ByteArray := prog_11_method_29_code
def yX9_addLoads : MethodName := ⟨RX9, "addLoads", "(II)V"⟩
abbrev cX9_workOff : ByteArray := prog_11_method_30_code
def yX9_workOff : MethodName := ⟨RX9, "workOff", "(II)V"⟩
abbrev cX9_makeTiesOlder : ByteArray := prog_11_method_31_code
def yX9_makeTiesOlder : MethodName := ⟨RX9, "makeTiesOlder", "(I)V"⟩
abbrev cX9_makePolesOlder : ByteArray := prog_11_method_32_code
def yX9_makePolesOlder : MethodName := ⟨RX9, "makePolesOlder", "()V"⟩
abbrev cX9_cutTo : ByteArray := prog_11_method_33_code
def yX9_cutTo : MethodName := ⟨RX9, "cutTo", "(I)V"⟩
abbrev cX9_take : ByteArray := prog_11_method_34_code
def yX9_take : MethodName := ⟨RX9, "take", "(LBambooTower$Storeys;)V"⟩
def RX10 : String := "BambooTower"
def TX10 : u_T := fun k => match k with
  | 0 => ("BambooTower", "site", "LBambooTower$Site;", true)
  | 1 => ("BambooTower", "now", "LBambooTower$Scaffold;", true)
  | 2 => ("BambooTower", "ahead", "LBambooTower$Scaffold;", true)
  | 3 => ("BambooTower", "saved", "LBambooTower$Scaffold;", true)
  | 4 => ("BambooTower", "history", "LBambooTower$History;", true)
  | 5 => ("BambooTower", "input", "LBambooTower$Line;", true)
  | 6 => ("BambooTower", "line", "LBambooTower$Line;", true)
  | 7 => ("BambooTower", "orders", "LBambooTower$Orders;", true)
  | 8 => ("BambooTower", "isSaved", "Z", false)
  | _ => ("BambooTower", "faultPlace", "I", false)
def tyX10 : Nat → FieldType := fun k => match k with
  | 0 => .object "BambooTower$Site"
  | 1 => .object "BambooTower$Scaffold"
  | 2 => .object "BambooTower$Scaffold"
  | 3 => .object "BambooTower$Scaffold"
  | 4 => .object "BambooTower$History"
  | 5 => .object "BambooTower$Line"
  | 6 => .object "BambooTower$Line"
  | 7 => .object "BambooTower$Orders"
  | 8 => .boolean
  | _ => .int
abbrev wsX100 : List Cond := u_ws RX10 TX10 10
theorem nmX10 : ∀ a, a < 10 → ∀ b, b < 10 → a ≠ b → (TX10 a).2.1 ≠ (TX10 b).2.1 := by decide +kernel
theorem tyX10_ok : ∀ k, k < 10 → parseFieldDescriptor (TX10 k).2.2.1 = some (tyX10 k) := by decide +kernel
abbrev cX10_init : ByteArray := prog_1_method_1_code
def yX10_init : MethodName := ⟨RX10, "<init>", "()V"⟩
abbrev cX10_clear : ByteArray := prog_1_method_2_code
def yX10_clear : MethodName := ⟨RX10, "clear", "()I"⟩
abbrev cX10_append : ByteArray := prog_1_method_3_code
def yX10_append : MethodName := ⟨RX10, "append", "(C)I"⟩
abbrev cX10_bundle : ByteArray := prog_1_method_4_code
def yX10_bundle : MethodName := ⟨RX10, "bundle", "(II)I"⟩
abbrev cX10_strips : ByteArray := prog_1_method_5_code
def yX10_strips : MethodName := ⟨RX10, "strips", "(I)I"⟩
abbrev cX10_build : ByteArray := prog_1_method_6_code
def yX10_build : MethodName := ⟨RX10, "build", "(III)I"⟩
abbrev cX10_tie : ByteArray := prog_1_method_7_code
def yX10_tie : MethodName := ⟨RX10, "tie", "(I)I"⟩
abbrev cX10_crew : ByteArray := prog_1_method_8_code
def yX10_crew : MethodName := ⟨RX10, "crew", "(I)I"⟩
abbrev cX10_up : ByteArray := prog_1_method_9_code
def yX10_up : MethodName := ⟨RX10, "up", "(II)I"⟩
abbrev cX10_down : ByteArray := prog_1_method_10_code
def yX10_down : MethodName := ⟨RX10, "down", "(I)I"⟩
abbrev cX10_lift : ByteArray := prog_1_method_11_code
def yX10_lift : MethodName := ⟨RX10, "lift", "(II)I"⟩
abbrev cX10_signal : ByteArray := prog_1_method_12_code
def yX10_signal : MethodName := ⟨RX10, "signal", "(I)I"⟩
abbrev cX10_inspector : ByteArray := prog_1_method_13_code
def yX10_inspector : MethodName := ⟨RX10, "inspector", "(I)I"⟩
abbrev cX10_inspect : ByteArray := prog_1_method_14_code
def yX10_inspect : MethodName := ⟨RX10, "inspect", "(II)I"⟩
abbrev cX10_day : ByteArray := prog_1_method_15_code
def yX10_day : MethodName := ⟨RX10, "day", "(I)I"⟩
abbrev cX10_script : ByteArray := prog_1_method_16_code
def yX10_script : MethodName := ⟨RX10, "script", "()I"⟩
abbrev cX10_fault : ByteArray := prog_1_method_17_code
def yX10_fault : MethodName := ⟨RX10, "fault", "()I"⟩
abbrev cX10_reason : ByteArray := prog_1_method_18_code
def yX10_reason : MethodName := ⟨RX10, "reason", "(IZ)I"⟩
abbrev cX10_bundleOf : ByteArray := prog_1_method_19_code
def yX10_bundleOf : MethodName := ⟨RX10, "bundleOf", "(IZ)I"⟩
abbrev cX10_storeyOf : ByteArray := prog_1_method_20_code
def yX10_storeyOf : MethodName := ⟨RX10, "storeyOf", "(II)I"⟩
abbrev cX10_strength : ByteArray := prog_1_method_21_code
def yX10_strength : MethodName := ⟨RX10, "strength", "(IZ)I"⟩
abbrev cX10_weakest : ByteArray := prog_1_method_22_code
def yX10_weakest : MethodName := ⟨RX10, "weakest", "()I"⟩
abbrev cX10_oldest : ByteArray := prog_1_method_23_code
def yX10_oldest : MethodName := ⟨RX10, "oldest", "(I)I"⟩
abbrev cX10_crewOf : ByteArray := prog_1_method_24_code
def yX10_crewOf : MethodName := ⟨RX10, "crewOf", "(II)I"⟩
abbrev cX10_inspectorOf : ByteArray := prog_1_method_25_code
def yX10_inspectorOf : MethodName := ⟨RX10, "inspectorOf", "(II)I"⟩
abbrev cX10_highest : ByteArray := prog_1_method_26_code
def yX10_highest : MethodName := ⟨RX10, "highest", "()I"⟩
abbrev cX10_wouldFall : ByteArray := prog_1_method_27_code
def yX10_wouldFall : MethodName := ⟨RX10, "wouldFall", "(I)I"⟩
abbrev cX10_oldIn : ByteArray := prog_1_method_28_code
def yX10_oldIn : MethodName := ⟨RX10, "oldIn", "(I)I"⟩
abbrev cX10_doneIn : ByteArray := prog_1_method_29_code
def yX10_doneIn : MethodName := ⟨RX10, "doneIn", "(I)I"⟩
abbrev cX10_describe : ByteArray := prog_1_method_30_code
def yX10_describe : MethodName := ⟨RX10, "describe", "()I"⟩
abbrev cX10_written : ByteArray := prog_1_method_31_code
def yX10_written : MethodName := ⟨RX10, "written", "(I)I"⟩
abbrev cX10_work : ByteArray := prog_1_method_32_code
def yX10_work : MethodName := ⟨RX10, "work", "(Z)I"⟩
abbrev cX10_meanStrength : ByteArray := prog_1_method_33_code
def yX10_meanStrength : MethodName := ⟨RX10, "meanStrength", "()F"⟩
abbrev cX10_doneShare : ByteArray := prog_1_method_34_code
def yX10_doneShare : MethodName := ⟨RX10, "doneShare", "()D"⟩
abbrev cX10_account : ByteArray := prog_1_method_35_code
def yX10_account : MethodName := ⟨RX10, "account", "(I)I"⟩
abbrev cX10_undo : ByteArray := prog_1_method_36_code
def yX10_undo : MethodName := ⟨RX10, "undo", "()I"⟩
abbrev cX10_save : ByteArray := prog_1_method_37_code
def yX10_save : MethodName := ⟨RX10, "save", "()I"⟩
abbrev cX10_restore : ByteArray := prog_1_method_38_code
def yX10_restore : MethodName := ⟨RX10, "restore", "()I"⟩
abbrev cX10_kept : ByteArray := prog_1_method_39_code
def yX10_kept : MethodName := ⟨RX10, "kept", "(I)I"⟩
abbrev cX10_obey : ByteArray := prog_1_method_40_code
def yX10_obey : MethodName := ⟨RX10, "obey", "(I)I"⟩
abbrev cX10_worksToday : ByteArray := prog_1_method_41_code
def yX10_worksToday : MethodName := ⟨RX10, "worksToday", "(I)Z"⟩
abbrev cX10_writeStorey : ByteArray := prog_1_method_42_code
def yX10_writeStorey : MethodName := ⟨RX10, "writeStorey", "(I)V"⟩
abbrev cX10_writeBare : ByteArray := prog_1_method_43_code
def yX10_writeBare : MethodName := ⟨RX10, "writeBare", "()V"⟩
abbrev cX10_isWithin : ByteArray := prog_1_method_44_code
def yX10_isWithin : MethodName := ⟨RX10, "isWithin", "(III)Z"⟩
abbrev cX10_at : ByteArray := prog_1_method_45_code
def yX10_at : MethodName := ⟨RX10, "at", "([II)I"⟩
abbrev cX10_put : ByteArray := prog_1_method_46_code
def yX10_put : MethodName := ⟨RX10, "put", "([III)V"⟩
abbrev cX10_sum : ByteArray := prog_1_method_47_code
def yX10_sum : MethodName := ⟨RX10, "sum", "([II)I"⟩
abbrev cX10_copy : ByteArray := prog_1_method_48_code
def yX10_copy : MethodName := ⟨RX10, "copy", "([I[I)V"⟩
abbrev cX10_makeOlder : ByteArray := prog_1_method_49_code
def yX10_makeOlder : MethodName := ⟨RX10, "makeOlder", "([IIII)V"⟩
def RX11 : String := "BambooTowerModel"
def TX11 : u_T := fun k => match k with
  | 0 => ("BambooTowerModel", "now", "[I", true)
  | 1 => ("BambooTowerModel", "tried", "[I", true)
  | 2 => ("BambooTowerModel", "thought", "[I", true)
  | 3 => ("BambooTowerModel", "kept", "[I", true)
  | 4 => ("BambooTowerModel", "undos", "I", false)
  | 5 => ("BambooTowerModel", "saved", "[I", true)
  | 6 => ("BambooTowerModel", "isSaved", "Z", false)
  | 7 => ("BambooTowerModel", "line", "[I", true)
  | 8 => ("BambooTowerModel", "lined", "I", false)
  | 9 => ("BambooTowerModel", "text", "[C", true)
  | 10 => ("BambooTowerModel", "length", "I", false)
  | 11 => ("BambooTowerModel", "at", "I", false)
  | 12 => ("BambooTowerModel", "order", "C", false)
  | 13 => ("BambooTowerModel", "told", "[I", true)
  | 14 => ("BambooTowerModel", "fault", "I", false)
  | 15 => ("BambooTowerModel", "reasons", "[I", true)
  | 16 => ("BambooTowerModel", "depth", "I", false)
  | _ => ("BambooTowerModel", "answer", "I", false)
def tyX11 : Nat → FieldType := fun k => match k with
  | 0 => .array .int
  | 1 => .array .int
  | 2 => .array .int
  | 3 => .array .int
  | 4 => .int
  | 5 => .array .int
  | 6 => .boolean
  | 7 => .array .int
  | 8 => .int
  | 9 => .array .char
  | 10 => .int
  | 11 => .int
  | 12 => .char
  | 13 => .array .int
  | 14 => .int
  | 15 => .array .int
  | 16 => .int
  | _ => .int
abbrev wsX110 : List Cond := u_ws RX11 TX11 18
theorem nmX11 : ∀ a, a < 18 → ∀ b, b < 18 → a ≠ b → (TX11 a).2.1 ≠ (TX11 b).2.1 := by decide +kernel
theorem tyX11_ok : ∀ k, k < 18 → parseFieldDescriptor (TX11 k).2.2.1 = some (tyX11 k) := by decide +kernel
abbrev cX11_init : ByteArray := prog_13_method_1_code
def yX11_init : MethodName := ⟨RX11, "<init>", "()V"⟩
abbrev cX11_begins : ByteArray := prog_13_method_2_code
def yX11_begins : MethodName := ⟨RX11, "begins", "()V"⟩
abbrev cX11_in : ByteArray := prog_13_method_3_code
def yX11_in : MethodName := ⟨RX11, "in", "(III)Z"⟩
abbrev cX11_tries : ByteArray := prog_13_method_4_code
def yX11_tries : MethodName := ⟨RX11, "tries", "()V"⟩
abbrev cX11_comesBack : ByteArray := prog_13_method_5_code
def yX11_comesBack : MethodName := ⟨RX11, "comesBack", "()V"⟩
abbrev cX11_thinks : ByteArray := prog_13_method_6_code
def yX11_thinks : MethodName := ⟨RX11, "thinks", "()V"⟩
abbrev cX11_thinksNoMore : ByteArray := prog_13_method_7_code
def yX11_thinksNoMore : MethodName := ⟨RX11, "thinksNoMore", "()V"⟩
abbrev cX11_keeps : ByteArray := prog_13_method_8_code
def yX11_keeps : MethodName := ⟨RX11, "keeps", "(I)I"⟩
abbrev cX11_refuses : ByteArray := prog_13_method_9_code
def yX11_refuses : MethodName := ⟨RX11, "refuses", "(II)I"⟩
abbrev cX11_refusesBy : ByteArray := prog_13_method_10_code
def yX11_refusesBy : MethodName := ⟨RX11, "refusesBy", "(II)I"⟩
abbrev cX11_does : ByteArray := prog_13_method_11_code
def yX11_does : MethodName := ⟨RX11, "does", "(I)I"⟩
abbrev cX11_ends : ByteArray := prog_13_method_12_code
def yX11_ends : MethodName := ⟨RX11, "ends", "(I)I"⟩
abbrev cX11_isBundle : ByteArray := prog_13_method_13_code
def yX11_isBundle : MethodName := ⟨RX11, "isBundle", "(I)Z"⟩
abbrev cX11_isStorey : ByteArray := prog_13_method_14_code
def yX11_isStorey : MethodName := ⟨RX11, "isStorey", "(I)Z"⟩
abbrev cX11_isCrew : ByteArray := prog_13_method_15_code
def yX11_isCrew : MethodName := ⟨RX11, "isCrew", "(I)Z"⟩
abbrev cX11_isInspector : ByteArray := prog_13_method_16_code
def yX11_isInspector : MethodName := ⟨RX11, "isInspector", "(I)Z"⟩
abbrev cX11_of : ByteArray := prog_13_method_17_code
def yX11_of : MethodName := ⟨RX11, "of", "(II)I"⟩
abbrev cX11_sets : ByteArray := prog_13_method_18_code
def yX11_sets : MethodName := ⟨RX11, "sets", "(III)V"⟩
abbrev cX11_where : ByteArray := prog_13_method_19_code
def yX11_where : MethodName := ⟨RX11, "where", "(I)I"⟩
abbrev cX11_clear : ByteArray := prog_13_method_20_code
def yX11_clear : MethodName := ⟨RX11, "clear", "()I"⟩
abbrev cX11_append : ByteArray := prog_13_method_21_code
def yX11_append : MethodName := ⟨RX11, "append", "(C)I"⟩
abbrev cX11_bundle : ByteArray := prog_13_method_22_code
def yX11_bundle : MethodName := ⟨RX11, "bundle", "(II)I"⟩
abbrev cX11_strips : ByteArray := prog_13_method_23_code
def yX11_strips : MethodName := ⟨RX11, "strips", "(I)I"⟩
abbrev cX11_builds : ByteArray := prog_13_method_24_code
def yX11_builds : MethodName := ⟨RX11, "builds", "(III)I"⟩
abbrev cX11_build : ByteArray := prog_13_method_25_code
def yX11_build : MethodName := ⟨RX11, "build", "(III)I"⟩
abbrev cX11_ties : ByteArray := prog_13_method_26_code
def yX11_ties : MethodName := ⟨RX11, "ties", "(I)I"⟩
abbrev cX11_tie : ByteArray := prog_13_method_27_code
def yX11_tie : MethodName := ⟨RX11, "tie", "(I)I"⟩
abbrev cX11_crew : ByteArray := prog_13_method_28_code
def yX11_crew : MethodName := ⟨RX11, "crew", "(I)I"⟩
abbrev cX11_oldUpTo : ByteArray := prog_13_method_29_code
def yX11_oldUpTo : MethodName := ⟨RX11, "oldUpTo", "(I)I"⟩
abbrev cX11_crewsOn : ByteArray := prog_13_method_30_code
def yX11_crewsOn : MethodName := ⟨RX11, "crewsOn", "(I)I"⟩
abbrev cX11_goesUp : ByteArray := prog_13_method_31_code
def yX11_goesUp : MethodName := ⟨RX11, "goesUp", "(II)I"⟩
abbrev cX11_up : ByteArray := prog_13_method_32_code
def yX11_up : MethodName := ⟨RX11, "up", "(II)I"⟩
abbrev cX11_comesDown : ByteArray := prog_13_method_33_code
def yX11_comesDown : MethodName := ⟨RX11, "comesDown", "(I)I"⟩
abbrev cX11_down : ByteArray := prog_13_method_34_code
def yX11_down : MethodName := ⟨RX11, "down", "(I)I"⟩
abbrev cX11_lifts : ByteArray := prog_13_method_35_code
def yX11_lifts : MethodName := ⟨RX11, "lifts", "(II)I"⟩
abbrev cX11_lift : ByteArray := prog_13_method_36_code
def yX11_lift : MethodName := ⟨RX11, "lift", "(II)I"⟩
abbrev cX11_signals : ByteArray := prog_13_method_37_code
def yX11_signals : MethodName := ⟨RX11, "signals", "(I)I"⟩
abbrev cX11_signal : ByteArray := prog_13_method_38_code
def yX11_signal : MethodName := ⟨RX11, "signal", "(I)I"⟩
abbrev cX11_inspector : ByteArray := prog_13_method_39_code
def yX11_inspector : MethodName := ⟨RX11, "inspector", "(I)I"⟩
abbrev cX11_inspects : ByteArray := prog_13_method_40_code
def yX11_inspects : MethodName := ⟨RX11, "inspects", "(II)I"⟩
abbrev cX11_inspect : ByteArray := prog_13_method_41_code
def yX11_inspect : MethodName := ⟨RX11, "inspect", "(II)I"⟩
abbrev cX11_strong : ByteArray := prog_13_method_42_code
def yX11_strong : MethodName := ⟨RX11, "strong", "(I)I"⟩
abbrev cX11_fallsBy : ByteArray := prog_13_method_43_code
def yX11_fallsBy : MethodName := ⟨RX11, "fallsBy", "(I)I"⟩
abbrev cX11_works : ByteArray := prog_13_method_44_code
def yX11_works : MethodName := ⟨RX11, "works", "(I)Z"⟩
abbrev cX11_passes : ByteArray := prog_13_method_45_code
def yX11_passes : MethodName := ⟨RX11, "passes", "()I"⟩
abbrev cX11_days : ByteArray := prog_13_method_46_code
def yX11_days : MethodName := ⟨RX11, "days", "(I)I"⟩
abbrev cX11_day : ByteArray := prog_13_method_47_code
def yX11_day : MethodName := ⟨RX11, "day", "(I)I"⟩
abbrev cX11_isNext : ByteArray := prog_13_method_48_code
def yX11_isNext : MethodName := ⟨RX11, "isNext", "(C)Z"⟩
abbrev cX11_digits : ByteArray := prog_13_method_49_code
def yX11_digits : MethodName := ⟨RX11, "digits", "(II)Z"⟩
abbrev cX11_isOrder : ByteArray := prog_13_method_50_code
def yX11_isOrder : MethodName := ⟨RX11, "isOrder", "()Z"⟩
abbrev cX11_carries : ByteArray := prog_13_method_51_code
def yX11_carries : MethodName := ⟨RX11, "carries", "()I"⟩
abbrev cX11_script : ByteArray := prog_13_method_52_code
def yX11_script : MethodName := ⟨RX11, "script", "()I"⟩
abbrev cX11_fault : ByteArray := prog_13_method_53_code
def yX11_fault : MethodName := ⟨RX11, "fault", "()I"⟩
abbrev cX11_reason : ByteArray := prog_13_method_54_code
def yX11_reason : MethodName := ⟨RX11, "reason", "(IZ)I"⟩
abbrev cX11_bundleOf : ByteArray := prog_13_method_55_code
def yX11_bundleOf : MethodName := ⟨RX11, "bundleOf", "(IZ)I"⟩
abbrev cX11_storeyOf : ByteArray := prog_13_method_56_code
def yX11_storeyOf : MethodName := ⟨RX11, "storeyOf", "(II)I"⟩
abbrev cX11_strength : ByteArray := prog_13_method_57_code
def yX11_strength : MethodName := ⟨RX11, "strength", "(IZ)I"⟩
abbrev cX11_weakest : ByteArray := prog_13_method_58_code
def yX11_weakest : MethodName := ⟨RX11, "weakest", "()I"⟩
abbrev cX11_oldest : ByteArray := prog_13_method_59_code
def yX11_oldest : MethodName := ⟨RX11, "oldest", "(I)I"⟩
abbrev cX11_crewOf : ByteArray := prog_13_method_60_code
def yX11_crewOf : MethodName := ⟨RX11, "crewOf", "(II)I"⟩
abbrev cX11_wouldWork : ByteArray := prog_13_method_61_code
def yX11_wouldWork : MethodName := ⟨RX11, "wouldWork", "(I)Z"⟩
abbrev cX11_inspectorOf : ByteArray := prog_13_method_62_code
def yX11_inspectorOf : MethodName := ⟨RX11, "inspectorOf", "(II)I"⟩
abbrev cX11_highest : ByteArray := prog_13_method_63_code
def yX11_highest : MethodName := ⟨RX11, "highest", "()I"⟩
abbrev cX11_wouldFall : ByteArray := prog_13_method_64_code
def yX11_wouldFall : MethodName := ⟨RX11, "wouldFall", "(I)I"⟩
abbrev cX11_oldIn : ByteArray := prog_13_method_65_code
def yX11_oldIn : MethodName := ⟨RX11, "oldIn", "(I)I"⟩
abbrev cX11_doneIn : ByteArray := prog_13_method_66_code
def yX11_doneIn : MethodName := ⟨RX11, "doneIn", "(I)I"⟩
abbrev cX11_writes : ByteArray := prog_13_method_67_code
def yX11_writes : MethodName := ⟨RX11, "writes", "(C)V"⟩
abbrev cX11_writesNumber : ByteArray := prog_13_method_68_code
def yX11_writesNumber : MethodName := ⟨RX11, "writesNumber", "(I)V"⟩
abbrev cX11_describe : ByteArray := prog_13_method_69_code
def yX11_describe : MethodName := ⟨RX11, "describe", "()I"⟩
abbrev cX11_written : ByteArray := prog_13_method_70_code
def yX11_written : MethodName := ⟨RX11, "written", "(I)I"⟩
abbrev cX11_sum : ByteArray := prog_13_method_71_code
def yX11_sum : MethodName := ⟨RX11, "sum", "(I)I"⟩
abbrev cX11_work : ByteArray := prog_13_method_72_code
def yX11_work : MethodName := ⟨RX11, "work", "(Z)I"⟩
abbrev cX11_meanStrength : ByteArray := prog_13_method_73_code
def yX11_meanStrength : MethodName := ⟨RX11, "meanStrength", "()F"⟩
abbrev cX11_doneShare : ByteArray := prog_13_method_74_code
def yX11_doneShare : MethodName := ⟨RX11, "doneShare", "()D"⟩
abbrev cX11_account : ByteArray := prog_13_method_75_code
def yX11_account : MethodName := ⟨RX11, "account", "(I)I"⟩
abbrev cX11_undo : ByteArray := prog_13_method_76_code
def yX11_undo : MethodName := ⟨RX11, "undo", "()I"⟩
abbrev cX11_save : ByteArray := prog_13_method_77_code
def yX11_save : MethodName := ⟨RX11, "save", "()I"⟩
abbrev cX11_restore : ByteArray := prog_13_method_78_code
def yX11_restore : MethodName := ⟨RX11, "restore", "()I"⟩
def RJ6 : String := "java/lang/Integer"
def TJ6 : u_T := fun k => match k with
  | _ => ("", "", "", false)
def tyJ6 : Nat → FieldType := fun k => match k with
  | _ => .int
abbrev wsJ60 : List Cond := u_ws RJ6 TJ6 0
theorem nmJ6 : ∀ a, a < 0 → ∀ b, b < 0 → a ≠ b → (TJ6 a).2.1 ≠ (TJ6 b).2.1 := by decide +kernel
theorem tyJ6_ok : ∀ k, k < 0 → parseFieldDescriptor (TJ6 k).2.2.1 = some (tyJ6 k) := by decide +kernel
abbrev cJ6_bitCount_0f7a4 : ByteArray := prog_14_method_49_code
def yJ6_bitCount_0f7a4 : MethodName := ⟨RJ6, "bitCount", "(I)I"⟩
def RJ9 : String := "java/lang/Math"
def TJ9 : u_T := fun k => match k with
  | _ => ("", "", "", false)
def tyJ9 : Nat → FieldType := fun k => match k with
  | _ => .int
abbrev wsJ90 : List Cond := u_ws RJ9 TJ9 0
theorem nmJ9 : ∀ a, a < 0 → ∀ b, b < 0 → a ≠ b → (TJ9 a).2.1 ≠ (TJ9 b).2.1 := by decide +kernel
theorem tyJ9_ok : ∀ k, k < 0 → parseFieldDescriptor (TJ9 k).2.2.1 = some (tyJ9 k) := by decide +kernel
abbrev cJ9_max_7cf53 : ByteArray := prog_15_method_65_code
def yJ9_max_7cf53 : MethodName := ⟨RJ9, "max", "(II)I"⟩
abbrev cJ9_min_7cf53 : ByteArray := prog_15_method_69_code
def yJ9_min_7cf53 : MethodName := ⟨RJ9, "min", "(II)I"⟩
def RJ0 : String := "java/lang/String"
def TJ0 : u_T := fun k => match k with
  | _ => ("", "", "", false)
def tyJ0 : Nat → FieldType := fun k => match k with
  | _ => .int
abbrev wsJ00 : List Cond := u_ws RJ0 TJ0 0
theorem nmJ0 : ∀ a, a < 0 → ∀ b, b < 0 → a ≠ b → (TJ0 a).2.1 ≠ (TJ0 b).2.1 := by decide +kernel
theorem tyJ0_ok : ∀ k, k < 0 → parseFieldDescriptor (TJ0 k).2.2.1 = some (tyJ0 k) := by decide +kernel
abbrev cJ0_length_8abf5 : ByteArray := prog_16_method_54_code
def yJ0_length_8abf5 : MethodName := ⟨RJ0, "length", "()I"⟩
abbrev cJ0_isEmpty_aae02 : ByteArray := prog_16_method_55_code
def yJ0_isEmpty_aae02 : MethodName := ⟨RJ0, "isEmpty", "()Z"⟩
abbrev cJ0_charAt_5068e : ByteArray := prog_16_method_56_code
def yJ0_charAt_5068e : MethodName := ⟨RJ0, "charAt", "(I)C"⟩
abbrev cJ0_coder_7d493 : ByteArray := prog_16_method_152_code
def yJ0_coder_7d493 : MethodName := ⟨RJ0, "coder", "()B"⟩
abbrev cJ0_isLatin1_aae02 : ByteArray := prog_16_method_154_code
def yJ0_isLatin1_aae02 : MethodName := ⟨RJ0, "isLatin1", "()Z"⟩
abbrev cJ0_checkIndex_df160 : ByteArray := prog_16_method_155_code
def yJ0_checkIndex_df160 : MethodName := ⟨RJ0, "checkIndex", "(II)V"⟩
def RJ1 : String := "java/lang/StringLatin1"
def TJ1 : u_T := fun k => match k with
  | _ => ("", "", "", false)
def tyJ1 : Nat → FieldType := fun k => match k with
  | _ => .int
abbrev wsJ10 : List Cond := u_ws RJ1 TJ1 0
theorem nmJ1 : ∀ a, a < 0 → ∀ b, b < 0 → a ≠ b → (TJ1 a).2.1 ≠ (TJ1 b).2.1 := by decide +kernel
theorem tyJ1_ok : ∀ k, k < 0 → parseFieldDescriptor (TJ1 k).2.2.1 = some (tyJ1 k) := by decide +kernel
abbrev cJ1_charAt_3b067 : ByteArray := prog_17_method_2_code
def yJ1_charAt_3b067 : MethodName := ⟨RJ1, "charAt", "([BI)C"⟩
def RJ2 : String := "java/lang/StringUTF16"
def TJ2 : u_T := fun k => match k with
  | _ => ("", "", "", false)
def tyJ2 : Nat → FieldType := fun k => match k with
  | _ => .int
abbrev wsJ20 : List Cond := u_ws RJ2 TJ2 0
theorem nmJ2 : ∀ a, a < 0 → ∀ b, b < 0 → a ≠ b → (TJ2 a).2.1 ≠ (TJ2 b).2.1 := by decide +kernel
theorem tyJ2_ok : ∀ k, k < 0 → parseFieldDescriptor (TJ2 k).2.2.1 = some (tyJ2 k) := by decide +kernel
abbrev cJ2_getChar_3b067 : ByteArray := prog_18_method_5_code
def yJ2_getChar_3b067 : MethodName := ⟨RJ2, "getChar", "([BI)C"⟩
abbrev cJ2_length_9d52b : ByteArray := prog_18_method_6_code
def yJ2_length_9d52b : MethodName := ⟨RJ2, "length", "([B)I"⟩
abbrev cJ2_charAt_3b067 : ByteArray := prog_18_method_83_code
def yJ2_charAt_3b067 : MethodName := ⟨RJ2, "charAt", "([BI)C"⟩
abbrev cJ2_checkIndex_2214a : ByteArray := prog_18_method_91_code
def yJ2_checkIndex_2214a : MethodName := ⟨RJ2, "checkIndex", "(I[B)V"⟩
def RJ10 : String := "java/lang/System"
def TJ10 : u_T := fun k => match k with
  | _ => ("", "", "", false)
def tyJ10 : Nat → FieldType := fun k => match k with
  | _ => .int
abbrev wsJ100 : List Cond := u_ws RJ10 TJ10 0
theorem nmJ10 : ∀ a, a < 0 → ∀ b, b < 0 → a ≠ b → (TJ10 a).2.1 ≠ (TJ10 b).2.1 := by decide +kernel
theorem tyJ10_ok : ∀ k, k < 0 → parseFieldDescriptor (TJ10 k).2.2.1 = some (tyJ10 k) := by decide +kernel
def RJ3 : String := "jdk/internal/util/Preconditions"
def TJ3 : u_T := fun k => match k with
  | _ => ("", "", "", false)
def tyJ3 : Nat → FieldType := fun k => match k with
  | _ => .int
abbrev wsJ30 : List Cond := u_ws RJ3 TJ3 0
theorem nmJ3 : ∀ a, a < 0 → ∀ b, b < 0 → a ≠ b → (TJ3 a).2.1 ≠ (TJ3 b).2.1 := by decide +kernel
theorem tyJ3_ok : ∀ k, k < 0 → parseFieldDescriptor (TJ3 k).2.2.1 = some (tyJ3 k) := by decide +kernel
abbrev cJ3_checkIndex_8e157 : ByteArray := prog_20_method_11_code
def yJ3_checkIndex_8e157 : MethodName := ⟨RJ3, "checkIndex", "(IILjava/util/function/BiFunction;)I"⟩
def RL : String := "BambooTowerLaw"
abbrev cL_law : ByteArray := code
def yL_law : MethodName := ⟨RL, "law", "([I)Z"⟩
abbrev vwCl : List vw_C := [(RX0, TX0, 3), (RX1, TX1, 4), (RX2, TX2, 4), (RX3, TX3, 3), (RX4, TX4, 2), (RX5, TX5, 4), (RX6, TX6, 3), (RX7, TX7, 14), (RX8, TX8, 2), (RX9, TX9, 7), (RX10, TX10, 10), (RX11, TX11, 18)]
end
section
theorem dJ0_length_8abf5_0 : decode cJ0_length_8abf5 0 = .ok (.aload_n 0, 1) := by decide +kernel
theorem dJ0_length_8abf5_1 : decode cJ0_length_8abf5 1 = .ok (.getfield 9, 3) := by decide +kernel
theorem dJ0_length_8abf5_4 : decode cJ0_length_8abf5 4 = .ok (.arraylength, 1) := by decide +kernel
theorem dJ0_length_8abf5_5 : decode cJ0_length_8abf5 5 = .ok (.aload_n 0, 1) := by decide +kernel
theorem dJ0_length_8abf5_6 : decode cJ0_length_8abf5 6 = .ok (.invokevirtual 335, 3) := by decide +kernel
theorem dJ0_length_8abf5_9 : decode cJ0_length_8abf5 9 = .ok (.ishr, 1) := by decide +kernel
theorem dJ0_length_8abf5_10 : decode cJ0_length_8abf5 10 = .ok (.ireturn, 1) := by decide +kernel
theorem dJ0_isEmpty_aae02_0 : decode cJ0_isEmpty_aae02 0 = .ok (.aload_n 0, 1) := by decide +kernel
theorem dJ0_isEmpty_aae02_1 : decode cJ0_isEmpty_aae02 1 = .ok (.getfield 9, 3) := by decide +kernel
theorem dJ0_isEmpty_aae02_4 : decode cJ0_isEmpty_aae02 4 = .ok (.arraylength, 1) := by decide +kernel
theorem dJ0_isEmpty_aae02_5 : decode cJ0_isEmpty_aae02 5 = .ok (.ifCond .ne 7, 3) := by decide +kernel
theorem dJ0_isEmpty_aae02_8 : decode cJ0_isEmpty_aae02 8 = .ok (.iconst 1, 1) := by decide +kernel
theorem dJ0_isEmpty_aae02_9 : decode cJ0_isEmpty_aae02 9 = .ok (.goto 4, 3) := by decide +kernel
theorem dJ0_isEmpty_aae02_12 : decode cJ0_isEmpty_aae02 12 = .ok (.iconst 0, 1) := by decide +kernel
theorem dJ0_isEmpty_aae02_13 : decode cJ0_isEmpty_aae02 13 = .ok (.ireturn, 1) := by decide +kernel
theorem dJ0_charAt_5068e_0 : decode cJ0_charAt_5068e 0 = .ok (.aload_n 0, 1) := by decide +kernel
theorem dJ0_charAt_5068e_1 : decode cJ0_charAt_5068e 1 = .ok (.invokevirtual 492, 3) := by decide +kernel
theorem dJ0_charAt_5068e_4 : decode cJ0_charAt_5068e 4 = .ok (.ifCond .eq 12, 3) := by decide +kernel
theorem dJ0_charAt_5068e_7 : decode cJ0_charAt_5068e 7 = .ok (.aload_n 0, 1) := by decide +kernel
theorem dJ0_charAt_5068e_8 : decode cJ0_charAt_5068e 8 = .ok (.getfield 9, 3) := by decide +kernel
theorem dJ0_charAt_5068e_11 : decode cJ0_charAt_5068e 11 = .ok (.iload_n 1, 1) := by decide +kernel
theorem dJ0_charAt_5068e_12 : decode cJ0_charAt_5068e 12 = .ok (.invokestatic 495, 3) := by decide +kernel
theorem dJ0_charAt_5068e_15 : decode cJ0_charAt_5068e 15 = .ok (.ireturn, 1) := by decide +kernel
theorem dJ0_charAt_5068e_16 : decode cJ0_charAt_5068e 16 = .ok (.aload_n 0, 1) := by decide +kernel
theorem dJ0_charAt_5068e_17 : decode cJ0_charAt_5068e 17 = .ok (.getfield 9, 3) := by decide +kernel
theorem dJ0_charAt_5068e_20 : decode cJ0_charAt_5068e 20 = .ok (.iload_n 1, 1) := by decide +kernel
theorem dJ0_charAt_5068e_21 : decode cJ0_charAt_5068e 21 = .ok (.invokestatic 498, 3) := by decide +kernel
theorem dJ0_charAt_5068e_24 : decode cJ0_charAt_5068e 24 = .ok (.ireturn, 1) := by decide +kernel
theorem dJ0_coder_7d493_0 : decode cJ0_coder_7d493 0 = .ok (.getstatic 38, 3) := by decide +kernel
theorem dJ0_coder_7d493_3 : decode cJ0_coder_7d493 3 = .ok (.ifCond .eq 10, 3) := by decide +kernel
theorem dJ0_coder_7d493_6 : decode cJ0_coder_7d493 6 = .ok (.aload_n 0, 1) := by decide +kernel
theorem dJ0_coder_7d493_7 : decode cJ0_coder_7d493 7 = .ok (.getfield 15, 3) := by decide +kernel
theorem dJ0_coder_7d493_10 : decode cJ0_coder_7d493 10 = .ok (.goto 4, 3) := by decide +kernel
theorem dJ0_coder_7d493_13 : decode cJ0_coder_7d493 13 = .ok (.iconst 1, 1) := by decide +kernel
theorem dJ0_coder_7d493_14 : decode cJ0_coder_7d493 14 = .ok (.ireturn, 1) := by decide +kernel
theorem dJ0_isLatin1_aae02_0 : decode cJ0_isLatin1_aae02 0 = .ok (.getstatic 38, 3) := by decide +kernel
theorem dJ0_isLatin1_aae02_3 : decode cJ0_isLatin1_aae02 3 = .ok (.ifCond .eq 14, 3) := by decide +kernel
theorem dJ0_isLatin1_aae02_6 : decode cJ0_isLatin1_aae02 6 = .ok (.aload_n 0, 1) := by decide +kernel
theorem dJ0_isLatin1_aae02_7 : decode cJ0_isLatin1_aae02 7 = .ok (.getfield 15, 3) := by decide +kernel
theorem dJ0_isLatin1_aae02_10 : decode cJ0_isLatin1_aae02 10 = .ok (.ifCond .ne 7, 3) := by decide +kernel
theorem dJ0_isLatin1_aae02_13 : decode cJ0_isLatin1_aae02 13 = .ok (.iconst 1, 1) := by decide +kernel
theorem dJ0_isLatin1_aae02_14 : decode cJ0_isLatin1_aae02 14 = .ok (.goto 4, 3) := by decide +kernel
theorem dJ0_isLatin1_aae02_17 : decode cJ0_isLatin1_aae02 17 = .ok (.iconst 0, 1) := by decide +kernel
theorem dJ0_isLatin1_aae02_18 : decode cJ0_isLatin1_aae02 18 = .ok (.ireturn, 1) := by decide +kernel
theorem dJ0_checkIndex_df160_0 : decode cJ0_checkIndex_df160 0 = .ok (.iload_n 0, 1) := by decide +kernel
theorem dJ0_checkIndex_df160_1 : decode cJ0_checkIndex_df160 1 = .ok (.iload_n 1, 1) := by decide +kernel
theorem dJ0_checkIndex_df160_2 : decode cJ0_checkIndex_df160 2 = .ok (.getstatic 1053, 3) := by decide +kernel
theorem dJ0_checkIndex_df160_5 : decode cJ0_checkIndex_df160 5 = .ok (.invokestatic 1059, 3) := by decide +kernel
theorem dJ0_checkIndex_df160_8 : decode cJ0_checkIndex_df160 8 = .ok (.pop, 1) := by decide +kernel
theorem dJ0_checkIndex_df160_9 : decode cJ0_checkIndex_df160 9 = .ok (.return_, 1) := by decide +kernel
theorem dJ1_charAt_3b067_0 : decode cJ1_charAt_3b067 0 = .ok (.iload_n 1, 1) := by decide +kernel
theorem dJ1_charAt_3b067_1 : decode cJ1_charAt_3b067 1 = .ok (.aload_n 0, 1) := by decide +kernel
theorem dJ1_charAt_3b067_2 : decode cJ1_charAt_3b067 2 = .ok (.arraylength, 1) := by decide +kernel
theorem dJ1_charAt_3b067_3 : decode cJ1_charAt_3b067 3 = .ok (.invokestatic 9, 3) := by decide +kernel
theorem dJ1_charAt_3b067_6 : decode cJ1_charAt_3b067 6 = .ok (.aload_n 0, 1) := by decide +kernel
theorem dJ1_charAt_3b067_7 : decode cJ1_charAt_3b067 7 = .ok (.iload_n 1, 1) := by decide +kernel
theorem dJ1_charAt_3b067_8 : decode cJ1_charAt_3b067 8 = .ok (.baload, 1) := by decide +kernel
theorem dJ1_charAt_3b067_9 : decode cJ1_charAt_3b067 9 = .ok (.sipush 255, 3) := by decide +kernel
theorem dJ1_charAt_3b067_12 : decode cJ1_charAt_3b067 12 = .ok (.iand, 1) := by decide +kernel
theorem dJ1_charAt_3b067_13 : decode cJ1_charAt_3b067 13 = .ok (.i2c, 1) := by decide +kernel
theorem dJ1_charAt_3b067_14 : decode cJ1_charAt_3b067 14 = .ok (.ireturn, 1) := by decide +kernel
theorem dJ2_getChar_3b067_0 : decode cJ2_getChar_3b067 0 = .ok (.getstatic 44, 3) := by decide +kernel
theorem dJ2_getChar_3b067_3 : decode cJ2_getChar_3b067 3 = .ok (.ifCond .ne 25, 3) := by decide +kernel
theorem dJ2_getChar_3b067_6 : decode cJ2_getChar_3b067 6 = .ok (.iload_n 1, 1) := by decide +kernel
theorem dJ2_getChar_3b067_7 : decode cJ2_getChar_3b067 7 = .ok (.ifCond .lt 11, 3) := by decide +kernel
theorem dJ2_getChar_3b067_10 : decode cJ2_getChar_3b067 10 = .ok (.iload_n 1, 1) := by decide +kernel
theorem dJ2_getChar_3b067_11 : decode cJ2_getChar_3b067 11 = .ok (.aload_n 0, 1) := by decide +kernel
theorem dJ2_getChar_3b067_12 : decode cJ2_getChar_3b067 12 = .ok (.invokestatic 48, 3) := by decide +kernel
theorem dJ2_getChar_3b067_15 : decode cJ2_getChar_3b067 15 = .ok (.if_icmp .lt 13, 3) := by decide +kernel
theorem dJ2_getChar_3b067_18 : decode cJ2_getChar_3b067 18 = .ok (.new 52, 3) := by decide +kernel
theorem dJ2_getChar_3b067_21 : decode cJ2_getChar_3b067 21 = .ok (.dup, 1) := by decide +kernel
theorem dJ2_getChar_3b067_22 : decode cJ2_getChar_3b067 22 = .ok (.ldc 54, 2) := by decide +kernel
theorem dJ2_getChar_3b067_24 : decode cJ2_getChar_3b067 24 = .ok (.invokespecial 56, 3) := by decide +kernel
theorem dJ2_getChar_3b067_27 : decode cJ2_getChar_3b067 27 = .ok (.athrow, 1) := by decide +kernel
theorem dJ2_getChar_3b067_28 : decode cJ2_getChar_3b067 28 = .ok (.iload_n 1, 1) := by decide +kernel
theorem dJ2_getChar_3b067_29 : decode cJ2_getChar_3b067 29 = .ok (.iconst 1, 1) := by decide +kernel
theorem dJ2_getChar_3b067_30 : decode cJ2_getChar_3b067 30 = .ok (.ishl, 1) := by decide +kernel
theorem dJ2_getChar_3b067_31 : decode cJ2_getChar_3b067 31 = .ok (.istore_n 1, 1) := by decide +kernel
theorem dJ2_getChar_3b067_32 : decode cJ2_getChar_3b067 32 = .ok (.aload_n 0, 1) := by decide +kernel
theorem dJ2_getChar_3b067_33 : decode cJ2_getChar_3b067 33 = .ok (.iload_n 1, 1) := by decide +kernel
theorem dJ2_getChar_3b067_34 : decode cJ2_getChar_3b067 34 = .ok (.iinc 1 1, 3) := by decide +kernel
theorem dJ2_getChar_3b067_37 : decode cJ2_getChar_3b067 37 = .ok (.baload, 1) := by decide +kernel
theorem dJ2_getChar_3b067_38 : decode cJ2_getChar_3b067 38 = .ok (.sipush 255, 3) := by decide +kernel
theorem dJ2_getChar_3b067_41 : decode cJ2_getChar_3b067 41 = .ok (.iand, 1) := by decide +kernel
theorem dJ2_getChar_3b067_42 : decode cJ2_getChar_3b067 42 = .ok (.getstatic 59, 3) := by decide +kernel
theorem dJ2_getChar_3b067_45 : decode cJ2_getChar_3b067 45 = .ok (.ishl, 1) := by decide +kernel
theorem dJ2_getChar_3b067_46 : decode cJ2_getChar_3b067 46 = .ok (.aload_n 0, 1) := by decide +kernel
theorem dJ2_getChar_3b067_47 : decode cJ2_getChar_3b067 47 = .ok (.iload_n 1, 1) := by decide +kernel
theorem dJ2_getChar_3b067_48 : decode cJ2_getChar_3b067 48 = .ok (.baload, 1) := by decide +kernel
theorem dJ2_getChar_3b067_49 : decode cJ2_getChar_3b067 49 = .ok (.sipush 255, 3) := by decide +kernel
theorem dJ2_getChar_3b067_52 : decode cJ2_getChar_3b067 52 = .ok (.iand, 1) := by decide +kernel
theorem dJ2_getChar_3b067_53 : decode cJ2_getChar_3b067 53 = .ok (.getstatic 63, 3) := by decide +kernel
theorem dJ2_getChar_3b067_56 : decode cJ2_getChar_3b067 56 = .ok (.ishl, 1) := by decide +kernel
theorem dJ2_getChar_3b067_57 : decode cJ2_getChar_3b067 57 = .ok (.ior, 1) := by decide +kernel
theorem dJ2_getChar_3b067_58 : decode cJ2_getChar_3b067 58 = .ok (.i2c, 1) := by decide +kernel
theorem dJ2_getChar_3b067_59 : decode cJ2_getChar_3b067 59 = .ok (.ireturn, 1) := by decide +kernel
theorem dJ2_length_9d52b_0 : decode cJ2_length_9d52b 0 = .ok (.aload_n 0, 1) := by decide +kernel
theorem dJ2_length_9d52b_1 : decode cJ2_length_9d52b 1 = .ok (.arraylength, 1) := by decide +kernel
theorem dJ2_length_9d52b_2 : decode cJ2_length_9d52b 2 = .ok (.iconst 1, 1) := by decide +kernel
theorem dJ2_length_9d52b_3 : decode cJ2_length_9d52b 3 = .ok (.ishr, 1) := by decide +kernel
theorem dJ2_length_9d52b_4 : decode cJ2_length_9d52b 4 = .ok (.ireturn, 1) := by decide +kernel
theorem dJ2_charAt_3b067_0 : decode cJ2_charAt_3b067 0 = .ok (.iload_n 1, 1) := by decide +kernel
theorem dJ2_charAt_3b067_1 : decode cJ2_charAt_3b067 1 = .ok (.aload_n 0, 1) := by decide +kernel
theorem dJ2_charAt_3b067_2 : decode cJ2_charAt_3b067 2 = .ok (.invokestatic 67, 3) := by decide +kernel
theorem dJ2_charAt_3b067_5 : decode cJ2_charAt_3b067 5 = .ok (.aload_n 0, 1) := by decide +kernel
theorem dJ2_charAt_3b067_6 : decode cJ2_charAt_3b067 6 = .ok (.iload_n 1, 1) := by decide +kernel
theorem dJ2_charAt_3b067_7 : decode cJ2_charAt_3b067 7 = .ok (.invokestatic 71, 3) := by decide +kernel
theorem dJ2_charAt_3b067_10 : decode cJ2_charAt_3b067 10 = .ok (.ireturn, 1) := by decide +kernel
theorem dJ2_checkIndex_2214a_0 : decode cJ2_checkIndex_2214a 0 = .ok (.iload_n 0, 1) := by decide +kernel
theorem dJ2_checkIndex_2214a_1 : decode cJ2_checkIndex_2214a 1 = .ok (.aload_n 1, 1) := by decide +kernel
theorem dJ2_checkIndex_2214a_2 : decode cJ2_checkIndex_2214a 2 = .ok (.invokestatic 48, 3) := by decide +kernel
theorem dJ2_checkIndex_2214a_5 : decode cJ2_checkIndex_2214a 5 = .ok (.invokestatic 414, 3) := by decide +kernel
theorem dJ2_checkIndex_2214a_8 : decode cJ2_checkIndex_2214a 8 = .ok (.return_, 1) := by decide +kernel
theorem dJ3_checkIndex_8e157_0 : decode cJ3_checkIndex_8e157 0 = .ok (.iload_n 0, 1) := by decide +kernel
theorem dJ3_checkIndex_8e157_1 : decode cJ3_checkIndex_8e157 1 = .ok (.ifCond .lt 8, 3) := by decide +kernel
theorem dJ3_checkIndex_8e157_4 : decode cJ3_checkIndex_8e157 4 = .ok (.iload_n 0, 1) := by decide +kernel
theorem dJ3_checkIndex_8e157_5 : decode cJ3_checkIndex_8e157 5 = .ok (.iload_n 1, 1) := by decide +kernel
theorem dJ3_checkIndex_8e157_6 : decode cJ3_checkIndex_8e157 6 = .ok (.if_icmp .lt 10, 3) := by decide +kernel
theorem dJ3_checkIndex_8e157_9 : decode cJ3_checkIndex_8e157 9 = .ok (.aload_n 2, 1) := by decide +kernel
theorem dJ3_checkIndex_8e157_10 : decode cJ3_checkIndex_8e157 10 = .ok (.iload_n 0, 1) := by decide +kernel
theorem dJ3_checkIndex_8e157_11 : decode cJ3_checkIndex_8e157 11 = .ok (.iload_n 1, 1) := by decide +kernel
theorem dJ3_checkIndex_8e157_12 : decode cJ3_checkIndex_8e157 12 = .ok (.invokestatic 95, 3) := by decide +kernel
theorem dJ3_checkIndex_8e157_15 : decode cJ3_checkIndex_8e157 15 = .ok (.athrow, 1) := by decide +kernel
theorem dJ3_checkIndex_8e157_16 : decode cJ3_checkIndex_8e157 16 = .ok (.iload_n 0, 1) := by decide +kernel
theorem dJ3_checkIndex_8e157_17 : decode cJ3_checkIndex_8e157 17 = .ok (.ireturn, 1) := by decide +kernel
theorem dJ6_bitCount_0f7a4_0 : decode cJ6_bitCount_0f7a4 0 = .ok (.iload_n 0, 1) := by decide +kernel
theorem dJ6_bitCount_0f7a4_1 : decode cJ6_bitCount_0f7a4 1 = .ok (.iload_n 0, 1) := by decide +kernel
theorem dJ6_bitCount_0f7a4_2 : decode cJ6_bitCount_0f7a4 2 = .ok (.iconst 1, 1) := by decide +kernel
theorem dJ6_bitCount_0f7a4_3 : decode cJ6_bitCount_0f7a4 3 = .ok (.iushr, 1) := by decide +kernel
theorem dJ6_bitCount_0f7a4_4 : decode cJ6_bitCount_0f7a4 4 = .ok (.ldc_w 265, 3) := by decide +kernel
theorem dJ6_bitCount_0f7a4_7 : decode cJ6_bitCount_0f7a4 7 = .ok (.iand, 1) := by decide +kernel
theorem dJ6_bitCount_0f7a4_8 : decode cJ6_bitCount_0f7a4 8 = .ok (.isub, 1) := by decide +kernel
theorem dJ6_bitCount_0f7a4_9 : decode cJ6_bitCount_0f7a4 9 = .ok (.istore_n 0, 1) := by decide +kernel
theorem dJ6_bitCount_0f7a4_10 : decode cJ6_bitCount_0f7a4 10 = .ok (.iload_n 0, 1) := by decide +kernel
theorem dJ6_bitCount_0f7a4_11 : decode cJ6_bitCount_0f7a4 11 = .ok (.ldc_w 266, 3) := by decide +kernel
theorem dJ6_bitCount_0f7a4_14 : decode cJ6_bitCount_0f7a4 14 = .ok (.iand, 1) := by decide +kernel
theorem dJ6_bitCount_0f7a4_15 : decode cJ6_bitCount_0f7a4 15 = .ok (.iload_n 0, 1) := by decide +kernel
theorem dJ6_bitCount_0f7a4_16 : decode cJ6_bitCount_0f7a4 16 = .ok (.iconst 2, 1) := by decide +kernel
theorem dJ6_bitCount_0f7a4_17 : decode cJ6_bitCount_0f7a4 17 = .ok (.iushr, 1) := by decide +kernel
theorem dJ6_bitCount_0f7a4_18 : decode cJ6_bitCount_0f7a4 18 = .ok (.ldc_w 266, 3) := by decide +kernel
theorem dJ6_bitCount_0f7a4_21 : decode cJ6_bitCount_0f7a4 21 = .ok (.iand, 1) := by decide +kernel
theorem dJ6_bitCount_0f7a4_22 : decode cJ6_bitCount_0f7a4 22 = .ok (.iadd, 1) := by decide +kernel
theorem dJ6_bitCount_0f7a4_23 : decode cJ6_bitCount_0f7a4 23 = .ok (.istore_n 0, 1) := by decide +kernel
theorem dJ6_bitCount_0f7a4_24 : decode cJ6_bitCount_0f7a4 24 = .ok (.iload_n 0, 1) := by decide +kernel
theorem dJ6_bitCount_0f7a4_25 : decode cJ6_bitCount_0f7a4 25 = .ok (.iload_n 0, 1) := by decide +kernel
theorem dJ6_bitCount_0f7a4_26 : decode cJ6_bitCount_0f7a4 26 = .ok (.iconst 4, 1) := by decide +kernel
theorem dJ6_bitCount_0f7a4_27 : decode cJ6_bitCount_0f7a4 27 = .ok (.iushr, 1) := by decide +kernel
theorem dJ6_bitCount_0f7a4_28 : decode cJ6_bitCount_0f7a4 28 = .ok (.iadd, 1) := by decide +kernel
theorem dJ6_bitCount_0f7a4_29 : decode cJ6_bitCount_0f7a4 29 = .ok (.ldc_w 267, 3) := by decide +kernel
theorem dJ6_bitCount_0f7a4_32 : decode cJ6_bitCount_0f7a4 32 = .ok (.iand, 1) := by decide +kernel
theorem dJ6_bitCount_0f7a4_33 : decode cJ6_bitCount_0f7a4 33 = .ok (.istore_n 0, 1) := by decide +kernel
theorem dJ6_bitCount_0f7a4_34 : decode cJ6_bitCount_0f7a4 34 = .ok (.iload_n 0, 1) := by decide +kernel
theorem dJ6_bitCount_0f7a4_35 : decode cJ6_bitCount_0f7a4 35 = .ok (.iload_n 0, 1) := by decide +kernel
theorem dJ6_bitCount_0f7a4_36 : decode cJ6_bitCount_0f7a4 36 = .ok (.bipush 8, 2) := by decide +kernel
theorem dJ6_bitCount_0f7a4_38 : decode cJ6_bitCount_0f7a4 38 = .ok (.iushr, 1) := by decide +kernel
theorem dJ6_bitCount_0f7a4_39 : decode cJ6_bitCount_0f7a4 39 = .ok (.iadd, 1) := by decide +kernel
theorem dJ6_bitCount_0f7a4_40 : decode cJ6_bitCount_0f7a4 40 = .ok (.istore_n 0, 1) := by decide +kernel
theorem dJ6_bitCount_0f7a4_41 : decode cJ6_bitCount_0f7a4 41 = .ok (.iload_n 0, 1) := by decide +kernel
theorem dJ6_bitCount_0f7a4_42 : decode cJ6_bitCount_0f7a4 42 = .ok (.iload_n 0, 1) := by decide +kernel
theorem dJ6_bitCount_0f7a4_43 : decode cJ6_bitCount_0f7a4 43 = .ok (.bipush 16, 2) := by decide +kernel
theorem dJ6_bitCount_0f7a4_45 : decode cJ6_bitCount_0f7a4 45 = .ok (.iushr, 1) := by decide +kernel
theorem dJ6_bitCount_0f7a4_46 : decode cJ6_bitCount_0f7a4 46 = .ok (.iadd, 1) := by decide +kernel
theorem dJ6_bitCount_0f7a4_47 : decode cJ6_bitCount_0f7a4 47 = .ok (.istore_n 0, 1) := by decide +kernel
theorem dJ6_bitCount_0f7a4_48 : decode cJ6_bitCount_0f7a4 48 = .ok (.iload_n 0, 1) := by decide +kernel
theorem dJ6_bitCount_0f7a4_49 : decode cJ6_bitCount_0f7a4 49 = .ok (.bipush 63, 2) := by decide +kernel
theorem dJ6_bitCount_0f7a4_51 : decode cJ6_bitCount_0f7a4 51 = .ok (.iand, 1) := by decide +kernel
theorem dJ6_bitCount_0f7a4_52 : decode cJ6_bitCount_0f7a4 52 = .ok (.ireturn, 1) := by decide +kernel
theorem dJ9_max_7cf53_0 : decode cJ9_max_7cf53 0 = .ok (.iload_n 0, 1) := by decide +kernel
theorem dJ9_max_7cf53_1 : decode cJ9_max_7cf53 1 = .ok (.iload_n 1, 1) := by decide +kernel
theorem dJ9_max_7cf53_2 : decode cJ9_max_7cf53 2 = .ok (.if_icmp .lt 7, 3) := by decide +kernel
theorem dJ9_max_7cf53_5 : decode cJ9_max_7cf53 5 = .ok (.iload_n 0, 1) := by decide +kernel
theorem dJ9_max_7cf53_6 : decode cJ9_max_7cf53 6 = .ok (.goto 4, 3) := by decide +kernel
theorem dJ9_max_7cf53_9 : decode cJ9_max_7cf53 9 = .ok (.iload_n 1, 1) := by decide +kernel
theorem dJ9_max_7cf53_10 : decode cJ9_max_7cf53 10 = .ok (.ireturn, 1) := by decide +kernel
theorem dJ9_min_7cf53_0 : decode cJ9_min_7cf53 0 = .ok (.iload_n 0, 1) := by decide +kernel
theorem dJ9_min_7cf53_1 : decode cJ9_min_7cf53 1 = .ok (.iload_n 1, 1) := by decide +kernel
theorem dJ9_min_7cf53_2 : decode cJ9_min_7cf53 2 = .ok (.if_icmp .gt 7, 3) := by decide +kernel
theorem dJ9_min_7cf53_5 : decode cJ9_min_7cf53 5 = .ok (.iload_n 0, 1) := by decide +kernel
theorem dJ9_min_7cf53_6 : decode cJ9_min_7cf53 6 = .ok (.goto 4, 3) := by decide +kernel
theorem dJ9_min_7cf53_9 : decode cJ9_min_7cf53 9 = .ok (.iload_n 1, 1) := by decide +kernel
theorem dJ9_min_7cf53_10 : decode cJ9_min_7cf53 10 = .ok (.ireturn, 1) := by decide +kernel
theorem dL_law_0 : decode cL_law 0 = .ok (.new 7, 3) := by decide +kernel
theorem dL_law_3 : decode cL_law 3 = .ok (.dup, 1) := by decide +kernel
theorem dL_law_4 : decode cL_law 4 = .ok (.invokespecial 9, 3) := by decide +kernel
theorem dL_law_7 : decode cL_law 7 = .ok (.astore_n 1, 1) := by decide +kernel
theorem dL_law_8 : decode cL_law 8 = .ok (.new 10, 3) := by decide +kernel
theorem dL_law_11 : decode cL_law 11 = .ok (.dup, 1) := by decide +kernel
theorem dL_law_12 : decode cL_law 12 = .ok (.invokespecial 12, 3) := by decide +kernel
theorem dL_law_15 : decode cL_law 15 = .ok (.astore_n 2, 1) := by decide +kernel
theorem dL_law_16 : decode cL_law 16 = .ok (.iconst 0, 1) := by decide +kernel
theorem dL_law_17 : decode cL_law 17 = .ok (.istore_n 3, 1) := by decide +kernel
theorem dL_law_18 : decode cL_law 18 = .ok (.iload_n 3, 1) := by decide +kernel
theorem dL_law_19 : decode cL_law 19 = .ok (.aload_n 0, 1) := by decide +kernel
theorem dL_law_20 : decode cL_law 20 = .ok (.arraylength, 1) := by decide +kernel
theorem dL_law_21 : decode cL_law 21 = .ok (.iconst 4, 1) := by decide +kernel
theorem dL_law_22 : decode cL_law 22 = .ok (.isub, 1) := by decide +kernel
theorem dL_law_23 : decode cL_law 23 = .ok (.if_icmp .gt 1164, 3) := by decide +kernel
theorem dL_law_26 : decode cL_law 26 = .ok (.aload_n 0, 1) := by decide +kernel
theorem dL_law_27 : decode cL_law 27 = .ok (.iload_n 3, 1) := by decide +kernel
theorem dL_law_28 : decode cL_law 28 = .ok (.iaload, 1) := by decide +kernel
theorem dL_law_29 : decode cL_law 29 = .ok (.bipush 63, 2) := by decide +kernel
theorem dL_law_31 : decode cL_law 31 = .ok (.iand, 1) := by decide +kernel
theorem dL_law_32 : decode cL_law 32 = .ok (.tableswitch 1149 0 36 #[164, 177, 202, 235, 258, 301, 324, 347, 380, 403, 436, 459, 482, 515, 538, 551, 564, 613, 662, 695, 744, 757, 780, 813, 846, 859, 882, 905, 928, 941, 964, 1003, 1046, 1087, 1110, 1123, 1136], 164) := by decide +kernel
theorem dL_law_196 : decode cL_law 196 = .ok (.aload_n 1, 1) := by decide +kernel
theorem dL_law_197 : decode cL_law 197 = .ok (.invokevirtual 13, 3) := by decide +kernel
theorem dL_law_200 : decode cL_law 200 = .ok (.aload_n 2, 1) := by decide +kernel
theorem dL_law_201 : decode cL_law 201 = .ok (.invokevirtual 17, 3) := by decide +kernel
theorem dL_law_204 : decode cL_law 204 = .ok (.if_icmp .eq 977, 3) := by decide +kernel
theorem dL_law_207 : decode cL_law 207 = .ok (.iconst 0, 1) := by decide +kernel
theorem dL_law_208 : decode cL_law 208 = .ok (.ireturn, 1) := by decide +kernel
theorem dL_law_209 : decode cL_law 209 = .ok (.aload_n 1, 1) := by decide +kernel
theorem dL_law_210 : decode cL_law 210 = .ok (.aload_n 0, 1) := by decide +kernel
theorem dL_law_211 : decode cL_law 211 = .ok (.iload_n 3, 1) := by decide +kernel
theorem dL_law_212 : decode cL_law 212 = .ok (.iconst 1, 1) := by decide +kernel
theorem dL_law_213 : decode cL_law 213 = .ok (.iadd, 1) := by decide +kernel
theorem dL_law_214 : decode cL_law 214 = .ok (.iaload, 1) := by decide +kernel
theorem dL_law_215 : decode cL_law 215 = .ok (.i2c, 1) := by decide +kernel
theorem dL_law_216 : decode cL_law 216 = .ok (.invokevirtual 18, 3) := by decide +kernel
theorem dL_law_219 : decode cL_law 219 = .ok (.aload_n 2, 1) := by decide +kernel
theorem dL_law_220 : decode cL_law 220 = .ok (.aload_n 0, 1) := by decide +kernel
theorem dL_law_221 : decode cL_law 221 = .ok (.iload_n 3, 1) := by decide +kernel
theorem dL_law_222 : decode cL_law 222 = .ok (.iconst 1, 1) := by decide +kernel
theorem dL_law_223 : decode cL_law 223 = .ok (.iadd, 1) := by decide +kernel
theorem dL_law_224 : decode cL_law 224 = .ok (.iaload, 1) := by decide +kernel
theorem dL_law_225 : decode cL_law 225 = .ok (.i2c, 1) := by decide +kernel
theorem dL_law_226 : decode cL_law 226 = .ok (.invokevirtual 22, 3) := by decide +kernel
theorem dL_law_229 : decode cL_law 229 = .ok (.if_icmp .eq 952, 3) := by decide +kernel
theorem dL_law_232 : decode cL_law 232 = .ok (.iconst 0, 1) := by decide +kernel
theorem dL_law_233 : decode cL_law 233 = .ok (.ireturn, 1) := by decide +kernel
theorem dL_law_234 : decode cL_law 234 = .ok (.aload_n 1, 1) := by decide +kernel
theorem dL_law_235 : decode cL_law 235 = .ok (.aload_n 0, 1) := by decide +kernel
theorem dL_law_236 : decode cL_law 236 = .ok (.iload_n 3, 1) := by decide +kernel
theorem dL_law_237 : decode cL_law 237 = .ok (.iconst 1, 1) := by decide +kernel
theorem dL_law_238 : decode cL_law 238 = .ok (.iadd, 1) := by decide +kernel
theorem dL_law_239 : decode cL_law 239 = .ok (.iaload, 1) := by decide +kernel
theorem dL_law_240 : decode cL_law 240 = .ok (.aload_n 0, 1) := by decide +kernel
theorem dL_law_241 : decode cL_law 241 = .ok (.iload_n 3, 1) := by decide +kernel
theorem dL_law_242 : decode cL_law 242 = .ok (.iconst 2, 1) := by decide +kernel
theorem dL_law_243 : decode cL_law 243 = .ok (.iadd, 1) := by decide +kernel
theorem dL_law_244 : decode cL_law 244 = .ok (.iaload, 1) := by decide +kernel
theorem dL_law_245 : decode cL_law 245 = .ok (.invokevirtual 23, 3) := by decide +kernel
theorem dL_law_248 : decode cL_law 248 = .ok (.aload_n 2, 1) := by decide +kernel
theorem dL_law_249 : decode cL_law 249 = .ok (.aload_n 0, 1) := by decide +kernel
theorem dL_law_250 : decode cL_law 250 = .ok (.iload_n 3, 1) := by decide +kernel
theorem dL_law_251 : decode cL_law 251 = .ok (.iconst 1, 1) := by decide +kernel
theorem dL_law_252 : decode cL_law 252 = .ok (.iadd, 1) := by decide +kernel
theorem dL_law_253 : decode cL_law 253 = .ok (.iaload, 1) := by decide +kernel
theorem dL_law_254 : decode cL_law 254 = .ok (.aload_n 0, 1) := by decide +kernel
theorem dL_law_255 : decode cL_law 255 = .ok (.iload_n 3, 1) := by decide +kernel
theorem dL_law_256 : decode cL_law 256 = .ok (.iconst 2, 1) := by decide +kernel
theorem dL_law_257 : decode cL_law 257 = .ok (.iadd, 1) := by decide +kernel
theorem dL_law_258 : decode cL_law 258 = .ok (.iaload, 1) := by decide +kernel
theorem dL_law_259 : decode cL_law 259 = .ok (.invokevirtual 27, 3) := by decide +kernel
theorem dL_law_262 : decode cL_law 262 = .ok (.if_icmp .eq 919, 3) := by decide +kernel
theorem dL_law_265 : decode cL_law 265 = .ok (.iconst 0, 1) := by decide +kernel
theorem dL_law_266 : decode cL_law 266 = .ok (.ireturn, 1) := by decide +kernel
theorem dL_law_267 : decode cL_law 267 = .ok (.aload_n 1, 1) := by decide +kernel
theorem dL_law_268 : decode cL_law 268 = .ok (.aload_n 0, 1) := by decide +kernel
theorem dL_law_269 : decode cL_law 269 = .ok (.iload_n 3, 1) := by decide +kernel
theorem dL_law_270 : decode cL_law 270 = .ok (.iconst 1, 1) := by decide +kernel
theorem dL_law_271 : decode cL_law 271 = .ok (.iadd, 1) := by decide +kernel
theorem dL_law_272 : decode cL_law 272 = .ok (.iaload, 1) := by decide +kernel
theorem dL_law_273 : decode cL_law 273 = .ok (.invokevirtual 28, 3) := by decide +kernel
theorem dL_law_276 : decode cL_law 276 = .ok (.aload_n 2, 1) := by decide +kernel
theorem dL_law_277 : decode cL_law 277 = .ok (.aload_n 0, 1) := by decide +kernel
theorem dL_law_278 : decode cL_law 278 = .ok (.iload_n 3, 1) := by decide +kernel
theorem dL_law_279 : decode cL_law 279 = .ok (.iconst 1, 1) := by decide +kernel
theorem dL_law_280 : decode cL_law 280 = .ok (.iadd, 1) := by decide +kernel
theorem dL_law_281 : decode cL_law 281 = .ok (.iaload, 1) := by decide +kernel
theorem dL_law_282 : decode cL_law 282 = .ok (.invokevirtual 32, 3) := by decide +kernel
theorem dL_law_285 : decode cL_law 285 = .ok (.if_icmp .eq 896, 3) := by decide +kernel
theorem dL_law_288 : decode cL_law 288 = .ok (.iconst 0, 1) := by decide +kernel
theorem dL_law_289 : decode cL_law 289 = .ok (.ireturn, 1) := by decide +kernel
theorem dL_law_290 : decode cL_law 290 = .ok (.aload_n 1, 1) := by decide +kernel
theorem dL_law_291 : decode cL_law 291 = .ok (.aload_n 0, 1) := by decide +kernel
theorem dL_law_292 : decode cL_law 292 = .ok (.iload_n 3, 1) := by decide +kernel
theorem dL_law_293 : decode cL_law 293 = .ok (.iconst 1, 1) := by decide +kernel
theorem dL_law_294 : decode cL_law 294 = .ok (.iadd, 1) := by decide +kernel
theorem dL_law_295 : decode cL_law 295 = .ok (.iaload, 1) := by decide +kernel
theorem dL_law_296 : decode cL_law 296 = .ok (.aload_n 0, 1) := by decide +kernel
theorem dL_law_297 : decode cL_law 297 = .ok (.iload_n 3, 1) := by decide +kernel
theorem dL_law_298 : decode cL_law 298 = .ok (.iconst 2, 1) := by decide +kernel
theorem dL_law_299 : decode cL_law 299 = .ok (.iadd, 1) := by decide +kernel
theorem dL_law_300 : decode cL_law 300 = .ok (.iaload, 1) := by decide +kernel
theorem dL_law_301 : decode cL_law 301 = .ok (.aload_n 0, 1) := by decide +kernel
theorem dL_law_302 : decode cL_law 302 = .ok (.iload_n 3, 1) := by decide +kernel
theorem dL_law_303 : decode cL_law 303 = .ok (.iconst 3, 1) := by decide +kernel
theorem dL_law_304 : decode cL_law 304 = .ok (.iadd, 1) := by decide +kernel
theorem dL_law_305 : decode cL_law 305 = .ok (.iaload, 1) := by decide +kernel
theorem dL_law_306 : decode cL_law 306 = .ok (.invokevirtual 33, 3) := by decide +kernel
theorem dL_law_309 : decode cL_law 309 = .ok (.aload_n 2, 1) := by decide +kernel
theorem dL_law_310 : decode cL_law 310 = .ok (.aload_n 0, 1) := by decide +kernel
theorem dL_law_311 : decode cL_law 311 = .ok (.iload_n 3, 1) := by decide +kernel
theorem dL_law_312 : decode cL_law 312 = .ok (.iconst 1, 1) := by decide +kernel
theorem dL_law_313 : decode cL_law 313 = .ok (.iadd, 1) := by decide +kernel
theorem dL_law_314 : decode cL_law 314 = .ok (.iaload, 1) := by decide +kernel
theorem dL_law_315 : decode cL_law 315 = .ok (.aload_n 0, 1) := by decide +kernel
theorem dL_law_316 : decode cL_law 316 = .ok (.iload_n 3, 1) := by decide +kernel
theorem dL_law_317 : decode cL_law 317 = .ok (.iconst 2, 1) := by decide +kernel
theorem dL_law_318 : decode cL_law 318 = .ok (.iadd, 1) := by decide +kernel
theorem dL_law_319 : decode cL_law 319 = .ok (.iaload, 1) := by decide +kernel
theorem dL_law_320 : decode cL_law 320 = .ok (.aload_n 0, 1) := by decide +kernel
theorem dL_law_321 : decode cL_law 321 = .ok (.iload_n 3, 1) := by decide +kernel
theorem dL_law_322 : decode cL_law 322 = .ok (.iconst 3, 1) := by decide +kernel
theorem dL_law_323 : decode cL_law 323 = .ok (.iadd, 1) := by decide +kernel
theorem dL_law_324 : decode cL_law 324 = .ok (.iaload, 1) := by decide +kernel
theorem dL_law_325 : decode cL_law 325 = .ok (.invokevirtual 37, 3) := by decide +kernel
theorem dL_law_328 : decode cL_law 328 = .ok (.if_icmp .eq 853, 3) := by decide +kernel
theorem dL_law_331 : decode cL_law 331 = .ok (.iconst 0, 1) := by decide +kernel
theorem dL_law_332 : decode cL_law 332 = .ok (.ireturn, 1) := by decide +kernel
theorem dL_law_333 : decode cL_law 333 = .ok (.aload_n 1, 1) := by decide +kernel
theorem dL_law_334 : decode cL_law 334 = .ok (.aload_n 0, 1) := by decide +kernel
theorem dL_law_335 : decode cL_law 335 = .ok (.iload_n 3, 1) := by decide +kernel
theorem dL_law_336 : decode cL_law 336 = .ok (.iconst 1, 1) := by decide +kernel
theorem dL_law_337 : decode cL_law 337 = .ok (.iadd, 1) := by decide +kernel
theorem dL_law_338 : decode cL_law 338 = .ok (.iaload, 1) := by decide +kernel
theorem dL_law_339 : decode cL_law 339 = .ok (.invokevirtual 38, 3) := by decide +kernel
theorem dL_law_342 : decode cL_law 342 = .ok (.aload_n 2, 1) := by decide +kernel
theorem dL_law_343 : decode cL_law 343 = .ok (.aload_n 0, 1) := by decide +kernel
theorem dL_law_344 : decode cL_law 344 = .ok (.iload_n 3, 1) := by decide +kernel
theorem dL_law_345 : decode cL_law 345 = .ok (.iconst 1, 1) := by decide +kernel
theorem dL_law_346 : decode cL_law 346 = .ok (.iadd, 1) := by decide +kernel
theorem dL_law_347 : decode cL_law 347 = .ok (.iaload, 1) := by decide +kernel
theorem dL_law_348 : decode cL_law 348 = .ok (.invokevirtual 41, 3) := by decide +kernel
theorem dL_law_351 : decode cL_law 351 = .ok (.if_icmp .eq 830, 3) := by decide +kernel
theorem dL_law_354 : decode cL_law 354 = .ok (.iconst 0, 1) := by decide +kernel
theorem dL_law_355 : decode cL_law 355 = .ok (.ireturn, 1) := by decide +kernel
theorem dL_law_356 : decode cL_law 356 = .ok (.aload_n 1, 1) := by decide +kernel
theorem dL_law_357 : decode cL_law 357 = .ok (.aload_n 0, 1) := by decide +kernel
theorem dL_law_358 : decode cL_law 358 = .ok (.iload_n 3, 1) := by decide +kernel
theorem dL_law_359 : decode cL_law 359 = .ok (.iconst 1, 1) := by decide +kernel
theorem dL_law_360 : decode cL_law 360 = .ok (.iadd, 1) := by decide +kernel
theorem dL_law_361 : decode cL_law 361 = .ok (.iaload, 1) := by decide +kernel
theorem dL_law_362 : decode cL_law 362 = .ok (.invokevirtual 42, 3) := by decide +kernel
theorem dL_law_365 : decode cL_law 365 = .ok (.aload_n 2, 1) := by decide +kernel
theorem dL_law_366 : decode cL_law 366 = .ok (.aload_n 0, 1) := by decide +kernel
theorem dL_law_367 : decode cL_law 367 = .ok (.iload_n 3, 1) := by decide +kernel
theorem dL_law_368 : decode cL_law 368 = .ok (.iconst 1, 1) := by decide +kernel
theorem dL_law_369 : decode cL_law 369 = .ok (.iadd, 1) := by decide +kernel
theorem dL_law_370 : decode cL_law 370 = .ok (.iaload, 1) := by decide +kernel
theorem dL_law_371 : decode cL_law 371 = .ok (.invokevirtual 45, 3) := by decide +kernel
theorem dL_law_374 : decode cL_law 374 = .ok (.if_icmp .eq 807, 3) := by decide +kernel
theorem dL_law_377 : decode cL_law 377 = .ok (.iconst 0, 1) := by decide +kernel
theorem dL_law_378 : decode cL_law 378 = .ok (.ireturn, 1) := by decide +kernel
theorem dL_law_379 : decode cL_law 379 = .ok (.aload_n 1, 1) := by decide +kernel
theorem dL_law_380 : decode cL_law 380 = .ok (.aload_n 0, 1) := by decide +kernel
theorem dL_law_381 : decode cL_law 381 = .ok (.iload_n 3, 1) := by decide +kernel
theorem dL_law_382 : decode cL_law 382 = .ok (.iconst 1, 1) := by decide +kernel
theorem dL_law_383 : decode cL_law 383 = .ok (.iadd, 1) := by decide +kernel
theorem dL_law_384 : decode cL_law 384 = .ok (.iaload, 1) := by decide +kernel
theorem dL_law_385 : decode cL_law 385 = .ok (.aload_n 0, 1) := by decide +kernel
theorem dL_law_386 : decode cL_law 386 = .ok (.iload_n 3, 1) := by decide +kernel
theorem dL_law_387 : decode cL_law 387 = .ok (.iconst 2, 1) := by decide +kernel
theorem dL_law_388 : decode cL_law 388 = .ok (.iadd, 1) := by decide +kernel
theorem dL_law_389 : decode cL_law 389 = .ok (.iaload, 1) := by decide +kernel
theorem dL_law_390 : decode cL_law 390 = .ok (.invokevirtual 46, 3) := by decide +kernel
theorem dL_law_393 : decode cL_law 393 = .ok (.aload_n 2, 1) := by decide +kernel
theorem dL_law_394 : decode cL_law 394 = .ok (.aload_n 0, 1) := by decide +kernel
theorem dL_law_395 : decode cL_law 395 = .ok (.iload_n 3, 1) := by decide +kernel
theorem dL_law_396 : decode cL_law 396 = .ok (.iconst 1, 1) := by decide +kernel
theorem dL_law_397 : decode cL_law 397 = .ok (.iadd, 1) := by decide +kernel
theorem dL_law_398 : decode cL_law 398 = .ok (.iaload, 1) := by decide +kernel
theorem dL_law_399 : decode cL_law 399 = .ok (.aload_n 0, 1) := by decide +kernel
theorem dL_law_400 : decode cL_law 400 = .ok (.iload_n 3, 1) := by decide +kernel
theorem dL_law_401 : decode cL_law 401 = .ok (.iconst 2, 1) := by decide +kernel
theorem dL_law_402 : decode cL_law 402 = .ok (.iadd, 1) := by decide +kernel
theorem dL_law_403 : decode cL_law 403 = .ok (.iaload, 1) := by decide +kernel
theorem dL_law_404 : decode cL_law 404 = .ok (.invokevirtual 49, 3) := by decide +kernel
theorem dL_law_407 : decode cL_law 407 = .ok (.if_icmp .eq 774, 3) := by decide +kernel
theorem dL_law_410 : decode cL_law 410 = .ok (.iconst 0, 1) := by decide +kernel
theorem dL_law_411 : decode cL_law 411 = .ok (.ireturn, 1) := by decide +kernel
theorem dL_law_412 : decode cL_law 412 = .ok (.aload_n 1, 1) := by decide +kernel
theorem dL_law_413 : decode cL_law 413 = .ok (.aload_n 0, 1) := by decide +kernel
theorem dL_law_414 : decode cL_law 414 = .ok (.iload_n 3, 1) := by decide +kernel
theorem dL_law_415 : decode cL_law 415 = .ok (.iconst 1, 1) := by decide +kernel
theorem dL_law_416 : decode cL_law 416 = .ok (.iadd, 1) := by decide +kernel
theorem dL_law_417 : decode cL_law 417 = .ok (.iaload, 1) := by decide +kernel
theorem dL_law_418 : decode cL_law 418 = .ok (.invokevirtual 50, 3) := by decide +kernel
theorem dL_law_421 : decode cL_law 421 = .ok (.aload_n 2, 1) := by decide +kernel
theorem dL_law_422 : decode cL_law 422 = .ok (.aload_n 0, 1) := by decide +kernel
theorem dL_law_423 : decode cL_law 423 = .ok (.iload_n 3, 1) := by decide +kernel
theorem dL_law_424 : decode cL_law 424 = .ok (.iconst 1, 1) := by decide +kernel
theorem dL_law_425 : decode cL_law 425 = .ok (.iadd, 1) := by decide +kernel
theorem dL_law_426 : decode cL_law 426 = .ok (.iaload, 1) := by decide +kernel
theorem dL_law_427 : decode cL_law 427 = .ok (.invokevirtual 53, 3) := by decide +kernel
theorem dL_law_430 : decode cL_law 430 = .ok (.if_icmp .eq 751, 3) := by decide +kernel
theorem dL_law_433 : decode cL_law 433 = .ok (.iconst 0, 1) := by decide +kernel
theorem dL_law_434 : decode cL_law 434 = .ok (.ireturn, 1) := by decide +kernel
theorem dL_law_435 : decode cL_law 435 = .ok (.aload_n 1, 1) := by decide +kernel
theorem dL_law_436 : decode cL_law 436 = .ok (.aload_n 0, 1) := by decide +kernel
theorem dL_law_437 : decode cL_law 437 = .ok (.iload_n 3, 1) := by decide +kernel
theorem dL_law_438 : decode cL_law 438 = .ok (.iconst 1, 1) := by decide +kernel
theorem dL_law_439 : decode cL_law 439 = .ok (.iadd, 1) := by decide +kernel
theorem dL_law_440 : decode cL_law 440 = .ok (.iaload, 1) := by decide +kernel
theorem dL_law_441 : decode cL_law 441 = .ok (.aload_n 0, 1) := by decide +kernel
theorem dL_law_442 : decode cL_law 442 = .ok (.iload_n 3, 1) := by decide +kernel
theorem dL_law_443 : decode cL_law 443 = .ok (.iconst 2, 1) := by decide +kernel
theorem dL_law_444 : decode cL_law 444 = .ok (.iadd, 1) := by decide +kernel
theorem dL_law_445 : decode cL_law 445 = .ok (.iaload, 1) := by decide +kernel
theorem dL_law_446 : decode cL_law 446 = .ok (.invokevirtual 54, 3) := by decide +kernel
theorem dL_law_449 : decode cL_law 449 = .ok (.aload_n 2, 1) := by decide +kernel
theorem dL_law_450 : decode cL_law 450 = .ok (.aload_n 0, 1) := by decide +kernel
theorem dL_law_451 : decode cL_law 451 = .ok (.iload_n 3, 1) := by decide +kernel
theorem dL_law_452 : decode cL_law 452 = .ok (.iconst 1, 1) := by decide +kernel
theorem dL_law_453 : decode cL_law 453 = .ok (.iadd, 1) := by decide +kernel
theorem dL_law_454 : decode cL_law 454 = .ok (.iaload, 1) := by decide +kernel
theorem dL_law_455 : decode cL_law 455 = .ok (.aload_n 0, 1) := by decide +kernel
theorem dL_law_456 : decode cL_law 456 = .ok (.iload_n 3, 1) := by decide +kernel
theorem dL_law_457 : decode cL_law 457 = .ok (.iconst 2, 1) := by decide +kernel
theorem dL_law_458 : decode cL_law 458 = .ok (.iadd, 1) := by decide +kernel
theorem dL_law_459 : decode cL_law 459 = .ok (.iaload, 1) := by decide +kernel
theorem dL_law_460 : decode cL_law 460 = .ok (.invokevirtual 57, 3) := by decide +kernel
theorem dL_law_463 : decode cL_law 463 = .ok (.if_icmp .eq 718, 3) := by decide +kernel
theorem dL_law_466 : decode cL_law 466 = .ok (.iconst 0, 1) := by decide +kernel
theorem dL_law_467 : decode cL_law 467 = .ok (.ireturn, 1) := by decide +kernel
theorem dL_law_468 : decode cL_law 468 = .ok (.aload_n 1, 1) := by decide +kernel
theorem dL_law_469 : decode cL_law 469 = .ok (.aload_n 0, 1) := by decide +kernel
theorem dL_law_470 : decode cL_law 470 = .ok (.iload_n 3, 1) := by decide +kernel
theorem dL_law_471 : decode cL_law 471 = .ok (.iconst 1, 1) := by decide +kernel
theorem dL_law_472 : decode cL_law 472 = .ok (.iadd, 1) := by decide +kernel
theorem dL_law_473 : decode cL_law 473 = .ok (.iaload, 1) := by decide +kernel
theorem dL_law_474 : decode cL_law 474 = .ok (.invokevirtual 58, 3) := by decide +kernel
theorem dL_law_477 : decode cL_law 477 = .ok (.aload_n 2, 1) := by decide +kernel
theorem dL_law_478 : decode cL_law 478 = .ok (.aload_n 0, 1) := by decide +kernel
theorem dL_law_479 : decode cL_law 479 = .ok (.iload_n 3, 1) := by decide +kernel
theorem dL_law_480 : decode cL_law 480 = .ok (.iconst 1, 1) := by decide +kernel
theorem dL_law_481 : decode cL_law 481 = .ok (.iadd, 1) := by decide +kernel
theorem dL_law_482 : decode cL_law 482 = .ok (.iaload, 1) := by decide +kernel
theorem dL_law_483 : decode cL_law 483 = .ok (.invokevirtual 61, 3) := by decide +kernel
theorem dL_law_486 : decode cL_law 486 = .ok (.if_icmp .eq 695, 3) := by decide +kernel
theorem dL_law_489 : decode cL_law 489 = .ok (.iconst 0, 1) := by decide +kernel
theorem dL_law_490 : decode cL_law 490 = .ok (.ireturn, 1) := by decide +kernel
theorem dL_law_491 : decode cL_law 491 = .ok (.aload_n 1, 1) := by decide +kernel
theorem dL_law_492 : decode cL_law 492 = .ok (.aload_n 0, 1) := by decide +kernel
theorem dL_law_493 : decode cL_law 493 = .ok (.iload_n 3, 1) := by decide +kernel
theorem dL_law_494 : decode cL_law 494 = .ok (.iconst 1, 1) := by decide +kernel
theorem dL_law_495 : decode cL_law 495 = .ok (.iadd, 1) := by decide +kernel
theorem dL_law_496 : decode cL_law 496 = .ok (.iaload, 1) := by decide +kernel
theorem dL_law_497 : decode cL_law 497 = .ok (.invokevirtual 62, 3) := by decide +kernel
theorem dL_law_500 : decode cL_law 500 = .ok (.aload_n 2, 1) := by decide +kernel
theorem dL_law_501 : decode cL_law 501 = .ok (.aload_n 0, 1) := by decide +kernel
theorem dL_law_502 : decode cL_law 502 = .ok (.iload_n 3, 1) := by decide +kernel
theorem dL_law_503 : decode cL_law 503 = .ok (.iconst 1, 1) := by decide +kernel
theorem dL_law_504 : decode cL_law 504 = .ok (.iadd, 1) := by decide +kernel
theorem dL_law_505 : decode cL_law 505 = .ok (.iaload, 1) := by decide +kernel
theorem dL_law_506 : decode cL_law 506 = .ok (.invokevirtual 65, 3) := by decide +kernel
theorem dL_law_509 : decode cL_law 509 = .ok (.if_icmp .eq 672, 3) := by decide +kernel
theorem dL_law_512 : decode cL_law 512 = .ok (.iconst 0, 1) := by decide +kernel
theorem dL_law_513 : decode cL_law 513 = .ok (.ireturn, 1) := by decide +kernel
theorem dL_law_514 : decode cL_law 514 = .ok (.aload_n 1, 1) := by decide +kernel
theorem dL_law_515 : decode cL_law 515 = .ok (.aload_n 0, 1) := by decide +kernel
theorem dL_law_516 : decode cL_law 516 = .ok (.iload_n 3, 1) := by decide +kernel
theorem dL_law_517 : decode cL_law 517 = .ok (.iconst 1, 1) := by decide +kernel
theorem dL_law_518 : decode cL_law 518 = .ok (.iadd, 1) := by decide +kernel
theorem dL_law_519 : decode cL_law 519 = .ok (.iaload, 1) := by decide +kernel
theorem dL_law_520 : decode cL_law 520 = .ok (.aload_n 0, 1) := by decide +kernel
theorem dL_law_521 : decode cL_law 521 = .ok (.iload_n 3, 1) := by decide +kernel
theorem dL_law_522 : decode cL_law 522 = .ok (.iconst 2, 1) := by decide +kernel
theorem dL_law_523 : decode cL_law 523 = .ok (.iadd, 1) := by decide +kernel
theorem dL_law_524 : decode cL_law 524 = .ok (.iaload, 1) := by decide +kernel
theorem dL_law_525 : decode cL_law 525 = .ok (.invokevirtual 66, 3) := by decide +kernel
theorem dL_law_528 : decode cL_law 528 = .ok (.aload_n 2, 1) := by decide +kernel
theorem dL_law_529 : decode cL_law 529 = .ok (.aload_n 0, 1) := by decide +kernel
theorem dL_law_530 : decode cL_law 530 = .ok (.iload_n 3, 1) := by decide +kernel
theorem dL_law_531 : decode cL_law 531 = .ok (.iconst 1, 1) := by decide +kernel
theorem dL_law_532 : decode cL_law 532 = .ok (.iadd, 1) := by decide +kernel
theorem dL_law_533 : decode cL_law 533 = .ok (.iaload, 1) := by decide +kernel
theorem dL_law_534 : decode cL_law 534 = .ok (.aload_n 0, 1) := by decide +kernel
theorem dL_law_535 : decode cL_law 535 = .ok (.iload_n 3, 1) := by decide +kernel
theorem dL_law_536 : decode cL_law 536 = .ok (.iconst 2, 1) := by decide +kernel
theorem dL_law_537 : decode cL_law 537 = .ok (.iadd, 1) := by decide +kernel
theorem dL_law_538 : decode cL_law 538 = .ok (.iaload, 1) := by decide +kernel
theorem dL_law_539 : decode cL_law 539 = .ok (.invokevirtual 69, 3) := by decide +kernel
theorem dL_law_542 : decode cL_law 542 = .ok (.if_icmp .eq 639, 3) := by decide +kernel
theorem dL_law_545 : decode cL_law 545 = .ok (.iconst 0, 1) := by decide +kernel
theorem dL_law_546 : decode cL_law 546 = .ok (.ireturn, 1) := by decide +kernel
theorem dL_law_547 : decode cL_law 547 = .ok (.aload_n 1, 1) := by decide +kernel
theorem dL_law_548 : decode cL_law 548 = .ok (.aload_n 0, 1) := by decide +kernel
theorem dL_law_549 : decode cL_law 549 = .ok (.iload_n 3, 1) := by decide +kernel
theorem dL_law_550 : decode cL_law 550 = .ok (.iconst 1, 1) := by decide +kernel
theorem dL_law_551 : decode cL_law 551 = .ok (.iadd, 1) := by decide +kernel
theorem dL_law_552 : decode cL_law 552 = .ok (.iaload, 1) := by decide +kernel
theorem dL_law_553 : decode cL_law 553 = .ok (.invokevirtual 70, 3) := by decide +kernel
theorem dL_law_556 : decode cL_law 556 = .ok (.aload_n 2, 1) := by decide +kernel
theorem dL_law_557 : decode cL_law 557 = .ok (.aload_n 0, 1) := by decide +kernel
theorem dL_law_558 : decode cL_law 558 = .ok (.iload_n 3, 1) := by decide +kernel
theorem dL_law_559 : decode cL_law 559 = .ok (.iconst 1, 1) := by decide +kernel
theorem dL_law_560 : decode cL_law 560 = .ok (.iadd, 1) := by decide +kernel
theorem dL_law_561 : decode cL_law 561 = .ok (.iaload, 1) := by decide +kernel
theorem dL_law_562 : decode cL_law 562 = .ok (.invokevirtual 73, 3) := by decide +kernel
theorem dL_law_565 : decode cL_law 565 = .ok (.if_icmp .eq 616, 3) := by decide +kernel
theorem dL_law_568 : decode cL_law 568 = .ok (.iconst 0, 1) := by decide +kernel
theorem dL_law_569 : decode cL_law 569 = .ok (.ireturn, 1) := by decide +kernel
theorem dL_law_570 : decode cL_law 570 = .ok (.aload_n 1, 1) := by decide +kernel
theorem dL_law_571 : decode cL_law 571 = .ok (.invokevirtual 74, 3) := by decide +kernel
theorem dL_law_574 : decode cL_law 574 = .ok (.aload_n 2, 1) := by decide +kernel
theorem dL_law_575 : decode cL_law 575 = .ok (.invokevirtual 77, 3) := by decide +kernel
theorem dL_law_578 : decode cL_law 578 = .ok (.if_icmp .eq 603, 3) := by decide +kernel
theorem dL_law_581 : decode cL_law 581 = .ok (.iconst 0, 1) := by decide +kernel
theorem dL_law_582 : decode cL_law 582 = .ok (.ireturn, 1) := by decide +kernel
theorem dL_law_583 : decode cL_law 583 = .ok (.aload_n 1, 1) := by decide +kernel
theorem dL_law_584 : decode cL_law 584 = .ok (.invokevirtual 78, 3) := by decide +kernel
theorem dL_law_587 : decode cL_law 587 = .ok (.aload_n 2, 1) := by decide +kernel
theorem dL_law_588 : decode cL_law 588 = .ok (.invokevirtual 81, 3) := by decide +kernel
theorem dL_law_591 : decode cL_law 591 = .ok (.if_icmp .eq 590, 3) := by decide +kernel
theorem dL_law_594 : decode cL_law 594 = .ok (.iconst 0, 1) := by decide +kernel
theorem dL_law_595 : decode cL_law 595 = .ok (.ireturn, 1) := by decide +kernel
theorem dL_law_596 : decode cL_law 596 = .ok (.aload_n 1, 1) := by decide +kernel
theorem dL_law_597 : decode cL_law 597 = .ok (.aload_n 0, 1) := by decide +kernel
theorem dL_law_598 : decode cL_law 598 = .ok (.iload_n 3, 1) := by decide +kernel
theorem dL_law_599 : decode cL_law 599 = .ok (.iconst 1, 1) := by decide +kernel
theorem dL_law_600 : decode cL_law 600 = .ok (.iadd, 1) := by decide +kernel
theorem dL_law_601 : decode cL_law 601 = .ok (.iaload, 1) := by decide +kernel
theorem dL_law_602 : decode cL_law 602 = .ok (.aload_n 0, 1) := by decide +kernel
theorem dL_law_603 : decode cL_law 603 = .ok (.iload_n 3, 1) := by decide +kernel
theorem dL_law_604 : decode cL_law 604 = .ok (.iconst 2, 1) := by decide +kernel
theorem dL_law_605 : decode cL_law 605 = .ok (.iadd, 1) := by decide +kernel
theorem dL_law_606 : decode cL_law 606 = .ok (.iaload, 1) := by decide +kernel
theorem dL_law_607 : decode cL_law 607 = .ok (.ifCond .eq 7, 3) := by decide +kernel
theorem dL_law_610 : decode cL_law 610 = .ok (.iconst 1, 1) := by decide +kernel
theorem dL_law_611 : decode cL_law 611 = .ok (.goto 4, 3) := by decide +kernel
theorem dL_law_614 : decode cL_law 614 = .ok (.iconst 0, 1) := by decide +kernel
theorem dL_law_615 : decode cL_law 615 = .ok (.invokevirtual 82, 3) := by decide +kernel
theorem dL_law_618 : decode cL_law 618 = .ok (.aload_n 2, 1) := by decide +kernel
theorem dL_law_619 : decode cL_law 619 = .ok (.aload_n 0, 1) := by decide +kernel
theorem dL_law_620 : decode cL_law 620 = .ok (.iload_n 3, 1) := by decide +kernel
theorem dL_law_621 : decode cL_law 621 = .ok (.iconst 1, 1) := by decide +kernel
theorem dL_law_622 : decode cL_law 622 = .ok (.iadd, 1) := by decide +kernel
theorem dL_law_623 : decode cL_law 623 = .ok (.iaload, 1) := by decide +kernel
theorem dL_law_624 : decode cL_law 624 = .ok (.aload_n 0, 1) := by decide +kernel
theorem dL_law_625 : decode cL_law 625 = .ok (.iload_n 3, 1) := by decide +kernel
theorem dL_law_626 : decode cL_law 626 = .ok (.iconst 2, 1) := by decide +kernel
theorem dL_law_627 : decode cL_law 627 = .ok (.iadd, 1) := by decide +kernel
theorem dL_law_628 : decode cL_law 628 = .ok (.iaload, 1) := by decide +kernel
theorem dL_law_629 : decode cL_law 629 = .ok (.ifCond .eq 7, 3) := by decide +kernel
theorem dL_law_632 : decode cL_law 632 = .ok (.iconst 1, 1) := by decide +kernel
theorem dL_law_633 : decode cL_law 633 = .ok (.goto 4, 3) := by decide +kernel
theorem dL_law_636 : decode cL_law 636 = .ok (.iconst 0, 1) := by decide +kernel
theorem dL_law_637 : decode cL_law 637 = .ok (.invokevirtual 86, 3) := by decide +kernel
theorem dL_law_640 : decode cL_law 640 = .ok (.if_icmp .eq 541, 3) := by decide +kernel
theorem dL_law_643 : decode cL_law 643 = .ok (.iconst 0, 1) := by decide +kernel
theorem dL_law_644 : decode cL_law 644 = .ok (.ireturn, 1) := by decide +kernel
theorem dL_law_645 : decode cL_law 645 = .ok (.aload_n 1, 1) := by decide +kernel
theorem dL_law_646 : decode cL_law 646 = .ok (.aload_n 0, 1) := by decide +kernel
theorem dL_law_647 : decode cL_law 647 = .ok (.iload_n 3, 1) := by decide +kernel
theorem dL_law_648 : decode cL_law 648 = .ok (.iconst 1, 1) := by decide +kernel
theorem dL_law_649 : decode cL_law 649 = .ok (.iadd, 1) := by decide +kernel
theorem dL_law_650 : decode cL_law 650 = .ok (.iaload, 1) := by decide +kernel
theorem dL_law_651 : decode cL_law 651 = .ok (.aload_n 0, 1) := by decide +kernel
theorem dL_law_652 : decode cL_law 652 = .ok (.iload_n 3, 1) := by decide +kernel
theorem dL_law_653 : decode cL_law 653 = .ok (.iconst 2, 1) := by decide +kernel
theorem dL_law_654 : decode cL_law 654 = .ok (.iadd, 1) := by decide +kernel
theorem dL_law_655 : decode cL_law 655 = .ok (.iaload, 1) := by decide +kernel
theorem dL_law_656 : decode cL_law 656 = .ok (.ifCond .eq 7, 3) := by decide +kernel
theorem dL_law_659 : decode cL_law 659 = .ok (.iconst 1, 1) := by decide +kernel
theorem dL_law_660 : decode cL_law 660 = .ok (.goto 4, 3) := by decide +kernel
theorem dL_law_663 : decode cL_law 663 = .ok (.iconst 0, 1) := by decide +kernel
theorem dL_law_664 : decode cL_law 664 = .ok (.invokevirtual 87, 3) := by decide +kernel
theorem dL_law_667 : decode cL_law 667 = .ok (.aload_n 2, 1) := by decide +kernel
theorem dL_law_668 : decode cL_law 668 = .ok (.aload_n 0, 1) := by decide +kernel
theorem dL_law_669 : decode cL_law 669 = .ok (.iload_n 3, 1) := by decide +kernel
theorem dL_law_670 : decode cL_law 670 = .ok (.iconst 1, 1) := by decide +kernel
theorem dL_law_671 : decode cL_law 671 = .ok (.iadd, 1) := by decide +kernel
theorem dL_law_672 : decode cL_law 672 = .ok (.iaload, 1) := by decide +kernel
theorem dL_law_673 : decode cL_law 673 = .ok (.aload_n 0, 1) := by decide +kernel
theorem dL_law_674 : decode cL_law 674 = .ok (.iload_n 3, 1) := by decide +kernel
theorem dL_law_675 : decode cL_law 675 = .ok (.iconst 2, 1) := by decide +kernel
theorem dL_law_676 : decode cL_law 676 = .ok (.iadd, 1) := by decide +kernel
theorem dL_law_677 : decode cL_law 677 = .ok (.iaload, 1) := by decide +kernel
theorem dL_law_678 : decode cL_law 678 = .ok (.ifCond .eq 7, 3) := by decide +kernel
theorem dL_law_681 : decode cL_law 681 = .ok (.iconst 1, 1) := by decide +kernel
theorem dL_law_682 : decode cL_law 682 = .ok (.goto 4, 3) := by decide +kernel
theorem dL_law_685 : decode cL_law 685 = .ok (.iconst 0, 1) := by decide +kernel
theorem dL_law_686 : decode cL_law 686 = .ok (.invokevirtual 90, 3) := by decide +kernel
theorem dL_law_689 : decode cL_law 689 = .ok (.if_icmp .eq 492, 3) := by decide +kernel
theorem dL_law_692 : decode cL_law 692 = .ok (.iconst 0, 1) := by decide +kernel
theorem dL_law_693 : decode cL_law 693 = .ok (.ireturn, 1) := by decide +kernel
theorem dL_law_694 : decode cL_law 694 = .ok (.aload_n 1, 1) := by decide +kernel
theorem dL_law_695 : decode cL_law 695 = .ok (.aload_n 0, 1) := by decide +kernel
theorem dL_law_696 : decode cL_law 696 = .ok (.iload_n 3, 1) := by decide +kernel
theorem dL_law_697 : decode cL_law 697 = .ok (.iconst 1, 1) := by decide +kernel
theorem dL_law_698 : decode cL_law 698 = .ok (.iadd, 1) := by decide +kernel
theorem dL_law_699 : decode cL_law 699 = .ok (.iaload, 1) := by decide +kernel
theorem dL_law_700 : decode cL_law 700 = .ok (.aload_n 0, 1) := by decide +kernel
theorem dL_law_701 : decode cL_law 701 = .ok (.iload_n 3, 1) := by decide +kernel
theorem dL_law_702 : decode cL_law 702 = .ok (.iconst 2, 1) := by decide +kernel
theorem dL_law_703 : decode cL_law 703 = .ok (.iadd, 1) := by decide +kernel
theorem dL_law_704 : decode cL_law 704 = .ok (.iaload, 1) := by decide +kernel
theorem dL_law_705 : decode cL_law 705 = .ok (.invokevirtual 91, 3) := by decide +kernel
theorem dL_law_708 : decode cL_law 708 = .ok (.aload_n 2, 1) := by decide +kernel
theorem dL_law_709 : decode cL_law 709 = .ok (.aload_n 0, 1) := by decide +kernel
theorem dL_law_710 : decode cL_law 710 = .ok (.iload_n 3, 1) := by decide +kernel
theorem dL_law_711 : decode cL_law 711 = .ok (.iconst 1, 1) := by decide +kernel
theorem dL_law_712 : decode cL_law 712 = .ok (.iadd, 1) := by decide +kernel
theorem dL_law_713 : decode cL_law 713 = .ok (.iaload, 1) := by decide +kernel
theorem dL_law_714 : decode cL_law 714 = .ok (.aload_n 0, 1) := by decide +kernel
theorem dL_law_715 : decode cL_law 715 = .ok (.iload_n 3, 1) := by decide +kernel
theorem dL_law_716 : decode cL_law 716 = .ok (.iconst 2, 1) := by decide +kernel
theorem dL_law_717 : decode cL_law 717 = .ok (.iadd, 1) := by decide +kernel
theorem dL_law_718 : decode cL_law 718 = .ok (.iaload, 1) := by decide +kernel
theorem dL_law_719 : decode cL_law 719 = .ok (.invokevirtual 94, 3) := by decide +kernel
theorem dL_law_722 : decode cL_law 722 = .ok (.if_icmp .eq 459, 3) := by decide +kernel
theorem dL_law_725 : decode cL_law 725 = .ok (.iconst 0, 1) := by decide +kernel
theorem dL_law_726 : decode cL_law 726 = .ok (.ireturn, 1) := by decide +kernel
theorem dL_law_727 : decode cL_law 727 = .ok (.aload_n 1, 1) := by decide +kernel
theorem dL_law_728 : decode cL_law 728 = .ok (.aload_n 0, 1) := by decide +kernel
theorem dL_law_729 : decode cL_law 729 = .ok (.iload_n 3, 1) := by decide +kernel
theorem dL_law_730 : decode cL_law 730 = .ok (.iconst 1, 1) := by decide +kernel
theorem dL_law_731 : decode cL_law 731 = .ok (.iadd, 1) := by decide +kernel
theorem dL_law_732 : decode cL_law 732 = .ok (.iaload, 1) := by decide +kernel
theorem dL_law_733 : decode cL_law 733 = .ok (.aload_n 0, 1) := by decide +kernel
theorem dL_law_734 : decode cL_law 734 = .ok (.iload_n 3, 1) := by decide +kernel
theorem dL_law_735 : decode cL_law 735 = .ok (.iconst 2, 1) := by decide +kernel
theorem dL_law_736 : decode cL_law 736 = .ok (.iadd, 1) := by decide +kernel
theorem dL_law_737 : decode cL_law 737 = .ok (.iaload, 1) := by decide +kernel
theorem dL_law_738 : decode cL_law 738 = .ok (.ifCond .eq 7, 3) := by decide +kernel
theorem dL_law_741 : decode cL_law 741 = .ok (.iconst 1, 1) := by decide +kernel
theorem dL_law_742 : decode cL_law 742 = .ok (.goto 4, 3) := by decide +kernel
theorem dL_law_745 : decode cL_law 745 = .ok (.iconst 0, 1) := by decide +kernel
theorem dL_law_746 : decode cL_law 746 = .ok (.invokevirtual 95, 3) := by decide +kernel
theorem dL_law_749 : decode cL_law 749 = .ok (.aload_n 2, 1) := by decide +kernel
theorem dL_law_750 : decode cL_law 750 = .ok (.aload_n 0, 1) := by decide +kernel
theorem dL_law_751 : decode cL_law 751 = .ok (.iload_n 3, 1) := by decide +kernel
theorem dL_law_752 : decode cL_law 752 = .ok (.iconst 1, 1) := by decide +kernel
theorem dL_law_753 : decode cL_law 753 = .ok (.iadd, 1) := by decide +kernel
theorem dL_law_754 : decode cL_law 754 = .ok (.iaload, 1) := by decide +kernel
theorem dL_law_755 : decode cL_law 755 = .ok (.aload_n 0, 1) := by decide +kernel
theorem dL_law_756 : decode cL_law 756 = .ok (.iload_n 3, 1) := by decide +kernel
theorem dL_law_757 : decode cL_law 757 = .ok (.iconst 2, 1) := by decide +kernel
theorem dL_law_758 : decode cL_law 758 = .ok (.iadd, 1) := by decide +kernel
theorem dL_law_759 : decode cL_law 759 = .ok (.iaload, 1) := by decide +kernel
theorem dL_law_760 : decode cL_law 760 = .ok (.ifCond .eq 7, 3) := by decide +kernel
theorem dL_law_763 : decode cL_law 763 = .ok (.iconst 1, 1) := by decide +kernel
theorem dL_law_764 : decode cL_law 764 = .ok (.goto 4, 3) := by decide +kernel
theorem dL_law_767 : decode cL_law 767 = .ok (.iconst 0, 1) := by decide +kernel
theorem dL_law_768 : decode cL_law 768 = .ok (.invokevirtual 98, 3) := by decide +kernel
theorem dL_law_771 : decode cL_law 771 = .ok (.if_icmp .eq 410, 3) := by decide +kernel
theorem dL_law_774 : decode cL_law 774 = .ok (.iconst 0, 1) := by decide +kernel
theorem dL_law_775 : decode cL_law 775 = .ok (.ireturn, 1) := by decide +kernel
theorem dL_law_776 : decode cL_law 776 = .ok (.aload_n 1, 1) := by decide +kernel
theorem dL_law_777 : decode cL_law 777 = .ok (.invokevirtual 99, 3) := by decide +kernel
theorem dL_law_780 : decode cL_law 780 = .ok (.aload_n 2, 1) := by decide +kernel
theorem dL_law_781 : decode cL_law 781 = .ok (.invokevirtual 102, 3) := by decide +kernel
theorem dL_law_784 : decode cL_law 784 = .ok (.if_icmp .eq 397, 3) := by decide +kernel
theorem dL_law_787 : decode cL_law 787 = .ok (.iconst 0, 1) := by decide +kernel
theorem dL_law_788 : decode cL_law 788 = .ok (.ireturn, 1) := by decide +kernel
theorem dL_law_789 : decode cL_law 789 = .ok (.aload_n 1, 1) := by decide +kernel
theorem dL_law_790 : decode cL_law 790 = .ok (.aload_n 0, 1) := by decide +kernel
theorem dL_law_791 : decode cL_law 791 = .ok (.iload_n 3, 1) := by decide +kernel
theorem dL_law_792 : decode cL_law 792 = .ok (.iconst 1, 1) := by decide +kernel
theorem dL_law_793 : decode cL_law 793 = .ok (.iadd, 1) := by decide +kernel
theorem dL_law_794 : decode cL_law 794 = .ok (.iaload, 1) := by decide +kernel
theorem dL_law_795 : decode cL_law 795 = .ok (.invokevirtual 103, 3) := by decide +kernel
theorem dL_law_798 : decode cL_law 798 = .ok (.aload_n 2, 1) := by decide +kernel
theorem dL_law_799 : decode cL_law 799 = .ok (.aload_n 0, 1) := by decide +kernel
theorem dL_law_800 : decode cL_law 800 = .ok (.iload_n 3, 1) := by decide +kernel
theorem dL_law_801 : decode cL_law 801 = .ok (.iconst 1, 1) := by decide +kernel
theorem dL_law_802 : decode cL_law 802 = .ok (.iadd, 1) := by decide +kernel
theorem dL_law_803 : decode cL_law 803 = .ok (.iaload, 1) := by decide +kernel
theorem dL_law_804 : decode cL_law 804 = .ok (.invokevirtual 106, 3) := by decide +kernel
theorem dL_law_807 : decode cL_law 807 = .ok (.if_icmp .eq 374, 3) := by decide +kernel
theorem dL_law_810 : decode cL_law 810 = .ok (.iconst 0, 1) := by decide +kernel
theorem dL_law_811 : decode cL_law 811 = .ok (.ireturn, 1) := by decide +kernel
theorem dL_law_812 : decode cL_law 812 = .ok (.aload_n 1, 1) := by decide +kernel
theorem dL_law_813 : decode cL_law 813 = .ok (.aload_n 0, 1) := by decide +kernel
theorem dL_law_814 : decode cL_law 814 = .ok (.iload_n 3, 1) := by decide +kernel
theorem dL_law_815 : decode cL_law 815 = .ok (.iconst 1, 1) := by decide +kernel
theorem dL_law_816 : decode cL_law 816 = .ok (.iadd, 1) := by decide +kernel
theorem dL_law_817 : decode cL_law 817 = .ok (.iaload, 1) := by decide +kernel
theorem dL_law_818 : decode cL_law 818 = .ok (.aload_n 0, 1) := by decide +kernel
theorem dL_law_819 : decode cL_law 819 = .ok (.iload_n 3, 1) := by decide +kernel
theorem dL_law_820 : decode cL_law 820 = .ok (.iconst 2, 1) := by decide +kernel
theorem dL_law_821 : decode cL_law 821 = .ok (.iadd, 1) := by decide +kernel
theorem dL_law_822 : decode cL_law 822 = .ok (.iaload, 1) := by decide +kernel
theorem dL_law_823 : decode cL_law 823 = .ok (.invokevirtual 107, 3) := by decide +kernel
theorem dL_law_826 : decode cL_law 826 = .ok (.aload_n 2, 1) := by decide +kernel
theorem dL_law_827 : decode cL_law 827 = .ok (.aload_n 0, 1) := by decide +kernel
theorem dL_law_828 : decode cL_law 828 = .ok (.iload_n 3, 1) := by decide +kernel
theorem dL_law_829 : decode cL_law 829 = .ok (.iconst 1, 1) := by decide +kernel
theorem dL_law_830 : decode cL_law 830 = .ok (.iadd, 1) := by decide +kernel
theorem dL_law_831 : decode cL_law 831 = .ok (.iaload, 1) := by decide +kernel
theorem dL_law_832 : decode cL_law 832 = .ok (.aload_n 0, 1) := by decide +kernel
theorem dL_law_833 : decode cL_law 833 = .ok (.iload_n 3, 1) := by decide +kernel
theorem dL_law_834 : decode cL_law 834 = .ok (.iconst 2, 1) := by decide +kernel
theorem dL_law_835 : decode cL_law 835 = .ok (.iadd, 1) := by decide +kernel
theorem dL_law_836 : decode cL_law 836 = .ok (.iaload, 1) := by decide +kernel
theorem dL_law_837 : decode cL_law 837 = .ok (.invokevirtual 110, 3) := by decide +kernel
theorem dL_law_840 : decode cL_law 840 = .ok (.if_icmp .eq 341, 3) := by decide +kernel
theorem dL_law_843 : decode cL_law 843 = .ok (.iconst 0, 1) := by decide +kernel
theorem dL_law_844 : decode cL_law 844 = .ok (.ireturn, 1) := by decide +kernel
theorem dL_law_845 : decode cL_law 845 = .ok (.aload_n 1, 1) := by decide +kernel
theorem dL_law_846 : decode cL_law 846 = .ok (.aload_n 0, 1) := by decide +kernel
theorem dL_law_847 : decode cL_law 847 = .ok (.iload_n 3, 1) := by decide +kernel
theorem dL_law_848 : decode cL_law 848 = .ok (.iconst 1, 1) := by decide +kernel
theorem dL_law_849 : decode cL_law 849 = .ok (.iadd, 1) := by decide +kernel
theorem dL_law_850 : decode cL_law 850 = .ok (.iaload, 1) := by decide +kernel
theorem dL_law_851 : decode cL_law 851 = .ok (.aload_n 0, 1) := by decide +kernel
theorem dL_law_852 : decode cL_law 852 = .ok (.iload_n 3, 1) := by decide +kernel
theorem dL_law_853 : decode cL_law 853 = .ok (.iconst 2, 1) := by decide +kernel
theorem dL_law_854 : decode cL_law 854 = .ok (.iadd, 1) := by decide +kernel
theorem dL_law_855 : decode cL_law 855 = .ok (.iaload, 1) := by decide +kernel
theorem dL_law_856 : decode cL_law 856 = .ok (.invokevirtual 111, 3) := by decide +kernel
theorem dL_law_859 : decode cL_law 859 = .ok (.aload_n 2, 1) := by decide +kernel
theorem dL_law_860 : decode cL_law 860 = .ok (.aload_n 0, 1) := by decide +kernel
theorem dL_law_861 : decode cL_law 861 = .ok (.iload_n 3, 1) := by decide +kernel
theorem dL_law_862 : decode cL_law 862 = .ok (.iconst 1, 1) := by decide +kernel
theorem dL_law_863 : decode cL_law 863 = .ok (.iadd, 1) := by decide +kernel
theorem dL_law_864 : decode cL_law 864 = .ok (.iaload, 1) := by decide +kernel
theorem dL_law_865 : decode cL_law 865 = .ok (.aload_n 0, 1) := by decide +kernel
theorem dL_law_866 : decode cL_law 866 = .ok (.iload_n 3, 1) := by decide +kernel
theorem dL_law_867 : decode cL_law 867 = .ok (.iconst 2, 1) := by decide +kernel
theorem dL_law_868 : decode cL_law 868 = .ok (.iadd, 1) := by decide +kernel
theorem dL_law_869 : decode cL_law 869 = .ok (.iaload, 1) := by decide +kernel
theorem dL_law_870 : decode cL_law 870 = .ok (.invokevirtual 114, 3) := by decide +kernel
theorem dL_law_873 : decode cL_law 873 = .ok (.if_icmp .eq 308, 3) := by decide +kernel
theorem dL_law_876 : decode cL_law 876 = .ok (.iconst 0, 1) := by decide +kernel
theorem dL_law_877 : decode cL_law 877 = .ok (.ireturn, 1) := by decide +kernel
theorem dL_law_878 : decode cL_law 878 = .ok (.aload_n 1, 1) := by decide +kernel
theorem dL_law_879 : decode cL_law 879 = .ok (.invokevirtual 115, 3) := by decide +kernel
theorem dL_law_882 : decode cL_law 882 = .ok (.aload_n 2, 1) := by decide +kernel
theorem dL_law_883 : decode cL_law 883 = .ok (.invokevirtual 118, 3) := by decide +kernel
theorem dL_law_886 : decode cL_law 886 = .ok (.if_icmp .eq 295, 3) := by decide +kernel
theorem dL_law_889 : decode cL_law 889 = .ok (.iconst 0, 1) := by decide +kernel
theorem dL_law_890 : decode cL_law 890 = .ok (.ireturn, 1) := by decide +kernel
theorem dL_law_891 : decode cL_law 891 = .ok (.aload_n 1, 1) := by decide +kernel
theorem dL_law_892 : decode cL_law 892 = .ok (.aload_n 0, 1) := by decide +kernel
theorem dL_law_893 : decode cL_law 893 = .ok (.iload_n 3, 1) := by decide +kernel
theorem dL_law_894 : decode cL_law 894 = .ok (.iconst 1, 1) := by decide +kernel
theorem dL_law_895 : decode cL_law 895 = .ok (.iadd, 1) := by decide +kernel
theorem dL_law_896 : decode cL_law 896 = .ok (.iaload, 1) := by decide +kernel
theorem dL_law_897 : decode cL_law 897 = .ok (.invokevirtual 119, 3) := by decide +kernel
theorem dL_law_900 : decode cL_law 900 = .ok (.aload_n 2, 1) := by decide +kernel
theorem dL_law_901 : decode cL_law 901 = .ok (.aload_n 0, 1) := by decide +kernel
theorem dL_law_902 : decode cL_law 902 = .ok (.iload_n 3, 1) := by decide +kernel
theorem dL_law_903 : decode cL_law 903 = .ok (.iconst 1, 1) := by decide +kernel
theorem dL_law_904 : decode cL_law 904 = .ok (.iadd, 1) := by decide +kernel
theorem dL_law_905 : decode cL_law 905 = .ok (.iaload, 1) := by decide +kernel
theorem dL_law_906 : decode cL_law 906 = .ok (.invokevirtual 122, 3) := by decide +kernel
theorem dL_law_909 : decode cL_law 909 = .ok (.if_icmp .eq 272, 3) := by decide +kernel
theorem dL_law_912 : decode cL_law 912 = .ok (.iconst 0, 1) := by decide +kernel
theorem dL_law_913 : decode cL_law 913 = .ok (.ireturn, 1) := by decide +kernel
theorem dL_law_914 : decode cL_law 914 = .ok (.aload_n 1, 1) := by decide +kernel
theorem dL_law_915 : decode cL_law 915 = .ok (.aload_n 0, 1) := by decide +kernel
theorem dL_law_916 : decode cL_law 916 = .ok (.iload_n 3, 1) := by decide +kernel
theorem dL_law_917 : decode cL_law 917 = .ok (.iconst 1, 1) := by decide +kernel
theorem dL_law_918 : decode cL_law 918 = .ok (.iadd, 1) := by decide +kernel
theorem dL_law_919 : decode cL_law 919 = .ok (.iaload, 1) := by decide +kernel
theorem dL_law_920 : decode cL_law 920 = .ok (.invokevirtual 123, 3) := by decide +kernel
theorem dL_law_923 : decode cL_law 923 = .ok (.aload_n 2, 1) := by decide +kernel
theorem dL_law_924 : decode cL_law 924 = .ok (.aload_n 0, 1) := by decide +kernel
theorem dL_law_925 : decode cL_law 925 = .ok (.iload_n 3, 1) := by decide +kernel
theorem dL_law_926 : decode cL_law 926 = .ok (.iconst 1, 1) := by decide +kernel
theorem dL_law_927 : decode cL_law 927 = .ok (.iadd, 1) := by decide +kernel
theorem dL_law_928 : decode cL_law 928 = .ok (.iaload, 1) := by decide +kernel
theorem dL_law_929 : decode cL_law 929 = .ok (.invokevirtual 126, 3) := by decide +kernel
theorem dL_law_932 : decode cL_law 932 = .ok (.if_icmp .eq 249, 3) := by decide +kernel
theorem dL_law_935 : decode cL_law 935 = .ok (.iconst 0, 1) := by decide +kernel
theorem dL_law_936 : decode cL_law 936 = .ok (.ireturn, 1) := by decide +kernel
theorem dL_law_937 : decode cL_law 937 = .ok (.aload_n 1, 1) := by decide +kernel
theorem dL_law_938 : decode cL_law 938 = .ok (.aload_n 0, 1) := by decide +kernel
theorem dL_law_939 : decode cL_law 939 = .ok (.iload_n 3, 1) := by decide +kernel
theorem dL_law_940 : decode cL_law 940 = .ok (.iconst 1, 1) := by decide +kernel
theorem dL_law_941 : decode cL_law 941 = .ok (.iadd, 1) := by decide +kernel
theorem dL_law_942 : decode cL_law 942 = .ok (.iaload, 1) := by decide +kernel
theorem dL_law_943 : decode cL_law 943 = .ok (.invokevirtual 127, 3) := by decide +kernel
theorem dL_law_946 : decode cL_law 946 = .ok (.aload_n 2, 1) := by decide +kernel
theorem dL_law_947 : decode cL_law 947 = .ok (.aload_n 0, 1) := by decide +kernel
theorem dL_law_948 : decode cL_law 948 = .ok (.iload_n 3, 1) := by decide +kernel
theorem dL_law_949 : decode cL_law 949 = .ok (.iconst 1, 1) := by decide +kernel
theorem dL_law_950 : decode cL_law 950 = .ok (.iadd, 1) := by decide +kernel
theorem dL_law_951 : decode cL_law 951 = .ok (.iaload, 1) := by decide +kernel
theorem dL_law_952 : decode cL_law 952 = .ok (.invokevirtual 130, 3) := by decide +kernel
theorem dL_law_955 : decode cL_law 955 = .ok (.if_icmp .eq 226, 3) := by decide +kernel
theorem dL_law_958 : decode cL_law 958 = .ok (.iconst 0, 1) := by decide +kernel
theorem dL_law_959 : decode cL_law 959 = .ok (.ireturn, 1) := by decide +kernel
theorem dL_law_960 : decode cL_law 960 = .ok (.aload_n 1, 1) := by decide +kernel
theorem dL_law_961 : decode cL_law 961 = .ok (.invokevirtual 131, 3) := by decide +kernel
theorem dL_law_964 : decode cL_law 964 = .ok (.aload_n 2, 1) := by decide +kernel
theorem dL_law_965 : decode cL_law 965 = .ok (.invokevirtual 134, 3) := by decide +kernel
theorem dL_law_968 : decode cL_law 968 = .ok (.if_icmp .eq 213, 3) := by decide +kernel
theorem dL_law_971 : decode cL_law 971 = .ok (.iconst 0, 1) := by decide +kernel
theorem dL_law_972 : decode cL_law 972 = .ok (.ireturn, 1) := by decide +kernel
theorem dL_law_973 : decode cL_law 973 = .ok (.aload_n 1, 1) := by decide +kernel
theorem dL_law_974 : decode cL_law 974 = .ok (.aload_n 0, 1) := by decide +kernel
theorem dL_law_975 : decode cL_law 975 = .ok (.iload_n 3, 1) := by decide +kernel
theorem dL_law_976 : decode cL_law 976 = .ok (.iconst 1, 1) := by decide +kernel
theorem dL_law_977 : decode cL_law 977 = .ok (.iadd, 1) := by decide +kernel
theorem dL_law_978 : decode cL_law 978 = .ok (.iaload, 1) := by decide +kernel
theorem dL_law_979 : decode cL_law 979 = .ok (.invokevirtual 135, 3) := by decide +kernel
theorem dL_law_982 : decode cL_law 982 = .ok (.aload_n 2, 1) := by decide +kernel
theorem dL_law_983 : decode cL_law 983 = .ok (.aload_n 0, 1) := by decide +kernel
theorem dL_law_984 : decode cL_law 984 = .ok (.iload_n 3, 1) := by decide +kernel
theorem dL_law_985 : decode cL_law 985 = .ok (.iconst 1, 1) := by decide +kernel
theorem dL_law_986 : decode cL_law 986 = .ok (.iadd, 1) := by decide +kernel
theorem dL_law_987 : decode cL_law 987 = .ok (.iaload, 1) := by decide +kernel
theorem dL_law_988 : decode cL_law 988 = .ok (.invokevirtual 138, 3) := by decide +kernel
theorem dL_law_991 : decode cL_law 991 = .ok (.if_icmp .eq 190, 3) := by decide +kernel
theorem dL_law_994 : decode cL_law 994 = .ok (.iconst 0, 1) := by decide +kernel
theorem dL_law_995 : decode cL_law 995 = .ok (.ireturn, 1) := by decide +kernel
theorem dL_law_996 : decode cL_law 996 = .ok (.aload_n 1, 1) := by decide +kernel
theorem dL_law_997 : decode cL_law 997 = .ok (.aload_n 0, 1) := by decide +kernel
theorem dL_law_998 : decode cL_law 998 = .ok (.iload_n 3, 1) := by decide +kernel
theorem dL_law_999 : decode cL_law 999 = .ok (.iconst 1, 1) := by decide +kernel
theorem dL_law_1000 : decode cL_law 1000 = .ok (.iadd, 1) := by decide +kernel
theorem dL_law_1001 : decode cL_law 1001 = .ok (.iaload, 1) := by decide +kernel
theorem dL_law_1002 : decode cL_law 1002 = .ok (.ifCond .eq 7, 3) := by decide +kernel
theorem dL_law_1005 : decode cL_law 1005 = .ok (.iconst 1, 1) := by decide +kernel
theorem dL_law_1006 : decode cL_law 1006 = .ok (.goto 4, 3) := by decide +kernel
theorem dL_law_1009 : decode cL_law 1009 = .ok (.iconst 0, 1) := by decide +kernel
theorem dL_law_1010 : decode cL_law 1010 = .ok (.invokevirtual 139, 3) := by decide +kernel
theorem dL_law_1013 : decode cL_law 1013 = .ok (.aload_n 2, 1) := by decide +kernel
theorem dL_law_1014 : decode cL_law 1014 = .ok (.aload_n 0, 1) := by decide +kernel
theorem dL_law_1015 : decode cL_law 1015 = .ok (.iload_n 3, 1) := by decide +kernel
theorem dL_law_1016 : decode cL_law 1016 = .ok (.iconst 1, 1) := by decide +kernel
theorem dL_law_1017 : decode cL_law 1017 = .ok (.iadd, 1) := by decide +kernel
theorem dL_law_1018 : decode cL_law 1018 = .ok (.iaload, 1) := by decide +kernel
theorem dL_law_1019 : decode cL_law 1019 = .ok (.ifCond .eq 7, 3) := by decide +kernel
theorem dL_law_1022 : decode cL_law 1022 = .ok (.iconst 1, 1) := by decide +kernel
theorem dL_law_1023 : decode cL_law 1023 = .ok (.goto 4, 3) := by decide +kernel
theorem dL_law_1026 : decode cL_law 1026 = .ok (.iconst 0, 1) := by decide +kernel
theorem dL_law_1027 : decode cL_law 1027 = .ok (.invokevirtual 143, 3) := by decide +kernel
theorem dL_law_1030 : decode cL_law 1030 = .ok (.if_icmp .eq 151, 3) := by decide +kernel
theorem dL_law_1033 : decode cL_law 1033 = .ok (.iconst 0, 1) := by decide +kernel
theorem dL_law_1034 : decode cL_law 1034 = .ok (.ireturn, 1) := by decide +kernel
theorem dL_law_1035 : decode cL_law 1035 = .ok (.aload_n 1, 1) := by decide +kernel
theorem dL_law_1036 : decode cL_law 1036 = .ok (.invokevirtual 144, 3) := by decide +kernel
theorem dL_law_1039 : decode cL_law 1039 = .ok (.f2d, 1) := by decide +kernel
theorem dL_law_1040 : decode cL_law 1040 = .ok (.dstore 4, 2) := by decide +kernel
theorem dL_law_1042 : decode cL_law 1042 = .ok (.aload_n 2, 1) := by decide +kernel
theorem dL_law_1043 : decode cL_law 1043 = .ok (.invokevirtual 148, 3) := by decide +kernel
theorem dL_law_1046 : decode cL_law 1046 = .ok (.f2d, 1) := by decide +kernel
theorem dL_law_1047 : decode cL_law 1047 = .ok (.dstore 6, 2) := by decide +kernel
theorem dL_law_1049 : decode cL_law 1049 = .ok (.dload 4, 2) := by decide +kernel
theorem dL_law_1051 : decode cL_law 1051 = .ok (.dload 6, 2) := by decide +kernel
theorem dL_law_1053 : decode cL_law 1053 = .ok (.dcmp .l, 1) := by decide +kernel
theorem dL_law_1054 : decode cL_law 1054 = .ok (.ifCond .eq 21, 3) := by decide +kernel
theorem dL_law_1057 : decode cL_law 1057 = .ok (.dload 4, 2) := by decide +kernel
theorem dL_law_1059 : decode cL_law 1059 = .ok (.dload 4, 2) := by decide +kernel
theorem dL_law_1061 : decode cL_law 1061 = .ok (.dcmp .l, 1) := by decide +kernel
theorem dL_law_1062 : decode cL_law 1062 = .ok (.ifCond .eq 11, 3) := by decide +kernel
theorem dL_law_1065 : decode cL_law 1065 = .ok (.dload 6, 2) := by decide +kernel
theorem dL_law_1067 : decode cL_law 1067 = .ok (.dload 6, 2) := by decide +kernel
theorem dL_law_1069 : decode cL_law 1069 = .ok (.dcmp .l, 1) := by decide +kernel
theorem dL_law_1070 : decode cL_law 1070 = .ok (.ifCond .ne 5, 3) := by decide +kernel
theorem dL_law_1073 : decode cL_law 1073 = .ok (.iconst 0, 1) := by decide +kernel
theorem dL_law_1074 : decode cL_law 1074 = .ok (.ireturn, 1) := by decide +kernel
theorem dL_law_1075 : decode cL_law 1075 = .ok (.goto 106, 3) := by decide +kernel
theorem dL_law_1078 : decode cL_law 1078 = .ok (.aload_n 1, 1) := by decide +kernel
theorem dL_law_1079 : decode cL_law 1079 = .ok (.invokevirtual 149, 3) := by decide +kernel
theorem dL_law_1082 : decode cL_law 1082 = .ok (.dstore 4, 2) := by decide +kernel
theorem dL_law_1084 : decode cL_law 1084 = .ok (.aload_n 2, 1) := by decide +kernel
theorem dL_law_1085 : decode cL_law 1085 = .ok (.invokevirtual 153, 3) := by decide +kernel
theorem dL_law_1088 : decode cL_law 1088 = .ok (.dstore 6, 2) := by decide +kernel
theorem dL_law_1090 : decode cL_law 1090 = .ok (.dload 4, 2) := by decide +kernel
theorem dL_law_1092 : decode cL_law 1092 = .ok (.dload 6, 2) := by decide +kernel
theorem dL_law_1094 : decode cL_law 1094 = .ok (.dcmp .l, 1) := by decide +kernel
theorem dL_law_1095 : decode cL_law 1095 = .ok (.ifCond .eq 21, 3) := by decide +kernel
theorem dL_law_1098 : decode cL_law 1098 = .ok (.dload 4, 2) := by decide +kernel
theorem dL_law_1100 : decode cL_law 1100 = .ok (.dload 4, 2) := by decide +kernel
theorem dL_law_1102 : decode cL_law 1102 = .ok (.dcmp .l, 1) := by decide +kernel
theorem dL_law_1103 : decode cL_law 1103 = .ok (.ifCond .eq 11, 3) := by decide +kernel
theorem dL_law_1106 : decode cL_law 1106 = .ok (.dload 6, 2) := by decide +kernel
theorem dL_law_1108 : decode cL_law 1108 = .ok (.dload 6, 2) := by decide +kernel
theorem dL_law_1110 : decode cL_law 1110 = .ok (.dcmp .l, 1) := by decide +kernel
theorem dL_law_1111 : decode cL_law 1111 = .ok (.ifCond .ne 5, 3) := by decide +kernel
theorem dL_law_1114 : decode cL_law 1114 = .ok (.iconst 0, 1) := by decide +kernel
theorem dL_law_1115 : decode cL_law 1115 = .ok (.ireturn, 1) := by decide +kernel
theorem dL_law_1116 : decode cL_law 1116 = .ok (.goto 65, 3) := by decide +kernel
theorem dL_law_1119 : decode cL_law 1119 = .ok (.aload_n 1, 1) := by decide +kernel
theorem dL_law_1120 : decode cL_law 1120 = .ok (.aload_n 0, 1) := by decide +kernel
theorem dL_law_1121 : decode cL_law 1121 = .ok (.iload_n 3, 1) := by decide +kernel
theorem dL_law_1122 : decode cL_law 1122 = .ok (.iconst 1, 1) := by decide +kernel
theorem dL_law_1123 : decode cL_law 1123 = .ok (.iadd, 1) := by decide +kernel
theorem dL_law_1124 : decode cL_law 1124 = .ok (.iaload, 1) := by decide +kernel
theorem dL_law_1125 : decode cL_law 1125 = .ok (.invokevirtual 154, 3) := by decide +kernel
theorem dL_law_1128 : decode cL_law 1128 = .ok (.aload_n 2, 1) := by decide +kernel
theorem dL_law_1129 : decode cL_law 1129 = .ok (.aload_n 0, 1) := by decide +kernel
theorem dL_law_1130 : decode cL_law 1130 = .ok (.iload_n 3, 1) := by decide +kernel
theorem dL_law_1131 : decode cL_law 1131 = .ok (.iconst 1, 1) := by decide +kernel
theorem dL_law_1132 : decode cL_law 1132 = .ok (.iadd, 1) := by decide +kernel
theorem dL_law_1133 : decode cL_law 1133 = .ok (.iaload, 1) := by decide +kernel
theorem dL_law_1134 : decode cL_law 1134 = .ok (.invokevirtual 157, 3) := by decide +kernel
theorem dL_law_1137 : decode cL_law 1137 = .ok (.if_icmp .eq 44, 3) := by decide +kernel
theorem dL_law_1140 : decode cL_law 1140 = .ok (.iconst 0, 1) := by decide +kernel
theorem dL_law_1141 : decode cL_law 1141 = .ok (.ireturn, 1) := by decide +kernel
theorem dL_law_1142 : decode cL_law 1142 = .ok (.aload_n 1, 1) := by decide +kernel
theorem dL_law_1143 : decode cL_law 1143 = .ok (.invokevirtual 158, 3) := by decide +kernel
theorem dL_law_1146 : decode cL_law 1146 = .ok (.aload_n 2, 1) := by decide +kernel
theorem dL_law_1147 : decode cL_law 1147 = .ok (.invokevirtual 161, 3) := by decide +kernel
theorem dL_law_1150 : decode cL_law 1150 = .ok (.if_icmp .eq 31, 3) := by decide +kernel
theorem dL_law_1153 : decode cL_law 1153 = .ok (.iconst 0, 1) := by decide +kernel
theorem dL_law_1154 : decode cL_law 1154 = .ok (.ireturn, 1) := by decide +kernel
theorem dL_law_1155 : decode cL_law 1155 = .ok (.aload_n 1, 1) := by decide +kernel
theorem dL_law_1156 : decode cL_law 1156 = .ok (.invokevirtual 162, 3) := by decide +kernel
theorem dL_law_1159 : decode cL_law 1159 = .ok (.aload_n 2, 1) := by decide +kernel
theorem dL_law_1160 : decode cL_law 1160 = .ok (.invokevirtual 165, 3) := by decide +kernel
theorem dL_law_1163 : decode cL_law 1163 = .ok (.if_icmp .eq 18, 3) := by decide +kernel
theorem dL_law_1166 : decode cL_law 1166 = .ok (.iconst 0, 1) := by decide +kernel
theorem dL_law_1167 : decode cL_law 1167 = .ok (.ireturn, 1) := by decide +kernel
theorem dL_law_1168 : decode cL_law 1168 = .ok (.aload_n 1, 1) := by decide +kernel
theorem dL_law_1169 : decode cL_law 1169 = .ok (.invokevirtual 166, 3) := by decide +kernel
theorem dL_law_1172 : decode cL_law 1172 = .ok (.aload_n 2, 1) := by decide +kernel
theorem dL_law_1173 : decode cL_law 1173 = .ok (.invokevirtual 169, 3) := by decide +kernel
theorem dL_law_1176 : decode cL_law 1176 = .ok (.if_icmp .eq 5, 3) := by decide +kernel
theorem dL_law_1179 : decode cL_law 1179 = .ok (.iconst 0, 1) := by decide +kernel
theorem dL_law_1180 : decode cL_law 1180 = .ok (.ireturn, 1) := by decide +kernel
theorem dL_law_1181 : decode cL_law 1181 = .ok (.iinc 3 4, 3) := by decide +kernel
theorem dL_law_1184 : decode cL_law 1184 = .ok (.goto (-1166), 3) := by decide +kernel
theorem dL_law_1187 : decode cL_law 1187 = .ok (.iconst 1, 1) := by decide +kernel
theorem dL_law_1188 : decode cL_law 1188 = .ok (.ireturn, 1) := by decide +kernel
theorem dX0_init_0 : decode cX0_init 0 = .ok (.aload_n 0, 1) := by decide +kernel
theorem dX0_init_1 : decode cX0_init 1 = .ok (.invokespecial 3, 3) := by decide +kernel
theorem dX0_init_4 : decode cX0_init 4 = .ok (.aload_n 0, 1) := by decide +kernel
theorem dX0_init_5 : decode cX0_init 5 = .ok (.bipush 8, 2) := by decide +kernel
theorem dX0_init_7 : decode cX0_init 7 = .ok (.newarray .int, 2) := by decide +kernel
theorem dX0_init_9 : decode cX0_init 9 = .ok (.putfield 9, 3) := by decide +kernel
theorem dX0_init_12 : decode cX0_init 12 = .ok (.aload_n 0, 1) := by decide +kernel
theorem dX0_init_13 : decode cX0_init 13 = .ok (.bipush 8, 2) := by decide +kernel
theorem dX0_init_15 : decode cX0_init 15 = .ok (.newarray .int, 2) := by decide +kernel
theorem dX0_init_17 : decode cX0_init 17 = .ok (.putfield 15, 3) := by decide +kernel
theorem dX0_init_20 : decode cX0_init 20 = .ok (.aload_n 0, 1) := by decide +kernel
theorem dX0_init_21 : decode cX0_init 21 = .ok (.iconst 0, 1) := by decide +kernel
theorem dX0_init_22 : decode cX0_init 22 = .ok (.putfield 18, 3) := by decide +kernel
theorem dX0_init_25 : decode cX0_init 25 = .ok (.return_, 1) := by decide +kernel
theorem dX0_has_0 : decode cX0_has 0 = .ok (.iload_n 1, 1) := by decide +kernel
theorem dX0_has_1 : decode cX0_has 1 = .ok (.ifCond .lt 15, 3) := by decide +kernel
theorem dX0_has_4 : decode cX0_has 4 = .ok (.iload_n 1, 1) := by decide +kernel
theorem dX0_has_5 : decode cX0_has 5 = .ok (.aload_n 0, 1) := by decide +kernel
theorem dX0_has_6 : decode cX0_has 6 = .ok (.getfield 18, 3) := by decide +kernel
theorem dX0_has_9 : decode cX0_has 9 = .ok (.if_icmp .ge 7, 3) := by decide +kernel
theorem dX0_has_12 : decode cX0_has 12 = .ok (.iconst 1, 1) := by decide +kernel
theorem dX0_has_13 : decode cX0_has 13 = .ok (.goto 4, 3) := by decide +kernel
theorem dX0_has_16 : decode cX0_has 16 = .ok (.iconst 0, 1) := by decide +kernel
theorem dX0_has_17 : decode cX0_has 17 = .ok (.ireturn, 1) := by decide +kernel
theorem dX0_polesOf_0 : decode cX0_polesOf 0 = .ok (.aload_n 0, 1) := by decide +kernel
theorem dX0_polesOf_1 : decode cX0_polesOf 1 = .ok (.getfield 9, 3) := by decide +kernel
theorem dX0_polesOf_4 : decode cX0_polesOf 4 = .ok (.iload_n 1, 1) := by decide +kernel
theorem dX0_polesOf_5 : decode cX0_polesOf 5 = .ok (.invokestatic 22, 3) := by decide +kernel
theorem dX0_polesOf_8 : decode cX0_polesOf 8 = .ok (.ireturn, 1) := by decide +kernel
theorem dX0_weeksOf_0 : decode cX0_weeksOf 0 = .ok (.aload_n 0, 1) := by decide +kernel
theorem dX0_weeksOf_1 : decode cX0_weeksOf 1 = .ok (.getfield 15, 3) := by decide +kernel
theorem dX0_weeksOf_4 : decode cX0_weeksOf 4 = .ok (.iload_n 1, 1) := by decide +kernel
theorem dX0_weeksOf_5 : decode cX0_weeksOf 5 = .ok (.invokestatic 22, 3) := by decide +kernel
theorem dX0_weeksOf_8 : decode cX0_weeksOf 8 = .ok (.ireturn, 1) := by decide +kernel
theorem dX0_allPoles_0 : decode cX0_allPoles 0 = .ok (.aload_n 0, 1) := by decide +kernel
theorem dX0_allPoles_1 : decode cX0_allPoles 1 = .ok (.getfield 9, 3) := by decide +kernel
theorem dX0_allPoles_4 : decode cX0_allPoles 4 = .ok (.aload_n 0, 1) := by decide +kernel
theorem dX0_allPoles_5 : decode cX0_allPoles 5 = .ok (.getfield 18, 3) := by decide +kernel
theorem dX0_allPoles_8 : decode cX0_allPoles 8 = .ok (.invokestatic 26, 3) := by decide +kernel
theorem dX0_allPoles_11 : decode cX0_allPoles 11 = .ok (.ireturn, 1) := by decide +kernel
theorem dX0_add_0 : decode cX0_add 0 = .ok (.aload_n 0, 1) := by decide +kernel
theorem dX0_add_1 : decode cX0_add 1 = .ok (.getfield 9, 3) := by decide +kernel
theorem dX0_add_4 : decode cX0_add 4 = .ok (.aload_n 0, 1) := by decide +kernel
theorem dX0_add_5 : decode cX0_add 5 = .ok (.getfield 18, 3) := by decide +kernel
theorem dX0_add_8 : decode cX0_add 8 = .ok (.iload_n 1, 1) := by decide +kernel
theorem dX0_add_9 : decode cX0_add 9 = .ok (.invokestatic 29, 3) := by decide +kernel
theorem dX0_add_12 : decode cX0_add 12 = .ok (.aload_n 0, 1) := by decide +kernel
theorem dX0_add_13 : decode cX0_add 13 = .ok (.getfield 15, 3) := by decide +kernel
theorem dX0_add_16 : decode cX0_add 16 = .ok (.aload_n 0, 1) := by decide +kernel
theorem dX0_add_17 : decode cX0_add 17 = .ok (.getfield 18, 3) := by decide +kernel
theorem dX0_add_20 : decode cX0_add 20 = .ok (.iload_n 2, 1) := by decide +kernel
theorem dX0_add_21 : decode cX0_add 21 = .ok (.invokestatic 29, 3) := by decide +kernel
theorem dX0_add_24 : decode cX0_add 24 = .ok (.aload_n 0, 1) := by decide +kernel
theorem dX0_add_25 : decode cX0_add 25 = .ok (.dup, 1) := by decide +kernel
theorem dX0_add_26 : decode cX0_add 26 = .ok (.getfield 18, 3) := by decide +kernel
theorem dX0_add_29 : decode cX0_add 29 = .ok (.iconst 1, 1) := by decide +kernel
theorem dX0_add_30 : decode cX0_add 30 = .ok (.iadd, 1) := by decide +kernel
theorem dX0_add_31 : decode cX0_add 31 = .ok (.putfield 18, 3) := by decide +kernel
theorem dX0_add_34 : decode cX0_add 34 = .ok (.aload_n 0, 1) := by decide +kernel
theorem dX0_add_35 : decode cX0_add 35 = .ok (.getfield 18, 3) := by decide +kernel
theorem dX0_add_38 : decode cX0_add 38 = .ok (.iconst 1, 1) := by decide +kernel
theorem dX0_add_39 : decode cX0_add 39 = .ok (.isub, 1) := by decide +kernel
theorem dX0_add_40 : decode cX0_add 40 = .ok (.ireturn, 1) := by decide +kernel
theorem dX0_takeOut_0 : decode cX0_takeOut 0 = .ok (.aload_n 0, 1) := by decide +kernel
theorem dX0_takeOut_1 : decode cX0_takeOut 1 = .ok (.getfield 9, 3) := by decide +kernel
theorem dX0_takeOut_4 : decode cX0_takeOut 4 = .ok (.iload_n 1, 1) := by decide +kernel
theorem dX0_takeOut_5 : decode cX0_takeOut 5 = .ok (.aload_n 0, 1) := by decide +kernel
theorem dX0_takeOut_6 : decode cX0_takeOut 6 = .ok (.iload_n 1, 1) := by decide +kernel
theorem dX0_takeOut_7 : decode cX0_takeOut 7 = .ok (.invokevirtual 33, 3) := by decide +kernel
theorem dX0_takeOut_10 : decode cX0_takeOut 10 = .ok (.iload_n 2, 1) := by decide +kernel
theorem dX0_takeOut_11 : decode cX0_takeOut 11 = .ok (.isub, 1) := by decide +kernel
theorem dX0_takeOut_12 : decode cX0_takeOut 12 = .ok (.invokestatic 29, 3) := by decide +kernel
theorem dX0_takeOut_15 : decode cX0_takeOut 15 = .ok (.return_, 1) := by decide +kernel
theorem dX0_getOlder_0 : decode cX0_getOlder 0 = .ok (.aload_n 0, 1) := by decide +kernel
theorem dX0_getOlder_1 : decode cX0_getOlder 1 = .ok (.getfield 15, 3) := by decide +kernel
theorem dX0_getOlder_4 : decode cX0_getOlder 4 = .ok (.aload_n 0, 1) := by decide +kernel
theorem dX0_getOlder_5 : decode cX0_getOlder 5 = .ok (.getfield 18, 3) := by decide +kernel
theorem dX0_getOlder_8 : decode cX0_getOlder 8 = .ok (.iconst 1, 1) := by decide +kernel
theorem dX0_getOlder_9 : decode cX0_getOlder 9 = .ok (.bipush 60, 2) := by decide +kernel
theorem dX0_getOlder_11 : decode cX0_getOlder 11 = .ok (.invokestatic 37, 3) := by decide +kernel
theorem dX0_getOlder_14 : decode cX0_getOlder 14 = .ok (.return_, 1) := by decide +kernel
theorem dX0_makeNone_0 : decode cX0_makeNone 0 = .ok (.aload_n 0, 1) := by decide +kernel
theorem dX0_makeNone_1 : decode cX0_makeNone 1 = .ok (.iconst 0, 1) := by decide +kernel
theorem dX0_makeNone_2 : decode cX0_makeNone 2 = .ok (.putfield 18, 3) := by decide +kernel
theorem dX0_makeNone_5 : decode cX0_makeNone 5 = .ok (.return_, 1) := by decide +kernel
theorem dX0_take_0 : decode cX0_take 0 = .ok (.aload_n 1, 1) := by decide +kernel
theorem dX0_take_1 : decode cX0_take 1 = .ok (.getfield 9, 3) := by decide +kernel
theorem dX0_take_4 : decode cX0_take 4 = .ok (.aload_n 0, 1) := by decide +kernel
theorem dX0_take_5 : decode cX0_take 5 = .ok (.getfield 9, 3) := by decide +kernel
theorem dX0_take_8 : decode cX0_take 8 = .ok (.invokestatic 41, 3) := by decide +kernel
theorem dX0_take_11 : decode cX0_take 11 = .ok (.aload_n 1, 1) := by decide +kernel
theorem dX0_take_12 : decode cX0_take 12 = .ok (.getfield 15, 3) := by decide +kernel
theorem dX0_take_15 : decode cX0_take 15 = .ok (.aload_n 0, 1) := by decide +kernel
theorem dX0_take_16 : decode cX0_take 16 = .ok (.getfield 15, 3) := by decide +kernel
theorem dX0_take_19 : decode cX0_take 19 = .ok (.invokestatic 41, 3) := by decide +kernel
theorem dX0_take_22 : decode cX0_take 22 = .ok (.aload_n 0, 1) := by decide +kernel
theorem dX0_take_23 : decode cX0_take 23 = .ok (.aload_n 1, 1) := by decide +kernel
theorem dX0_take_24 : decode cX0_take 24 = .ok (.getfield 18, 3) := by decide +kernel
theorem dX0_take_27 : decode cX0_take 27 = .ok (.putfield 18, 3) := by decide +kernel
theorem dX0_take_30 : decode cX0_take 30 = .ok (.return_, 1) := by decide +kernel
theorem dX1_init_0 : decode cX1_init 0 = .ok (.aload_n 0, 1) := by decide +kernel
theorem dX1_init_1 : decode cX1_init 1 = .ok (.invokespecial 3, 3) := by decide +kernel
theorem dX1_init_4 : decode cX1_init 4 = .ok (.aload_n 0, 1) := by decide +kernel
theorem dX1_init_5 : decode cX1_init 5 = .ok (.iconst 5, 1) := by decide +kernel
theorem dX1_init_6 : decode cX1_init 6 = .ok (.newarray .int, 2) := by decide +kernel
theorem dX1_init_8 : decode cX1_init 8 = .ok (.putfield 9, 3) := by decide +kernel
theorem dX1_init_11 : decode cX1_init 11 = .ok (.aload_n 0, 1) := by decide +kernel
theorem dX1_init_12 : decode cX1_init 12 = .ok (.iconst 5, 1) := by decide +kernel
theorem dX1_init_13 : decode cX1_init 13 = .ok (.newarray .int, 2) := by decide +kernel
theorem dX1_init_15 : decode cX1_init 15 = .ok (.putfield 15, 3) := by decide +kernel
theorem dX1_init_18 : decode cX1_init 18 = .ok (.aload_n 0, 1) := by decide +kernel
theorem dX1_init_19 : decode cX1_init 19 = .ok (.iconst 5, 1) := by decide +kernel
theorem dX1_init_20 : decode cX1_init 20 = .ok (.newarray .int, 2) := by decide +kernel
theorem dX1_init_22 : decode cX1_init 22 = .ok (.putfield 18, 3) := by decide +kernel
theorem dX1_init_25 : decode cX1_init 25 = .ok (.aload_n 0, 1) := by decide +kernel
theorem dX1_init_26 : decode cX1_init 26 = .ok (.iconst 0, 1) := by decide +kernel
theorem dX1_init_27 : decode cX1_init 27 = .ok (.putfield 21, 3) := by decide +kernel
theorem dX1_init_30 : decode cX1_init 30 = .ok (.return_, 1) := by decide +kernel
theorem dX1_has_0 : decode cX1_has 0 = .ok (.iload_n 1, 1) := by decide +kernel
theorem dX1_has_1 : decode cX1_has 1 = .ok (.ifCond .lt 15, 3) := by decide +kernel
theorem dX1_has_4 : decode cX1_has 4 = .ok (.iload_n 1, 1) := by decide +kernel
theorem dX1_has_5 : decode cX1_has 5 = .ok (.aload_n 0, 1) := by decide +kernel
theorem dX1_has_6 : decode cX1_has 6 = .ok (.getfield 21, 3) := by decide +kernel
theorem dX1_has_9 : decode cX1_has 9 = .ok (.if_icmp .ge 7, 3) := by decide +kernel
theorem dX1_has_12 : decode cX1_has 12 = .ok (.iconst 1, 1) := by decide +kernel
theorem dX1_has_13 : decode cX1_has 13 = .ok (.goto 4, 3) := by decide +kernel
theorem dX1_has_16 : decode cX1_has 16 = .ok (.iconst 0, 1) := by decide +kernel
theorem dX1_has_17 : decode cX1_has 17 = .ok (.ireturn, 1) := by decide +kernel
theorem dX1_skillOf_0 : decode cX1_skillOf 0 = .ok (.aload_n 0, 1) := by decide +kernel
theorem dX1_skillOf_1 : decode cX1_skillOf 1 = .ok (.getfield 9, 3) := by decide +kernel
theorem dX1_skillOf_4 : decode cX1_skillOf 4 = .ok (.iload_n 1, 1) := by decide +kernel
theorem dX1_skillOf_5 : decode cX1_skillOf 5 = .ok (.invokestatic 25, 3) := by decide +kernel
theorem dX1_skillOf_8 : decode cX1_skillOf 8 = .ok (.ireturn, 1) := by decide +kernel
theorem dX1_placeOf_0 : decode cX1_placeOf 0 = .ok (.aload_n 0, 1) := by decide +kernel
theorem dX1_placeOf_1 : decode cX1_placeOf 1 = .ok (.getfield 15, 3) := by decide +kernel
theorem dX1_placeOf_4 : decode cX1_placeOf 4 = .ok (.iload_n 1, 1) := by decide +kernel
theorem dX1_placeOf_5 : decode cX1_placeOf 5 = .ok (.invokestatic 25, 3) := by decide +kernel
theorem dX1_placeOf_8 : decode cX1_placeOf 8 = .ok (.ireturn, 1) := by decide +kernel
theorem dX1_hoursOf_0 : decode cX1_hoursOf 0 = .ok (.aload_n 0, 1) := by decide +kernel
theorem dX1_hoursOf_1 : decode cX1_hoursOf 1 = .ok (.getfield 18, 3) := by decide +kernel
theorem dX1_hoursOf_4 : decode cX1_hoursOf 4 = .ok (.iload_n 1, 1) := by decide +kernel
theorem dX1_hoursOf_5 : decode cX1_hoursOf 5 = .ok (.invokestatic 25, 3) := by decide +kernel
theorem dX1_hoursOf_8 : decode cX1_hoursOf 8 = .ok (.ireturn, 1) := by decide +kernel
theorem dX1_isUp_0 : decode cX1_isUp 0 = .ok (.aload_n 0, 1) := by decide +kernel
theorem dX1_isUp_1 : decode cX1_isUp 1 = .ok (.getfield 15, 3) := by decide +kernel
theorem dX1_isUp_4 : decode cX1_isUp 4 = .ok (.iload_n 1, 1) := by decide +kernel
theorem dX1_isUp_5 : decode cX1_isUp 5 = .ok (.invokestatic 25, 3) := by decide +kernel
theorem dX1_isUp_8 : decode cX1_isUp 8 = .ok (.bipush (-4), 2) := by decide +kernel
theorem dX1_isUp_10 : decode cX1_isUp 10 = .ok (.if_icmp .eq 7, 3) := by decide +kernel
theorem dX1_isUp_13 : decode cX1_isUp 13 = .ok (.iconst 1, 1) := by decide +kernel
theorem dX1_isUp_14 : decode cX1_isUp 14 = .ok (.goto 4, 3) := by decide +kernel
theorem dX1_isUp_17 : decode cX1_isUp 17 = .ok (.iconst 0, 1) := by decide +kernel
theorem dX1_isUp_18 : decode cX1_isUp 18 = .ok (.ireturn, 1) := by decide +kernel
theorem dX1_bitsOn_0 : decode cX1_bitsOn 0 = .ok (.iconst 0, 1) := by decide +kernel
theorem dX1_bitsOn_1 : decode cX1_bitsOn 1 = .ok (.istore_n 2, 1) := by decide +kernel
theorem dX1_bitsOn_2 : decode cX1_bitsOn 2 = .ok (.iconst 0, 1) := by decide +kernel
theorem dX1_bitsOn_3 : decode cX1_bitsOn 3 = .ok (.istore_n 3, 1) := by decide +kernel
theorem dX1_bitsOn_4 : decode cX1_bitsOn 4 = .ok (.iload_n 3, 1) := by decide +kernel
theorem dX1_bitsOn_5 : decode cX1_bitsOn 5 = .ok (.aload_n 0, 1) := by decide +kernel
theorem dX1_bitsOn_6 : decode cX1_bitsOn 6 = .ok (.getfield 21, 3) := by decide +kernel
theorem dX1_bitsOn_9 : decode cX1_bitsOn 9 = .ok (.if_icmp .ge 28, 3) := by decide +kernel
theorem dX1_bitsOn_12 : decode cX1_bitsOn 12 = .ok (.iload_n 2, 1) := by decide +kernel
theorem dX1_bitsOn_13 : decode cX1_bitsOn 13 = .ok (.aload_n 0, 1) := by decide +kernel
theorem dX1_bitsOn_14 : decode cX1_bitsOn 14 = .ok (.iload_n 3, 1) := by decide +kernel
theorem dX1_bitsOn_15 : decode cX1_bitsOn 15 = .ok (.invokevirtual 29, 3) := by decide +kernel
theorem dX1_bitsOn_18 : decode cX1_bitsOn 18 = .ok (.iload_n 1, 1) := by decide +kernel
theorem dX1_bitsOn_19 : decode cX1_bitsOn 19 = .ok (.if_icmp .ne 9, 3) := by decide +kernel
theorem dX1_bitsOn_22 : decode cX1_bitsOn 22 = .ok (.iconst 1, 1) := by decide +kernel
theorem dX1_bitsOn_23 : decode cX1_bitsOn 23 = .ok (.iload_n 3, 1) := by decide +kernel
theorem dX1_bitsOn_24 : decode cX1_bitsOn 24 = .ok (.ishl, 1) := by decide +kernel
theorem dX1_bitsOn_25 : decode cX1_bitsOn 25 = .ok (.goto 4, 3) := by decide +kernel
theorem dX1_bitsOn_28 : decode cX1_bitsOn 28 = .ok (.iconst 0, 1) := by decide +kernel
theorem dX1_bitsOn_29 : decode cX1_bitsOn 29 = .ok (.ior, 1) := by decide +kernel
theorem dX1_bitsOn_30 : decode cX1_bitsOn 30 = .ok (.istore_n 2, 1) := by decide +kernel
theorem dX1_bitsOn_31 : decode cX1_bitsOn 31 = .ok (.iinc 3 1, 3) := by decide +kernel
theorem dX1_bitsOn_34 : decode cX1_bitsOn 34 = .ok (.goto (-30), 3) := by decide +kernel
theorem dX1_bitsOn_37 : decode cX1_bitsOn 37 = .ok (.iload_n 2, 1) := by decide +kernel
theorem dX1_bitsOn_38 : decode cX1_bitsOn 38 = .ok (.ireturn, 1) := by decide +kernel
theorem dX1_howManyOn_0 : decode cX1_howManyOn 0 = .ok (.aload_n 0, 1) := by decide +kernel
theorem dX1_howManyOn_1 : decode cX1_howManyOn 1 = .ok (.iload_n 1, 1) := by decide +kernel
theorem dX1_howManyOn_2 : decode cX1_howManyOn 2 = .ok (.invokevirtual 33, 3) := by decide +kernel
theorem dX1_howManyOn_5 : decode cX1_howManyOn 5 = .ok (.invokestatic 36, 3) := by decide +kernel
theorem dX1_howManyOn_8 : decode cX1_howManyOn 8 = .ok (.ireturn, 1) := by decide +kernel
theorem dX1_howManyUp_0 : decode cX1_howManyUp 0 = .ok (.iconst 0, 1) := by decide +kernel
theorem dX1_howManyUp_1 : decode cX1_howManyUp 1 = .ok (.istore_n 1, 1) := by decide +kernel
theorem dX1_howManyUp_2 : decode cX1_howManyUp 2 = .ok (.iconst 0, 1) := by decide +kernel
theorem dX1_howManyUp_3 : decode cX1_howManyUp 3 = .ok (.istore_n 2, 1) := by decide +kernel
theorem dX1_howManyUp_4 : decode cX1_howManyUp 4 = .ok (.iload_n 2, 1) := by decide +kernel
theorem dX1_howManyUp_5 : decode cX1_howManyUp 5 = .ok (.aload_n 0, 1) := by decide +kernel
theorem dX1_howManyUp_6 : decode cX1_howManyUp 6 = .ok (.getfield 21, 3) := by decide +kernel
theorem dX1_howManyUp_9 : decode cX1_howManyUp 9 = .ok (.if_icmp .ge 25, 3) := by decide +kernel
theorem dX1_howManyUp_12 : decode cX1_howManyUp 12 = .ok (.iload_n 1, 1) := by decide +kernel
theorem dX1_howManyUp_13 : decode cX1_howManyUp 13 = .ok (.aload_n 0, 1) := by decide +kernel
theorem dX1_howManyUp_14 : decode cX1_howManyUp 14 = .ok (.iload_n 2, 1) := by decide +kernel
theorem dX1_howManyUp_15 : decode cX1_howManyUp 15 = .ok (.invokevirtual 41, 3) := by decide +kernel
theorem dX1_howManyUp_18 : decode cX1_howManyUp 18 = .ok (.ifCond .eq 7, 3) := by decide +kernel
theorem dX1_howManyUp_21 : decode cX1_howManyUp 21 = .ok (.iconst 1, 1) := by decide +kernel
theorem dX1_howManyUp_22 : decode cX1_howManyUp 22 = .ok (.goto 4, 3) := by decide +kernel
theorem dX1_howManyUp_25 : decode cX1_howManyUp 25 = .ok (.iconst 0, 1) := by decide +kernel
theorem dX1_howManyUp_26 : decode cX1_howManyUp 26 = .ok (.iadd, 1) := by decide +kernel
theorem dX1_howManyUp_27 : decode cX1_howManyUp 27 = .ok (.istore_n 1, 1) := by decide +kernel
theorem dX1_howManyUp_28 : decode cX1_howManyUp 28 = .ok (.iinc 2 1, 3) := by decide +kernel
theorem dX1_howManyUp_31 : decode cX1_howManyUp 31 = .ok (.goto (-27), 3) := by decide +kernel
theorem dX1_howManyUp_34 : decode cX1_howManyUp 34 = .ok (.iload_n 1, 1) := by decide +kernel
theorem dX1_howManyUp_35 : decode cX1_howManyUp 35 = .ok (.ireturn, 1) := by decide +kernel
theorem dX1_add_0 : decode cX1_add 0 = .ok (.aload_n 0, 1) := by decide +kernel
theorem dX1_add_1 : decode cX1_add 1 = .ok (.getfield 9, 3) := by decide +kernel
theorem dX1_add_4 : decode cX1_add 4 = .ok (.aload_n 0, 1) := by decide +kernel
theorem dX1_add_5 : decode cX1_add 5 = .ok (.getfield 21, 3) := by decide +kernel
theorem dX1_add_8 : decode cX1_add 8 = .ok (.iload_n 1, 1) := by decide +kernel
theorem dX1_add_9 : decode cX1_add 9 = .ok (.invokestatic 45, 3) := by decide +kernel
theorem dX1_add_12 : decode cX1_add 12 = .ok (.aload_n 0, 1) := by decide +kernel
theorem dX1_add_13 : decode cX1_add 13 = .ok (.getfield 15, 3) := by decide +kernel
theorem dX1_add_16 : decode cX1_add 16 = .ok (.aload_n 0, 1) := by decide +kernel
theorem dX1_add_17 : decode cX1_add 17 = .ok (.getfield 21, 3) := by decide +kernel
theorem dX1_add_20 : decode cX1_add 20 = .ok (.bipush (-4), 2) := by decide +kernel
theorem dX1_add_22 : decode cX1_add 22 = .ok (.invokestatic 45, 3) := by decide +kernel
theorem dX1_add_25 : decode cX1_add 25 = .ok (.aload_n 0, 1) := by decide +kernel
theorem dX1_add_26 : decode cX1_add 26 = .ok (.getfield 18, 3) := by decide +kernel
theorem dX1_add_29 : decode cX1_add 29 = .ok (.aload_n 0, 1) := by decide +kernel
theorem dX1_add_30 : decode cX1_add 30 = .ok (.getfield 21, 3) := by decide +kernel
theorem dX1_add_33 : decode cX1_add 33 = .ok (.iconst 0, 1) := by decide +kernel
theorem dX1_add_34 : decode cX1_add 34 = .ok (.invokestatic 45, 3) := by decide +kernel
theorem dX1_add_37 : decode cX1_add 37 = .ok (.aload_n 0, 1) := by decide +kernel
theorem dX1_add_38 : decode cX1_add 38 = .ok (.dup, 1) := by decide +kernel
theorem dX1_add_39 : decode cX1_add 39 = .ok (.getfield 21, 3) := by decide +kernel
theorem dX1_add_42 : decode cX1_add 42 = .ok (.iconst 1, 1) := by decide +kernel
theorem dX1_add_43 : decode cX1_add 43 = .ok (.iadd, 1) := by decide +kernel
theorem dX1_add_44 : decode cX1_add 44 = .ok (.putfield 21, 3) := by decide +kernel
theorem dX1_add_47 : decode cX1_add 47 = .ok (.aload_n 0, 1) := by decide +kernel
theorem dX1_add_48 : decode cX1_add 48 = .ok (.getfield 21, 3) := by decide +kernel
theorem dX1_add_51 : decode cX1_add 51 = .ok (.iconst 1, 1) := by decide +kernel
theorem dX1_add_52 : decode cX1_add 52 = .ok (.isub, 1) := by decide +kernel
theorem dX1_add_53 : decode cX1_add 53 = .ok (.ireturn, 1) := by decide +kernel
theorem dX1_moveTo_0 : decode cX1_moveTo 0 = .ok (.aload_n 0, 1) := by decide +kernel
theorem dX1_moveTo_1 : decode cX1_moveTo 1 = .ok (.getfield 15, 3) := by decide +kernel
theorem dX1_moveTo_4 : decode cX1_moveTo 4 = .ok (.iload_n 1, 1) := by decide +kernel
theorem dX1_moveTo_5 : decode cX1_moveTo 5 = .ok (.iload_n 2, 1) := by decide +kernel
theorem dX1_moveTo_6 : decode cX1_moveTo 6 = .ok (.invokestatic 45, 3) := by decide +kernel
theorem dX1_moveTo_9 : decode cX1_moveTo 9 = .ok (.return_, 1) := by decide +kernel
theorem dX1_addHours_0 : decode cX1_addHours 0 = .ok (.aload_n 0, 1) := by decide +kernel
theorem dX1_addHours_1 : decode cX1_addHours 1 = .ok (.getfield 18, 3) := by decide +kernel
theorem dX1_addHours_4 : decode cX1_addHours 4 = .ok (.iload_n 1, 1) := by decide +kernel
theorem dX1_addHours_5 : decode cX1_addHours 5 = .ok (.aload_n 0, 1) := by decide +kernel
theorem dX1_addHours_6 : decode cX1_addHours 6 = .ok (.getfield 18, 3) := by decide +kernel
theorem dX1_addHours_9 : decode cX1_addHours 9 = .ok (.iload_n 1, 1) := by decide +kernel
theorem dX1_addHours_10 : decode cX1_addHours 10 = .ok (.invokestatic 25, 3) := by decide +kernel
theorem dX1_addHours_13 : decode cX1_addHours 13 = .ok (.iload_n 2, 1) := by decide +kernel
theorem dX1_addHours_14 : decode cX1_addHours 14 = .ok (.iadd, 1) := by decide +kernel
theorem dX1_addHours_15 : decode cX1_addHours 15 = .ok (.invokestatic 45, 3) := by decide +kernel
theorem dX1_addHours_18 : decode cX1_addHours 18 = .ok (.return_, 1) := by decide +kernel
theorem dX1_comeDownFrom_0 : decode cX1_comeDownFrom 0 = .ok (.iconst 0, 1) := by decide +kernel
theorem dX1_comeDownFrom_1 : decode cX1_comeDownFrom 1 = .ok (.istore_n 2, 1) := by decide +kernel
theorem dX1_comeDownFrom_2 : decode cX1_comeDownFrom 2 = .ok (.iload_n 2, 1) := by decide +kernel
theorem dX1_comeDownFrom_3 : decode cX1_comeDownFrom 3 = .ok (.aload_n 0, 1) := by decide +kernel
theorem dX1_comeDownFrom_4 : decode cX1_comeDownFrom 4 = .ok (.getfield 21, 3) := by decide +kernel
theorem dX1_comeDownFrom_7 : decode cX1_comeDownFrom 7 = .ok (.if_icmp .ge 25, 3) := by decide +kernel
theorem dX1_comeDownFrom_10 : decode cX1_comeDownFrom 10 = .ok (.aload_n 0, 1) := by decide +kernel
theorem dX1_comeDownFrom_11 : decode cX1_comeDownFrom 11 = .ok (.iload_n 2, 1) := by decide +kernel
theorem dX1_comeDownFrom_12 : decode cX1_comeDownFrom 12 = .ok (.invokevirtual 29, 3) := by decide +kernel
theorem dX1_comeDownFrom_15 : decode cX1_comeDownFrom 15 = .ok (.iload_n 1, 1) := by decide +kernel
theorem dX1_comeDownFrom_16 : decode cX1_comeDownFrom 16 = .ok (.if_icmp .ne 10, 3) := by decide +kernel
theorem dX1_comeDownFrom_19 : decode cX1_comeDownFrom 19 = .ok (.aload_n 0, 1) := by decide +kernel
theorem dX1_comeDownFrom_20 : decode cX1_comeDownFrom 20 = .ok (.iload_n 2, 1) := by decide +kernel
theorem dX1_comeDownFrom_21 : decode cX1_comeDownFrom 21 = .ok (.bipush (-4), 2) := by decide +kernel
theorem dX1_comeDownFrom_23 : decode cX1_comeDownFrom 23 = .ok (.invokevirtual 49, 3) := by decide +kernel
theorem dX1_comeDownFrom_26 : decode cX1_comeDownFrom 26 = .ok (.iinc 2 1, 3) := by decide +kernel
theorem dX1_comeDownFrom_29 : decode cX1_comeDownFrom 29 = .ok (.goto (-27), 3) := by decide +kernel
theorem dX1_comeDownFrom_32 : decode cX1_comeDownFrom 32 = .ok (.return_, 1) := by decide +kernel
theorem dX1_allComeDown_0 : decode cX1_allComeDown 0 = .ok (.iconst 0, 1) := by decide +kernel
theorem dX1_allComeDown_1 : decode cX1_allComeDown 1 = .ok (.istore_n 1, 1) := by decide +kernel
theorem dX1_allComeDown_2 : decode cX1_allComeDown 2 = .ok (.iload_n 1, 1) := by decide +kernel
theorem dX1_allComeDown_3 : decode cX1_allComeDown 3 = .ok (.aload_n 0, 1) := by decide +kernel
theorem dX1_allComeDown_4 : decode cX1_allComeDown 4 = .ok (.getfield 21, 3) := by decide +kernel
theorem dX1_allComeDown_7 : decode cX1_allComeDown 7 = .ok (.if_icmp .ge 16, 3) := by decide +kernel
theorem dX1_allComeDown_10 : decode cX1_allComeDown 10 = .ok (.aload_n 0, 1) := by decide +kernel
theorem dX1_allComeDown_11 : decode cX1_allComeDown 11 = .ok (.iload_n 1, 1) := by decide +kernel
theorem dX1_allComeDown_12 : decode cX1_allComeDown 12 = .ok (.bipush (-4), 2) := by decide +kernel
theorem dX1_allComeDown_14 : decode cX1_allComeDown 14 = .ok (.invokevirtual 49, 3) := by decide +kernel
theorem dX1_allComeDown_17 : decode cX1_allComeDown 17 = .ok (.iinc 1 1, 3) := by decide +kernel
theorem dX1_allComeDown_20 : decode cX1_allComeDown 20 = .ok (.goto (-18), 3) := by decide +kernel
theorem dX1_allComeDown_23 : decode cX1_allComeDown 23 = .ok (.return_, 1) := by decide +kernel
theorem dX1_makeNone_0 : decode cX1_makeNone 0 = .ok (.aload_n 0, 1) := by decide +kernel
theorem dX1_makeNone_1 : decode cX1_makeNone 1 = .ok (.iconst 0, 1) := by decide +kernel
theorem dX1_makeNone_2 : decode cX1_makeNone 2 = .ok (.putfield 21, 3) := by decide +kernel
theorem dX1_makeNone_5 : decode cX1_makeNone 5 = .ok (.return_, 1) := by decide +kernel
theorem dX1_take_0 : decode cX1_take 0 = .ok (.aload_n 1, 1) := by decide +kernel
theorem dX1_take_1 : decode cX1_take 1 = .ok (.getfield 9, 3) := by decide +kernel
theorem dX1_take_4 : decode cX1_take 4 = .ok (.aload_n 0, 1) := by decide +kernel
theorem dX1_take_5 : decode cX1_take 5 = .ok (.getfield 9, 3) := by decide +kernel
theorem dX1_take_8 : decode cX1_take 8 = .ok (.invokestatic 53, 3) := by decide +kernel
theorem dX1_take_11 : decode cX1_take 11 = .ok (.aload_n 1, 1) := by decide +kernel
theorem dX1_take_12 : decode cX1_take 12 = .ok (.getfield 15, 3) := by decide +kernel
theorem dX1_take_15 : decode cX1_take 15 = .ok (.aload_n 0, 1) := by decide +kernel
theorem dX1_take_16 : decode cX1_take 16 = .ok (.getfield 15, 3) := by decide +kernel
theorem dX1_take_19 : decode cX1_take 19 = .ok (.invokestatic 53, 3) := by decide +kernel
theorem dX1_take_22 : decode cX1_take 22 = .ok (.aload_n 1, 1) := by decide +kernel
theorem dX1_take_23 : decode cX1_take 23 = .ok (.getfield 18, 3) := by decide +kernel
theorem dX1_take_26 : decode cX1_take 26 = .ok (.aload_n 0, 1) := by decide +kernel
theorem dX1_take_27 : decode cX1_take 27 = .ok (.getfield 18, 3) := by decide +kernel
theorem dX1_take_30 : decode cX1_take 30 = .ok (.invokestatic 53, 3) := by decide +kernel
theorem dX1_take_33 : decode cX1_take 33 = .ok (.aload_n 0, 1) := by decide +kernel
theorem dX1_take_34 : decode cX1_take 34 = .ok (.aload_n 1, 1) := by decide +kernel
theorem dX1_take_35 : decode cX1_take 35 = .ok (.getfield 21, 3) := by decide +kernel
theorem dX1_take_38 : decode cX1_take 38 = .ok (.putfield 21, 3) := by decide +kernel
theorem dX1_take_41 : decode cX1_take 41 = .ok (.return_, 1) := by decide +kernel
theorem dX2_init_0 : decode cX2_init 0 = .ok (.aload_n 0, 1) := by decide +kernel
theorem dX2_init_1 : decode cX2_init 1 = .ok (.invokespecial 3, 3) := by decide +kernel
theorem dX2_init_4 : decode cX2_init 4 = .ok (.aload_n 0, 1) := by decide +kernel
theorem dX2_init_5 : decode cX2_init 5 = .ok (.bipush 9, 2) := by decide +kernel
theorem dX2_init_7 : decode cX2_init 7 = .ok (.anewarray 11, 3) := by decide +kernel
theorem dX2_init_10 : decode cX2_init 10 = .ok (.putfield 13, 3) := by decide +kernel
theorem dX2_init_13 : decode cX2_init 13 = .ok (.aload_n 0, 1) := by decide +kernel
theorem dX2_init_14 : decode cX2_init 14 = .ok (.new 11, 3) := by decide +kernel
theorem dX2_init_17 : decode cX2_init 17 = .ok (.dup, 1) := by decide +kernel
theorem dX2_init_18 : decode cX2_init 18 = .ok (.invokespecial 17, 3) := by decide +kernel
theorem dX2_init_21 : decode cX2_init 21 = .ok (.putfield 18, 3) := by decide +kernel
theorem dX2_init_24 : decode cX2_init 24 = .ok (.aload_n 0, 1) := by decide +kernel
theorem dX2_init_25 : decode cX2_init 25 = .ok (.iconst 0, 1) := by decide +kernel
theorem dX2_init_26 : decode cX2_init 26 = .ok (.putfield 22, 3) := by decide +kernel
theorem dX2_init_29 : decode cX2_init 29 = .ok (.aload_n 0, 1) := by decide +kernel
theorem dX2_init_30 : decode cX2_init 30 = .ok (.iconst 0, 1) := by decide +kernel
theorem dX2_init_31 : decode cX2_init 31 = .ok (.putfield 26, 3) := by decide +kernel
theorem dX2_init_34 : decode cX2_init 34 = .ok (.iconst 0, 1) := by decide +kernel
theorem dX2_init_35 : decode cX2_init 35 = .ok (.istore_n 1, 1) := by decide +kernel
theorem dX2_init_36 : decode cX2_init 36 = .ok (.iload_n 1, 1) := by decide +kernel
theorem dX2_init_37 : decode cX2_init 37 = .ok (.aload_n 0, 1) := by decide +kernel
theorem dX2_init_38 : decode cX2_init 38 = .ok (.getfield 13, 3) := by decide +kernel
theorem dX2_init_41 : decode cX2_init 41 = .ok (.arraylength, 1) := by decide +kernel
theorem dX2_init_42 : decode cX2_init 42 = .ok (.if_icmp .ge 22, 3) := by decide +kernel
theorem dX2_init_45 : decode cX2_init 45 = .ok (.aload_n 0, 1) := by decide +kernel
theorem dX2_init_46 : decode cX2_init 46 = .ok (.getfield 13, 3) := by decide +kernel
theorem dX2_init_49 : decode cX2_init 49 = .ok (.iload_n 1, 1) := by decide +kernel
theorem dX2_init_50 : decode cX2_init 50 = .ok (.new 11, 3) := by decide +kernel
theorem dX2_init_53 : decode cX2_init 53 = .ok (.dup, 1) := by decide +kernel
theorem dX2_init_54 : decode cX2_init 54 = .ok (.invokespecial 17, 3) := by decide +kernel
theorem dX2_init_57 : decode cX2_init 57 = .ok (.aastore, 1) := by decide +kernel
theorem dX2_init_58 : decode cX2_init 58 = .ok (.iinc 1 1, 3) := by decide +kernel
theorem dX2_init_61 : decode cX2_init 61 = .ok (.goto (-25), 3) := by decide +kernel
theorem dX2_init_64 : decode cX2_init 64 = .ok (.return_, 1) := by decide +kernel
theorem dX2_note_0 : decode cX2_note 0 = .ok (.aload_n 0, 1) := by decide +kernel
theorem dX2_note_1 : decode cX2_note 1 = .ok (.invokevirtual 29, 3) := by decide +kernel
theorem dX2_note_4 : decode cX2_note 4 = .ok (.aload_n 1, 1) := by decide +kernel
theorem dX2_note_5 : decode cX2_note 5 = .ok (.invokevirtual 33, 3) := by decide +kernel
theorem dX2_note_8 : decode cX2_note 8 = .ok (.return_, 1) := by decide +kernel
theorem dX2_noted_0 : decode cX2_noted 0 = .ok (.aload_n 0, 1) := by decide +kernel
theorem dX2_noted_1 : decode cX2_noted 1 = .ok (.getfield 22, 3) := by decide +kernel
theorem dX2_noted_4 : decode cX2_noted 4 = .ok (.ifCond .lt 27, 3) := by decide +kernel
theorem dX2_noted_7 : decode cX2_noted 7 = .ok (.aload_n 0, 1) := by decide +kernel
theorem dX2_noted_8 : decode cX2_noted 8 = .ok (.getfield 22, 3) := by decide +kernel
theorem dX2_noted_11 : decode cX2_noted 11 = .ok (.aload_n 0, 1) := by decide +kernel
theorem dX2_noted_12 : decode cX2_noted 12 = .ok (.getfield 13, 3) := by decide +kernel
theorem dX2_noted_15 : decode cX2_noted 15 = .ok (.arraylength, 1) := by decide +kernel
theorem dX2_noted_16 : decode cX2_noted 16 = .ok (.if_icmp .ge 15, 3) := by decide +kernel
theorem dX2_noted_19 : decode cX2_noted 19 = .ok (.aload_n 0, 1) := by decide +kernel
theorem dX2_noted_20 : decode cX2_noted 20 = .ok (.getfield 13, 3) := by decide +kernel
theorem dX2_noted_23 : decode cX2_noted 23 = .ok (.aload_n 0, 1) := by decide +kernel
theorem dX2_noted_24 : decode cX2_noted 24 = .ok (.getfield 22, 3) := by decide +kernel
theorem dX2_noted_27 : decode cX2_noted 27 = .ok (.aaload, 1) := by decide +kernel
theorem dX2_noted_28 : decode cX2_noted 28 = .ok (.goto 4, 3) := by decide +kernel
theorem dX2_noted_31 : decode cX2_noted 31 = .ok (.aconst_null, 1) := by decide +kernel
theorem dX2_noted_32 : decode cX2_noted 32 = .ok (.astore_n 1, 1) := by decide +kernel
theorem dX2_noted_33 : decode cX2_noted 33 = .ok (.aload_n 1, 1) := by decide +kernel
theorem dX2_noted_34 : decode cX2_noted 34 = .ok (.ifnonnull 10, 3) := by decide +kernel
theorem dX2_noted_37 : decode cX2_noted 37 = .ok (.aload_n 0, 1) := by decide +kernel
theorem dX2_noted_38 : decode cX2_noted 38 = .ok (.getfield 18, 3) := by decide +kernel
theorem dX2_noted_41 : decode cX2_noted 41 = .ok (.goto 4, 3) := by decide +kernel
theorem dX2_noted_44 : decode cX2_noted 44 = .ok (.aload_n 1, 1) := by decide +kernel
theorem dX2_noted_45 : decode cX2_noted 45 = .ok (.areturn, 1) := by decide +kernel
theorem dX2_keepNoted_0 : decode cX2_keepNoted 0 = .ok (.aload_n 0, 1) := by decide +kernel
theorem dX2_keepNoted_1 : decode cX2_keepNoted 1 = .ok (.aload_n 0, 1) := by decide +kernel
theorem dX2_keepNoted_2 : decode cX2_keepNoted 2 = .ok (.getfield 22, 3) := by decide +kernel
theorem dX2_keepNoted_5 : decode cX2_keepNoted 5 = .ok (.iconst 1, 1) := by decide +kernel
theorem dX2_keepNoted_6 : decode cX2_keepNoted 6 = .ok (.iadd, 1) := by decide +kernel
theorem dX2_keepNoted_7 : decode cX2_keepNoted 7 = .ok (.bipush 9, 2) := by decide +kernel
theorem dX2_keepNoted_9 : decode cX2_keepNoted 9 = .ok (.irem, 1) := by decide +kernel
theorem dX2_keepNoted_10 : decode cX2_keepNoted 10 = .ok (.putfield 22, 3) := by decide +kernel
theorem dX2_keepNoted_13 : decode cX2_keepNoted 13 = .ok (.aload_n 0, 1) := by decide +kernel
theorem dX2_keepNoted_14 : decode cX2_keepNoted 14 = .ok (.aload_n 0, 1) := by decide +kernel
theorem dX2_keepNoted_15 : decode cX2_keepNoted 15 = .ok (.getfield 26, 3) := by decide +kernel
theorem dX2_keepNoted_18 : decode cX2_keepNoted 18 = .ok (.iconst 1, 1) := by decide +kernel
theorem dX2_keepNoted_19 : decode cX2_keepNoted 19 = .ok (.iadd, 1) := by decide +kernel
theorem dX2_keepNoted_20 : decode cX2_keepNoted 20 = .ok (.bipush 8, 2) := by decide +kernel
theorem dX2_keepNoted_22 : decode cX2_keepNoted 22 = .ok (.invokestatic 37, 3) := by decide +kernel
theorem dX2_keepNoted_25 : decode cX2_keepNoted 25 = .ok (.putfield 26, 3) := by decide +kernel
theorem dX2_keepNoted_28 : decode cX2_keepNoted 28 = .ok (.return_, 1) := by decide +kernel
theorem dX2_stepBack_0 : decode cX2_stepBack 0 = .ok (.aload_n 0, 1) := by decide +kernel
theorem dX2_stepBack_1 : decode cX2_stepBack 1 = .ok (.aload_n 0, 1) := by decide +kernel
theorem dX2_stepBack_2 : decode cX2_stepBack 2 = .ok (.getfield 22, 3) := by decide +kernel
theorem dX2_stepBack_5 : decode cX2_stepBack 5 = .ok (.bipush 9, 2) := by decide +kernel
theorem dX2_stepBack_7 : decode cX2_stepBack 7 = .ok (.iadd, 1) := by decide +kernel
theorem dX2_stepBack_8 : decode cX2_stepBack 8 = .ok (.iconst 1, 1) := by decide +kernel
theorem dX2_stepBack_9 : decode cX2_stepBack 9 = .ok (.isub, 1) := by decide +kernel
theorem dX2_stepBack_10 : decode cX2_stepBack 10 = .ok (.bipush 9, 2) := by decide +kernel
theorem dX2_stepBack_12 : decode cX2_stepBack 12 = .ok (.irem, 1) := by decide +kernel
theorem dX2_stepBack_13 : decode cX2_stepBack 13 = .ok (.putfield 22, 3) := by decide +kernel
theorem dX2_stepBack_16 : decode cX2_stepBack 16 = .ok (.aload_n 0, 1) := by decide +kernel
theorem dX2_stepBack_17 : decode cX2_stepBack 17 = .ok (.dup, 1) := by decide +kernel
theorem dX2_stepBack_18 : decode cX2_stepBack 18 = .ok (.getfield 26, 3) := by decide +kernel
theorem dX2_stepBack_21 : decode cX2_stepBack 21 = .ok (.iconst 1, 1) := by decide +kernel
theorem dX2_stepBack_22 : decode cX2_stepBack 22 = .ok (.isub, 1) := by decide +kernel
theorem dX2_stepBack_23 : decode cX2_stepBack 23 = .ok (.putfield 26, 3) := by decide +kernel
theorem dX2_stepBack_26 : decode cX2_stepBack 26 = .ok (.aload_n 0, 1) := by decide +kernel
theorem dX2_stepBack_27 : decode cX2_stepBack 27 = .ok (.invokevirtual 29, 3) := by decide +kernel
theorem dX2_stepBack_30 : decode cX2_stepBack 30 = .ok (.areturn, 1) := by decide +kernel
theorem dX2_forget_0 : decode cX2_forget 0 = .ok (.aload_n 0, 1) := by decide +kernel
theorem dX2_forget_1 : decode cX2_forget 1 = .ok (.iconst 0, 1) := by decide +kernel
theorem dX2_forget_2 : decode cX2_forget 2 = .ok (.putfield 26, 3) := by decide +kernel
theorem dX2_forget_5 : decode cX2_forget 5 = .ok (.return_, 1) := by decide +kernel
theorem dX3_init_0 : decode cX3_init 0 = .ok (.aload_n 0, 1) := by decide +kernel
theorem dX3_init_1 : decode cX3_init 1 = .ok (.invokespecial 3, 3) := by decide +kernel
theorem dX3_init_4 : decode cX3_init 4 = .ok (.aload_n 0, 1) := by decide +kernel
theorem dX3_init_5 : decode cX3_init 5 = .ok (.iconst 3, 1) := by decide +kernel
theorem dX3_init_6 : decode cX3_init 6 = .ok (.newarray .int, 2) := by decide +kernel
theorem dX3_init_8 : decode cX3_init 8 = .ok (.putfield 9, 3) := by decide +kernel
theorem dX3_init_11 : decode cX3_init 11 = .ok (.aload_n 0, 1) := by decide +kernel
theorem dX3_init_12 : decode cX3_init 12 = .ok (.iconst 3, 1) := by decide +kernel
theorem dX3_init_13 : decode cX3_init 13 = .ok (.newarray .int, 2) := by decide +kernel
theorem dX3_init_15 : decode cX3_init 15 = .ok (.putfield 15, 3) := by decide +kernel
theorem dX3_init_18 : decode cX3_init 18 = .ok (.aload_n 0, 1) := by decide +kernel
theorem dX3_init_19 : decode cX3_init 19 = .ok (.iconst 0, 1) := by decide +kernel
theorem dX3_init_20 : decode cX3_init 20 = .ok (.putfield 18, 3) := by decide +kernel
theorem dX3_init_23 : decode cX3_init 23 = .ok (.return_, 1) := by decide +kernel
theorem dX3_has_0 : decode cX3_has 0 = .ok (.iload_n 1, 1) := by decide +kernel
theorem dX3_has_1 : decode cX3_has 1 = .ok (.ifCond .lt 15, 3) := by decide +kernel
theorem dX3_has_4 : decode cX3_has 4 = .ok (.iload_n 1, 1) := by decide +kernel
theorem dX3_has_5 : decode cX3_has 5 = .ok (.aload_n 0, 1) := by decide +kernel
theorem dX3_has_6 : decode cX3_has 6 = .ok (.getfield 18, 3) := by decide +kernel
theorem dX3_has_9 : decode cX3_has 9 = .ok (.if_icmp .ge 7, 3) := by decide +kernel
theorem dX3_has_12 : decode cX3_has 12 = .ok (.iconst 1, 1) := by decide +kernel
theorem dX3_has_13 : decode cX3_has 13 = .ok (.goto 4, 3) := by decide +kernel
theorem dX3_has_16 : decode cX3_has 16 = .ok (.iconst 0, 1) := by decide +kernel
theorem dX3_has_17 : decode cX3_has 17 = .ok (.ireturn, 1) := by decide +kernel
theorem dX3_noseOf_0 : decode cX3_noseOf 0 = .ok (.aload_n 0, 1) := by decide +kernel
theorem dX3_noseOf_1 : decode cX3_noseOf 1 = .ok (.getfield 9, 3) := by decide +kernel
theorem dX3_noseOf_4 : decode cX3_noseOf 4 = .ok (.iload_n 1, 1) := by decide +kernel
theorem dX3_noseOf_5 : decode cX3_noseOf 5 = .ok (.invokestatic 22, 3) := by decide +kernel
theorem dX3_noseOf_8 : decode cX3_noseOf 8 = .ok (.ireturn, 1) := by decide +kernel
theorem dX3_findsOf_0 : decode cX3_findsOf 0 = .ok (.aload_n 0, 1) := by decide +kernel
theorem dX3_findsOf_1 : decode cX3_findsOf 1 = .ok (.getfield 15, 3) := by decide +kernel
theorem dX3_findsOf_4 : decode cX3_findsOf 4 = .ok (.iload_n 1, 1) := by decide +kernel
theorem dX3_findsOf_5 : decode cX3_findsOf 5 = .ok (.invokestatic 22, 3) := by decide +kernel
theorem dX3_findsOf_8 : decode cX3_findsOf 8 = .ok (.ireturn, 1) := by decide +kernel
theorem dX3_add_0 : decode cX3_add 0 = .ok (.aload_n 0, 1) := by decide +kernel
theorem dX3_add_1 : decode cX3_add 1 = .ok (.getfield 9, 3) := by decide +kernel
theorem dX3_add_4 : decode cX3_add 4 = .ok (.aload_n 0, 1) := by decide +kernel
theorem dX3_add_5 : decode cX3_add 5 = .ok (.getfield 18, 3) := by decide +kernel
theorem dX3_add_8 : decode cX3_add 8 = .ok (.iload_n 1, 1) := by decide +kernel
theorem dX3_add_9 : decode cX3_add 9 = .ok (.invokestatic 26, 3) := by decide +kernel
theorem dX3_add_12 : decode cX3_add 12 = .ok (.aload_n 0, 1) := by decide +kernel
theorem dX3_add_13 : decode cX3_add 13 = .ok (.getfield 15, 3) := by decide +kernel
theorem dX3_add_16 : decode cX3_add 16 = .ok (.aload_n 0, 1) := by decide +kernel
theorem dX3_add_17 : decode cX3_add 17 = .ok (.getfield 18, 3) := by decide +kernel
theorem dX3_add_20 : decode cX3_add 20 = .ok (.iconst 0, 1) := by decide +kernel
theorem dX3_add_21 : decode cX3_add 21 = .ok (.invokestatic 26, 3) := by decide +kernel
theorem dX3_add_24 : decode cX3_add 24 = .ok (.aload_n 0, 1) := by decide +kernel
theorem dX3_add_25 : decode cX3_add 25 = .ok (.dup, 1) := by decide +kernel
theorem dX3_add_26 : decode cX3_add 26 = .ok (.getfield 18, 3) := by decide +kernel
theorem dX3_add_29 : decode cX3_add 29 = .ok (.iconst 1, 1) := by decide +kernel
theorem dX3_add_30 : decode cX3_add 30 = .ok (.iadd, 1) := by decide +kernel
theorem dX3_add_31 : decode cX3_add 31 = .ok (.putfield 18, 3) := by decide +kernel
theorem dX3_add_34 : decode cX3_add 34 = .ok (.aload_n 0, 1) := by decide +kernel
theorem dX3_add_35 : decode cX3_add 35 = .ok (.getfield 18, 3) := by decide +kernel
theorem dX3_add_38 : decode cX3_add 38 = .ok (.iconst 1, 1) := by decide +kernel
theorem dX3_add_39 : decode cX3_add 39 = .ok (.isub, 1) := by decide +kernel
theorem dX3_add_40 : decode cX3_add 40 = .ok (.ireturn, 1) := by decide +kernel
theorem dX3_addFind_0 : decode cX3_addFind 0 = .ok (.aload_n 0, 1) := by decide +kernel
theorem dX3_addFind_1 : decode cX3_addFind 1 = .ok (.getfield 15, 3) := by decide +kernel
theorem dX3_addFind_4 : decode cX3_addFind 4 = .ok (.iload_n 1, 1) := by decide +kernel
theorem dX3_addFind_5 : decode cX3_addFind 5 = .ok (.aload_n 0, 1) := by decide +kernel
theorem dX3_addFind_6 : decode cX3_addFind 6 = .ok (.iload_n 1, 1) := by decide +kernel
theorem dX3_addFind_7 : decode cX3_addFind 7 = .ok (.invokevirtual 30, 3) := by decide +kernel
theorem dX3_addFind_10 : decode cX3_addFind 10 = .ok (.iconst 1, 1) := by decide +kernel
theorem dX3_addFind_11 : decode cX3_addFind 11 = .ok (.iadd, 1) := by decide +kernel
theorem dX3_addFind_12 : decode cX3_addFind 12 = .ok (.invokestatic 26, 3) := by decide +kernel
theorem dX3_addFind_15 : decode cX3_addFind 15 = .ok (.return_, 1) := by decide +kernel
theorem dX3_makeNone_0 : decode cX3_makeNone 0 = .ok (.aload_n 0, 1) := by decide +kernel
theorem dX3_makeNone_1 : decode cX3_makeNone 1 = .ok (.iconst 0, 1) := by decide +kernel
theorem dX3_makeNone_2 : decode cX3_makeNone 2 = .ok (.putfield 18, 3) := by decide +kernel
theorem dX3_makeNone_5 : decode cX3_makeNone 5 = .ok (.return_, 1) := by decide +kernel
theorem dX3_take_0 : decode cX3_take 0 = .ok (.aload_n 1, 1) := by decide +kernel
theorem dX3_take_1 : decode cX3_take 1 = .ok (.getfield 9, 3) := by decide +kernel
theorem dX3_take_4 : decode cX3_take 4 = .ok (.aload_n 0, 1) := by decide +kernel
theorem dX3_take_5 : decode cX3_take 5 = .ok (.getfield 9, 3) := by decide +kernel
theorem dX3_take_8 : decode cX3_take 8 = .ok (.invokestatic 34, 3) := by decide +kernel
theorem dX3_take_11 : decode cX3_take 11 = .ok (.aload_n 1, 1) := by decide +kernel
theorem dX3_take_12 : decode cX3_take 12 = .ok (.getfield 15, 3) := by decide +kernel
theorem dX3_take_15 : decode cX3_take 15 = .ok (.aload_n 0, 1) := by decide +kernel
theorem dX3_take_16 : decode cX3_take 16 = .ok (.getfield 15, 3) := by decide +kernel
theorem dX3_take_19 : decode cX3_take 19 = .ok (.invokestatic 34, 3) := by decide +kernel
theorem dX3_take_22 : decode cX3_take 22 = .ok (.aload_n 0, 1) := by decide +kernel
theorem dX3_take_23 : decode cX3_take 23 = .ok (.aload_n 1, 1) := by decide +kernel
theorem dX3_take_24 : decode cX3_take 24 = .ok (.getfield 18, 3) := by decide +kernel
theorem dX3_take_27 : decode cX3_take 27 = .ok (.putfield 18, 3) := by decide +kernel
theorem dX3_take_30 : decode cX3_take 30 = .ok (.return_, 1) := by decide +kernel
theorem dX4_init_0 : decode cX4_init 0 = .ok (.aload_n 0, 1) := by decide +kernel
theorem dX4_init_1 : decode cX4_init 1 = .ok (.invokespecial 1, 3) := by decide +kernel
theorem dX4_init_4 : decode cX4_init 4 = .ok (.aload_n 0, 1) := by decide +kernel
theorem dX4_init_5 : decode cX4_init 5 = .ok (.iconst 0, 1) := by decide +kernel
theorem dX4_init_6 : decode cX4_init 6 = .ok (.putfield 7, 3) := by decide +kernel
theorem dX4_init_9 : decode cX4_init 9 = .ok (.aload_n 0, 1) := by decide +kernel
theorem dX4_init_10 : decode cX4_init 10 = .ok (.iload_n 1, 1) := by decide +kernel
theorem dX4_init_11 : decode cX4_init 11 = .ok (.ifCond .le 7, 3) := by decide +kernel
theorem dX4_init_14 : decode cX4_init 14 = .ok (.iload_n 1, 1) := by decide +kernel
theorem dX4_init_15 : decode cX4_init 15 = .ok (.goto 4, 3) := by decide +kernel
theorem dX4_init_18 : decode cX4_init 18 = .ok (.iconst 0, 1) := by decide +kernel
theorem dX4_init_19 : decode cX4_init 19 = .ok (.newarray .char, 2) := by decide +kernel
theorem dX4_init_21 : decode cX4_init 21 = .ok (.putfield 13, 3) := by decide +kernel
theorem dX4_init_24 : decode cX4_init 24 = .ok (.return_, 1) := by decide +kernel
theorem dX4_makeEmpty_0 : decode cX4_makeEmpty 0 = .ok (.aload_n 0, 1) := by decide +kernel
theorem dX4_makeEmpty_1 : decode cX4_makeEmpty 1 = .ok (.iconst 0, 1) := by decide +kernel
theorem dX4_makeEmpty_2 : decode cX4_makeEmpty 2 = .ok (.putfield 7, 3) := by decide +kernel
theorem dX4_makeEmpty_5 : decode cX4_makeEmpty 5 = .ok (.return_, 1) := by decide +kernel
theorem dX4_put_0 : decode cX4_put 0 = .ok (.aload_n 0, 1) := by decide +kernel
theorem dX4_put_1 : decode cX4_put 1 = .ok (.getfield 7, 3) := by decide +kernel
theorem dX4_put_4 : decode cX4_put 4 = .ok (.ifCond .lt 35, 3) := by decide +kernel
theorem dX4_put_7 : decode cX4_put 7 = .ok (.aload_n 0, 1) := by decide +kernel
theorem dX4_put_8 : decode cX4_put 8 = .ok (.getfield 7, 3) := by decide +kernel
theorem dX4_put_11 : decode cX4_put 11 = .ok (.aload_n 0, 1) := by decide +kernel
theorem dX4_put_12 : decode cX4_put 12 = .ok (.getfield 13, 3) := by decide +kernel
theorem dX4_put_15 : decode cX4_put 15 = .ok (.arraylength, 1) := by decide +kernel
theorem dX4_put_16 : decode cX4_put 16 = .ok (.if_icmp .ge 23, 3) := by decide +kernel
theorem dX4_put_19 : decode cX4_put 19 = .ok (.aload_n 0, 1) := by decide +kernel
theorem dX4_put_20 : decode cX4_put 20 = .ok (.getfield 13, 3) := by decide +kernel
theorem dX4_put_23 : decode cX4_put 23 = .ok (.aload_n 0, 1) := by decide +kernel
theorem dX4_put_24 : decode cX4_put 24 = .ok (.getfield 7, 3) := by decide +kernel
theorem dX4_put_27 : decode cX4_put 27 = .ok (.iload_n 1, 1) := by decide +kernel
theorem dX4_put_28 : decode cX4_put 28 = .ok (.castore, 1) := by decide +kernel
theorem dX4_put_29 : decode cX4_put 29 = .ok (.aload_n 0, 1) := by decide +kernel
theorem dX4_put_30 : decode cX4_put 30 = .ok (.dup, 1) := by decide +kernel
theorem dX4_put_31 : decode cX4_put 31 = .ok (.getfield 7, 3) := by decide +kernel
theorem dX4_put_34 : decode cX4_put 34 = .ok (.iconst 1, 1) := by decide +kernel
theorem dX4_put_35 : decode cX4_put 35 = .ok (.iadd, 1) := by decide +kernel
theorem dX4_put_36 : decode cX4_put 36 = .ok (.putfield 7, 3) := by decide +kernel
theorem dX4_put_39 : decode cX4_put 39 = .ok (.return_, 1) := by decide +kernel
theorem dX4_putNumber_0 : decode cX4_putNumber 0 = .ok (.iload_n 1, 1) := by decide +kernel
theorem dX4_putNumber_1 : decode cX4_putNumber 1 = .ok (.bipush 9, 2) := by decide +kernel
theorem dX4_putNumber_3 : decode cX4_putNumber 3 = .ok (.if_icmp .le 18, 3) := by decide +kernel
theorem dX4_putNumber_6 : decode cX4_putNumber 6 = .ok (.aload_n 0, 1) := by decide +kernel
theorem dX4_putNumber_7 : decode cX4_putNumber 7 = .ok (.bipush 48, 2) := by decide +kernel
theorem dX4_putNumber_9 : decode cX4_putNumber 9 = .ok (.iload_n 1, 1) := by decide +kernel
theorem dX4_putNumber_10 : decode cX4_putNumber 10 = .ok (.bipush 10, 2) := by decide +kernel
theorem dX4_putNumber_12 : decode cX4_putNumber 12 = .ok (.idiv, 1) := by decide +kernel
theorem dX4_putNumber_13 : decode cX4_putNumber 13 = .ok (.bipush 10, 2) := by decide +kernel
theorem dX4_putNumber_15 : decode cX4_putNumber 15 = .ok (.irem, 1) := by decide +kernel
theorem dX4_putNumber_16 : decode cX4_putNumber 16 = .ok (.iadd, 1) := by decide +kernel
theorem dX4_putNumber_17 : decode cX4_putNumber 17 = .ok (.i2c, 1) := by decide +kernel
theorem dX4_putNumber_18 : decode cX4_putNumber 18 = .ok (.invokevirtual 17, 3) := by decide +kernel
theorem dX4_putNumber_21 : decode cX4_putNumber 21 = .ok (.aload_n 0, 1) := by decide +kernel
theorem dX4_putNumber_22 : decode cX4_putNumber 22 = .ok (.bipush 48, 2) := by decide +kernel
theorem dX4_putNumber_24 : decode cX4_putNumber 24 = .ok (.iload_n 1, 1) := by decide +kernel
theorem dX4_putNumber_25 : decode cX4_putNumber 25 = .ok (.bipush 10, 2) := by decide +kernel
theorem dX4_putNumber_27 : decode cX4_putNumber 27 = .ok (.irem, 1) := by decide +kernel
theorem dX4_putNumber_28 : decode cX4_putNumber 28 = .ok (.iadd, 1) := by decide +kernel
theorem dX4_putNumber_29 : decode cX4_putNumber 29 = .ok (.i2c, 1) := by decide +kernel
theorem dX4_putNumber_30 : decode cX4_putNumber 30 = .ok (.invokevirtual 17, 3) := by decide +kernel
theorem dX4_putNumber_33 : decode cX4_putNumber 33 = .ok (.return_, 1) := by decide +kernel
theorem dX4_signAt_0 : decode cX4_signAt 0 = .ok (.iload_n 1, 1) := by decide +kernel
theorem dX4_signAt_1 : decode cX4_signAt 1 = .ok (.ifCond .lt 29, 3) := by decide +kernel
theorem dX4_signAt_4 : decode cX4_signAt 4 = .ok (.iload_n 1, 1) := by decide +kernel
theorem dX4_signAt_5 : decode cX4_signAt 5 = .ok (.aload_n 0, 1) := by decide +kernel
theorem dX4_signAt_6 : decode cX4_signAt 6 = .ok (.getfield 7, 3) := by decide +kernel
theorem dX4_signAt_9 : decode cX4_signAt 9 = .ok (.if_icmp .ge 21, 3) := by decide +kernel
theorem dX4_signAt_12 : decode cX4_signAt 12 = .ok (.iload_n 1, 1) := by decide +kernel
theorem dX4_signAt_13 : decode cX4_signAt 13 = .ok (.aload_n 0, 1) := by decide +kernel
theorem dX4_signAt_14 : decode cX4_signAt 14 = .ok (.getfield 13, 3) := by decide +kernel
theorem dX4_signAt_17 : decode cX4_signAt 17 = .ok (.arraylength, 1) := by decide +kernel
theorem dX4_signAt_18 : decode cX4_signAt 18 = .ok (.if_icmp .ge 12, 3) := by decide +kernel
theorem dX4_signAt_21 : decode cX4_signAt 21 = .ok (.aload_n 0, 1) := by decide +kernel
theorem dX4_signAt_22 : decode cX4_signAt 22 = .ok (.getfield 13, 3) := by decide +kernel
theorem dX4_signAt_25 : decode cX4_signAt 25 = .ok (.iload_n 1, 1) := by decide +kernel
theorem dX4_signAt_26 : decode cX4_signAt 26 = .ok (.caload, 1) := by decide +kernel
theorem dX4_signAt_27 : decode cX4_signAt 27 = .ok (.goto 4, 3) := by decide +kernel
theorem dX4_signAt_30 : decode cX4_signAt 30 = .ok (.iconst 0, 1) := by decide +kernel
theorem dX4_signAt_31 : decode cX4_signAt 31 = .ok (.ireturn, 1) := by decide +kernel
theorem dX5_init_0 : decode cX5_init 0 = .ok (.aload_n 0, 1) := by decide +kernel
theorem dX5_init_1 : decode cX5_init 1 = .ok (.invokespecial 3, 3) := by decide +kernel
theorem dX5_init_4 : decode cX5_init 4 = .ok (.aload_n 0, 1) := by decide +kernel
theorem dX5_init_5 : decode cX5_init 5 = .ok (.bipush 20, 2) := by decide +kernel
theorem dX5_init_7 : decode cX5_init 7 = .ok (.newarray .int, 2) := by decide +kernel
theorem dX5_init_9 : decode cX5_init 9 = .ok (.putfield 9, 3) := by decide +kernel
theorem dX5_init_12 : decode cX5_init 12 = .ok (.aload_n 0, 1) := by decide +kernel
theorem dX5_init_13 : decode cX5_init 13 = .ok (.bipush 60, 2) := by decide +kernel
theorem dX5_init_15 : decode cX5_init 15 = .ok (.newarray .int, 2) := by decide +kernel
theorem dX5_init_17 : decode cX5_init 17 = .ok (.putfield 15, 3) := by decide +kernel
theorem dX5_init_20 : decode cX5_init 20 = .ok (.aload_n 0, 1) := by decide +kernel
theorem dX5_init_21 : decode cX5_init 21 = .ok (.iconst 0, 1) := by decide +kernel
theorem dX5_init_22 : decode cX5_init 22 = .ok (.putfield 18, 3) := by decide +kernel
theorem dX5_init_25 : decode cX5_init 25 = .ok (.aload_n 0, 1) := by decide +kernel
theorem dX5_init_26 : decode cX5_init 26 = .ok (.iconst 0, 1) := by decide +kernel
theorem dX5_init_27 : decode cX5_init 27 = .ok (.putfield 22, 3) := by decide +kernel
theorem dX5_init_30 : decode cX5_init 30 = .ok (.return_, 1) := by decide +kernel
theorem dX5_read_0 : decode cX5_read 0 = .ok (.aload_n 0, 1) := by decide +kernel
theorem dX5_read_1 : decode cX5_read 1 = .ok (.iconst 0, 1) := by decide +kernel
theorem dX5_read_2 : decode cX5_read 2 = .ok (.putfield 18, 3) := by decide +kernel
theorem dX5_read_5 : decode cX5_read 5 = .ok (.aload_n 0, 1) := by decide +kernel
theorem dX5_read_6 : decode cX5_read 6 = .ok (.iconst 0, 1) := by decide +kernel
theorem dX5_read_7 : decode cX5_read 7 = .ok (.putfield 22, 3) := by decide +kernel
theorem dX5_read_10 : decode cX5_read 10 = .ok (.iconst 0, 1) := by decide +kernel
theorem dX5_read_11 : decode cX5_read 11 = .ok (.istore_n 2, 1) := by decide +kernel
theorem dX5_read_12 : decode cX5_read 12 = .ok (.iload_n 2, 1) := by decide +kernel
theorem dX5_read_13 : decode cX5_read 13 = .ok (.bipush 20, 2) := by decide +kernel
theorem dX5_read_15 : decode cX5_read 15 = .ok (.if_icmp .ge 61, 3) := by decide +kernel
theorem dX5_read_18 : decode cX5_read 18 = .ok (.aload_n 0, 1) := by decide +kernel
theorem dX5_read_19 : decode cX5_read 19 = .ok (.aload_n 1, 1) := by decide +kernel
theorem dX5_read_20 : decode cX5_read 20 = .ok (.invokevirtual 25, 3) := by decide +kernel
theorem dX5_read_23 : decode cX5_read 23 = .ok (.ifCond .ne 8, 3) := by decide +kernel
theorem dX5_read_26 : decode cX5_read 26 = .ok (.aload_n 0, 1) := by decide +kernel
theorem dX5_read_27 : decode cX5_read 27 = .ok (.getfield 22, 3) := by decide +kernel
theorem dX5_read_30 : decode cX5_read 30 = .ok (.ireturn, 1) := by decide +kernel
theorem dX5_read_31 : decode cX5_read 31 = .ok (.aload_n 0, 1) := by decide +kernel
theorem dX5_read_32 : decode cX5_read 32 = .ok (.dup, 1) := by decide +kernel
theorem dX5_read_33 : decode cX5_read 33 = .ok (.getfield 18, 3) := by decide +kernel
theorem dX5_read_36 : decode cX5_read 36 = .ok (.iconst 1, 1) := by decide +kernel
theorem dX5_read_37 : decode cX5_read 37 = .ok (.iadd, 1) := by decide +kernel
theorem dX5_read_38 : decode cX5_read 38 = .ok (.putfield 18, 3) := by decide +kernel
theorem dX5_read_41 : decode cX5_read 41 = .ok (.aload_n 0, 1) := by decide +kernel
theorem dX5_read_42 : decode cX5_read 42 = .ok (.getfield 22, 3) := by decide +kernel
theorem dX5_read_45 : decode cX5_read 45 = .ok (.aload_n 1, 1) := by decide +kernel
theorem dX5_read_46 : decode cX5_read 46 = .ok (.getfield 29, 3) := by decide +kernel
theorem dX5_read_49 : decode cX5_read 49 = .ok (.if_icmp .lt 6, 3) := by decide +kernel
theorem dX5_read_52 : decode cX5_read 52 = .ok (.bipush (-4), 2) := by decide +kernel
theorem dX5_read_54 : decode cX5_read 54 = .ok (.ireturn, 1) := by decide +kernel
theorem dX5_read_55 : decode cX5_read 55 = .ok (.aload_n 0, 1) := by decide +kernel
theorem dX5_read_56 : decode cX5_read 56 = .ok (.aload_n 1, 1) := by decide +kernel
theorem dX5_read_57 : decode cX5_read 57 = .ok (.bipush 59, 2) := by decide +kernel
theorem dX5_read_59 : decode cX5_read 59 = .ok (.invokevirtual 34, 3) := by decide +kernel
theorem dX5_read_62 : decode cX5_read 62 = .ok (.ifCond .ne 8, 3) := by decide +kernel
theorem dX5_read_65 : decode cX5_read 65 = .ok (.aload_n 0, 1) := by decide +kernel
theorem dX5_read_66 : decode cX5_read 66 = .ok (.getfield 22, 3) := by decide +kernel
theorem dX5_read_69 : decode cX5_read 69 = .ok (.ireturn, 1) := by decide +kernel
theorem dX5_read_70 : decode cX5_read 70 = .ok (.iinc 2 1, 3) := by decide +kernel
theorem dX5_read_73 : decode cX5_read 73 = .ok (.goto (-61), 3) := by decide +kernel
theorem dX5_read_76 : decode cX5_read 76 = .ok (.aload_n 0, 1) := by decide +kernel
theorem dX5_read_77 : decode cX5_read 77 = .ok (.getfield 22, 3) := by decide +kernel
theorem dX5_read_80 : decode cX5_read 80 = .ok (.ireturn, 1) := by decide +kernel
theorem dX5_letterOf_0 : decode cX5_letterOf 0 = .ok (.aload_n 0, 1) := by decide +kernel
theorem dX5_letterOf_1 : decode cX5_letterOf 1 = .ok (.getfield 9, 3) := by decide +kernel
theorem dX5_letterOf_4 : decode cX5_letterOf 4 = .ok (.iload_n 1, 1) := by decide +kernel
theorem dX5_letterOf_5 : decode cX5_letterOf 5 = .ok (.invokestatic 38, 3) := by decide +kernel
theorem dX5_letterOf_8 : decode cX5_letterOf 8 = .ok (.ireturn, 1) := by decide +kernel
theorem dX5_numberOf_0 : decode cX5_numberOf 0 = .ok (.aload_n 0, 1) := by decide +kernel
theorem dX5_numberOf_1 : decode cX5_numberOf 1 = .ok (.getfield 15, 3) := by decide +kernel
theorem dX5_numberOf_4 : decode cX5_numberOf 4 = .ok (.iload_n 1, 1) := by decide +kernel
theorem dX5_numberOf_5 : decode cX5_numberOf 5 = .ok (.iconst 3, 1) := by decide +kernel
theorem dX5_numberOf_6 : decode cX5_numberOf 6 = .ok (.imul, 1) := by decide +kernel
theorem dX5_numberOf_7 : decode cX5_numberOf 7 = .ok (.iload_n 2, 1) := by decide +kernel
theorem dX5_numberOf_8 : decode cX5_numberOf 8 = .ok (.iadd, 1) := by decide +kernel
theorem dX5_numberOf_9 : decode cX5_numberOf 9 = .ok (.invokestatic 38, 3) := by decide +kernel
theorem dX5_numberOf_12 : decode cX5_numberOf 12 = .ok (.ireturn, 1) := by decide +kernel
theorem dX5_readOrder_0 : decode cX5_readOrder 0 = .ok (.aload_n 1, 1) := by decide +kernel
theorem dX5_readOrder_1 : decode cX5_readOrder 1 = .ok (.aload_n 0, 1) := by decide +kernel
theorem dX5_readOrder_2 : decode cX5_readOrder 2 = .ok (.getfield 22, 3) := by decide +kernel
theorem dX5_readOrder_5 : decode cX5_readOrder 5 = .ok (.invokevirtual 42, 3) := by decide +kernel
theorem dX5_readOrder_8 : decode cX5_readOrder 8 = .ok (.istore_n 2, 1) := by decide +kernel
theorem dX5_readOrder_9 : decode cX5_readOrder 9 = .ok (.iload_n 2, 1) := by decide +kernel
theorem dX5_readOrder_10 : decode cX5_readOrder 10 = .ok (.invokestatic 46, 3) := by decide +kernel
theorem dX5_readOrder_13 : decode cX5_readOrder 13 = .ok (.astore_n 3, 1) := by decide +kernel
theorem dX5_readOrder_14 : decode cX5_readOrder 14 = .ok (.aload_n 3, 1) := by decide +kernel
theorem dX5_readOrder_15 : decode cX5_readOrder 15 = .ok (.invokevirtual 50, 3) := by decide +kernel
theorem dX5_readOrder_18 : decode cX5_readOrder 18 = .ok (.ifCond .eq 5, 3) := by decide +kernel
theorem dX5_readOrder_21 : decode cX5_readOrder 21 = .ok (.iconst 0, 1) := by decide +kernel
theorem dX5_readOrder_22 : decode cX5_readOrder 22 = .ok (.ireturn, 1) := by decide +kernel
theorem dX5_readOrder_23 : decode cX5_readOrder 23 = .ok (.aload_n 0, 1) := by decide +kernel
theorem dX5_readOrder_24 : decode cX5_readOrder 24 = .ok (.getfield 9, 3) := by decide +kernel
theorem dX5_readOrder_27 : decode cX5_readOrder 27 = .ok (.aload_n 0, 1) := by decide +kernel
theorem dX5_readOrder_28 : decode cX5_readOrder 28 = .ok (.getfield 18, 3) := by decide +kernel
theorem dX5_readOrder_31 : decode cX5_readOrder 31 = .ok (.iload_n 2, 1) := by decide +kernel
theorem dX5_readOrder_32 : decode cX5_readOrder 32 = .ok (.invokestatic 56, 3) := by decide +kernel
theorem dX5_readOrder_35 : decode cX5_readOrder 35 = .ok (.aload_n 0, 1) := by decide +kernel
theorem dX5_readOrder_36 : decode cX5_readOrder 36 = .ok (.dup, 1) := by decide +kernel
theorem dX5_readOrder_37 : decode cX5_readOrder 37 = .ok (.getfield 22, 3) := by decide +kernel
theorem dX5_readOrder_40 : decode cX5_readOrder 40 = .ok (.iconst 1, 1) := by decide +kernel
theorem dX5_readOrder_41 : decode cX5_readOrder 41 = .ok (.iadd, 1) := by decide +kernel
theorem dX5_readOrder_42 : decode cX5_readOrder 42 = .ok (.putfield 22, 3) := by decide +kernel
theorem dX5_readOrder_45 : decode cX5_readOrder 45 = .ok (.iconst 0, 1) := by decide +kernel
theorem dX5_readOrder_46 : decode cX5_readOrder 46 = .ok (.istore 4, 2) := by decide +kernel
theorem dX5_readOrder_48 : decode cX5_readOrder 48 = .ok (.iconst 0, 1) := by decide +kernel
theorem dX5_readOrder_49 : decode cX5_readOrder 49 = .ok (.istore 5, 2) := by decide +kernel
theorem dX5_readOrder_51 : decode cX5_readOrder 51 = .ok (.iload 5, 2) := by decide +kernel
theorem dX5_readOrder_53 : decode cX5_readOrder 53 = .ok (.aload_n 3, 1) := by decide +kernel
theorem dX5_readOrder_54 : decode cX5_readOrder 54 = .ok (.invokevirtual 60, 3) := by decide +kernel
theorem dX5_readOrder_57 : decode cX5_readOrder 57 = .ok (.if_icmp .ge 95, 3) := by decide +kernel
theorem dX5_readOrder_60 : decode cX5_readOrder 60 = .ok (.aload_n 3, 1) := by decide +kernel
theorem dX5_readOrder_61 : decode cX5_readOrder 61 = .ok (.iload 5, 2) := by decide +kernel
theorem dX5_readOrder_63 : decode cX5_readOrder 63 = .ok (.invokevirtual 63, 3) := by decide +kernel
theorem dX5_readOrder_66 : decode cX5_readOrder 66 = .ok (.istore 6, 2) := by decide +kernel
theorem dX5_readOrder_68 : decode cX5_readOrder 68 = .ok (.iload 6, 2) := by decide +kernel
theorem dX5_readOrder_70 : decode cX5_readOrder 70 = .ok (.bipush 35, 2) := by decide +kernel
theorem dX5_readOrder_72 : decode cX5_readOrder 72 = .ok (.if_icmp .eq 14, 3) := by decide +kernel
theorem dX5_readOrder_75 : decode cX5_readOrder 75 = .ok (.iload 6, 2) := by decide +kernel
theorem dX5_readOrder_77 : decode cX5_readOrder 77 = .ok (.bipush 37, 2) := by decide +kernel
theorem dX5_readOrder_79 : decode cX5_readOrder 79 = .ok (.if_icmp .eq 7, 3) := by decide +kernel
theorem dX5_readOrder_82 : decode cX5_readOrder 82 = .ok (.iconst 1, 1) := by decide +kernel
theorem dX5_readOrder_83 : decode cX5_readOrder 83 = .ok (.goto 4, 3) := by decide +kernel
theorem dX5_readOrder_86 : decode cX5_readOrder 86 = .ok (.iconst 0, 1) := by decide +kernel
theorem dX5_readOrder_87 : decode cX5_readOrder 87 = .ok (.istore 7, 2) := by decide +kernel
theorem dX5_readOrder_89 : decode cX5_readOrder 89 = .ok (.iload 7, 2) := by decide +kernel
theorem dX5_readOrder_91 : decode cX5_readOrder 91 = .ok (.ifCond .eq 16, 3) := by decide +kernel
theorem dX5_readOrder_94 : decode cX5_readOrder 94 = .ok (.aload_n 0, 1) := by decide +kernel
theorem dX5_readOrder_95 : decode cX5_readOrder 95 = .ok (.aload_n 1, 1) := by decide +kernel
theorem dX5_readOrder_96 : decode cX5_readOrder 96 = .ok (.iload 6, 2) := by decide +kernel
theorem dX5_readOrder_98 : decode cX5_readOrder 98 = .ok (.invokevirtual 34, 3) := by decide +kernel
theorem dX5_readOrder_101 : decode cX5_readOrder 101 = .ok (.ifCond .ne 30, 3) := by decide +kernel
theorem dX5_readOrder_104 : decode cX5_readOrder 104 = .ok (.goto 25, 3) := by decide +kernel
theorem dX5_readOrder_107 : decode cX5_readOrder 107 = .ok (.aload_n 0, 1) := by decide +kernel
theorem dX5_readOrder_108 : decode cX5_readOrder 108 = .ok (.aload_n 1, 1) := by decide +kernel
theorem dX5_readOrder_109 : decode cX5_readOrder 109 = .ok (.iload 4, 2) := by decide +kernel
theorem dX5_readOrder_111 : decode cX5_readOrder 111 = .ok (.iload 6, 2) := by decide +kernel
theorem dX5_readOrder_113 : decode cX5_readOrder 113 = .ok (.bipush 37, 2) := by decide +kernel
theorem dX5_readOrder_115 : decode cX5_readOrder 115 = .ok (.if_icmp .ne 7, 3) := by decide +kernel
theorem dX5_readOrder_118 : decode cX5_readOrder 118 = .ok (.iconst 1, 1) := by decide +kernel
theorem dX5_readOrder_119 : decode cX5_readOrder 119 = .ok (.goto 4, 3) := by decide +kernel
theorem dX5_readOrder_122 : decode cX5_readOrder 122 = .ok (.iconst 0, 1) := by decide +kernel
theorem dX5_readOrder_123 : decode cX5_readOrder 123 = .ok (.invokevirtual 66, 3) := by decide +kernel
theorem dX5_readOrder_126 : decode cX5_readOrder 126 = .ok (.ifCond .ne 5, 3) := by decide +kernel
theorem dX5_readOrder_129 : decode cX5_readOrder 129 = .ok (.iconst 0, 1) := by decide +kernel
theorem dX5_readOrder_130 : decode cX5_readOrder 130 = .ok (.ireturn, 1) := by decide +kernel
theorem dX5_readOrder_131 : decode cX5_readOrder 131 = .ok (.iload 4, 2) := by decide +kernel
theorem dX5_readOrder_133 : decode cX5_readOrder 133 = .ok (.iload 7, 2) := by decide +kernel
theorem dX5_readOrder_135 : decode cX5_readOrder 135 = .ok (.ifCond .eq 7, 3) := by decide +kernel
theorem dX5_readOrder_138 : decode cX5_readOrder 138 = .ok (.iconst 0, 1) := by decide +kernel
theorem dX5_readOrder_139 : decode cX5_readOrder 139 = .ok (.goto 4, 3) := by decide +kernel
theorem dX5_readOrder_142 : decode cX5_readOrder 142 = .ok (.iconst 1, 1) := by decide +kernel
theorem dX5_readOrder_143 : decode cX5_readOrder 143 = .ok (.iadd, 1) := by decide +kernel
theorem dX5_readOrder_144 : decode cX5_readOrder 144 = .ok (.istore 4, 2) := by decide +kernel
theorem dX5_readOrder_146 : decode cX5_readOrder 146 = .ok (.iinc 5 1, 3) := by decide +kernel
theorem dX5_readOrder_149 : decode cX5_readOrder 149 = .ok (.goto (-98), 3) := by decide +kernel
theorem dX5_readOrder_152 : decode cX5_readOrder 152 = .ok (.iconst 1, 1) := by decide +kernel
theorem dX5_readOrder_153 : decode cX5_readOrder 153 = .ok (.ireturn, 1) := by decide +kernel
theorem dX5_formOf_0 : decode cX5_formOf 0 = .ok (.iload_n 0, 1) := by decide +kernel
theorem dX5_formOf_1 : decode cX5_formOf 1 = .ok (.tableswitch 110 98 117 #[95, 110, 98, 110, 110, 107, 110, 101, 110, 110, 104, 110, 107, 110, 110, 110, 110, 110, 98, 101], 95) := by decide +kernel
theorem dX5_formOf_96 : decode cX5_formOf 96 = .ok (.ldc 70, 2) := by decide +kernel
theorem dX5_formOf_98 : decode cX5_formOf 98 = .ok (.areturn, 1) := by decide +kernel
theorem dX5_formOf_99 : decode cX5_formOf 99 = .ok (.ldc 72, 2) := by decide +kernel
theorem dX5_formOf_101 : decode cX5_formOf 101 = .ok (.areturn, 1) := by decide +kernel
theorem dX5_formOf_102 : decode cX5_formOf 102 = .ok (.ldc 74, 2) := by decide +kernel
theorem dX5_formOf_104 : decode cX5_formOf 104 = .ok (.areturn, 1) := by decide +kernel
theorem dX5_formOf_105 : decode cX5_formOf 105 = .ok (.ldc 76, 2) := by decide +kernel
theorem dX5_formOf_107 : decode cX5_formOf 107 = .ok (.areturn, 1) := by decide +kernel
theorem dX5_formOf_108 : decode cX5_formOf 108 = .ok (.ldc 78, 2) := by decide +kernel
theorem dX5_formOf_110 : decode cX5_formOf 110 = .ok (.areturn, 1) := by decide +kernel
theorem dX5_formOf_111 : decode cX5_formOf 111 = .ok (.ldc 80, 2) := by decide +kernel
theorem dX5_formOf_113 : decode cX5_formOf 113 = .ok (.areturn, 1) := by decide +kernel
theorem dX5_readSign_0 : decode cX5_readSign 0 = .ok (.aload_n 1, 1) := by decide +kernel
theorem dX5_readSign_1 : decode cX5_readSign 1 = .ok (.aload_n 0, 1) := by decide +kernel
theorem dX5_readSign_2 : decode cX5_readSign 2 = .ok (.getfield 22, 3) := by decide +kernel
theorem dX5_readSign_5 : decode cX5_readSign 5 = .ok (.invokevirtual 42, 3) := by decide +kernel
theorem dX5_readSign_8 : decode cX5_readSign 8 = .ok (.iload_n 2, 1) := by decide +kernel
theorem dX5_readSign_9 : decode cX5_readSign 9 = .ok (.if_icmp .eq 5, 3) := by decide +kernel
theorem dX5_readSign_12 : decode cX5_readSign 12 = .ok (.iconst 0, 1) := by decide +kernel
theorem dX5_readSign_13 : decode cX5_readSign 13 = .ok (.ireturn, 1) := by decide +kernel
theorem dX5_readSign_14 : decode cX5_readSign 14 = .ok (.aload_n 0, 1) := by decide +kernel
theorem dX5_readSign_15 : decode cX5_readSign 15 = .ok (.dup, 1) := by decide +kernel
theorem dX5_readSign_16 : decode cX5_readSign 16 = .ok (.getfield 22, 3) := by decide +kernel
theorem dX5_readSign_19 : decode cX5_readSign 19 = .ok (.iconst 1, 1) := by decide +kernel
theorem dX5_readSign_20 : decode cX5_readSign 20 = .ok (.iadd, 1) := by decide +kernel
theorem dX5_readSign_21 : decode cX5_readSign 21 = .ok (.putfield 22, 3) := by decide +kernel
theorem dX5_readSign_24 : decode cX5_readSign 24 = .ok (.iconst 1, 1) := by decide +kernel
theorem dX5_readSign_25 : decode cX5_readSign 25 = .ok (.ireturn, 1) := by decide +kernel
theorem dX5_readNumber_0 : decode cX5_readNumber 0 = .ok (.aload_n 1, 1) := by decide +kernel
theorem dX5_readNumber_1 : decode cX5_readNumber 1 = .ok (.aload_n 0, 1) := by decide +kernel
theorem dX5_readNumber_2 : decode cX5_readNumber 2 = .ok (.getfield 22, 3) := by decide +kernel
theorem dX5_readNumber_5 : decode cX5_readNumber 5 = .ok (.invokevirtual 42, 3) := by decide +kernel
theorem dX5_readNumber_8 : decode cX5_readNumber 8 = .ok (.invokestatic 82, 3) := by decide +kernel
theorem dX5_readNumber_11 : decode cX5_readNumber 11 = .ok (.ifCond .ne 5, 3) := by decide +kernel
theorem dX5_readNumber_14 : decode cX5_readNumber 14 = .ok (.iconst 0, 1) := by decide +kernel
theorem dX5_readNumber_15 : decode cX5_readNumber 15 = .ok (.ireturn, 1) := by decide +kernel
theorem dX5_readNumber_16 : decode cX5_readNumber 16 = .ok (.aload_n 1, 1) := by decide +kernel
theorem dX5_readNumber_17 : decode cX5_readNumber 17 = .ok (.aload_n 0, 1) := by decide +kernel
theorem dX5_readNumber_18 : decode cX5_readNumber 18 = .ok (.getfield 22, 3) := by decide +kernel
theorem dX5_readNumber_21 : decode cX5_readNumber 21 = .ok (.invokevirtual 42, 3) := by decide +kernel
theorem dX5_readNumber_24 : decode cX5_readNumber 24 = .ok (.bipush 48, 2) := by decide +kernel
theorem dX5_readNumber_26 : decode cX5_readNumber 26 = .ok (.isub, 1) := by decide +kernel
theorem dX5_readNumber_27 : decode cX5_readNumber 27 = .ok (.istore 4, 2) := by decide +kernel
theorem dX5_readNumber_29 : decode cX5_readNumber 29 = .ok (.aload_n 0, 1) := by decide +kernel
theorem dX5_readNumber_30 : decode cX5_readNumber 30 = .ok (.dup, 1) := by decide +kernel
theorem dX5_readNumber_31 : decode cX5_readNumber 31 = .ok (.getfield 22, 3) := by decide +kernel
theorem dX5_readNumber_34 : decode cX5_readNumber 34 = .ok (.iconst 1, 1) := by decide +kernel
theorem dX5_readNumber_35 : decode cX5_readNumber 35 = .ok (.iadd, 1) := by decide +kernel
theorem dX5_readNumber_36 : decode cX5_readNumber 36 = .ok (.putfield 22, 3) := by decide +kernel
theorem dX5_readNumber_39 : decode cX5_readNumber 39 = .ok (.iload_n 3, 1) := by decide +kernel
theorem dX5_readNumber_40 : decode cX5_readNumber 40 = .ok (.ifCond .eq 46, 3) := by decide +kernel
theorem dX5_readNumber_43 : decode cX5_readNumber 43 = .ok (.aload_n 1, 1) := by decide +kernel
theorem dX5_readNumber_44 : decode cX5_readNumber 44 = .ok (.aload_n 0, 1) := by decide +kernel
theorem dX5_readNumber_45 : decode cX5_readNumber 45 = .ok (.getfield 22, 3) := by decide +kernel
theorem dX5_readNumber_48 : decode cX5_readNumber 48 = .ok (.invokevirtual 42, 3) := by decide +kernel
theorem dX5_readNumber_51 : decode cX5_readNumber 51 = .ok (.invokestatic 82, 3) := by decide +kernel
theorem dX5_readNumber_54 : decode cX5_readNumber 54 = .ok (.ifCond .eq 32, 3) := by decide +kernel
theorem dX5_readNumber_57 : decode cX5_readNumber 57 = .ok (.iload 4, 2) := by decide +kernel
theorem dX5_readNumber_59 : decode cX5_readNumber 59 = .ok (.bipush 10, 2) := by decide +kernel
theorem dX5_readNumber_61 : decode cX5_readNumber 61 = .ok (.imul, 1) := by decide +kernel
theorem dX5_readNumber_62 : decode cX5_readNumber 62 = .ok (.aload_n 1, 1) := by decide +kernel
theorem dX5_readNumber_63 : decode cX5_readNumber 63 = .ok (.aload_n 0, 1) := by decide +kernel
theorem dX5_readNumber_64 : decode cX5_readNumber 64 = .ok (.getfield 22, 3) := by decide +kernel
theorem dX5_readNumber_67 : decode cX5_readNumber 67 = .ok (.invokevirtual 42, 3) := by decide +kernel
theorem dX5_readNumber_70 : decode cX5_readNumber 70 = .ok (.iadd, 1) := by decide +kernel
theorem dX5_readNumber_71 : decode cX5_readNumber 71 = .ok (.bipush 48, 2) := by decide +kernel
theorem dX5_readNumber_73 : decode cX5_readNumber 73 = .ok (.isub, 1) := by decide +kernel
theorem dX5_readNumber_74 : decode cX5_readNumber 74 = .ok (.istore 4, 2) := by decide +kernel
theorem dX5_readNumber_76 : decode cX5_readNumber 76 = .ok (.aload_n 0, 1) := by decide +kernel
theorem dX5_readNumber_77 : decode cX5_readNumber 77 = .ok (.dup, 1) := by decide +kernel
theorem dX5_readNumber_78 : decode cX5_readNumber 78 = .ok (.getfield 22, 3) := by decide +kernel
theorem dX5_readNumber_81 : decode cX5_readNumber 81 = .ok (.iconst 1, 1) := by decide +kernel
theorem dX5_readNumber_82 : decode cX5_readNumber 82 = .ok (.iadd, 1) := by decide +kernel
theorem dX5_readNumber_83 : decode cX5_readNumber 83 = .ok (.putfield 22, 3) := by decide +kernel
theorem dX5_readNumber_86 : decode cX5_readNumber 86 = .ok (.aload_n 0, 1) := by decide +kernel
theorem dX5_readNumber_87 : decode cX5_readNumber 87 = .ok (.getfield 15, 3) := by decide +kernel
theorem dX5_readNumber_90 : decode cX5_readNumber 90 = .ok (.aload_n 0, 1) := by decide +kernel
theorem dX5_readNumber_91 : decode cX5_readNumber 91 = .ok (.getfield 18, 3) := by decide +kernel
theorem dX5_readNumber_94 : decode cX5_readNumber 94 = .ok (.iconst 3, 1) := by decide +kernel
theorem dX5_readNumber_95 : decode cX5_readNumber 95 = .ok (.imul, 1) := by decide +kernel
theorem dX5_readNumber_96 : decode cX5_readNumber 96 = .ok (.iload_n 2, 1) := by decide +kernel
theorem dX5_readNumber_97 : decode cX5_readNumber 97 = .ok (.iadd, 1) := by decide +kernel
theorem dX5_readNumber_98 : decode cX5_readNumber 98 = .ok (.iload 4, 2) := by decide +kernel
theorem dX5_readNumber_100 : decode cX5_readNumber 100 = .ok (.invokestatic 56, 3) := by decide +kernel
theorem dX5_readNumber_103 : decode cX5_readNumber 103 = .ok (.iconst 1, 1) := by decide +kernel
theorem dX5_readNumber_104 : decode cX5_readNumber 104 = .ok (.ireturn, 1) := by decide +kernel
theorem dX5_isDigit_0 : decode cX5_isDigit 0 = .ok (.iload_n 0, 1) := by decide +kernel
theorem dX5_isDigit_1 : decode cX5_isDigit 1 = .ok (.bipush 48, 2) := by decide +kernel
theorem dX5_isDigit_3 : decode cX5_isDigit 3 = .ok (.if_icmp .lt 13, 3) := by decide +kernel
theorem dX5_isDigit_6 : decode cX5_isDigit 6 = .ok (.iload_n 0, 1) := by decide +kernel
theorem dX5_isDigit_7 : decode cX5_isDigit 7 = .ok (.bipush 57, 2) := by decide +kernel
theorem dX5_isDigit_9 : decode cX5_isDigit 9 = .ok (.if_icmp .gt 7, 3) := by decide +kernel
theorem dX5_isDigit_12 : decode cX5_isDigit 12 = .ok (.iconst 1, 1) := by decide +kernel
theorem dX5_isDigit_13 : decode cX5_isDigit 13 = .ok (.goto 4, 3) := by decide +kernel
theorem dX5_isDigit_16 : decode cX5_isDigit 16 = .ok (.iconst 0, 1) := by decide +kernel
theorem dX5_isDigit_17 : decode cX5_isDigit 17 = .ok (.ireturn, 1) := by decide +kernel
theorem dX6_init_0 : decode cX6_init 0 = .ok (.aload_n 0, 1) := by decide +kernel
theorem dX6_init_1 : decode cX6_init 1 = .ok (.invokespecial 3, 3) := by decide +kernel
theorem dX6_init_4 : decode cX6_init 4 = .ok (.aload_n 0, 1) := by decide +kernel
theorem dX6_init_5 : decode cX6_init 5 = .ok (.iconst 3, 1) := by decide +kernel
theorem dX6_init_6 : decode cX6_init 6 = .ok (.newarray .int, 2) := by decide +kernel
theorem dX6_init_8 : decode cX6_init 8 = .ok (.putfield 11, 3) := by decide +kernel
theorem dX6_init_11 : decode cX6_init 11 = .ok (.aload_n 0, 1) := by decide +kernel
theorem dX6_init_12 : decode cX6_init 12 = .ok (.iconst 3, 1) := by decide +kernel
theorem dX6_init_13 : decode cX6_init 13 = .ok (.newarray .int, 2) := by decide +kernel
theorem dX6_init_15 : decode cX6_init 15 = .ok (.putfield 15, 3) := by decide +kernel
theorem dX6_init_18 : decode cX6_init 18 = .ok (.aload_n 0, 1) := by decide +kernel
theorem dX6_init_19 : decode cX6_init 19 = .ok (.iconst 0, 1) := by decide +kernel
theorem dX6_init_20 : decode cX6_init 20 = .ok (.putfield 18, 3) := by decide +kernel
theorem dX6_init_23 : decode cX6_init 23 = .ok (.return_, 1) := by decide +kernel
theorem dX6_refuse_0 : decode cX6_refuse 0 = .ok (.aload_n 0, 1) := by decide +kernel
theorem dX6_refuse_1 : decode cX6_refuse 1 = .ok (.iconst 0, 1) := by decide +kernel
theorem dX6_refuse_2 : decode cX6_refuse 2 = .ok (.putfield 18, 3) := by decide +kernel
theorem dX6_refuse_5 : decode cX6_refuse 5 = .ok (.aload_n 0, 1) := by decide +kernel
theorem dX6_refuse_6 : decode cX6_refuse 6 = .ok (.iload_n 1, 1) := by decide +kernel
theorem dX6_refuse_7 : decode cX6_refuse 7 = .ok (.iload_n 2, 1) := by decide +kernel
theorem dX6_refuse_8 : decode cX6_refuse 8 = .ok (.invokevirtual 22, 3) := by decide +kernel
theorem dX6_refuse_11 : decode cX6_refuse 11 = .ok (.bipush (-3), 2) := by decide +kernel
theorem dX6_refuse_13 : decode cX6_refuse 13 = .ok (.ireturn, 1) := by decide +kernel
theorem dX6_refuseShut_0 : decode cX6_refuseShut 0 = .ok (.aload_n 0, 1) := by decide +kernel
theorem dX6_refuseShut_1 : decode cX6_refuseShut 1 = .ok (.bipush 6, 2) := by decide +kernel
theorem dX6_refuseShut_3 : decode cX6_refuseShut 3 = .ok (.iload_n 1, 1) := by decide +kernel
theorem dX6_refuseShut_4 : decode cX6_refuseShut 4 = .ok (.invokevirtual 26, 3) := by decide +kernel
theorem dX6_refuseShut_7 : decode cX6_refuseShut 7 = .ok (.pop, 1) := by decide +kernel
theorem dX6_refuseShut_8 : decode cX6_refuseShut 8 = .ok (.aload_n 0, 1) := by decide +kernel
theorem dX6_refuseShut_9 : decode cX6_refuseShut 9 = .ok (.bipush 13, 2) := by decide +kernel
theorem dX6_refuseShut_11 : decode cX6_refuseShut 11 = .ok (.iload_n 2, 1) := by decide +kernel
theorem dX6_refuseShut_12 : decode cX6_refuseShut 12 = .ok (.invokevirtual 22, 3) := by decide +kernel
theorem dX6_refuseShut_15 : decode cX6_refuseShut 15 = .ok (.bipush (-3), 2) := by decide +kernel
theorem dX6_refuseShut_17 : decode cX6_refuseShut 17 = .ok (.ireturn, 1) := by decide +kernel
theorem dX6_refuseOrder_0 : decode cX6_refuseOrder 0 = .ok (.iload_n 2, 1) := by decide +kernel
theorem dX6_refuseOrder_1 : decode cX6_refuseOrder 1 = .ok (.ifCond .eq 10, 3) := by decide +kernel
theorem dX6_refuseOrder_4 : decode cX6_refuseOrder 4 = .ok (.aload_n 0, 1) := by decide +kernel
theorem dX6_refuseOrder_5 : decode cX6_refuseOrder 5 = .ok (.getfield 18, 3) := by decide +kernel
theorem dX6_refuseOrder_8 : decode cX6_refuseOrder 8 = .ok (.goto 4, 3) := by decide +kernel
theorem dX6_refuseOrder_11 : decode cX6_refuseOrder 11 = .ok (.iconst 0, 1) := by decide +kernel
theorem dX6_refuseOrder_12 : decode cX6_refuseOrder 12 = .ok (.istore_n 3, 1) := by decide +kernel
theorem dX6_refuseOrder_13 : decode cX6_refuseOrder 13 = .ok (.iload_n 3, 1) := by decide +kernel
theorem dX6_refuseOrder_14 : decode cX6_refuseOrder 14 = .ok (.istore 4, 2) := by decide +kernel
theorem dX6_refuseOrder_16 : decode cX6_refuseOrder 16 = .ok (.iload 4, 2) := by decide +kernel
theorem dX6_refuseOrder_18 : decode cX6_refuseOrder 18 = .ok (.ifCond .le 49, 3) := by decide +kernel
theorem dX6_refuseOrder_21 : decode cX6_refuseOrder 21 = .ok (.aload_n 0, 1) := by decide +kernel
theorem dX6_refuseOrder_22 : decode cX6_refuseOrder 22 = .ok (.getfield 11, 3) := by decide +kernel
theorem dX6_refuseOrder_25 : decode cX6_refuseOrder 25 = .ok (.iload 4, 2) := by decide +kernel
theorem dX6_refuseOrder_27 : decode cX6_refuseOrder 27 = .ok (.aload_n 0, 1) := by decide +kernel
theorem dX6_refuseOrder_28 : decode cX6_refuseOrder 28 = .ok (.getfield 11, 3) := by decide +kernel
theorem dX6_refuseOrder_31 : decode cX6_refuseOrder 31 = .ok (.iload 4, 2) := by decide +kernel
theorem dX6_refuseOrder_33 : decode cX6_refuseOrder 33 = .ok (.iconst 1, 1) := by decide +kernel
theorem dX6_refuseOrder_34 : decode cX6_refuseOrder 34 = .ok (.isub, 1) := by decide +kernel
theorem dX6_refuseOrder_35 : decode cX6_refuseOrder 35 = .ok (.invokestatic 30, 3) := by decide +kernel
theorem dX6_refuseOrder_38 : decode cX6_refuseOrder 38 = .ok (.invokestatic 34, 3) := by decide +kernel
theorem dX6_refuseOrder_41 : decode cX6_refuseOrder 41 = .ok (.aload_n 0, 1) := by decide +kernel
theorem dX6_refuseOrder_42 : decode cX6_refuseOrder 42 = .ok (.getfield 15, 3) := by decide +kernel
theorem dX6_refuseOrder_45 : decode cX6_refuseOrder 45 = .ok (.iload 4, 2) := by decide +kernel
theorem dX6_refuseOrder_47 : decode cX6_refuseOrder 47 = .ok (.aload_n 0, 1) := by decide +kernel
theorem dX6_refuseOrder_48 : decode cX6_refuseOrder 48 = .ok (.getfield 15, 3) := by decide +kernel
theorem dX6_refuseOrder_51 : decode cX6_refuseOrder 51 = .ok (.iload 4, 2) := by decide +kernel
theorem dX6_refuseOrder_53 : decode cX6_refuseOrder 53 = .ok (.iconst 1, 1) := by decide +kernel
theorem dX6_refuseOrder_54 : decode cX6_refuseOrder 54 = .ok (.isub, 1) := by decide +kernel
theorem dX6_refuseOrder_55 : decode cX6_refuseOrder 55 = .ok (.invokestatic 30, 3) := by decide +kernel
theorem dX6_refuseOrder_58 : decode cX6_refuseOrder 58 = .ok (.invokestatic 34, 3) := by decide +kernel
theorem dX6_refuseOrder_61 : decode cX6_refuseOrder 61 = .ok (.iinc 4 (-1), 3) := by decide +kernel
theorem dX6_refuseOrder_64 : decode cX6_refuseOrder 64 = .ok (.goto (-48), 3) := by decide +kernel
theorem dX6_refuseOrder_67 : decode cX6_refuseOrder 67 = .ok (.aload_n 0, 1) := by decide +kernel
theorem dX6_refuseOrder_68 : decode cX6_refuseOrder 68 = .ok (.getfield 11, 3) := by decide +kernel
theorem dX6_refuseOrder_71 : decode cX6_refuseOrder 71 = .ok (.iconst 0, 1) := by decide +kernel
theorem dX6_refuseOrder_72 : decode cX6_refuseOrder 72 = .ok (.bipush 12, 2) := by decide +kernel
theorem dX6_refuseOrder_74 : decode cX6_refuseOrder 74 = .ok (.invokestatic 34, 3) := by decide +kernel
theorem dX6_refuseOrder_77 : decode cX6_refuseOrder 77 = .ok (.aload_n 0, 1) := by decide +kernel
theorem dX6_refuseOrder_78 : decode cX6_refuseOrder 78 = .ok (.getfield 15, 3) := by decide +kernel
theorem dX6_refuseOrder_81 : decode cX6_refuseOrder 81 = .ok (.iconst 0, 1) := by decide +kernel
theorem dX6_refuseOrder_82 : decode cX6_refuseOrder 82 = .ok (.iload_n 1, 1) := by decide +kernel
theorem dX6_refuseOrder_83 : decode cX6_refuseOrder 83 = .ok (.invokestatic 34, 3) := by decide +kernel
theorem dX6_refuseOrder_86 : decode cX6_refuseOrder 86 = .ok (.aload_n 0, 1) := by decide +kernel
theorem dX6_refuseOrder_87 : decode cX6_refuseOrder 87 = .ok (.iload_n 3, 1) := by decide +kernel
theorem dX6_refuseOrder_88 : decode cX6_refuseOrder 88 = .ok (.iconst 1, 1) := by decide +kernel
theorem dX6_refuseOrder_89 : decode cX6_refuseOrder 89 = .ok (.iadd, 1) := by decide +kernel
theorem dX6_refuseOrder_90 : decode cX6_refuseOrder 90 = .ok (.iconst 3, 1) := by decide +kernel
theorem dX6_refuseOrder_91 : decode cX6_refuseOrder 91 = .ok (.invokestatic 38, 3) := by decide +kernel
theorem dX6_refuseOrder_94 : decode cX6_refuseOrder 94 = .ok (.putfield 18, 3) := by decide +kernel
theorem dX6_refuseOrder_97 : decode cX6_refuseOrder 97 = .ok (.bipush (-3), 2) := by decide +kernel
theorem dX6_refuseOrder_99 : decode cX6_refuseOrder 99 = .ok (.ireturn, 1) := by decide +kernel
theorem dX6_tell_0 : decode cX6_tell 0 = .ok (.iload_n 1, 1) := by decide +kernel
theorem dX6_tell_1 : decode cX6_tell 1 = .ok (.ifCond .ge 6, 3) := by decide +kernel
theorem dX6_tell_4 : decode cX6_tell 4 = .ok (.bipush (-2), 2) := by decide +kernel
theorem dX6_tell_6 : decode cX6_tell 6 = .ok (.ireturn, 1) := by decide +kernel
theorem dX6_tell_7 : decode cX6_tell 7 = .ok (.iload_n 1, 1) := by decide +kernel
theorem dX6_tell_8 : decode cX6_tell 8 = .ok (.aload_n 0, 1) := by decide +kernel
theorem dX6_tell_9 : decode cX6_tell 9 = .ok (.getfield 18, 3) := by decide +kernel
theorem dX6_tell_12 : decode cX6_tell 12 = .ok (.if_icmp .lt 6, 3) := by decide +kernel
theorem dX6_tell_15 : decode cX6_tell 15 = .ok (.bipush (-4), 2) := by decide +kernel
theorem dX6_tell_17 : decode cX6_tell 17 = .ok (.ireturn, 1) := by decide +kernel
theorem dX6_tell_18 : decode cX6_tell 18 = .ok (.iload_n 2, 1) := by decide +kernel
theorem dX6_tell_19 : decode cX6_tell 19 = .ok (.ifCond .eq 10, 3) := by decide +kernel
theorem dX6_tell_22 : decode cX6_tell 22 = .ok (.aload_n 0, 1) := by decide +kernel
theorem dX6_tell_23 : decode cX6_tell 23 = .ok (.getfield 15, 3) := by decide +kernel
theorem dX6_tell_26 : decode cX6_tell 26 = .ok (.goto 7, 3) := by decide +kernel
theorem dX6_tell_29 : decode cX6_tell 29 = .ok (.aload_n 0, 1) := by decide +kernel
theorem dX6_tell_30 : decode cX6_tell 30 = .ok (.getfield 11, 3) := by decide +kernel
theorem dX6_tell_33 : decode cX6_tell 33 = .ok (.iload_n 1, 1) := by decide +kernel
theorem dX6_tell_34 : decode cX6_tell 34 = .ok (.invokestatic 30, 3) := by decide +kernel
theorem dX6_tell_37 : decode cX6_tell 37 = .ok (.ireturn, 1) := by decide +kernel
theorem dX6_putBehind_0 : decode cX6_putBehind 0 = .ok (.aload_n 0, 1) := by decide +kernel
theorem dX6_putBehind_1 : decode cX6_putBehind 1 = .ok (.getfield 11, 3) := by decide +kernel
theorem dX6_putBehind_4 : decode cX6_putBehind 4 = .ok (.aload_n 0, 1) := by decide +kernel
theorem dX6_putBehind_5 : decode cX6_putBehind 5 = .ok (.getfield 18, 3) := by decide +kernel
theorem dX6_putBehind_8 : decode cX6_putBehind 8 = .ok (.iload_n 1, 1) := by decide +kernel
theorem dX6_putBehind_9 : decode cX6_putBehind 9 = .ok (.invokestatic 34, 3) := by decide +kernel
theorem dX6_putBehind_12 : decode cX6_putBehind 12 = .ok (.aload_n 0, 1) := by decide +kernel
theorem dX6_putBehind_13 : decode cX6_putBehind 13 = .ok (.getfield 15, 3) := by decide +kernel
theorem dX6_putBehind_16 : decode cX6_putBehind 16 = .ok (.aload_n 0, 1) := by decide +kernel
theorem dX6_putBehind_17 : decode cX6_putBehind 17 = .ok (.getfield 18, 3) := by decide +kernel
theorem dX6_putBehind_20 : decode cX6_putBehind 20 = .ok (.iload_n 2, 1) := by decide +kernel
theorem dX6_putBehind_21 : decode cX6_putBehind 21 = .ok (.invokestatic 34, 3) := by decide +kernel
theorem dX6_putBehind_24 : decode cX6_putBehind 24 = .ok (.aload_n 0, 1) := by decide +kernel
theorem dX6_putBehind_25 : decode cX6_putBehind 25 = .ok (.dup, 1) := by decide +kernel
theorem dX6_putBehind_26 : decode cX6_putBehind 26 = .ok (.getfield 18, 3) := by decide +kernel
theorem dX6_putBehind_29 : decode cX6_putBehind 29 = .ok (.iconst 1, 1) := by decide +kernel
theorem dX6_putBehind_30 : decode cX6_putBehind 30 = .ok (.iadd, 1) := by decide +kernel
theorem dX6_putBehind_31 : decode cX6_putBehind 31 = .ok (.putfield 18, 3) := by decide +kernel
theorem dX6_putBehind_34 : decode cX6_putBehind 34 = .ok (.return_, 1) := by decide +kernel
theorem dX7_init_0 : decode cX7_init 0 = .ok (.aload_n 0, 1) := by decide +kernel
theorem dX7_init_1 : decode cX7_init 1 = .ok (.invokespecial 3, 3) := by decide +kernel
theorem dX7_init_4 : decode cX7_init 4 = .ok (.aload_n 0, 1) := by decide +kernel
theorem dX7_init_5 : decode cX7_init 5 = .ok (.new 9, 3) := by decide +kernel
theorem dX7_init_8 : decode cX7_init 8 = .ok (.dup, 1) := by decide +kernel
theorem dX7_init_9 : decode cX7_init 9 = .ok (.invokespecial 11, 3) := by decide +kernel
theorem dX7_init_12 : decode cX7_init 12 = .ok (.putfield 12, 3) := by decide +kernel
theorem dX7_init_15 : decode cX7_init 15 = .ok (.aload_n 0, 1) := by decide +kernel
theorem dX7_init_16 : decode cX7_init 16 = .ok (.new 18, 3) := by decide +kernel
theorem dX7_init_19 : decode cX7_init 19 = .ok (.dup, 1) := by decide +kernel
theorem dX7_init_20 : decode cX7_init 20 = .ok (.invokespecial 20, 3) := by decide +kernel
theorem dX7_init_23 : decode cX7_init 23 = .ok (.putfield 21, 3) := by decide +kernel
theorem dX7_init_26 : decode cX7_init 26 = .ok (.aload_n 0, 1) := by decide +kernel
theorem dX7_init_27 : decode cX7_init 27 = .ok (.new 25, 3) := by decide +kernel
theorem dX7_init_30 : decode cX7_init 30 = .ok (.dup, 1) := by decide +kernel
theorem dX7_init_31 : decode cX7_init 31 = .ok (.invokespecial 27, 3) := by decide +kernel
theorem dX7_init_34 : decode cX7_init 34 = .ok (.putfield 28, 3) := by decide +kernel
theorem dX7_init_37 : decode cX7_init 37 = .ok (.aload_n 0, 1) := by decide +kernel
theorem dX7_init_38 : decode cX7_init 38 = .ok (.new 32, 3) := by decide +kernel
theorem dX7_init_41 : decode cX7_init 41 = .ok (.dup, 1) := by decide +kernel
theorem dX7_init_42 : decode cX7_init 42 = .ok (.invokespecial 34, 3) := by decide +kernel
theorem dX7_init_45 : decode cX7_init 45 = .ok (.putfield 35, 3) := by decide +kernel
theorem dX7_init_48 : decode cX7_init 48 = .ok (.aload_n 0, 1) := by decide +kernel
theorem dX7_init_49 : decode cX7_init 49 = .ok (.iconst 0, 1) := by decide +kernel
theorem dX7_init_50 : decode cX7_init 50 = .ok (.putfield 39, 3) := by decide +kernel
theorem dX7_init_53 : decode cX7_init 53 = .ok (.aload_n 0, 1) := by decide +kernel
theorem dX7_init_54 : decode cX7_init 54 = .ok (.iconst 0, 1) := by decide +kernel
theorem dX7_init_55 : decode cX7_init 55 = .ok (.putfield 43, 3) := by decide +kernel
theorem dX7_init_58 : decode cX7_init 58 = .ok (.aload_n 0, 1) := by decide +kernel
theorem dX7_init_59 : decode cX7_init 59 = .ok (.bipush 60, 2) := by decide +kernel
theorem dX7_init_61 : decode cX7_init 61 = .ok (.putfield 46, 3) := by decide +kernel
theorem dX7_init_64 : decode cX7_init 64 = .ok (.aload_n 0, 1) := by decide +kernel
theorem dX7_init_65 : decode cX7_init 65 = .ok (.bipush 20, 2) := by decide +kernel
theorem dX7_init_67 : decode cX7_init 67 = .ok (.putfield 49, 3) := by decide +kernel
theorem dX7_init_70 : decode cX7_init 70 = .ok (.aload_n 0, 1) := by decide +kernel
theorem dX7_init_71 : decode cX7_init 71 = .ok (.iconst 0, 1) := by decide +kernel
theorem dX7_init_72 : decode cX7_init 72 = .ok (.putfield 52, 3) := by decide +kernel
theorem dX7_init_75 : decode cX7_init 75 = .ok (.aload_n 0, 1) := by decide +kernel
theorem dX7_init_76 : decode cX7_init 76 = .ok (.iconst 0, 1) := by decide +kernel
theorem dX7_init_77 : decode cX7_init 77 = .ok (.putfield 55, 3) := by decide +kernel
theorem dX7_init_80 : decode cX7_init 80 = .ok (.aload_n 0, 1) := by decide +kernel
theorem dX7_init_81 : decode cX7_init 81 = .ok (.iconst 0, 1) := by decide +kernel
theorem dX7_init_82 : decode cX7_init 82 = .ok (.putfield 58, 3) := by decide +kernel
theorem dX7_init_85 : decode cX7_init 85 = .ok (.aload_n 0, 1) := by decide +kernel
theorem dX7_init_86 : decode cX7_init 86 = .ok (.iconst 0, 1) := by decide +kernel
theorem dX7_init_87 : decode cX7_init 87 = .ok (.putfield 61, 3) := by decide +kernel
theorem dX7_init_90 : decode cX7_init 90 = .ok (.aload_n 0, 1) := by decide +kernel
theorem dX7_init_91 : decode cX7_init 91 = .ok (.iconst 0, 1) := by decide +kernel
theorem dX7_init_92 : decode cX7_init 92 = .ok (.putfield 64, 3) := by decide +kernel
theorem dX7_init_95 : decode cX7_init 95 = .ok (.aload_n 0, 1) := by decide +kernel
theorem dX7_init_96 : decode cX7_init 96 = .ok (.iconst 0, 1) := by decide +kernel
theorem dX7_init_97 : decode cX7_init 97 = .ok (.putfield 67, 3) := by decide +kernel
theorem dX7_init_100 : decode cX7_init 100 = .ok (.return_, 1) := by decide +kernel
theorem dX7_isWarned_0 : decode cX7_isWarned 0 = .ok (.aload_n 0, 1) := by decide +kernel
theorem dX7_isWarned_1 : decode cX7_isWarned 1 = .ok (.getfield 43, 3) := by decide +kernel
theorem dX7_isWarned_4 : decode cX7_isWarned 4 = .ok (.iconst 3, 1) := by decide +kernel
theorem dX7_isWarned_5 : decode cX7_isWarned 5 = .ok (.if_icmp .lt 7, 3) := by decide +kernel
theorem dX7_isWarned_8 : decode cX7_isWarned 8 = .ok (.iconst 1, 1) := by decide +kernel
theorem dX7_isWarned_9 : decode cX7_isWarned 9 = .ok (.goto 4, 3) := by decide +kernel
theorem dX7_isWarned_12 : decode cX7_isWarned 12 = .ok (.iconst 0, 1) := by decide +kernel
theorem dX7_isWarned_13 : decode cX7_isWarned 13 = .ok (.ireturn, 1) := by decide +kernel
theorem dX7_passDay_0 : decode cX7_passDay 0 = .ok (.iconst 0, 1) := by decide +kernel
theorem dX7_passDay_1 : decode cX7_passDay 1 = .ok (.istore_n 1, 1) := by decide +kernel
theorem dX7_passDay_2 : decode cX7_passDay 2 = .ok (.iload_n 1, 1) := by decide +kernel
theorem dX7_passDay_3 : decode cX7_passDay 3 = .ok (.aload_n 0, 1) := by decide +kernel
theorem dX7_passDay_4 : decode cX7_passDay 4 = .ok (.getfield 28, 3) := by decide +kernel
theorem dX7_passDay_7 : decode cX7_passDay 7 = .ok (.getfield 70, 3) := by decide +kernel
theorem dX7_passDay_10 : decode cX7_passDay 10 = .ok (.if_icmp .ge 22, 3) := by decide +kernel
theorem dX7_passDay_13 : decode cX7_passDay 13 = .ok (.aload_n 0, 1) := by decide +kernel
theorem dX7_passDay_14 : decode cX7_passDay 14 = .ok (.iload_n 1, 1) := by decide +kernel
theorem dX7_passDay_15 : decode cX7_passDay 15 = .ok (.invokevirtual 73, 3) := by decide +kernel
theorem dX7_passDay_18 : decode cX7_passDay 18 = .ok (.ifCond .eq 8, 3) := by decide +kernel
theorem dX7_passDay_21 : decode cX7_passDay 21 = .ok (.aload_n 0, 1) := by decide +kernel
theorem dX7_passDay_22 : decode cX7_passDay 22 = .ok (.iload_n 1, 1) := by decide +kernel
theorem dX7_passDay_23 : decode cX7_passDay 23 = .ok (.invokevirtual 77, 3) := by decide +kernel
theorem dX7_passDay_26 : decode cX7_passDay 26 = .ok (.iinc 1 1, 3) := by decide +kernel
theorem dX7_passDay_29 : decode cX7_passDay 29 = .ok (.goto (-27), 3) := by decide +kernel
theorem dX7_passDay_32 : decode cX7_passDay 32 = .ok (.aload_n 0, 1) := by decide +kernel
theorem dX7_passDay_33 : decode cX7_passDay 33 = .ok (.getfield 43, 3) := by decide +kernel
theorem dX7_passDay_36 : decode cX7_passDay 36 = .ok (.bipush 8, 2) := by decide +kernel
theorem dX7_passDay_38 : decode cX7_passDay 38 = .ok (.if_icmp .lt 7, 3) := by decide +kernel
theorem dX7_passDay_41 : decode cX7_passDay 41 = .ok (.iconst 1, 1) := by decide +kernel
theorem dX7_passDay_42 : decode cX7_passDay 42 = .ok (.goto 4, 3) := by decide +kernel
theorem dX7_passDay_45 : decode cX7_passDay 45 = .ok (.iconst 0, 1) := by decide +kernel
theorem dX7_passDay_46 : decode cX7_passDay 46 = .ok (.istore_n 1, 1) := by decide +kernel
theorem dX7_passDay_47 : decode cX7_passDay 47 = .ok (.aload_n 0, 1) := by decide +kernel
theorem dX7_passDay_48 : decode cX7_passDay 48 = .ok (.getfield 21, 3) := by decide +kernel
theorem dX7_passDay_51 : decode cX7_passDay 51 = .ok (.iload_n 1, 1) := by decide +kernel
theorem dX7_passDay_52 : decode cX7_passDay 52 = .ok (.ifCond .eq 7, 3) := by decide +kernel
theorem dX7_passDay_55 : decode cX7_passDay 55 = .ok (.iconst 4, 1) := by decide +kernel
theorem dX7_passDay_56 : decode cX7_passDay 56 = .ok (.goto 4, 3) := by decide +kernel
theorem dX7_passDay_59 : decode cX7_passDay 59 = .ok (.iconst 1, 1) := by decide +kernel
theorem dX7_passDay_60 : decode cX7_passDay 60 = .ok (.invokevirtual 81, 3) := by decide +kernel
theorem dX7_passDay_63 : decode cX7_passDay 63 = .ok (.iload_n 1, 1) := by decide +kernel
theorem dX7_passDay_64 : decode cX7_passDay 64 = .ok (.ifCond .eq 18, 3) := by decide +kernel
theorem dX7_passDay_67 : decode cX7_passDay 67 = .ok (.aload_n 0, 1) := by decide +kernel
theorem dX7_passDay_68 : decode cX7_passDay 68 = .ok (.aload_n 0, 1) := by decide +kernel
theorem dX7_passDay_69 : decode cX7_passDay 69 = .ok (.getfield 21, 3) := by decide +kernel
theorem dX7_passDay_72 : decode cX7_passDay 72 = .ok (.aload_n 0, 1) := by decide +kernel
theorem dX7_passDay_73 : decode cX7_passDay 73 = .ok (.getfield 43, 3) := by decide +kernel
theorem dX7_passDay_76 : decode cX7_passDay 76 = .ok (.invokevirtual 84, 3) := by decide +kernel
theorem dX7_passDay_79 : decode cX7_passDay 79 = .ok (.invokevirtual 88, 3) := by decide +kernel
theorem dX7_passDay_82 : decode cX7_passDay 82 = .ok (.aload_n 0, 1) := by decide +kernel
theorem dX7_passDay_83 : decode cX7_passDay 83 = .ok (.dup, 1) := by decide +kernel
theorem dX7_passDay_84 : decode cX7_passDay 84 = .ok (.getfield 39, 3) := by decide +kernel
theorem dX7_passDay_87 : decode cX7_passDay 87 = .ok (.iconst 1, 1) := by decide +kernel
theorem dX7_passDay_88 : decode cX7_passDay 88 = .ok (.iadd, 1) := by decide +kernel
theorem dX7_passDay_89 : decode cX7_passDay 89 = .ok (.putfield 39, 3) := by decide +kernel
theorem dX7_passDay_92 : decode cX7_passDay 92 = .ok (.aload_n 0, 1) := by decide +kernel
theorem dX7_passDay_93 : decode cX7_passDay 93 = .ok (.bipush 20, 2) := by decide +kernel
theorem dX7_passDay_95 : decode cX7_passDay 95 = .ok (.putfield 49, 3) := by decide +kernel
theorem dX7_passDay_98 : decode cX7_passDay 98 = .ok (.aload_n 0, 1) := by decide +kernel
theorem dX7_passDay_99 : decode cX7_passDay 99 = .ok (.getfield 39, 3) := by decide +kernel
theorem dX7_passDay_102 : decode cX7_passDay 102 = .ok (.bipush 7, 2) := by decide +kernel
theorem dX7_passDay_104 : decode cX7_passDay 104 = .ok (.irem, 1) := by decide +kernel
theorem dX7_passDay_105 : decode cX7_passDay 105 = .ok (.ifCond .ne 17, 3) := by decide +kernel
theorem dX7_passDay_108 : decode cX7_passDay 108 = .ok (.aload_n 0, 1) := by decide +kernel
theorem dX7_passDay_109 : decode cX7_passDay 109 = .ok (.getfield 12, 3) := by decide +kernel
theorem dX7_passDay_112 : decode cX7_passDay 112 = .ok (.invokevirtual 91, 3) := by decide +kernel
theorem dX7_passDay_115 : decode cX7_passDay 115 = .ok (.aload_n 0, 1) := by decide +kernel
theorem dX7_passDay_116 : decode cX7_passDay 116 = .ok (.getfield 21, 3) := by decide +kernel
theorem dX7_passDay_119 : decode cX7_passDay 119 = .ok (.invokevirtual 94, 3) := by decide +kernel
theorem dX7_passDay_122 : decode cX7_passDay 122 = .ok (.return_, 1) := by decide +kernel
theorem dX7_wouldWork_0 : decode cX7_wouldWork 0 = .ok (.aload_n 0, 1) := by decide +kernel
theorem dX7_wouldWork_1 : decode cX7_wouldWork 1 = .ok (.getfield 28, 3) := by decide +kernel
theorem dX7_wouldWork_4 : decode cX7_wouldWork 4 = .ok (.iload_n 1, 1) := by decide +kernel
theorem dX7_wouldWork_5 : decode cX7_wouldWork 5 = .ok (.invokevirtual 97, 3) := by decide +kernel
theorem dX7_wouldWork_8 : decode cX7_wouldWork 8 = .ok (.ifCond .ne 5, 3) := by decide +kernel
theorem dX7_wouldWork_11 : decode cX7_wouldWork 11 = .ok (.iconst 0, 1) := by decide +kernel
theorem dX7_wouldWork_12 : decode cX7_wouldWork 12 = .ok (.ireturn, 1) := by decide +kernel
theorem dX7_wouldWork_13 : decode cX7_wouldWork 13 = .ok (.aload_n 0, 1) := by decide +kernel
theorem dX7_wouldWork_14 : decode cX7_wouldWork 14 = .ok (.getfield 28, 3) := by decide +kernel
theorem dX7_wouldWork_17 : decode cX7_wouldWork 17 = .ok (.iload_n 1, 1) := by decide +kernel
theorem dX7_wouldWork_18 : decode cX7_wouldWork 18 = .ok (.invokevirtual 100, 3) := by decide +kernel
theorem dX7_wouldWork_21 : decode cX7_wouldWork 21 = .ok (.istore_n 2, 1) := by decide +kernel
theorem dX7_wouldWork_22 : decode cX7_wouldWork 22 = .ok (.aload_n 0, 1) := by decide +kernel
theorem dX7_wouldWork_23 : decode cX7_wouldWork 23 = .ok (.getfield 21, 3) := by decide +kernel
theorem dX7_wouldWork_26 : decode cX7_wouldWork 26 = .ok (.iload_n 2, 1) := by decide +kernel
theorem dX7_wouldWork_27 : decode cX7_wouldWork 27 = .ok (.invokevirtual 103, 3) := by decide +kernel
theorem dX7_wouldWork_30 : decode cX7_wouldWork 30 = .ok (.bipush (-4), 2) := by decide +kernel
theorem dX7_wouldWork_32 : decode cX7_wouldWork 32 = .ok (.if_icmp .ne 29, 3) := by decide +kernel
theorem dX7_wouldWork_35 : decode cX7_wouldWork 35 = .ok (.aload_n 0, 1) := by decide +kernel
theorem dX7_wouldWork_36 : decode cX7_wouldWork 36 = .ok (.getfield 21, 3) := by decide +kernel
theorem dX7_wouldWork_39 : decode cX7_wouldWork 39 = .ok (.iload_n 2, 1) := by decide +kernel
theorem dX7_wouldWork_40 : decode cX7_wouldWork 40 = .ok (.invokevirtual 106, 3) := by decide +kernel
theorem dX7_wouldWork_43 : decode cX7_wouldWork 43 = .ok (.ifCond .le 18, 3) := by decide +kernel
theorem dX7_wouldWork_46 : decode cX7_wouldWork 46 = .ok (.aload_n 0, 1) := by decide +kernel
theorem dX7_wouldWork_47 : decode cX7_wouldWork 47 = .ok (.getfield 21, 3) := by decide +kernel
theorem dX7_wouldWork_50 : decode cX7_wouldWork 50 = .ok (.iload_n 2, 1) := by decide +kernel
theorem dX7_wouldWork_51 : decode cX7_wouldWork 51 = .ok (.invokevirtual 109, 3) := by decide +kernel
theorem dX7_wouldWork_54 : decode cX7_wouldWork 54 = .ok (.ifCond .le 7, 3) := by decide +kernel
theorem dX7_wouldWork_57 : decode cX7_wouldWork 57 = .ok (.iconst 1, 1) := by decide +kernel
theorem dX7_wouldWork_58 : decode cX7_wouldWork 58 = .ok (.goto 4, 3) := by decide +kernel
theorem dX7_wouldWork_61 : decode cX7_wouldWork 61 = .ok (.iconst 0, 1) := by decide +kernel
theorem dX7_wouldWork_62 : decode cX7_wouldWork 62 = .ok (.ireturn, 1) := by decide +kernel
theorem dX7_letWork_0 : decode cX7_letWork 0 = .ok (.aload_n 0, 1) := by decide +kernel
theorem dX7_letWork_1 : decode cX7_letWork 1 = .ok (.getfield 28, 3) := by decide +kernel
theorem dX7_letWork_4 : decode cX7_letWork 4 = .ok (.iload_n 1, 1) := by decide +kernel
theorem dX7_letWork_5 : decode cX7_letWork 5 = .ok (.invokevirtual 100, 3) := by decide +kernel
theorem dX7_letWork_8 : decode cX7_letWork 8 = .ok (.istore_n 2, 1) := by decide +kernel
theorem dX7_letWork_9 : decode cX7_letWork 9 = .ok (.aload_n 0, 1) := by decide +kernel
theorem dX7_letWork_10 : decode cX7_letWork 10 = .ok (.getfield 28, 3) := by decide +kernel
theorem dX7_letWork_13 : decode cX7_letWork 13 = .ok (.iload_n 1, 1) := by decide +kernel
theorem dX7_letWork_14 : decode cX7_letWork 14 = .ok (.invokevirtual 112, 3) := by decide +kernel
theorem dX7_letWork_17 : decode cX7_letWork 17 = .ok (.aload_n 0, 1) := by decide +kernel
theorem dX7_letWork_18 : decode cX7_letWork 18 = .ok (.getfield 21, 3) := by decide +kernel
theorem dX7_letWork_21 : decode cX7_letWork 21 = .ok (.iload_n 2, 1) := by decide +kernel
theorem dX7_letWork_22 : decode cX7_letWork 22 = .ok (.invokevirtual 106, 3) := by decide +kernel
theorem dX7_letWork_25 : decode cX7_letWork 25 = .ok (.invokestatic 115, 3) := by decide +kernel
theorem dX7_letWork_28 : decode cX7_letWork 28 = .ok (.istore_n 3, 1) := by decide +kernel
theorem dX7_letWork_29 : decode cX7_letWork 29 = .ok (.aload_n 0, 1) := by decide +kernel
theorem dX7_letWork_30 : decode cX7_letWork 30 = .ok (.getfield 21, 3) := by decide +kernel
theorem dX7_letWork_33 : decode cX7_letWork 33 = .ok (.iload_n 2, 1) := by decide +kernel
theorem dX7_letWork_34 : decode cX7_letWork 34 = .ok (.iload_n 3, 1) := by decide +kernel
theorem dX7_letWork_35 : decode cX7_letWork 35 = .ok (.invokevirtual 121, 3) := by decide +kernel
theorem dX7_letWork_38 : decode cX7_letWork 38 = .ok (.aload_n 0, 1) := by decide +kernel
theorem dX7_letWork_39 : decode cX7_letWork 39 = .ok (.getfield 28, 3) := by decide +kernel
theorem dX7_letWork_42 : decode cX7_letWork 42 = .ok (.iload_n 1, 1) := by decide +kernel
theorem dX7_letWork_43 : decode cX7_letWork 43 = .ok (.iload_n 3, 1) := by decide +kernel
theorem dX7_letWork_44 : decode cX7_letWork 44 = .ok (.invokevirtual 125, 3) := by decide +kernel
theorem dX7_letWork_47 : decode cX7_letWork 47 = .ok (.aload_n 0, 1) := by decide +kernel
theorem dX7_letWork_48 : decode cX7_letWork 48 = .ok (.dup, 1) := by decide +kernel
theorem dX7_letWork_49 : decode cX7_letWork 49 = .ok (.getfield 58, 3) := by decide +kernel
theorem dX7_letWork_52 : decode cX7_letWork 52 = .ok (.iload_n 3, 1) := by decide +kernel
theorem dX7_letWork_53 : decode cX7_letWork 53 = .ok (.iadd, 1) := by decide +kernel
theorem dX7_letWork_54 : decode cX7_letWork 54 = .ok (.putfield 58, 3) := by decide +kernel
theorem dX7_letWork_57 : decode cX7_letWork 57 = .ok (.return_, 1) := by decide +kernel
theorem dX7_letFallFrom_0 : decode cX7_letFallFrom 0 = .ok (.iload_n 1, 1) := by decide +kernel
theorem dX7_letFallFrom_1 : decode cX7_letFallFrom 1 = .ok (.bipush (-4), 2) := by decide +kernel
theorem dX7_letFallFrom_3 : decode cX7_letFallFrom 3 = .ok (.if_icmp .ne 4, 3) := by decide +kernel
theorem dX7_letFallFrom_6 : decode cX7_letFallFrom 6 = .ok (.return_, 1) := by decide +kernel
theorem dX7_letFallFrom_7 : decode cX7_letFallFrom 7 = .ok (.iload_n 1, 1) := by decide +kernel
theorem dX7_letFallFrom_8 : decode cX7_letFallFrom 8 = .ok (.istore_n 2, 1) := by decide +kernel
theorem dX7_letFallFrom_9 : decode cX7_letFallFrom 9 = .ok (.iload_n 2, 1) := by decide +kernel
theorem dX7_letFallFrom_10 : decode cX7_letFallFrom 10 = .ok (.aload_n 0, 1) := by decide +kernel
theorem dX7_letFallFrom_11 : decode cX7_letFallFrom 11 = .ok (.getfield 21, 3) := by decide +kernel
theorem dX7_letFallFrom_14 : decode cX7_letFallFrom 14 = .ok (.getfield 128, 3) := by decide +kernel
theorem dX7_letFallFrom_17 : decode cX7_letFallFrom 17 = .ok (.if_icmp .ge 53, 3) := by decide +kernel
theorem dX7_letFallFrom_20 : decode cX7_letFallFrom 20 = .ok (.aload_n 0, 1) := by decide +kernel
theorem dX7_letFallFrom_21 : decode cX7_letFallFrom 21 = .ok (.dup, 1) := by decide +kernel
theorem dX7_letFallFrom_22 : decode cX7_letFallFrom 22 = .ok (.getfield 64, 3) := by decide +kernel
theorem dX7_letFallFrom_25 : decode cX7_letFallFrom 25 = .ok (.iconst 1, 1) := by decide +kernel
theorem dX7_letFallFrom_26 : decode cX7_letFallFrom 26 = .ok (.iadd, 1) := by decide +kernel
theorem dX7_letFallFrom_27 : decode cX7_letFallFrom 27 = .ok (.putfield 64, 3) := by decide +kernel
theorem dX7_letFallFrom_30 : decode cX7_letFallFrom 30 = .ok (.aload_n 0, 1) := by decide +kernel
theorem dX7_letFallFrom_31 : decode cX7_letFallFrom 31 = .ok (.dup, 1) := by decide +kernel
theorem dX7_letFallFrom_32 : decode cX7_letFallFrom 32 = .ok (.getfield 67, 3) := by decide +kernel
theorem dX7_letFallFrom_35 : decode cX7_letFallFrom 35 = .ok (.aload_n 0, 1) := by decide +kernel
theorem dX7_letFallFrom_36 : decode cX7_letFallFrom 36 = .ok (.getfield 21, 3) := by decide +kernel
theorem dX7_letFallFrom_39 : decode cX7_letFallFrom 39 = .ok (.iload_n 2, 1) := by decide +kernel
theorem dX7_letFallFrom_40 : decode cX7_letFallFrom 40 = .ok (.invokevirtual 129, 3) := by decide +kernel
theorem dX7_letFallFrom_43 : decode cX7_letFallFrom 43 = .ok (.iadd, 1) := by decide +kernel
theorem dX7_letFallFrom_44 : decode cX7_letFallFrom 44 = .ok (.putfield 67, 3) := by decide +kernel
theorem dX7_letFallFrom_47 : decode cX7_letFallFrom 47 = .ok (.aload_n 0, 1) := by decide +kernel
theorem dX7_letFallFrom_48 : decode cX7_letFallFrom 48 = .ok (.dup, 1) := by decide +kernel
theorem dX7_letFallFrom_49 : decode cX7_letFallFrom 49 = .ok (.getfield 61, 3) := by decide +kernel
theorem dX7_letFallFrom_52 : decode cX7_letFallFrom 52 = .ok (.aload_n 0, 1) := by decide +kernel
theorem dX7_letFallFrom_53 : decode cX7_letFallFrom 53 = .ok (.getfield 21, 3) := by decide +kernel
theorem dX7_letFallFrom_56 : decode cX7_letFallFrom 56 = .ok (.iload_n 2, 1) := by decide +kernel
theorem dX7_letFallFrom_57 : decode cX7_letFallFrom 57 = .ok (.invokevirtual 106, 3) := by decide +kernel
theorem dX7_letFallFrom_60 : decode cX7_letFallFrom 60 = .ok (.iadd, 1) := by decide +kernel
theorem dX7_letFallFrom_61 : decode cX7_letFallFrom 61 = .ok (.putfield 61, 3) := by decide +kernel
theorem dX7_letFallFrom_64 : decode cX7_letFallFrom 64 = .ok (.iinc 2 1, 3) := by decide +kernel
theorem dX7_letFallFrom_67 : decode cX7_letFallFrom 67 = .ok (.goto (-58), 3) := by decide +kernel
theorem dX7_letFallFrom_70 : decode cX7_letFallFrom 70 = .ok (.aload_n 0, 1) := by decide +kernel
theorem dX7_letFallFrom_71 : decode cX7_letFallFrom 71 = .ok (.getfield 21, 3) := by decide +kernel
theorem dX7_letFallFrom_74 : decode cX7_letFallFrom 74 = .ok (.iload_n 1, 1) := by decide +kernel
theorem dX7_letFallFrom_75 : decode cX7_letFallFrom 75 = .ok (.invokevirtual 132, 3) := by decide +kernel
theorem dX7_letFallFrom_78 : decode cX7_letFallFrom 78 = .ok (.return_, 1) := by decide +kernel
theorem dX7_makeBare_0 : decode cX7_makeBare 0 = .ok (.aload_n 0, 1) := by decide +kernel
theorem dX7_makeBare_1 : decode cX7_makeBare 1 = .ok (.getfield 12, 3) := by decide +kernel
theorem dX7_makeBare_4 : decode cX7_makeBare 4 = .ok (.invokevirtual 135, 3) := by decide +kernel
theorem dX7_makeBare_7 : decode cX7_makeBare 7 = .ok (.aload_n 0, 1) := by decide +kernel
theorem dX7_makeBare_8 : decode cX7_makeBare 8 = .ok (.getfield 21, 3) := by decide +kernel
theorem dX7_makeBare_11 : decode cX7_makeBare 11 = .ok (.iconst 0, 1) := by decide +kernel
theorem dX7_makeBare_12 : decode cX7_makeBare 12 = .ok (.invokevirtual 132, 3) := by decide +kernel
theorem dX7_makeBare_15 : decode cX7_makeBare 15 = .ok (.aload_n 0, 1) := by decide +kernel
theorem dX7_makeBare_16 : decode cX7_makeBare 16 = .ok (.getfield 28, 3) := by decide +kernel
theorem dX7_makeBare_19 : decode cX7_makeBare 19 = .ok (.invokevirtual 138, 3) := by decide +kernel
theorem dX7_makeBare_22 : decode cX7_makeBare 22 = .ok (.aload_n 0, 1) := by decide +kernel
theorem dX7_makeBare_23 : decode cX7_makeBare 23 = .ok (.getfield 35, 3) := by decide +kernel
theorem dX7_makeBare_26 : decode cX7_makeBare 26 = .ok (.invokevirtual 139, 3) := by decide +kernel
theorem dX7_makeBare_29 : decode cX7_makeBare 29 = .ok (.aload_n 0, 1) := by decide +kernel
theorem dX7_makeBare_30 : decode cX7_makeBare 30 = .ok (.iconst 0, 1) := by decide +kernel
theorem dX7_makeBare_31 : decode cX7_makeBare 31 = .ok (.putfield 39, 3) := by decide +kernel
theorem dX7_makeBare_34 : decode cX7_makeBare 34 = .ok (.aload_n 0, 1) := by decide +kernel
theorem dX7_makeBare_35 : decode cX7_makeBare 35 = .ok (.iconst 0, 1) := by decide +kernel
theorem dX7_makeBare_36 : decode cX7_makeBare 36 = .ok (.putfield 43, 3) := by decide +kernel
theorem dX7_makeBare_39 : decode cX7_makeBare 39 = .ok (.aload_n 0, 1) := by decide +kernel
theorem dX7_makeBare_40 : decode cX7_makeBare 40 = .ok (.bipush 60, 2) := by decide +kernel
theorem dX7_makeBare_42 : decode cX7_makeBare 42 = .ok (.putfield 46, 3) := by decide +kernel
theorem dX7_makeBare_45 : decode cX7_makeBare 45 = .ok (.aload_n 0, 1) := by decide +kernel
theorem dX7_makeBare_46 : decode cX7_makeBare 46 = .ok (.bipush 20, 2) := by decide +kernel
theorem dX7_makeBare_48 : decode cX7_makeBare 48 = .ok (.putfield 49, 3) := by decide +kernel
theorem dX7_makeBare_51 : decode cX7_makeBare 51 = .ok (.aload_n 0, 1) := by decide +kernel
theorem dX7_makeBare_52 : decode cX7_makeBare 52 = .ok (.iconst 0, 1) := by decide +kernel
theorem dX7_makeBare_53 : decode cX7_makeBare 53 = .ok (.putfield 52, 3) := by decide +kernel
theorem dX7_makeBare_56 : decode cX7_makeBare 56 = .ok (.aload_n 0, 1) := by decide +kernel
theorem dX7_makeBare_57 : decode cX7_makeBare 57 = .ok (.iconst 0, 1) := by decide +kernel
theorem dX7_makeBare_58 : decode cX7_makeBare 58 = .ok (.putfield 55, 3) := by decide +kernel
theorem dX7_makeBare_61 : decode cX7_makeBare 61 = .ok (.aload_n 0, 1) := by decide +kernel
theorem dX7_makeBare_62 : decode cX7_makeBare 62 = .ok (.iconst 0, 1) := by decide +kernel
theorem dX7_makeBare_63 : decode cX7_makeBare 63 = .ok (.putfield 58, 3) := by decide +kernel
theorem dX7_makeBare_66 : decode cX7_makeBare 66 = .ok (.aload_n 0, 1) := by decide +kernel
theorem dX7_makeBare_67 : decode cX7_makeBare 67 = .ok (.iconst 0, 1) := by decide +kernel
theorem dX7_makeBare_68 : decode cX7_makeBare 68 = .ok (.putfield 61, 3) := by decide +kernel
theorem dX7_makeBare_71 : decode cX7_makeBare 71 = .ok (.aload_n 0, 1) := by decide +kernel
theorem dX7_makeBare_72 : decode cX7_makeBare 72 = .ok (.iconst 0, 1) := by decide +kernel
theorem dX7_makeBare_73 : decode cX7_makeBare 73 = .ok (.putfield 64, 3) := by decide +kernel
theorem dX7_makeBare_76 : decode cX7_makeBare 76 = .ok (.aload_n 0, 1) := by decide +kernel
theorem dX7_makeBare_77 : decode cX7_makeBare 77 = .ok (.iconst 0, 1) := by decide +kernel
theorem dX7_makeBare_78 : decode cX7_makeBare 78 = .ok (.putfield 67, 3) := by decide +kernel
theorem dX7_makeBare_81 : decode cX7_makeBare 81 = .ok (.return_, 1) := by decide +kernel
theorem dX7_take_0 : decode cX7_take 0 = .ok (.aload_n 0, 1) := by decide +kernel
theorem dX7_take_1 : decode cX7_take 1 = .ok (.getfield 12, 3) := by decide +kernel
theorem dX7_take_4 : decode cX7_take 4 = .ok (.aload_n 1, 1) := by decide +kernel
theorem dX7_take_5 : decode cX7_take 5 = .ok (.getfield 12, 3) := by decide +kernel
theorem dX7_take_8 : decode cX7_take 8 = .ok (.invokevirtual 140, 3) := by decide +kernel
theorem dX7_take_11 : decode cX7_take 11 = .ok (.aload_n 0, 1) := by decide +kernel
theorem dX7_take_12 : decode cX7_take 12 = .ok (.getfield 21, 3) := by decide +kernel
theorem dX7_take_15 : decode cX7_take 15 = .ok (.aload_n 1, 1) := by decide +kernel
theorem dX7_take_16 : decode cX7_take 16 = .ok (.getfield 21, 3) := by decide +kernel
theorem dX7_take_19 : decode cX7_take 19 = .ok (.invokevirtual 144, 3) := by decide +kernel
theorem dX7_take_22 : decode cX7_take 22 = .ok (.aload_n 0, 1) := by decide +kernel
theorem dX7_take_23 : decode cX7_take 23 = .ok (.getfield 28, 3) := by decide +kernel
theorem dX7_take_26 : decode cX7_take 26 = .ok (.aload_n 1, 1) := by decide +kernel
theorem dX7_take_27 : decode cX7_take 27 = .ok (.getfield 28, 3) := by decide +kernel
theorem dX7_take_30 : decode cX7_take 30 = .ok (.invokevirtual 147, 3) := by decide +kernel
theorem dX7_take_33 : decode cX7_take 33 = .ok (.aload_n 0, 1) := by decide +kernel
theorem dX7_take_34 : decode cX7_take 34 = .ok (.getfield 35, 3) := by decide +kernel
theorem dX7_take_37 : decode cX7_take 37 = .ok (.aload_n 1, 1) := by decide +kernel
theorem dX7_take_38 : decode cX7_take 38 = .ok (.getfield 35, 3) := by decide +kernel
theorem dX7_take_41 : decode cX7_take 41 = .ok (.invokevirtual 150, 3) := by decide +kernel
theorem dX7_take_44 : decode cX7_take 44 = .ok (.aload_n 0, 1) := by decide +kernel
theorem dX7_take_45 : decode cX7_take 45 = .ok (.aload_n 1, 1) := by decide +kernel
theorem dX7_take_46 : decode cX7_take 46 = .ok (.getfield 39, 3) := by decide +kernel
theorem dX7_take_49 : decode cX7_take 49 = .ok (.putfield 39, 3) := by decide +kernel
theorem dX7_take_52 : decode cX7_take 52 = .ok (.aload_n 0, 1) := by decide +kernel
theorem dX7_take_53 : decode cX7_take 53 = .ok (.aload_n 1, 1) := by decide +kernel
theorem dX7_take_54 : decode cX7_take 54 = .ok (.getfield 43, 3) := by decide +kernel
theorem dX7_take_57 : decode cX7_take 57 = .ok (.putfield 43, 3) := by decide +kernel
theorem dX7_take_60 : decode cX7_take 60 = .ok (.aload_n 0, 1) := by decide +kernel
theorem dX7_take_61 : decode cX7_take 61 = .ok (.aload_n 1, 1) := by decide +kernel
theorem dX7_take_62 : decode cX7_take 62 = .ok (.getfield 46, 3) := by decide +kernel
theorem dX7_take_65 : decode cX7_take 65 = .ok (.putfield 46, 3) := by decide +kernel
theorem dX7_take_68 : decode cX7_take 68 = .ok (.aload_n 0, 1) := by decide +kernel
theorem dX7_take_69 : decode cX7_take 69 = .ok (.aload_n 1, 1) := by decide +kernel
theorem dX7_take_70 : decode cX7_take 70 = .ok (.getfield 49, 3) := by decide +kernel
theorem dX7_take_73 : decode cX7_take 73 = .ok (.putfield 49, 3) := by decide +kernel
theorem dX7_take_76 : decode cX7_take 76 = .ok (.aload_n 0, 1) := by decide +kernel
theorem dX7_take_77 : decode cX7_take 77 = .ok (.aload_n 1, 1) := by decide +kernel
theorem dX7_take_78 : decode cX7_take 78 = .ok (.getfield 52, 3) := by decide +kernel
theorem dX7_take_81 : decode cX7_take 81 = .ok (.putfield 52, 3) := by decide +kernel
theorem dX7_take_84 : decode cX7_take 84 = .ok (.aload_n 0, 1) := by decide +kernel
theorem dX7_take_85 : decode cX7_take 85 = .ok (.aload_n 1, 1) := by decide +kernel
theorem dX7_take_86 : decode cX7_take 86 = .ok (.getfield 55, 3) := by decide +kernel
theorem dX7_take_89 : decode cX7_take 89 = .ok (.putfield 55, 3) := by decide +kernel
theorem dX7_take_92 : decode cX7_take 92 = .ok (.aload_n 0, 1) := by decide +kernel
theorem dX7_take_93 : decode cX7_take 93 = .ok (.aload_n 1, 1) := by decide +kernel
theorem dX7_take_94 : decode cX7_take 94 = .ok (.getfield 58, 3) := by decide +kernel
theorem dX7_take_97 : decode cX7_take 97 = .ok (.putfield 58, 3) := by decide +kernel
theorem dX7_take_100 : decode cX7_take 100 = .ok (.aload_n 0, 1) := by decide +kernel
theorem dX7_take_101 : decode cX7_take 101 = .ok (.aload_n 1, 1) := by decide +kernel
theorem dX7_take_102 : decode cX7_take 102 = .ok (.getfield 61, 3) := by decide +kernel
theorem dX7_take_105 : decode cX7_take 105 = .ok (.putfield 61, 3) := by decide +kernel
theorem dX7_take_108 : decode cX7_take 108 = .ok (.aload_n 0, 1) := by decide +kernel
theorem dX7_take_109 : decode cX7_take 109 = .ok (.aload_n 1, 1) := by decide +kernel
theorem dX7_take_110 : decode cX7_take 110 = .ok (.getfield 64, 3) := by decide +kernel
theorem dX7_take_113 : decode cX7_take 113 = .ok (.putfield 64, 3) := by decide +kernel
theorem dX7_take_116 : decode cX7_take 116 = .ok (.aload_n 0, 1) := by decide +kernel
theorem dX7_take_117 : decode cX7_take 117 = .ok (.aload_n 1, 1) := by decide +kernel
theorem dX7_take_118 : decode cX7_take 118 = .ok (.getfield 67, 3) := by decide +kernel
theorem dX7_take_121 : decode cX7_take 121 = .ok (.putfield 67, 3) := by decide +kernel
theorem dX7_take_124 : decode cX7_take 124 = .ok (.return_, 1) := by decide +kernel
theorem dX8_init_0 : decode cX8_init 0 = .ok (.aload_n 0, 1) := by decide +kernel
theorem dX8_init_1 : decode cX8_init 1 = .ok (.invokespecial 3, 3) := by decide +kernel
theorem dX8_init_4 : decode cX8_init 4 = .ok (.aload_n 0, 1) := by decide +kernel
theorem dX8_init_5 : decode cX8_init 5 = .ok (.new 9, 3) := by decide +kernel
theorem dX8_init_8 : decode cX8_init 8 = .ok (.dup, 1) := by decide +kernel
theorem dX8_init_9 : decode cX8_init 9 = .ok (.invokespecial 11, 3) := by decide +kernel
theorem dX8_init_12 : decode cX8_init 12 = .ok (.putfield 12, 3) := by decide +kernel
theorem dX8_init_15 : decode cX8_init 15 = .ok (.aload_n 0, 1) := by decide +kernel
theorem dX8_init_16 : decode cX8_init 16 = .ok (.new 18, 3) := by decide +kernel
theorem dX8_init_19 : decode cX8_init 19 = .ok (.dup, 1) := by decide +kernel
theorem dX8_init_20 : decode cX8_init 20 = .ok (.invokespecial 20, 3) := by decide +kernel
theorem dX8_init_23 : decode cX8_init 23 = .ok (.putfield 21, 3) := by decide +kernel
theorem dX8_init_26 : decode cX8_init 26 = .ok (.return_, 1) := by decide +kernel
theorem dX8_addBundle_0 : decode cX8_addBundle 0 = .ok (.iload_n 1, 1) := by decide +kernel
theorem dX8_addBundle_1 : decode cX8_addBundle 1 = .ok (.iconst 1, 1) := by decide +kernel
theorem dX8_addBundle_2 : decode cX8_addBundle 2 = .ok (.bipush 30, 2) := by decide +kernel
theorem dX8_addBundle_4 : decode cX8_addBundle 4 = .ok (.invokestatic 25, 3) := by decide +kernel
theorem dX8_addBundle_7 : decode cX8_addBundle 7 = .ok (.ifCond .eq 13, 3) := by decide +kernel
theorem dX8_addBundle_10 : decode cX8_addBundle 10 = .ok (.iload_n 2, 1) := by decide +kernel
theorem dX8_addBundle_11 : decode cX8_addBundle 11 = .ok (.iconst 0, 1) := by decide +kernel
theorem dX8_addBundle_12 : decode cX8_addBundle 12 = .ok (.bipush 60, 2) := by decide +kernel
theorem dX8_addBundle_14 : decode cX8_addBundle 14 = .ok (.invokestatic 25, 3) := by decide +kernel
theorem dX8_addBundle_17 : decode cX8_addBundle 17 = .ok (.ifCond .ne 6, 3) := by decide +kernel
theorem dX8_addBundle_20 : decode cX8_addBundle 20 = .ok (.bipush (-2), 2) := by decide +kernel
theorem dX8_addBundle_22 : decode cX8_addBundle 22 = .ok (.ireturn, 1) := by decide +kernel
theorem dX8_addBundle_23 : decode cX8_addBundle 23 = .ok (.aload_n 0, 1) := by decide +kernel
theorem dX8_addBundle_24 : decode cX8_addBundle 24 = .ok (.getfield 21, 3) := by decide +kernel
theorem dX8_addBundle_27 : decode cX8_addBundle 27 = .ok (.getfield 29, 3) := by decide +kernel
theorem dX8_addBundle_30 : decode cX8_addBundle 30 = .ok (.getfield 33, 3) := by decide +kernel
theorem dX8_addBundle_33 : decode cX8_addBundle 33 = .ok (.bipush 8, 2) := by decide +kernel
theorem dX8_addBundle_35 : decode cX8_addBundle 35 = .ok (.if_icmp .lt 14, 3) := by decide +kernel
theorem dX8_addBundle_38 : decode cX8_addBundle 38 = .ok (.aload_n 0, 1) := by decide +kernel
theorem dX8_addBundle_39 : decode cX8_addBundle 39 = .ok (.getfield 12, 3) := by decide +kernel
theorem dX8_addBundle_42 : decode cX8_addBundle 42 = .ok (.iconst 1, 1) := by decide +kernel
theorem dX8_addBundle_43 : decode cX8_addBundle 43 = .ok (.bipush 8, 2) := by decide +kernel
theorem dX8_addBundle_45 : decode cX8_addBundle 45 = .ok (.invokevirtual 39, 3) := by decide +kernel
theorem dX8_addBundle_48 : decode cX8_addBundle 48 = .ok (.ireturn, 1) := by decide +kernel
theorem dX8_addBundle_49 : decode cX8_addBundle 49 = .ok (.aload_n 0, 1) := by decide +kernel
theorem dX8_addBundle_50 : decode cX8_addBundle 50 = .ok (.getfield 21, 3) := by decide +kernel
theorem dX8_addBundle_53 : decode cX8_addBundle 53 = .ok (.getfield 29, 3) := by decide +kernel
theorem dX8_addBundle_56 : decode cX8_addBundle 56 = .ok (.iload_n 1, 1) := by decide +kernel
theorem dX8_addBundle_57 : decode cX8_addBundle 57 = .ok (.iload_n 2, 1) := by decide +kernel
theorem dX8_addBundle_58 : decode cX8_addBundle 58 = .ok (.invokevirtual 43, 3) := by decide +kernel
theorem dX8_addBundle_61 : decode cX8_addBundle 61 = .ok (.ireturn, 1) := by decide +kernel
theorem dX8_addStrips_0 : decode cX8_addStrips 0 = .ok (.iload_n 1, 1) := by decide +kernel
theorem dX8_addStrips_1 : decode cX8_addStrips 1 = .ok (.iconst 1, 1) := by decide +kernel
theorem dX8_addStrips_2 : decode cX8_addStrips 2 = .ok (.bipush 99, 2) := by decide +kernel
theorem dX8_addStrips_4 : decode cX8_addStrips 4 = .ok (.invokestatic 25, 3) := by decide +kernel
theorem dX8_addStrips_7 : decode cX8_addStrips 7 = .ok (.ifCond .ne 6, 3) := by decide +kernel
theorem dX8_addStrips_10 : decode cX8_addStrips 10 = .ok (.bipush (-2), 2) := by decide +kernel
theorem dX8_addStrips_12 : decode cX8_addStrips 12 = .ok (.ireturn, 1) := by decide +kernel
theorem dX8_addStrips_13 : decode cX8_addStrips 13 = .ok (.aload_n 0, 1) := by decide +kernel
theorem dX8_addStrips_14 : decode cX8_addStrips 14 = .ok (.getfield 21, 3) := by decide +kernel
theorem dX8_addStrips_17 : decode cX8_addStrips 17 = .ok (.aload_n 0, 1) := by decide +kernel
theorem dX8_addStrips_18 : decode cX8_addStrips 18 = .ok (.getfield 21, 3) := by decide +kernel
theorem dX8_addStrips_21 : decode cX8_addStrips 21 = .ok (.getfield 46, 3) := by decide +kernel
theorem dX8_addStrips_24 : decode cX8_addStrips 24 = .ok (.iload_n 1, 1) := by decide +kernel
theorem dX8_addStrips_25 : decode cX8_addStrips 25 = .ok (.iadd, 1) := by decide +kernel
theorem dX8_addStrips_26 : decode cX8_addStrips 26 = .ok (.sipush 200, 3) := by decide +kernel
theorem dX8_addStrips_29 : decode cX8_addStrips 29 = .ok (.invokestatic 49, 3) := by decide +kernel
theorem dX8_addStrips_32 : decode cX8_addStrips 32 = .ok (.putfield 46, 3) := by decide +kernel
theorem dX8_addStrips_35 : decode cX8_addStrips 35 = .ok (.aload_n 0, 1) := by decide +kernel
theorem dX8_addStrips_36 : decode cX8_addStrips 36 = .ok (.getfield 21, 3) := by decide +kernel
theorem dX8_addStrips_39 : decode cX8_addStrips 39 = .ok (.getfield 46, 3) := by decide +kernel
theorem dX8_addStrips_42 : decode cX8_addStrips 42 = .ok (.ireturn, 1) := by decide +kernel
theorem dX8_addStorey_0 : decode cX8_addStorey 0 = .ok (.aload_n 0, 1) := by decide +kernel
theorem dX8_addStorey_1 : decode cX8_addStorey 1 = .ok (.getfield 21, 3) := by decide +kernel
theorem dX8_addStorey_4 : decode cX8_addStorey 4 = .ok (.getfield 29, 3) := by decide +kernel
theorem dX8_addStorey_7 : decode cX8_addStorey 7 = .ok (.iload_n 1, 1) := by decide +kernel
theorem dX8_addStorey_8 : decode cX8_addStorey 8 = .ok (.invokevirtual 54, 3) := by decide +kernel
theorem dX8_addStorey_11 : decode cX8_addStorey 11 = .ok (.ifCond .ne 5, 3) := by decide +kernel
theorem dX8_addStorey_14 : decode cX8_addStorey 14 = .ok (.iconst (-1), 1) := by decide +kernel
theorem dX8_addStorey_15 : decode cX8_addStorey 15 = .ok (.ireturn, 1) := by decide +kernel
theorem dX8_addStorey_16 : decode cX8_addStorey 16 = .ok (.iload_n 2, 1) := by decide +kernel
theorem dX8_addStorey_17 : decode cX8_addStorey 17 = .ok (.iconst 4, 1) := by decide +kernel
theorem dX8_addStorey_18 : decode cX8_addStorey 18 = .ok (.bipush 8, 2) := by decide +kernel
theorem dX8_addStorey_20 : decode cX8_addStorey 20 = .ok (.invokestatic 25, 3) := by decide +kernel
theorem dX8_addStorey_23 : decode cX8_addStorey 23 = .ok (.ifCond .eq 13, 3) := by decide +kernel
theorem dX8_addStorey_26 : decode cX8_addStorey 26 = .ok (.iload_n 3, 1) := by decide +kernel
theorem dX8_addStorey_27 : decode cX8_addStorey 27 = .ok (.iconst 0, 1) := by decide +kernel
theorem dX8_addStorey_28 : decode cX8_addStorey 28 = .ok (.bipush 40, 2) := by decide +kernel
theorem dX8_addStorey_30 : decode cX8_addStorey 30 = .ok (.invokestatic 25, 3) := by decide +kernel
theorem dX8_addStorey_33 : decode cX8_addStorey 33 = .ok (.ifCond .ne 6, 3) := by decide +kernel
theorem dX8_addStorey_36 : decode cX8_addStorey 36 = .ok (.bipush (-2), 2) := by decide +kernel
theorem dX8_addStorey_38 : decode cX8_addStorey 38 = .ok (.ireturn, 1) := by decide +kernel
theorem dX8_addStorey_39 : decode cX8_addStorey 39 = .ok (.aload_n 0, 1) := by decide +kernel
theorem dX8_addStorey_40 : decode cX8_addStorey 40 = .ok (.getfield 21, 3) := by decide +kernel
theorem dX8_addStorey_43 : decode cX8_addStorey 43 = .ok (.getfield 58, 3) := by decide +kernel
theorem dX8_addStorey_46 : decode cX8_addStorey 46 = .ok (.getfield 62, 3) := by decide +kernel
theorem dX8_addStorey_49 : decode cX8_addStorey 49 = .ok (.bipush 10, 2) := by decide +kernel
theorem dX8_addStorey_51 : decode cX8_addStorey 51 = .ok (.if_icmp .lt 14, 3) := by decide +kernel
theorem dX8_addStorey_54 : decode cX8_addStorey 54 = .ok (.aload_n 0, 1) := by decide +kernel
theorem dX8_addStorey_55 : decode cX8_addStorey 55 = .ok (.getfield 12, 3) := by decide +kernel
theorem dX8_addStorey_58 : decode cX8_addStorey 58 = .ok (.iconst 1, 1) := by decide +kernel
theorem dX8_addStorey_59 : decode cX8_addStorey 59 = .ok (.bipush 10, 2) := by decide +kernel
theorem dX8_addStorey_61 : decode cX8_addStorey 61 = .ok (.invokevirtual 39, 3) := by decide +kernel
theorem dX8_addStorey_64 : decode cX8_addStorey 64 = .ok (.ireturn, 1) := by decide +kernel
theorem dX8_addStorey_65 : decode cX8_addStorey 65 = .ok (.aload_n 0, 1) := by decide +kernel
theorem dX8_addStorey_66 : decode cX8_addStorey 66 = .ok (.getfield 21, 3) := by decide +kernel
theorem dX8_addStorey_69 : decode cX8_addStorey 69 = .ok (.invokevirtual 65, 3) := by decide +kernel
theorem dX8_addStorey_72 : decode cX8_addStorey 72 = .ok (.ifCond .eq 19, 3) := by decide +kernel
theorem dX8_addStorey_75 : decode cX8_addStorey 75 = .ok (.aload_n 0, 1) := by decide +kernel
theorem dX8_addStorey_76 : decode cX8_addStorey 76 = .ok (.getfield 12, 3) := by decide +kernel
theorem dX8_addStorey_79 : decode cX8_addStorey 79 = .ok (.iconst 4, 1) := by decide +kernel
theorem dX8_addStorey_80 : decode cX8_addStorey 80 = .ok (.aload_n 0, 1) := by decide +kernel
theorem dX8_addStorey_81 : decode cX8_addStorey 81 = .ok (.getfield 21, 3) := by decide +kernel
theorem dX8_addStorey_84 : decode cX8_addStorey 84 = .ok (.getfield 69, 3) := by decide +kernel
theorem dX8_addStorey_87 : decode cX8_addStorey 87 = .ok (.invokevirtual 39, 3) := by decide +kernel
theorem dX8_addStorey_90 : decode cX8_addStorey 90 = .ok (.ireturn, 1) := by decide +kernel
theorem dX8_addStorey_91 : decode cX8_addStorey 91 = .ok (.aload_n 0, 1) := by decide +kernel
theorem dX8_addStorey_92 : decode cX8_addStorey 92 = .ok (.getfield 21, 3) := by decide +kernel
theorem dX8_addStorey_95 : decode cX8_addStorey 95 = .ok (.getfield 29, 3) := by decide +kernel
theorem dX8_addStorey_98 : decode cX8_addStorey 98 = .ok (.iload_n 1, 1) := by decide +kernel
theorem dX8_addStorey_99 : decode cX8_addStorey 99 = .ok (.invokevirtual 72, 3) := by decide +kernel
theorem dX8_addStorey_102 : decode cX8_addStorey 102 = .ok (.iload_n 2, 1) := by decide +kernel
theorem dX8_addStorey_103 : decode cX8_addStorey 103 = .ok (.if_icmp .ge 23, 3) := by decide +kernel
theorem dX8_addStorey_106 : decode cX8_addStorey 106 = .ok (.aload_n 0, 1) := by decide +kernel
theorem dX8_addStorey_107 : decode cX8_addStorey 107 = .ok (.getfield 12, 3) := by decide +kernel
theorem dX8_addStorey_110 : decode cX8_addStorey 110 = .ok (.iconst 2, 1) := by decide +kernel
theorem dX8_addStorey_111 : decode cX8_addStorey 111 = .ok (.aload_n 0, 1) := by decide +kernel
theorem dX8_addStorey_112 : decode cX8_addStorey 112 = .ok (.getfield 21, 3) := by decide +kernel
theorem dX8_addStorey_115 : decode cX8_addStorey 115 = .ok (.getfield 29, 3) := by decide +kernel
theorem dX8_addStorey_118 : decode cX8_addStorey 118 = .ok (.iload_n 1, 1) := by decide +kernel
theorem dX8_addStorey_119 : decode cX8_addStorey 119 = .ok (.invokevirtual 72, 3) := by decide +kernel
theorem dX8_addStorey_122 : decode cX8_addStorey 122 = .ok (.invokevirtual 39, 3) := by decide +kernel
theorem dX8_addStorey_125 : decode cX8_addStorey 125 = .ok (.ireturn, 1) := by decide +kernel
theorem dX8_addStorey_126 : decode cX8_addStorey 126 = .ok (.iload_n 2, 1) := by decide +kernel
theorem dX8_addStorey_127 : decode cX8_addStorey 127 = .ok (.iconst 2, 1) := by decide +kernel
theorem dX8_addStorey_128 : decode cX8_addStorey 128 = .ok (.imul, 1) := by decide +kernel
theorem dX8_addStorey_129 : decode cX8_addStorey 129 = .ok (.istore 4, 2) := by decide +kernel
theorem dX8_addStorey_131 : decode cX8_addStorey 131 = .ok (.aload_n 0, 1) := by decide +kernel
theorem dX8_addStorey_132 : decode cX8_addStorey 132 = .ok (.getfield 21, 3) := by decide +kernel
theorem dX8_addStorey_135 : decode cX8_addStorey 135 = .ok (.getfield 46, 3) := by decide +kernel
theorem dX8_addStorey_138 : decode cX8_addStorey 138 = .ok (.iload 4, 2) := by decide +kernel
theorem dX8_addStorey_140 : decode cX8_addStorey 140 = .ok (.if_icmp .ge 22, 3) := by decide +kernel
theorem dX8_addStorey_143 : decode cX8_addStorey 143 = .ok (.aload_n 0, 1) := by decide +kernel
theorem dX8_addStorey_144 : decode cX8_addStorey 144 = .ok (.getfield 12, 3) := by decide +kernel
theorem dX8_addStorey_147 : decode cX8_addStorey 147 = .ok (.iconst 3, 1) := by decide +kernel
theorem dX8_addStorey_148 : decode cX8_addStorey 148 = .ok (.iload 4, 2) := by decide +kernel
theorem dX8_addStorey_150 : decode cX8_addStorey 150 = .ok (.aload_n 0, 1) := by decide +kernel
theorem dX8_addStorey_151 : decode cX8_addStorey 151 = .ok (.getfield 21, 3) := by decide +kernel
theorem dX8_addStorey_154 : decode cX8_addStorey 154 = .ok (.getfield 46, 3) := by decide +kernel
theorem dX8_addStorey_157 : decode cX8_addStorey 157 = .ok (.isub, 1) := by decide +kernel
theorem dX8_addStorey_158 : decode cX8_addStorey 158 = .ok (.invokevirtual 39, 3) := by decide +kernel
theorem dX8_addStorey_161 : decode cX8_addStorey 161 = .ok (.ireturn, 1) := by decide +kernel
theorem dX8_addStorey_162 : decode cX8_addStorey 162 = .ok (.aload_n 0, 1) := by decide +kernel
theorem dX8_addStorey_163 : decode cX8_addStorey 163 = .ok (.getfield 21, 3) := by decide +kernel
theorem dX8_addStorey_166 : decode cX8_addStorey 166 = .ok (.getfield 29, 3) := by decide +kernel
theorem dX8_addStorey_169 : decode cX8_addStorey 169 = .ok (.iload_n 1, 1) := by decide +kernel
theorem dX8_addStorey_170 : decode cX8_addStorey 170 = .ok (.iload_n 2, 1) := by decide +kernel
theorem dX8_addStorey_171 : decode cX8_addStorey 171 = .ok (.invokevirtual 76, 3) := by decide +kernel
theorem dX8_addStorey_174 : decode cX8_addStorey 174 = .ok (.aload_n 0, 1) := by decide +kernel
theorem dX8_addStorey_175 : decode cX8_addStorey 175 = .ok (.getfield 21, 3) := by decide +kernel
theorem dX8_addStorey_178 : decode cX8_addStorey 178 = .ok (.dup, 1) := by decide +kernel
theorem dX8_addStorey_179 : decode cX8_addStorey 179 = .ok (.getfield 46, 3) := by decide +kernel
theorem dX8_addStorey_182 : decode cX8_addStorey 182 = .ok (.iload 4, 2) := by decide +kernel
theorem dX8_addStorey_184 : decode cX8_addStorey 184 = .ok (.isub, 1) := by decide +kernel
theorem dX8_addStorey_185 : decode cX8_addStorey 185 = .ok (.putfield 46, 3) := by decide +kernel
theorem dX8_addStorey_188 : decode cX8_addStorey 188 = .ok (.aload_n 0, 1) := by decide +kernel
theorem dX8_addStorey_189 : decode cX8_addStorey 189 = .ok (.getfield 21, 3) := by decide +kernel
theorem dX8_addStorey_192 : decode cX8_addStorey 192 = .ok (.dup, 1) := by decide +kernel
theorem dX8_addStorey_193 : decode cX8_addStorey 193 = .ok (.getfield 80, 3) := by decide +kernel
theorem dX8_addStorey_196 : decode cX8_addStorey 196 = .ok (.iload_n 3, 1) := by decide +kernel
theorem dX8_addStorey_197 : decode cX8_addStorey 197 = .ok (.iadd, 1) := by decide +kernel
theorem dX8_addStorey_198 : decode cX8_addStorey 198 = .ok (.putfield 80, 3) := by decide +kernel
theorem dX8_addStorey_201 : decode cX8_addStorey 201 = .ok (.aload_n 0, 1) := by decide +kernel
theorem dX8_addStorey_202 : decode cX8_addStorey 202 = .ok (.getfield 21, 3) := by decide +kernel
theorem dX8_addStorey_205 : decode cX8_addStorey 205 = .ok (.getfield 58, 3) := by decide +kernel
theorem dX8_addStorey_208 : decode cX8_addStorey 208 = .ok (.iload_n 2, 1) := by decide +kernel
theorem dX8_addStorey_209 : decode cX8_addStorey 209 = .ok (.aload_n 0, 1) := by decide +kernel
theorem dX8_addStorey_210 : decode cX8_addStorey 210 = .ok (.getfield 21, 3) := by decide +kernel
theorem dX8_addStorey_213 : decode cX8_addStorey 213 = .ok (.getfield 29, 3) := by decide +kernel
theorem dX8_addStorey_216 : decode cX8_addStorey 216 = .ok (.iload_n 1, 1) := by decide +kernel
theorem dX8_addStorey_217 : decode cX8_addStorey 217 = .ok (.invokevirtual 83, 3) := by decide +kernel
theorem dX8_addStorey_220 : decode cX8_addStorey 220 = .ok (.iload_n 3, 1) := by decide +kernel
theorem dX8_addStorey_221 : decode cX8_addStorey 221 = .ok (.invokevirtual 86, 3) := by decide +kernel
theorem dX8_addStorey_224 : decode cX8_addStorey 224 = .ok (.ireturn, 1) := by decide +kernel
theorem dX8_tieAnew_0 : decode cX8_tieAnew 0 = .ok (.aload_n 0, 1) := by decide +kernel
theorem dX8_tieAnew_1 : decode cX8_tieAnew 1 = .ok (.getfield 21, 3) := by decide +kernel
theorem dX8_tieAnew_4 : decode cX8_tieAnew 4 = .ok (.getfield 58, 3) := by decide +kernel
theorem dX8_tieAnew_7 : decode cX8_tieAnew 7 = .ok (.iload_n 1, 1) := by decide +kernel
theorem dX8_tieAnew_8 : decode cX8_tieAnew 8 = .ok (.invokevirtual 89, 3) := by decide +kernel
theorem dX8_tieAnew_11 : decode cX8_tieAnew 11 = .ok (.ifCond .ne 5, 3) := by decide +kernel
theorem dX8_tieAnew_14 : decode cX8_tieAnew 14 = .ok (.iconst (-1), 1) := by decide +kernel
theorem dX8_tieAnew_15 : decode cX8_tieAnew 15 = .ok (.ireturn, 1) := by decide +kernel
theorem dX8_tieAnew_16 : decode cX8_tieAnew 16 = .ok (.aload_n 0, 1) := by decide +kernel
theorem dX8_tieAnew_17 : decode cX8_tieAnew 17 = .ok (.getfield 21, 3) := by decide +kernel
theorem dX8_tieAnew_20 : decode cX8_tieAnew 20 = .ok (.invokevirtual 65, 3) := by decide +kernel
theorem dX8_tieAnew_23 : decode cX8_tieAnew 23 = .ok (.ifCond .eq 19, 3) := by decide +kernel
theorem dX8_tieAnew_26 : decode cX8_tieAnew 26 = .ok (.aload_n 0, 1) := by decide +kernel
theorem dX8_tieAnew_27 : decode cX8_tieAnew 27 = .ok (.getfield 12, 3) := by decide +kernel
theorem dX8_tieAnew_30 : decode cX8_tieAnew 30 = .ok (.iconst 4, 1) := by decide +kernel
theorem dX8_tieAnew_31 : decode cX8_tieAnew 31 = .ok (.aload_n 0, 1) := by decide +kernel
theorem dX8_tieAnew_32 : decode cX8_tieAnew 32 = .ok (.getfield 21, 3) := by decide +kernel
theorem dX8_tieAnew_35 : decode cX8_tieAnew 35 = .ok (.getfield 69, 3) := by decide +kernel
theorem dX8_tieAnew_38 : decode cX8_tieAnew 38 = .ok (.invokevirtual 39, 3) := by decide +kernel
theorem dX8_tieAnew_41 : decode cX8_tieAnew 41 = .ok (.ireturn, 1) := by decide +kernel
theorem dX8_tieAnew_42 : decode cX8_tieAnew 42 = .ok (.aload_n 0, 1) := by decide +kernel
theorem dX8_tieAnew_43 : decode cX8_tieAnew 43 = .ok (.getfield 21, 3) := by decide +kernel
theorem dX8_tieAnew_46 : decode cX8_tieAnew 46 = .ok (.getfield 58, 3) := by decide +kernel
theorem dX8_tieAnew_49 : decode cX8_tieAnew 49 = .ok (.iload_n 1, 1) := by decide +kernel
theorem dX8_tieAnew_50 : decode cX8_tieAnew 50 = .ok (.invokevirtual 90, 3) := by decide +kernel
theorem dX8_tieAnew_53 : decode cX8_tieAnew 53 = .ok (.istore_n 2, 1) := by decide +kernel
theorem dX8_tieAnew_54 : decode cX8_tieAnew 54 = .ok (.iload_n 2, 1) := by decide +kernel
theorem dX8_tieAnew_55 : decode cX8_tieAnew 55 = .ok (.ifCond .ne 14, 3) := by decide +kernel
theorem dX8_tieAnew_58 : decode cX8_tieAnew 58 = .ok (.aload_n 0, 1) := by decide +kernel
theorem dX8_tieAnew_59 : decode cX8_tieAnew 59 = .ok (.getfield 12, 3) := by decide +kernel
theorem dX8_tieAnew_62 : decode cX8_tieAnew 62 = .ok (.bipush 10, 2) := by decide +kernel
theorem dX8_tieAnew_64 : decode cX8_tieAnew 64 = .ok (.iload_n 1, 1) := by decide +kernel
theorem dX8_tieAnew_65 : decode cX8_tieAnew 65 = .ok (.invokevirtual 39, 3) := by decide +kernel
theorem dX8_tieAnew_68 : decode cX8_tieAnew 68 = .ok (.ireturn, 1) := by decide +kernel
theorem dX8_tieAnew_69 : decode cX8_tieAnew 69 = .ok (.aload_n 0, 1) := by decide +kernel
theorem dX8_tieAnew_70 : decode cX8_tieAnew 70 = .ok (.getfield 21, 3) := by decide +kernel
theorem dX8_tieAnew_73 : decode cX8_tieAnew 73 = .ok (.getfield 58, 3) := by decide +kernel
theorem dX8_tieAnew_76 : decode cX8_tieAnew 76 = .ok (.iload_n 1, 1) := by decide +kernel
theorem dX8_tieAnew_77 : decode cX8_tieAnew 77 = .ok (.invokevirtual 93, 3) := by decide +kernel
theorem dX8_tieAnew_80 : decode cX8_tieAnew 80 = .ok (.istore_n 3, 1) := by decide +kernel
theorem dX8_tieAnew_81 : decode cX8_tieAnew 81 = .ok (.aload_n 0, 1) := by decide +kernel
theorem dX8_tieAnew_82 : decode cX8_tieAnew 82 = .ok (.getfield 21, 3) := by decide +kernel
theorem dX8_tieAnew_85 : decode cX8_tieAnew 85 = .ok (.getfield 46, 3) := by decide +kernel
theorem dX8_tieAnew_88 : decode cX8_tieAnew 88 = .ok (.iload_n 3, 1) := by decide +kernel
theorem dX8_tieAnew_89 : decode cX8_tieAnew 89 = .ok (.if_icmp .ge 21, 3) := by decide +kernel
theorem dX8_tieAnew_92 : decode cX8_tieAnew 92 = .ok (.aload_n 0, 1) := by decide +kernel
theorem dX8_tieAnew_93 : decode cX8_tieAnew 93 = .ok (.getfield 12, 3) := by decide +kernel
theorem dX8_tieAnew_96 : decode cX8_tieAnew 96 = .ok (.iconst 3, 1) := by decide +kernel
theorem dX8_tieAnew_97 : decode cX8_tieAnew 97 = .ok (.iload_n 3, 1) := by decide +kernel
theorem dX8_tieAnew_98 : decode cX8_tieAnew 98 = .ok (.aload_n 0, 1) := by decide +kernel
theorem dX8_tieAnew_99 : decode cX8_tieAnew 99 = .ok (.getfield 21, 3) := by decide +kernel
theorem dX8_tieAnew_102 : decode cX8_tieAnew 102 = .ok (.getfield 46, 3) := by decide +kernel
theorem dX8_tieAnew_105 : decode cX8_tieAnew 105 = .ok (.isub, 1) := by decide +kernel
theorem dX8_tieAnew_106 : decode cX8_tieAnew 106 = .ok (.invokevirtual 39, 3) := by decide +kernel
theorem dX8_tieAnew_109 : decode cX8_tieAnew 109 = .ok (.ireturn, 1) := by decide +kernel
theorem dX8_tieAnew_110 : decode cX8_tieAnew 110 = .ok (.aload_n 0, 1) := by decide +kernel
theorem dX8_tieAnew_111 : decode cX8_tieAnew 111 = .ok (.getfield 21, 3) := by decide +kernel
theorem dX8_tieAnew_114 : decode cX8_tieAnew 114 = .ok (.dup, 1) := by decide +kernel
theorem dX8_tieAnew_115 : decode cX8_tieAnew 115 = .ok (.getfield 46, 3) := by decide +kernel
theorem dX8_tieAnew_118 : decode cX8_tieAnew 118 = .ok (.iload_n 3, 1) := by decide +kernel
theorem dX8_tieAnew_119 : decode cX8_tieAnew 119 = .ok (.isub, 1) := by decide +kernel
theorem dX8_tieAnew_120 : decode cX8_tieAnew 120 = .ok (.putfield 46, 3) := by decide +kernel
theorem dX8_tieAnew_123 : decode cX8_tieAnew 123 = .ok (.aload_n 0, 1) := by decide +kernel
theorem dX8_tieAnew_124 : decode cX8_tieAnew 124 = .ok (.getfield 21, 3) := by decide +kernel
theorem dX8_tieAnew_127 : decode cX8_tieAnew 127 = .ok (.getfield 58, 3) := by decide +kernel
theorem dX8_tieAnew_130 : decode cX8_tieAnew 130 = .ok (.iload_n 1, 1) := by decide +kernel
theorem dX8_tieAnew_131 : decode cX8_tieAnew 131 = .ok (.invokevirtual 96, 3) := by decide +kernel
theorem dX8_tieAnew_134 : decode cX8_tieAnew 134 = .ok (.iload_n 2, 1) := by decide +kernel
theorem dX8_tieAnew_135 : decode cX8_tieAnew 135 = .ok (.ireturn, 1) := by decide +kernel
theorem dX8_addCrew_0 : decode cX8_addCrew 0 = .ok (.iload_n 1, 1) := by decide +kernel
theorem dX8_addCrew_1 : decode cX8_addCrew 1 = .ok (.iconst 1, 1) := by decide +kernel
theorem dX8_addCrew_2 : decode cX8_addCrew 2 = .ok (.iconst 4, 1) := by decide +kernel
theorem dX8_addCrew_3 : decode cX8_addCrew 3 = .ok (.invokestatic 25, 3) := by decide +kernel
theorem dX8_addCrew_6 : decode cX8_addCrew 6 = .ok (.ifCond .ne 6, 3) := by decide +kernel
theorem dX8_addCrew_9 : decode cX8_addCrew 9 = .ok (.bipush (-2), 2) := by decide +kernel
theorem dX8_addCrew_11 : decode cX8_addCrew 11 = .ok (.ireturn, 1) := by decide +kernel
theorem dX8_addCrew_12 : decode cX8_addCrew 12 = .ok (.aload_n 0, 1) := by decide +kernel
theorem dX8_addCrew_13 : decode cX8_addCrew 13 = .ok (.getfield 21, 3) := by decide +kernel
theorem dX8_addCrew_16 : decode cX8_addCrew 16 = .ok (.getfield 100, 3) := by decide +kernel
theorem dX8_addCrew_19 : decode cX8_addCrew 19 = .ok (.getfield 104, 3) := by decide +kernel
theorem dX8_addCrew_22 : decode cX8_addCrew 22 = .ok (.iconst 5, 1) := by decide +kernel
theorem dX8_addCrew_23 : decode cX8_addCrew 23 = .ok (.if_icmp .lt 13, 3) := by decide +kernel
theorem dX8_addCrew_26 : decode cX8_addCrew 26 = .ok (.aload_n 0, 1) := by decide +kernel
theorem dX8_addCrew_27 : decode cX8_addCrew 27 = .ok (.getfield 12, 3) := by decide +kernel
theorem dX8_addCrew_30 : decode cX8_addCrew 30 = .ok (.iconst 1, 1) := by decide +kernel
theorem dX8_addCrew_31 : decode cX8_addCrew 31 = .ok (.iconst 5, 1) := by decide +kernel
theorem dX8_addCrew_32 : decode cX8_addCrew 32 = .ok (.invokevirtual 39, 3) := by decide +kernel
theorem dX8_addCrew_35 : decode cX8_addCrew 35 = .ok (.ireturn, 1) := by decide +kernel
theorem dX8_addCrew_36 : decode cX8_addCrew 36 = .ok (.aload_n 0, 1) := by decide +kernel
theorem dX8_addCrew_37 : decode cX8_addCrew 37 = .ok (.getfield 21, 3) := by decide +kernel
theorem dX8_addCrew_40 : decode cX8_addCrew 40 = .ok (.getfield 100, 3) := by decide +kernel
theorem dX8_addCrew_43 : decode cX8_addCrew 43 = .ok (.iload_n 1, 1) := by decide +kernel
theorem dX8_addCrew_44 : decode cX8_addCrew 44 = .ok (.invokevirtual 107, 3) := by decide +kernel
theorem dX8_addCrew_47 : decode cX8_addCrew 47 = .ok (.ireturn, 1) := by decide +kernel
theorem dX8_sendUp_0 : decode cX8_sendUp 0 = .ok (.aload_n 0, 1) := by decide +kernel
theorem dX8_sendUp_1 : decode cX8_sendUp 1 = .ok (.getfield 21, 3) := by decide +kernel
theorem dX8_sendUp_4 : decode cX8_sendUp 4 = .ok (.getfield 100, 3) := by decide +kernel
theorem dX8_sendUp_7 : decode cX8_sendUp 7 = .ok (.iload_n 1, 1) := by decide +kernel
theorem dX8_sendUp_8 : decode cX8_sendUp 8 = .ok (.invokevirtual 109, 3) := by decide +kernel
theorem dX8_sendUp_11 : decode cX8_sendUp 11 = .ok (.ifCond .eq 17, 3) := by decide +kernel
theorem dX8_sendUp_14 : decode cX8_sendUp 14 = .ok (.aload_n 0, 1) := by decide +kernel
theorem dX8_sendUp_15 : decode cX8_sendUp 15 = .ok (.getfield 21, 3) := by decide +kernel
theorem dX8_sendUp_18 : decode cX8_sendUp 18 = .ok (.getfield 58, 3) := by decide +kernel
theorem dX8_sendUp_21 : decode cX8_sendUp 21 = .ok (.iload_n 2, 1) := by decide +kernel
theorem dX8_sendUp_22 : decode cX8_sendUp 22 = .ok (.invokevirtual 89, 3) := by decide +kernel
theorem dX8_sendUp_25 : decode cX8_sendUp 25 = .ok (.ifCond .ne 5, 3) := by decide +kernel
theorem dX8_sendUp_28 : decode cX8_sendUp 28 = .ok (.iconst (-1), 1) := by decide +kernel
theorem dX8_sendUp_29 : decode cX8_sendUp 29 = .ok (.ireturn, 1) := by decide +kernel
theorem dX8_sendUp_30 : decode cX8_sendUp 30 = .ok (.aload_n 0, 1) := by decide +kernel
theorem dX8_sendUp_31 : decode cX8_sendUp 31 = .ok (.getfield 21, 3) := by decide +kernel
theorem dX8_sendUp_34 : decode cX8_sendUp 34 = .ok (.getfield 100, 3) := by decide +kernel
theorem dX8_sendUp_37 : decode cX8_sendUp 37 = .ok (.iload_n 1, 1) := by decide +kernel
theorem dX8_sendUp_38 : decode cX8_sendUp 38 = .ok (.invokevirtual 110, 3) := by decide +kernel
theorem dX8_sendUp_41 : decode cX8_sendUp 41 = .ok (.iload_n 2, 1) := by decide +kernel
theorem dX8_sendUp_42 : decode cX8_sendUp 42 = .ok (.if_icmp .ne 14, 3) := by decide +kernel
theorem dX8_sendUp_45 : decode cX8_sendUp 45 = .ok (.aload_n 0, 1) := by decide +kernel
theorem dX8_sendUp_46 : decode cX8_sendUp 46 = .ok (.getfield 12, 3) := by decide +kernel
theorem dX8_sendUp_49 : decode cX8_sendUp 49 = .ok (.bipush 7, 2) := by decide +kernel
theorem dX8_sendUp_51 : decode cX8_sendUp 51 = .ok (.iload_n 2, 1) := by decide +kernel
theorem dX8_sendUp_52 : decode cX8_sendUp 52 = .ok (.invokevirtual 39, 3) := by decide +kernel
theorem dX8_sendUp_55 : decode cX8_sendUp 55 = .ok (.ireturn, 1) := by decide +kernel
theorem dX8_sendUp_56 : decode cX8_sendUp 56 = .ok (.aload_n 0, 1) := by decide +kernel
theorem dX8_sendUp_57 : decode cX8_sendUp 57 = .ok (.getfield 21, 3) := by decide +kernel
theorem dX8_sendUp_60 : decode cX8_sendUp 60 = .ok (.invokevirtual 65, 3) := by decide +kernel
theorem dX8_sendUp_63 : decode cX8_sendUp 63 = .ok (.ifCond .eq 19, 3) := by decide +kernel
theorem dX8_sendUp_66 : decode cX8_sendUp 66 = .ok (.aload_n 0, 1) := by decide +kernel
end
section
theorem dX8_sendUp_67 : decode cX8_sendUp 67 = .ok (.getfield 12, 3) := by decide +kernel
theorem dX8_sendUp_70 : decode cX8_sendUp 70 = .ok (.iconst 4, 1) := by decide +kernel
theorem dX8_sendUp_71 : decode cX8_sendUp 71 = .ok (.aload_n 0, 1) := by decide +kernel
theorem dX8_sendUp_72 : decode cX8_sendUp 72 = .ok (.getfield 21, 3) := by decide +kernel
theorem dX8_sendUp_75 : decode cX8_sendUp 75 = .ok (.getfield 69, 3) := by decide +kernel
theorem dX8_sendUp_78 : decode cX8_sendUp 78 = .ok (.invokevirtual 39, 3) := by decide +kernel
theorem dX8_sendUp_81 : decode cX8_sendUp 81 = .ok (.ireturn, 1) := by decide +kernel
theorem dX8_sendUp_82 : decode cX8_sendUp 82 = .ok (.aload_n 0, 1) := by decide +kernel
theorem dX8_sendUp_83 : decode cX8_sendUp 83 = .ok (.getfield 21, 3) := by decide +kernel
theorem dX8_sendUp_86 : decode cX8_sendUp 86 = .ok (.getfield 58, 3) := by decide +kernel
theorem dX8_sendUp_89 : decode cX8_sendUp 89 = .ok (.iload_n 2, 1) := by decide +kernel
theorem dX8_sendUp_90 : decode cX8_sendUp 90 = .ok (.invokevirtual 113, 3) := by decide +kernel
theorem dX8_sendUp_93 : decode cX8_sendUp 93 = .ok (.istore_n 3, 1) := by decide +kernel
theorem dX8_sendUp_94 : decode cX8_sendUp 94 = .ok (.iload_n 3, 1) := by decide +kernel
theorem dX8_sendUp_95 : decode cX8_sendUp 95 = .ok (.bipush (-4), 2) := by decide +kernel
theorem dX8_sendUp_97 : decode cX8_sendUp 97 = .ok (.if_icmp .eq 13, 3) := by decide +kernel
theorem dX8_sendUp_100 : decode cX8_sendUp 100 = .ok (.aload_n 0, 1) := by decide +kernel
theorem dX8_sendUp_101 : decode cX8_sendUp 101 = .ok (.getfield 12, 3) := by decide +kernel
theorem dX8_sendUp_104 : decode cX8_sendUp 104 = .ok (.iconst 5, 1) := by decide +kernel
theorem dX8_sendUp_105 : decode cX8_sendUp 105 = .ok (.iload_n 3, 1) := by decide +kernel
theorem dX8_sendUp_106 : decode cX8_sendUp 106 = .ok (.invokevirtual 39, 3) := by decide +kernel
theorem dX8_sendUp_109 : decode cX8_sendUp 109 = .ok (.ireturn, 1) := by decide +kernel
theorem dX8_sendUp_110 : decode cX8_sendUp 110 = .ok (.aload_n 0, 1) := by decide +kernel
theorem dX8_sendUp_111 : decode cX8_sendUp 111 = .ok (.getfield 21, 3) := by decide +kernel
theorem dX8_sendUp_114 : decode cX8_sendUp 114 = .ok (.getfield 58, 3) := by decide +kernel
theorem dX8_sendUp_117 : decode cX8_sendUp 117 = .ok (.iload_n 2, 1) := by decide +kernel
theorem dX8_sendUp_118 : decode cX8_sendUp 118 = .ok (.invokevirtual 116, 3) := by decide +kernel
theorem dX8_sendUp_121 : decode cX8_sendUp 121 = .ok (.ifCond .eq 23, 3) := by decide +kernel
theorem dX8_sendUp_124 : decode cX8_sendUp 124 = .ok (.aload_n 0, 1) := by decide +kernel
theorem dX8_sendUp_125 : decode cX8_sendUp 125 = .ok (.getfield 12, 3) := by decide +kernel
theorem dX8_sendUp_128 : decode cX8_sendUp 128 = .ok (.iload_n 2, 1) := by decide +kernel
theorem dX8_sendUp_129 : decode cX8_sendUp 129 = .ok (.aload_n 0, 1) := by decide +kernel
theorem dX8_sendUp_130 : decode cX8_sendUp 130 = .ok (.getfield 21, 3) := by decide +kernel
theorem dX8_sendUp_133 : decode cX8_sendUp 133 = .ok (.getfield 58, 3) := by decide +kernel
theorem dX8_sendUp_136 : decode cX8_sendUp 136 = .ok (.iload_n 2, 1) := by decide +kernel
theorem dX8_sendUp_137 : decode cX8_sendUp 137 = .ok (.invokevirtual 119, 3) := by decide +kernel
theorem dX8_sendUp_140 : decode cX8_sendUp 140 = .ok (.invokevirtual 122, 3) := by decide +kernel
theorem dX8_sendUp_143 : decode cX8_sendUp 143 = .ok (.ireturn, 1) := by decide +kernel
theorem dX8_sendUp_144 : decode cX8_sendUp 144 = .ok (.aload_n 0, 1) := by decide +kernel
theorem dX8_sendUp_145 : decode cX8_sendUp 145 = .ok (.getfield 21, 3) := by decide +kernel
theorem dX8_sendUp_148 : decode cX8_sendUp 148 = .ok (.getfield 100, 3) := by decide +kernel
theorem dX8_sendUp_151 : decode cX8_sendUp 151 = .ok (.iload_n 1, 1) := by decide +kernel
theorem dX8_sendUp_152 : decode cX8_sendUp 152 = .ok (.iload_n 2, 1) := by decide +kernel
theorem dX8_sendUp_153 : decode cX8_sendUp 153 = .ok (.invokevirtual 125, 3) := by decide +kernel
theorem dX8_sendUp_156 : decode cX8_sendUp 156 = .ok (.aload_n 0, 1) := by decide +kernel
theorem dX8_sendUp_157 : decode cX8_sendUp 157 = .ok (.getfield 21, 3) := by decide +kernel
theorem dX8_sendUp_160 : decode cX8_sendUp 160 = .ok (.getfield 100, 3) := by decide +kernel
theorem dX8_sendUp_163 : decode cX8_sendUp 163 = .ok (.iload_n 2, 1) := by decide +kernel
theorem dX8_sendUp_164 : decode cX8_sendUp 164 = .ok (.invokevirtual 128, 3) := by decide +kernel
theorem dX8_sendUp_167 : decode cX8_sendUp 167 = .ok (.ireturn, 1) := by decide +kernel
theorem dX8_callDown_0 : decode cX8_callDown 0 = .ok (.aload_n 0, 1) := by decide +kernel
theorem dX8_callDown_1 : decode cX8_callDown 1 = .ok (.getfield 21, 3) := by decide +kernel
theorem dX8_callDown_4 : decode cX8_callDown 4 = .ok (.getfield 100, 3) := by decide +kernel
theorem dX8_callDown_7 : decode cX8_callDown 7 = .ok (.iload_n 1, 1) := by decide +kernel
theorem dX8_callDown_8 : decode cX8_callDown 8 = .ok (.invokevirtual 109, 3) := by decide +kernel
theorem dX8_callDown_11 : decode cX8_callDown 11 = .ok (.ifCond .ne 5, 3) := by decide +kernel
theorem dX8_callDown_14 : decode cX8_callDown 14 = .ok (.iconst (-1), 1) := by decide +kernel
theorem dX8_callDown_15 : decode cX8_callDown 15 = .ok (.ireturn, 1) := by decide +kernel
theorem dX8_callDown_16 : decode cX8_callDown 16 = .ok (.aload_n 0, 1) := by decide +kernel
theorem dX8_callDown_17 : decode cX8_callDown 17 = .ok (.getfield 21, 3) := by decide +kernel
theorem dX8_callDown_20 : decode cX8_callDown 20 = .ok (.getfield 100, 3) := by decide +kernel
theorem dX8_callDown_23 : decode cX8_callDown 23 = .ok (.iload_n 1, 1) := by decide +kernel
theorem dX8_callDown_24 : decode cX8_callDown 24 = .ok (.invokevirtual 131, 3) := by decide +kernel
theorem dX8_callDown_27 : decode cX8_callDown 27 = .ok (.ifCond .ne 14, 3) := by decide +kernel
theorem dX8_callDown_30 : decode cX8_callDown 30 = .ok (.aload_n 0, 1) := by decide +kernel
theorem dX8_callDown_31 : decode cX8_callDown 31 = .ok (.getfield 12, 3) := by decide +kernel
theorem dX8_callDown_34 : decode cX8_callDown 34 = .ok (.bipush 11, 2) := by decide +kernel
theorem dX8_callDown_36 : decode cX8_callDown 36 = .ok (.iload_n 1, 1) := by decide +kernel
theorem dX8_callDown_37 : decode cX8_callDown 37 = .ok (.invokevirtual 39, 3) := by decide +kernel
theorem dX8_callDown_40 : decode cX8_callDown 40 = .ok (.ireturn, 1) := by decide +kernel
theorem dX8_callDown_41 : decode cX8_callDown 41 = .ok (.aload_n 0, 1) := by decide +kernel
theorem dX8_callDown_42 : decode cX8_callDown 42 = .ok (.getfield 21, 3) := by decide +kernel
theorem dX8_callDown_45 : decode cX8_callDown 45 = .ok (.getfield 100, 3) := by decide +kernel
theorem dX8_callDown_48 : decode cX8_callDown 48 = .ok (.iload_n 1, 1) := by decide +kernel
theorem dX8_callDown_49 : decode cX8_callDown 49 = .ok (.invokevirtual 110, 3) := by decide +kernel
theorem dX8_callDown_52 : decode cX8_callDown 52 = .ok (.istore_n 2, 1) := by decide +kernel
theorem dX8_callDown_53 : decode cX8_callDown 53 = .ok (.aload_n 0, 1) := by decide +kernel
theorem dX8_callDown_54 : decode cX8_callDown 54 = .ok (.getfield 21, 3) := by decide +kernel
theorem dX8_callDown_57 : decode cX8_callDown 57 = .ok (.getfield 100, 3) := by decide +kernel
theorem dX8_callDown_60 : decode cX8_callDown 60 = .ok (.iload_n 1, 1) := by decide +kernel
theorem dX8_callDown_61 : decode cX8_callDown 61 = .ok (.bipush (-4), 2) := by decide +kernel
theorem dX8_callDown_63 : decode cX8_callDown 63 = .ok (.invokevirtual 125, 3) := by decide +kernel
theorem dX8_callDown_66 : decode cX8_callDown 66 = .ok (.iload_n 2, 1) := by decide +kernel
theorem dX8_callDown_67 : decode cX8_callDown 67 = .ok (.ireturn, 1) := by decide +kernel
theorem dX8_bringLoads_0 : decode cX8_bringLoads 0 = .ok (.aload_n 0, 1) := by decide +kernel
theorem dX8_bringLoads_1 : decode cX8_bringLoads 1 = .ok (.getfield 21, 3) := by decide +kernel
theorem dX8_bringLoads_4 : decode cX8_bringLoads 4 = .ok (.getfield 58, 3) := by decide +kernel
theorem dX8_bringLoads_7 : decode cX8_bringLoads 7 = .ok (.iload_n 1, 1) := by decide +kernel
theorem dX8_bringLoads_8 : decode cX8_bringLoads 8 = .ok (.invokevirtual 89, 3) := by decide +kernel
theorem dX8_bringLoads_11 : decode cX8_bringLoads 11 = .ok (.ifCond .ne 5, 3) := by decide +kernel
theorem dX8_bringLoads_14 : decode cX8_bringLoads 14 = .ok (.iconst (-1), 1) := by decide +kernel
theorem dX8_bringLoads_15 : decode cX8_bringLoads 15 = .ok (.ireturn, 1) := by decide +kernel
theorem dX8_bringLoads_16 : decode cX8_bringLoads 16 = .ok (.iload_n 2, 1) := by decide +kernel
theorem dX8_bringLoads_17 : decode cX8_bringLoads 17 = .ok (.iconst 1, 1) := by decide +kernel
theorem dX8_bringLoads_18 : decode cX8_bringLoads 18 = .ok (.bipush 9, 2) := by decide +kernel
theorem dX8_bringLoads_20 : decode cX8_bringLoads 20 = .ok (.invokestatic 25, 3) := by decide +kernel
theorem dX8_bringLoads_23 : decode cX8_bringLoads 23 = .ok (.ifCond .ne 6, 3) := by decide +kernel
theorem dX8_bringLoads_26 : decode cX8_bringLoads 26 = .ok (.bipush (-2), 2) := by decide +kernel
theorem dX8_bringLoads_28 : decode cX8_bringLoads 28 = .ok (.ireturn, 1) := by decide +kernel
theorem dX8_bringLoads_29 : decode cX8_bringLoads 29 = .ok (.aload_n 0, 1) := by decide +kernel
theorem dX8_bringLoads_30 : decode cX8_bringLoads 30 = .ok (.getfield 21, 3) := by decide +kernel
theorem dX8_bringLoads_33 : decode cX8_bringLoads 33 = .ok (.invokevirtual 65, 3) := by decide +kernel
theorem dX8_bringLoads_36 : decode cX8_bringLoads 36 = .ok (.ifCond .eq 19, 3) := by decide +kernel
theorem dX8_bringLoads_39 : decode cX8_bringLoads 39 = .ok (.aload_n 0, 1) := by decide +kernel
theorem dX8_bringLoads_40 : decode cX8_bringLoads 40 = .ok (.getfield 12, 3) := by decide +kernel
theorem dX8_bringLoads_43 : decode cX8_bringLoads 43 = .ok (.iconst 4, 1) := by decide +kernel
theorem dX8_bringLoads_44 : decode cX8_bringLoads 44 = .ok (.aload_n 0, 1) := by decide +kernel
theorem dX8_bringLoads_45 : decode cX8_bringLoads 45 = .ok (.getfield 21, 3) := by decide +kernel
theorem dX8_bringLoads_48 : decode cX8_bringLoads 48 = .ok (.getfield 69, 3) := by decide +kernel
theorem dX8_bringLoads_51 : decode cX8_bringLoads 51 = .ok (.invokevirtual 39, 3) := by decide +kernel
theorem dX8_bringLoads_54 : decode cX8_bringLoads 54 = .ok (.ireturn, 1) := by decide +kernel
theorem dX8_bringLoads_55 : decode cX8_bringLoads 55 = .ok (.aload_n 0, 1) := by decide +kernel
theorem dX8_bringLoads_56 : decode cX8_bringLoads 56 = .ok (.getfield 21, 3) := by decide +kernel
theorem dX8_bringLoads_59 : decode cX8_bringLoads 59 = .ok (.getfield 58, 3) := by decide +kernel
theorem dX8_bringLoads_62 : decode cX8_bringLoads 62 = .ok (.iload_n 1, 1) := by decide +kernel
theorem dX8_bringLoads_63 : decode cX8_bringLoads 63 = .ok (.invokevirtual 134, 3) := by decide +kernel
theorem dX8_bringLoads_66 : decode cX8_bringLoads 66 = .ok (.iload_n 2, 1) := by decide +kernel
theorem dX8_bringLoads_67 : decode cX8_bringLoads 67 = .ok (.iadd, 1) := by decide +kernel
theorem dX8_bringLoads_68 : decode cX8_bringLoads 68 = .ok (.bipush 9, 2) := by decide +kernel
theorem dX8_bringLoads_70 : decode cX8_bringLoads 70 = .ok (.if_icmp .le 24, 3) := by decide +kernel
theorem dX8_bringLoads_73 : decode cX8_bringLoads 73 = .ok (.aload_n 0, 1) := by decide +kernel
theorem dX8_bringLoads_74 : decode cX8_bringLoads 74 = .ok (.getfield 12, 3) := by decide +kernel
theorem dX8_bringLoads_77 : decode cX8_bringLoads 77 = .ok (.bipush 9, 2) := by decide +kernel
theorem dX8_bringLoads_79 : decode cX8_bringLoads 79 = .ok (.aload_n 0, 1) := by decide +kernel
theorem dX8_bringLoads_80 : decode cX8_bringLoads 80 = .ok (.getfield 21, 3) := by decide +kernel
theorem dX8_bringLoads_83 : decode cX8_bringLoads 83 = .ok (.getfield 58, 3) := by decide +kernel
theorem dX8_bringLoads_86 : decode cX8_bringLoads 86 = .ok (.iload_n 1, 1) := by decide +kernel
theorem dX8_bringLoads_87 : decode cX8_bringLoads 87 = .ok (.invokevirtual 134, 3) := by decide +kernel
theorem dX8_bringLoads_90 : decode cX8_bringLoads 90 = .ok (.invokevirtual 39, 3) := by decide +kernel
theorem dX8_bringLoads_93 : decode cX8_bringLoads 93 = .ok (.ireturn, 1) := by decide +kernel
theorem dX8_bringLoads_94 : decode cX8_bringLoads 94 = .ok (.iload_n 2, 1) := by decide +kernel
theorem dX8_bringLoads_95 : decode cX8_bringLoads 95 = .ok (.iload_n 1, 1) := by decide +kernel
theorem dX8_bringLoads_96 : decode cX8_bringLoads 96 = .ok (.iconst 1, 1) := by decide +kernel
theorem dX8_bringLoads_97 : decode cX8_bringLoads 97 = .ok (.iadd, 1) := by decide +kernel
theorem dX8_bringLoads_98 : decode cX8_bringLoads 98 = .ok (.imul, 1) := by decide +kernel
theorem dX8_bringLoads_99 : decode cX8_bringLoads 99 = .ok (.istore_n 3, 1) := by decide +kernel
theorem dX8_bringLoads_100 : decode cX8_bringLoads 100 = .ok (.aload_n 0, 1) := by decide +kernel
theorem dX8_bringLoads_101 : decode cX8_bringLoads 101 = .ok (.getfield 21, 3) := by decide +kernel
theorem dX8_bringLoads_104 : decode cX8_bringLoads 104 = .ok (.getfield 137, 3) := by decide +kernel
theorem dX8_bringLoads_107 : decode cX8_bringLoads 107 = .ok (.iload_n 3, 1) := by decide +kernel
theorem dX8_bringLoads_108 : decode cX8_bringLoads 108 = .ok (.if_icmp .ge 20, 3) := by decide +kernel
theorem dX8_bringLoads_111 : decode cX8_bringLoads 111 = .ok (.aload_n 0, 1) := by decide +kernel
theorem dX8_bringLoads_112 : decode cX8_bringLoads 112 = .ok (.getfield 12, 3) := by decide +kernel
theorem dX8_bringLoads_115 : decode cX8_bringLoads 115 = .ok (.bipush 8, 2) := by decide +kernel
theorem dX8_bringLoads_117 : decode cX8_bringLoads 117 = .ok (.aload_n 0, 1) := by decide +kernel
theorem dX8_bringLoads_118 : decode cX8_bringLoads 118 = .ok (.getfield 21, 3) := by decide +kernel
theorem dX8_bringLoads_121 : decode cX8_bringLoads 121 = .ok (.getfield 137, 3) := by decide +kernel
theorem dX8_bringLoads_124 : decode cX8_bringLoads 124 = .ok (.invokevirtual 39, 3) := by decide +kernel
theorem dX8_bringLoads_127 : decode cX8_bringLoads 127 = .ok (.ireturn, 1) := by decide +kernel
theorem dX8_bringLoads_128 : decode cX8_bringLoads 128 = .ok (.aload_n 0, 1) := by decide +kernel
theorem dX8_bringLoads_129 : decode cX8_bringLoads 129 = .ok (.getfield 21, 3) := by decide +kernel
theorem dX8_bringLoads_132 : decode cX8_bringLoads 132 = .ok (.dup, 1) := by decide +kernel
theorem dX8_bringLoads_133 : decode cX8_bringLoads 133 = .ok (.getfield 137, 3) := by decide +kernel
theorem dX8_bringLoads_136 : decode cX8_bringLoads 136 = .ok (.iload_n 3, 1) := by decide +kernel
theorem dX8_bringLoads_137 : decode cX8_bringLoads 137 = .ok (.isub, 1) := by decide +kernel
theorem dX8_bringLoads_138 : decode cX8_bringLoads 138 = .ok (.putfield 137, 3) := by decide +kernel
theorem dX8_bringLoads_141 : decode cX8_bringLoads 141 = .ok (.aload_n 0, 1) := by decide +kernel
theorem dX8_bringLoads_142 : decode cX8_bringLoads 142 = .ok (.getfield 21, 3) := by decide +kernel
theorem dX8_bringLoads_145 : decode cX8_bringLoads 145 = .ok (.getfield 58, 3) := by decide +kernel
theorem dX8_bringLoads_148 : decode cX8_bringLoads 148 = .ok (.iload_n 1, 1) := by decide +kernel
theorem dX8_bringLoads_149 : decode cX8_bringLoads 149 = .ok (.iload_n 2, 1) := by decide +kernel
theorem dX8_bringLoads_150 : decode cX8_bringLoads 150 = .ok (.invokevirtual 140, 3) := by decide +kernel
theorem dX8_bringLoads_153 : decode cX8_bringLoads 153 = .ok (.aload_n 0, 1) := by decide +kernel
theorem dX8_bringLoads_154 : decode cX8_bringLoads 154 = .ok (.getfield 21, 3) := by decide +kernel
theorem dX8_bringLoads_157 : decode cX8_bringLoads 157 = .ok (.getfield 137, 3) := by decide +kernel
theorem dX8_bringLoads_160 : decode cX8_bringLoads 160 = .ok (.ireturn, 1) := by decide +kernel
theorem dX8_changeSignal_0 : decode cX8_changeSignal 0 = .ok (.iload_n 1, 1) := by decide +kernel
theorem dX8_changeSignal_1 : decode cX8_changeSignal 1 = .ok (.iconst 0, 1) := by decide +kernel
theorem dX8_changeSignal_2 : decode cX8_changeSignal 2 = .ok (.bipush 10, 2) := by decide +kernel
theorem dX8_changeSignal_4 : decode cX8_changeSignal 4 = .ok (.invokestatic 25, 3) := by decide +kernel
theorem dX8_changeSignal_7 : decode cX8_changeSignal 7 = .ok (.ifCond .ne 6, 3) := by decide +kernel
theorem dX8_changeSignal_10 : decode cX8_changeSignal 10 = .ok (.bipush (-2), 2) := by decide +kernel
theorem dX8_changeSignal_12 : decode cX8_changeSignal 12 = .ok (.ireturn, 1) := by decide +kernel
theorem dX8_changeSignal_13 : decode cX8_changeSignal 13 = .ok (.aload_n 0, 1) := by decide +kernel
theorem dX8_changeSignal_14 : decode cX8_changeSignal 14 = .ok (.getfield 21, 3) := by decide +kernel
theorem dX8_changeSignal_17 : decode cX8_changeSignal 17 = .ok (.getfield 69, 3) := by decide +kernel
theorem dX8_changeSignal_20 : decode cX8_changeSignal 20 = .ok (.istore_n 2, 1) := by decide +kernel
theorem dX8_changeSignal_21 : decode cX8_changeSignal 21 = .ok (.aload_n 0, 1) := by decide +kernel
theorem dX8_changeSignal_22 : decode cX8_changeSignal 22 = .ok (.getfield 21, 3) := by decide +kernel
theorem dX8_changeSignal_25 : decode cX8_changeSignal 25 = .ok (.iload_n 1, 1) := by decide +kernel
theorem dX8_changeSignal_26 : decode cX8_changeSignal 26 = .ok (.putfield 69, 3) := by decide +kernel
theorem dX8_changeSignal_29 : decode cX8_changeSignal 29 = .ok (.aload_n 0, 1) := by decide +kernel
theorem dX8_changeSignal_30 : decode cX8_changeSignal 30 = .ok (.getfield 21, 3) := by decide +kernel
theorem dX8_changeSignal_33 : decode cX8_changeSignal 33 = .ok (.invokevirtual 65, 3) := by decide +kernel
theorem dX8_changeSignal_36 : decode cX8_changeSignal 36 = .ok (.ifCond .eq 13, 3) := by decide +kernel
theorem dX8_changeSignal_39 : decode cX8_changeSignal 39 = .ok (.aload_n 0, 1) := by decide +kernel
theorem dX8_changeSignal_40 : decode cX8_changeSignal 40 = .ok (.getfield 21, 3) := by decide +kernel
theorem dX8_changeSignal_43 : decode cX8_changeSignal 43 = .ok (.getfield 100, 3) := by decide +kernel
theorem dX8_changeSignal_46 : decode cX8_changeSignal 46 = .ok (.invokevirtual 143, 3) := by decide +kernel
theorem dX8_changeSignal_49 : decode cX8_changeSignal 49 = .ok (.iload_n 2, 1) := by decide +kernel
theorem dX8_changeSignal_50 : decode cX8_changeSignal 50 = .ok (.ireturn, 1) := by decide +kernel
theorem dX8_addInspector_0 : decode cX8_addInspector 0 = .ok (.iload_n 1, 1) := by decide +kernel
theorem dX8_addInspector_1 : decode cX8_addInspector 1 = .ok (.iconst 1, 1) := by decide +kernel
theorem dX8_addInspector_2 : decode cX8_addInspector 2 = .ok (.bipush 9, 2) := by decide +kernel
theorem dX8_addInspector_4 : decode cX8_addInspector 4 = .ok (.invokestatic 25, 3) := by decide +kernel
theorem dX8_addInspector_7 : decode cX8_addInspector 7 = .ok (.ifCond .ne 6, 3) := by decide +kernel
theorem dX8_addInspector_10 : decode cX8_addInspector 10 = .ok (.bipush (-2), 2) := by decide +kernel
theorem dX8_addInspector_12 : decode cX8_addInspector 12 = .ok (.ireturn, 1) := by decide +kernel
theorem dX8_addInspector_13 : decode cX8_addInspector 13 = .ok (.aload_n 0, 1) := by decide +kernel
theorem dX8_addInspector_14 : decode cX8_addInspector 14 = .ok (.getfield 21, 3) := by decide +kernel
theorem dX8_addInspector_17 : decode cX8_addInspector 17 = .ok (.getfield 146, 3) := by decide +kernel
theorem dX8_addInspector_20 : decode cX8_addInspector 20 = .ok (.getfield 150, 3) := by decide +kernel
theorem dX8_addInspector_23 : decode cX8_addInspector 23 = .ok (.iconst 3, 1) := by decide +kernel
theorem dX8_addInspector_24 : decode cX8_addInspector 24 = .ok (.if_icmp .lt 13, 3) := by decide +kernel
theorem dX8_addInspector_27 : decode cX8_addInspector 27 = .ok (.aload_n 0, 1) := by decide +kernel
theorem dX8_addInspector_28 : decode cX8_addInspector 28 = .ok (.getfield 12, 3) := by decide +kernel
theorem dX8_addInspector_31 : decode cX8_addInspector 31 = .ok (.iconst 1, 1) := by decide +kernel
theorem dX8_addInspector_32 : decode cX8_addInspector 32 = .ok (.iconst 3, 1) := by decide +kernel
theorem dX8_addInspector_33 : decode cX8_addInspector 33 = .ok (.invokevirtual 39, 3) := by decide +kernel
theorem dX8_addInspector_36 : decode cX8_addInspector 36 = .ok (.ireturn, 1) := by decide +kernel
theorem dX8_addInspector_37 : decode cX8_addInspector 37 = .ok (.aload_n 0, 1) := by decide +kernel
theorem dX8_addInspector_38 : decode cX8_addInspector 38 = .ok (.getfield 21, 3) := by decide +kernel
theorem dX8_addInspector_41 : decode cX8_addInspector 41 = .ok (.getfield 146, 3) := by decide +kernel
theorem dX8_addInspector_44 : decode cX8_addInspector 44 = .ok (.iload_n 1, 1) := by decide +kernel
theorem dX8_addInspector_45 : decode cX8_addInspector 45 = .ok (.invokevirtual 153, 3) := by decide +kernel
theorem dX8_addInspector_48 : decode cX8_addInspector 48 = .ok (.ireturn, 1) := by decide +kernel
theorem dX8_lookAt_0 : decode cX8_lookAt 0 = .ok (.aload_n 0, 1) := by decide +kernel
theorem dX8_lookAt_1 : decode cX8_lookAt 1 = .ok (.getfield 21, 3) := by decide +kernel
theorem dX8_lookAt_4 : decode cX8_lookAt 4 = .ok (.getfield 146, 3) := by decide +kernel
theorem dX8_lookAt_7 : decode cX8_lookAt 7 = .ok (.iload_n 1, 1) := by decide +kernel
theorem dX8_lookAt_8 : decode cX8_lookAt 8 = .ok (.invokevirtual 154, 3) := by decide +kernel
theorem dX8_lookAt_11 : decode cX8_lookAt 11 = .ok (.ifCond .eq 17, 3) := by decide +kernel
theorem dX8_lookAt_14 : decode cX8_lookAt 14 = .ok (.aload_n 0, 1) := by decide +kernel
theorem dX8_lookAt_15 : decode cX8_lookAt 15 = .ok (.getfield 21, 3) := by decide +kernel
theorem dX8_lookAt_18 : decode cX8_lookAt 18 = .ok (.getfield 58, 3) := by decide +kernel
theorem dX8_lookAt_21 : decode cX8_lookAt 21 = .ok (.iload_n 2, 1) := by decide +kernel
theorem dX8_lookAt_22 : decode cX8_lookAt 22 = .ok (.invokevirtual 89, 3) := by decide +kernel
theorem dX8_lookAt_25 : decode cX8_lookAt 25 = .ok (.ifCond .ne 5, 3) := by decide +kernel
theorem dX8_lookAt_28 : decode cX8_lookAt 28 = .ok (.iconst (-1), 1) := by decide +kernel
theorem dX8_lookAt_29 : decode cX8_lookAt 29 = .ok (.ireturn, 1) := by decide +kernel
theorem dX8_lookAt_30 : decode cX8_lookAt 30 = .ok (.aload_n 0, 1) := by decide +kernel
theorem dX8_lookAt_31 : decode cX8_lookAt 31 = .ok (.getfield 21, 3) := by decide +kernel
theorem dX8_lookAt_34 : decode cX8_lookAt 34 = .ok (.invokevirtual 65, 3) := by decide +kernel
theorem dX8_lookAt_37 : decode cX8_lookAt 37 = .ok (.ifCond .eq 19, 3) := by decide +kernel
theorem dX8_lookAt_40 : decode cX8_lookAt 40 = .ok (.aload_n 0, 1) := by decide +kernel
theorem dX8_lookAt_41 : decode cX8_lookAt 41 = .ok (.getfield 12, 3) := by decide +kernel
theorem dX8_lookAt_44 : decode cX8_lookAt 44 = .ok (.iconst 4, 1) := by decide +kernel
theorem dX8_lookAt_45 : decode cX8_lookAt 45 = .ok (.aload_n 0, 1) := by decide +kernel
theorem dX8_lookAt_46 : decode cX8_lookAt 46 = .ok (.getfield 21, 3) := by decide +kernel
theorem dX8_lookAt_49 : decode cX8_lookAt 49 = .ok (.getfield 69, 3) := by decide +kernel
theorem dX8_lookAt_52 : decode cX8_lookAt 52 = .ok (.invokevirtual 39, 3) := by decide +kernel
theorem dX8_lookAt_55 : decode cX8_lookAt 55 = .ok (.ireturn, 1) := by decide +kernel
theorem dX8_lookAt_56 : decode cX8_lookAt 56 = .ok (.aload_n 0, 1) := by decide +kernel
theorem dX8_lookAt_57 : decode cX8_lookAt 57 = .ok (.getfield 21, 3) := by decide +kernel
theorem dX8_lookAt_60 : decode cX8_lookAt 60 = .ok (.getfield 146, 3) := by decide +kernel
theorem dX8_lookAt_63 : decode cX8_lookAt 63 = .ok (.iload_n 1, 1) := by decide +kernel
theorem dX8_lookAt_64 : decode cX8_lookAt 64 = .ok (.invokevirtual 155, 3) := by decide +kernel
theorem dX8_lookAt_67 : decode cX8_lookAt 67 = .ok (.istore_n 3, 1) := by decide +kernel
theorem dX8_lookAt_68 : decode cX8_lookAt 68 = .ok (.aload_n 0, 1) := by decide +kernel
theorem dX8_lookAt_69 : decode cX8_lookAt 69 = .ok (.getfield 21, 3) := by decide +kernel
theorem dX8_lookAt_72 : decode cX8_lookAt 72 = .ok (.getfield 58, 3) := by decide +kernel
theorem dX8_lookAt_75 : decode cX8_lookAt 75 = .ok (.iload_n 2, 1) := by decide +kernel
theorem dX8_lookAt_76 : decode cX8_lookAt 76 = .ok (.invokevirtual 90, 3) := by decide +kernel
theorem dX8_lookAt_79 : decode cX8_lookAt 79 = .ok (.iload_n 3, 1) := by decide +kernel
theorem dX8_lookAt_80 : decode cX8_lookAt 80 = .ok (.iadd, 1) := by decide +kernel
theorem dX8_lookAt_81 : decode cX8_lookAt 81 = .ok (.bipush 20, 2) := by decide +kernel
theorem dX8_lookAt_83 : decode cX8_lookAt 83 = .ok (.if_icmp .gt 5, 3) := by decide +kernel
theorem dX8_lookAt_86 : decode cX8_lookAt 86 = .ok (.iconst 0, 1) := by decide +kernel
theorem dX8_lookAt_87 : decode cX8_lookAt 87 = .ok (.ireturn, 1) := by decide +kernel
theorem dX8_lookAt_88 : decode cX8_lookAt 88 = .ok (.aload_n 0, 1) := by decide +kernel
theorem dX8_lookAt_89 : decode cX8_lookAt 89 = .ok (.getfield 21, 3) := by decide +kernel
theorem dX8_lookAt_92 : decode cX8_lookAt 92 = .ok (.getfield 58, 3) := by decide +kernel
theorem dX8_lookAt_95 : decode cX8_lookAt 95 = .ok (.iload_n 2, 1) := by decide +kernel
theorem dX8_lookAt_96 : decode cX8_lookAt 96 = .ok (.invokevirtual 116, 3) := by decide +kernel
theorem dX8_lookAt_99 : decode cX8_lookAt 99 = .ok (.ifCond .ne 15, 3) := by decide +kernel
theorem dX8_lookAt_102 : decode cX8_lookAt 102 = .ok (.aload_n 0, 1) := by decide +kernel
theorem dX8_lookAt_103 : decode cX8_lookAt 103 = .ok (.getfield 21, 3) := by decide +kernel
theorem dX8_lookAt_106 : decode cX8_lookAt 106 = .ok (.getfield 58, 3) := by decide +kernel
theorem dX8_lookAt_109 : decode cX8_lookAt 109 = .ok (.iload_n 2, 1) := by decide +kernel
theorem dX8_lookAt_110 : decode cX8_lookAt 110 = .ok (.iload_n 1, 1) := by decide +kernel
theorem dX8_lookAt_111 : decode cX8_lookAt 111 = .ok (.invokevirtual 158, 3) := by decide +kernel
theorem dX8_lookAt_114 : decode cX8_lookAt 114 = .ok (.aload_n 0, 1) := by decide +kernel
theorem dX8_lookAt_115 : decode cX8_lookAt 115 = .ok (.getfield 21, 3) := by decide +kernel
theorem dX8_lookAt_118 : decode cX8_lookAt 118 = .ok (.getfield 100, 3) := by decide +kernel
theorem dX8_lookAt_121 : decode cX8_lookAt 121 = .ok (.iload_n 2, 1) := by decide +kernel
theorem dX8_lookAt_122 : decode cX8_lookAt 122 = .ok (.invokevirtual 161, 3) := by decide +kernel
theorem dX8_lookAt_125 : decode cX8_lookAt 125 = .ok (.aload_n 0, 1) := by decide +kernel
theorem dX8_lookAt_126 : decode cX8_lookAt 126 = .ok (.getfield 21, 3) := by decide +kernel
theorem dX8_lookAt_129 : decode cX8_lookAt 129 = .ok (.getfield 146, 3) := by decide +kernel
theorem dX8_lookAt_132 : decode cX8_lookAt 132 = .ok (.iload_n 1, 1) := by decide +kernel
theorem dX8_lookAt_133 : decode cX8_lookAt 133 = .ok (.invokevirtual 164, 3) := by decide +kernel
theorem dX8_lookAt_136 : decode cX8_lookAt 136 = .ok (.aload_n 0, 1) := by decide +kernel
theorem dX8_lookAt_137 : decode cX8_lookAt 137 = .ok (.getfield 21, 3) := by decide +kernel
theorem dX8_lookAt_140 : decode cX8_lookAt 140 = .ok (.dup, 1) := by decide +kernel
theorem dX8_lookAt_141 : decode cX8_lookAt 141 = .ok (.getfield 167, 3) := by decide +kernel
theorem dX8_lookAt_144 : decode cX8_lookAt 144 = .ok (.iload_n 3, 1) := by decide +kernel
theorem dX8_lookAt_145 : decode cX8_lookAt 145 = .ok (.iadd, 1) := by decide +kernel
theorem dX8_lookAt_146 : decode cX8_lookAt 146 = .ok (.putfield 167, 3) := by decide +kernel
theorem dX8_lookAt_149 : decode cX8_lookAt 149 = .ok (.iconst 1, 1) := by decide +kernel
theorem dX8_lookAt_150 : decode cX8_lookAt 150 = .ok (.ireturn, 1) := by decide +kernel
theorem dX8_passDays_0 : decode cX8_passDays 0 = .ok (.iload_n 1, 1) := by decide +kernel
theorem dX8_passDays_1 : decode cX8_passDays 1 = .ok (.iconst 1, 1) := by decide +kernel
theorem dX8_passDays_2 : decode cX8_passDays 2 = .ok (.bipush 30, 2) := by decide +kernel
theorem dX8_passDays_4 : decode cX8_passDays 4 = .ok (.invokestatic 25, 3) := by decide +kernel
theorem dX8_passDays_7 : decode cX8_passDays 7 = .ok (.ifCond .ne 6, 3) := by decide +kernel
theorem dX8_passDays_10 : decode cX8_passDays 10 = .ok (.bipush (-2), 2) := by decide +kernel
theorem dX8_passDays_12 : decode cX8_passDays 12 = .ok (.ireturn, 1) := by decide +kernel
theorem dX8_passDays_13 : decode cX8_passDays 13 = .ok (.aload_n 0, 1) := by decide +kernel
theorem dX8_passDays_14 : decode cX8_passDays 14 = .ok (.getfield 21, 3) := by decide +kernel
theorem dX8_passDays_17 : decode cX8_passDays 17 = .ok (.getfield 170, 3) := by decide +kernel
theorem dX8_passDays_20 : decode cX8_passDays 20 = .ok (.istore_n 2, 1) := by decide +kernel
theorem dX8_passDays_21 : decode cX8_passDays 21 = .ok (.iconst 0, 1) := by decide +kernel
theorem dX8_passDays_22 : decode cX8_passDays 22 = .ok (.istore_n 3, 1) := by decide +kernel
theorem dX8_passDays_23 : decode cX8_passDays 23 = .ok (.iload_n 3, 1) := by decide +kernel
theorem dX8_passDays_24 : decode cX8_passDays 24 = .ok (.iload_n 1, 1) := by decide +kernel
theorem dX8_passDays_25 : decode cX8_passDays 25 = .ok (.if_icmp .ge 16, 3) := by decide +kernel
theorem dX8_passDays_28 : decode cX8_passDays 28 = .ok (.aload_n 0, 1) := by decide +kernel
theorem dX8_passDays_29 : decode cX8_passDays 29 = .ok (.getfield 21, 3) := by decide +kernel
theorem dX8_passDays_32 : decode cX8_passDays 32 = .ok (.invokevirtual 173, 3) := by decide +kernel
theorem dX8_passDays_35 : decode cX8_passDays 35 = .ok (.iinc 3 1, 3) := by decide +kernel
theorem dX8_passDays_38 : decode cX8_passDays 38 = .ok (.goto (-15), 3) := by decide +kernel
theorem dX8_passDays_41 : decode cX8_passDays 41 = .ok (.aload_n 0, 1) := by decide +kernel
theorem dX8_passDays_42 : decode cX8_passDays 42 = .ok (.getfield 21, 3) := by decide +kernel
theorem dX8_passDays_45 : decode cX8_passDays 45 = .ok (.getfield 170, 3) := by decide +kernel
theorem dX8_passDays_48 : decode cX8_passDays 48 = .ok (.iload_n 2, 1) := by decide +kernel
theorem dX8_passDays_49 : decode cX8_passDays 49 = .ok (.isub, 1) := by decide +kernel
theorem dX8_passDays_50 : decode cX8_passDays 50 = .ok (.ireturn, 1) := by decide +kernel
theorem dX9_init_0 : decode cX9_init 0 = .ok (.aload_n 0, 1) := by decide +kernel
theorem dX9_init_1 : decode cX9_init 1 = .ok (.invokespecial 3, 3) := by decide +kernel
theorem dX9_init_4 : decode cX9_init 4 = .ok (.aload_n 0, 1) := by decide +kernel
theorem dX9_init_5 : decode cX9_init 5 = .ok (.bipush 10, 2) := by decide +kernel
theorem dX9_init_7 : decode cX9_init 7 = .ok (.newarray .int, 2) := by decide +kernel
theorem dX9_init_9 : decode cX9_init 9 = .ok (.putfield 9, 3) := by decide +kernel
theorem dX9_init_12 : decode cX9_init 12 = .ok (.aload_n 0, 1) := by decide +kernel
theorem dX9_init_13 : decode cX9_init 13 = .ok (.bipush 10, 2) := by decide +kernel
theorem dX9_init_15 : decode cX9_init 15 = .ok (.newarray .int, 2) := by decide +kernel
theorem dX9_init_17 : decode cX9_init 17 = .ok (.putfield 15, 3) := by decide +kernel
theorem dX9_init_20 : decode cX9_init 20 = .ok (.aload_n 0, 1) := by decide +kernel
theorem dX9_init_21 : decode cX9_init 21 = .ok (.bipush 10, 2) := by decide +kernel
theorem dX9_init_23 : decode cX9_init 23 = .ok (.newarray .int, 2) := by decide +kernel
theorem dX9_init_25 : decode cX9_init 25 = .ok (.putfield 18, 3) := by decide +kernel
theorem dX9_init_28 : decode cX9_init 28 = .ok (.aload_n 0, 1) := by decide +kernel
theorem dX9_init_29 : decode cX9_init 29 = .ok (.bipush 10, 2) := by decide +kernel
theorem dX9_init_31 : decode cX9_init 31 = .ok (.newarray .int, 2) := by decide +kernel
theorem dX9_init_33 : decode cX9_init 33 = .ok (.putfield 21, 3) := by decide +kernel
theorem dX9_init_36 : decode cX9_init 36 = .ok (.aload_n 0, 1) := by decide +kernel
theorem dX9_init_37 : decode cX9_init 37 = .ok (.bipush 10, 2) := by decide +kernel
theorem dX9_init_39 : decode cX9_init 39 = .ok (.newarray .int, 2) := by decide +kernel
theorem dX9_init_41 : decode cX9_init 41 = .ok (.putfield 24, 3) := by decide +kernel
theorem dX9_init_44 : decode cX9_init 44 = .ok (.aload_n 0, 1) := by decide +kernel
theorem dX9_init_45 : decode cX9_init 45 = .ok (.bipush 10, 2) := by decide +kernel
theorem dX9_init_47 : decode cX9_init 47 = .ok (.newarray .int, 2) := by decide +kernel
theorem dX9_init_49 : decode cX9_init 49 = .ok (.putfield 27, 3) := by decide +kernel
theorem dX9_init_52 : decode cX9_init 52 = .ok (.aload_n 0, 1) := by decide +kernel
theorem dX9_init_53 : decode cX9_init 53 = .ok (.iconst 0, 1) := by decide +kernel
theorem dX9_init_54 : decode cX9_init 54 = .ok (.putfield 30, 3) := by decide +kernel
theorem dX9_init_57 : decode cX9_init 57 = .ok (.return_, 1) := by decide +kernel
theorem dX9_has_0 : decode cX9_has 0 = .ok (.iload_n 1, 1) := by decide +kernel
theorem dX9_has_1 : decode cX9_has 1 = .ok (.ifCond .lt 15, 3) := by decide +kernel
theorem dX9_has_4 : decode cX9_has 4 = .ok (.iload_n 1, 1) := by decide +kernel
theorem dX9_has_5 : decode cX9_has 5 = .ok (.aload_n 0, 1) := by decide +kernel
theorem dX9_has_6 : decode cX9_has 6 = .ok (.getfield 30, 3) := by decide +kernel
theorem dX9_has_9 : decode cX9_has 9 = .ok (.if_icmp .ge 7, 3) := by decide +kernel
theorem dX9_has_12 : decode cX9_has 12 = .ok (.iconst 1, 1) := by decide +kernel
theorem dX9_has_13 : decode cX9_has 13 = .ok (.goto 4, 3) := by decide +kernel
theorem dX9_has_16 : decode cX9_has 16 = .ok (.iconst 0, 1) := by decide +kernel
theorem dX9_has_17 : decode cX9_has 17 = .ok (.ireturn, 1) := by decide +kernel
theorem dX9_polesOf_0 : decode cX9_polesOf 0 = .ok (.aload_n 0, 1) := by decide +kernel
theorem dX9_polesOf_1 : decode cX9_polesOf 1 = .ok (.getfield 9, 3) := by decide +kernel
theorem dX9_polesOf_4 : decode cX9_polesOf 4 = .ok (.iload_n 1, 1) := by decide +kernel
theorem dX9_polesOf_5 : decode cX9_polesOf 5 = .ok (.invokestatic 34, 3) := by decide +kernel
theorem dX9_polesOf_8 : decode cX9_polesOf 8 = .ok (.ireturn, 1) := by decide +kernel
theorem dX9_weeksOf_0 : decode cX9_weeksOf 0 = .ok (.aload_n 0, 1) := by decide +kernel
theorem dX9_weeksOf_1 : decode cX9_weeksOf 1 = .ok (.getfield 15, 3) := by decide +kernel
theorem dX9_weeksOf_4 : decode cX9_weeksOf 4 = .ok (.iload_n 1, 1) := by decide +kernel
theorem dX9_weeksOf_5 : decode cX9_weeksOf 5 = .ok (.invokestatic 34, 3) := by decide +kernel
theorem dX9_weeksOf_8 : decode cX9_weeksOf 8 = .ok (.ireturn, 1) := by decide +kernel
theorem dX9_tieOf_0 : decode cX9_tieOf 0 = .ok (.aload_n 0, 1) := by decide +kernel
theorem dX9_tieOf_1 : decode cX9_tieOf 1 = .ok (.getfield 18, 3) := by decide +kernel
theorem dX9_tieOf_4 : decode cX9_tieOf 4 = .ok (.iload_n 1, 1) := by decide +kernel
theorem dX9_tieOf_5 : decode cX9_tieOf 5 = .ok (.invokestatic 34, 3) := by decide +kernel
theorem dX9_tieOf_8 : decode cX9_tieOf 8 = .ok (.ireturn, 1) := by decide +kernel
theorem dX9_hoursOf_0 : decode cX9_hoursOf 0 = .ok (.aload_n 0, 1) := by decide +kernel
theorem dX9_hoursOf_1 : decode cX9_hoursOf 1 = .ok (.getfield 21, 3) := by decide +kernel
theorem dX9_hoursOf_4 : decode cX9_hoursOf 4 = .ok (.iload_n 1, 1) := by decide +kernel
theorem dX9_hoursOf_5 : decode cX9_hoursOf 5 = .ok (.invokestatic 34, 3) := by decide +kernel
theorem dX9_hoursOf_8 : decode cX9_hoursOf 8 = .ok (.ireturn, 1) := by decide +kernel
theorem dX9_loadsOf_0 : decode cX9_loadsOf 0 = .ok (.aload_n 0, 1) := by decide +kernel
theorem dX9_loadsOf_1 : decode cX9_loadsOf 1 = .ok (.getfield 24, 3) := by decide +kernel
theorem dX9_loadsOf_4 : decode cX9_loadsOf 4 = .ok (.iload_n 1, 1) := by decide +kernel
theorem dX9_loadsOf_5 : decode cX9_loadsOf 5 = .ok (.invokestatic 34, 3) := by decide +kernel
theorem dX9_loadsOf_8 : decode cX9_loadsOf 8 = .ok (.ireturn, 1) := by decide +kernel
theorem dX9_shutterOf_0 : decode cX9_shutterOf 0 = .ok (.aload_n 0, 1) := by decide +kernel
theorem dX9_shutterOf_1 : decode cX9_shutterOf 1 = .ok (.getfield 27, 3) := by decide +kernel
theorem dX9_shutterOf_4 : decode cX9_shutterOf 4 = .ok (.iload_n 1, 1) := by decide +kernel
theorem dX9_shutterOf_5 : decode cX9_shutterOf 5 = .ok (.invokestatic 34, 3) := by decide +kernel
theorem dX9_shutterOf_8 : decode cX9_shutterOf 8 = .ok (.ireturn, 1) := by decide +kernel
theorem dX9_isShut_0 : decode cX9_isShut 0 = .ok (.aload_n 0, 1) := by decide +kernel
theorem dX9_isShut_1 : decode cX9_isShut 1 = .ok (.iload_n 1, 1) := by decide +kernel
theorem dX9_isShut_2 : decode cX9_isShut 2 = .ok (.invokevirtual 38, 3) := by decide +kernel
theorem dX9_isShut_5 : decode cX9_isShut 5 = .ok (.bipush (-4), 2) := by decide +kernel
theorem dX9_isShut_7 : decode cX9_isShut 7 = .ok (.if_icmp .eq 7, 3) := by decide +kernel
theorem dX9_isShut_10 : decode cX9_isShut 10 = .ok (.iconst 1, 1) := by decide +kernel
theorem dX9_isShut_11 : decode cX9_isShut 11 = .ok (.goto 4, 3) := by decide +kernel
theorem dX9_isShut_14 : decode cX9_isShut 14 = .ok (.iconst 0, 1) := by decide +kernel
theorem dX9_isShut_15 : decode cX9_isShut 15 = .ok (.ireturn, 1) := by decide +kernel
theorem dX9_isOld_0 : decode cX9_isOld 0 = .ok (.aload_n 0, 1) := by decide +kernel
theorem dX9_isOld_1 : decode cX9_isOld 1 = .ok (.getfield 18, 3) := by decide +kernel
theorem dX9_isOld_4 : decode cX9_isOld 4 = .ok (.iload_n 1, 1) := by decide +kernel
theorem dX9_isOld_5 : decode cX9_isOld 5 = .ok (.invokestatic 34, 3) := by decide +kernel
theorem dX9_isOld_8 : decode cX9_isOld 8 = .ok (.bipush 20, 2) := by decide +kernel
theorem dX9_isOld_10 : decode cX9_isOld 10 = .ok (.if_icmp .le 7, 3) := by decide +kernel
theorem dX9_isOld_13 : decode cX9_isOld 13 = .ok (.iconst 1, 1) := by decide +kernel
theorem dX9_isOld_14 : decode cX9_isOld 14 = .ok (.goto 4, 3) := by decide +kernel
theorem dX9_isOld_17 : decode cX9_isOld 17 = .ok (.iconst 0, 1) := by decide +kernel
theorem dX9_isOld_18 : decode cX9_isOld 18 = .ok (.ireturn, 1) := by decide +kernel
theorem dX9_stripsFor_0 : decode cX9_stripsFor 0 = .ok (.aload_n 0, 1) := by decide +kernel
theorem dX9_stripsFor_1 : decode cX9_stripsFor 1 = .ok (.iload_n 1, 1) := by decide +kernel
theorem dX9_stripsFor_2 : decode cX9_stripsFor 2 = .ok (.invokevirtual 42, 3) := by decide +kernel
theorem dX9_stripsFor_5 : decode cX9_stripsFor 5 = .ok (.iconst 2, 1) := by decide +kernel
theorem dX9_stripsFor_6 : decode cX9_stripsFor 6 = .ok (.imul, 1) := by decide +kernel
theorem dX9_stripsFor_7 : decode cX9_stripsFor 7 = .ok (.ireturn, 1) := by decide +kernel
theorem dX9_strengthOf_0 : decode cX9_strengthOf 0 = .ok (.bipush 12, 2) := by decide +kernel
theorem dX9_strengthOf_2 : decode cX9_strengthOf 2 = .ok (.aload_n 0, 1) := by decide +kernel
theorem dX9_strengthOf_3 : decode cX9_strengthOf 3 = .ok (.getfield 15, 3) := by decide +kernel
theorem dX9_strengthOf_6 : decode cX9_strengthOf 6 = .ok (.iload_n 1, 1) := by decide +kernel
theorem dX9_strengthOf_7 : decode cX9_strengthOf 7 = .ok (.invokestatic 34, 3) := by decide +kernel
theorem dX9_strengthOf_10 : decode cX9_strengthOf 10 = .ok (.bipush 6, 2) := by decide +kernel
theorem dX9_strengthOf_12 : decode cX9_strengthOf 12 = .ok (.idiv, 1) := by decide +kernel
theorem dX9_strengthOf_13 : decode cX9_strengthOf 13 = .ok (.isub, 1) := by decide +kernel
theorem dX9_strengthOf_14 : decode cX9_strengthOf 14 = .ok (.aload_n 0, 1) := by decide +kernel
theorem dX9_strengthOf_15 : decode cX9_strengthOf 15 = .ok (.getfield 9, 3) := by decide +kernel
theorem dX9_strengthOf_18 : decode cX9_strengthOf 18 = .ok (.iload_n 1, 1) := by decide +kernel
theorem dX9_strengthOf_19 : decode cX9_strengthOf 19 = .ok (.invokestatic 34, 3) := by decide +kernel
theorem dX9_strengthOf_22 : decode cX9_strengthOf 22 = .ok (.iadd, 1) := by decide +kernel
theorem dX9_strengthOf_23 : decode cX9_strengthOf 23 = .ok (.aload_n 0, 1) := by decide +kernel
theorem dX9_strengthOf_24 : decode cX9_strengthOf 24 = .ok (.getfield 18, 3) := by decide +kernel
theorem dX9_strengthOf_27 : decode cX9_strengthOf 27 = .ok (.iload_n 1, 1) := by decide +kernel
theorem dX9_strengthOf_28 : decode cX9_strengthOf 28 = .ok (.invokestatic 34, 3) := by decide +kernel
theorem dX9_strengthOf_31 : decode cX9_strengthOf 31 = .ok (.iconst 5, 1) := by decide +kernel
theorem dX9_strengthOf_32 : decode cX9_strengthOf 32 = .ok (.idiv, 1) := by decide +kernel
theorem dX9_strengthOf_33 : decode cX9_strengthOf 33 = .ok (.isub, 1) := by decide +kernel
theorem dX9_strengthOf_34 : decode cX9_strengthOf 34 = .ok (.iload_n 1, 1) := by decide +kernel
theorem dX9_strengthOf_35 : decode cX9_strengthOf 35 = .ok (.iconst 2, 1) := by decide +kernel
theorem dX9_strengthOf_36 : decode cX9_strengthOf 36 = .ok (.idiv, 1) := by decide +kernel
theorem dX9_strengthOf_37 : decode cX9_strengthOf 37 = .ok (.isub, 1) := by decide +kernel
theorem dX9_strengthOf_38 : decode cX9_strengthOf 38 = .ok (.istore_n 2, 1) := by decide +kernel
theorem dX9_strengthOf_39 : decode cX9_strengthOf 39 = .ok (.iload_n 2, 1) := by decide +kernel
theorem dX9_strengthOf_40 : decode cX9_strengthOf 40 = .ok (.iconst 0, 1) := by decide +kernel
theorem dX9_strengthOf_41 : decode cX9_strengthOf 41 = .ok (.invokestatic 45, 3) := by decide +kernel
theorem dX9_strengthOf_44 : decode cX9_strengthOf 44 = .ok (.ireturn, 1) := by decide +kernel
theorem dX9_strengthByStepsOf_0 : decode cX9_strengthByStepsOf 0 = .ok (.bipush 12, 2) := by decide +kernel
theorem dX9_strengthByStepsOf_2 : decode cX9_strengthByStepsOf 2 = .ok (.aload_n 0, 1) := by decide +kernel
theorem dX9_strengthByStepsOf_3 : decode cX9_strengthByStepsOf 3 = .ok (.iload_n 1, 1) := by decide +kernel
theorem dX9_strengthByStepsOf_4 : decode cX9_strengthByStepsOf 4 = .ok (.invokevirtual 51, 3) := by decide +kernel
theorem dX9_strengthByStepsOf_7 : decode cX9_strengthByStepsOf 7 = .ok (.bipush 6, 2) := by decide +kernel
theorem dX9_strengthByStepsOf_9 : decode cX9_strengthByStepsOf 9 = .ok (.idiv, 1) := by decide +kernel
theorem dX9_strengthByStepsOf_10 : decode cX9_strengthByStepsOf 10 = .ok (.isub, 1) := by decide +kernel
theorem dX9_strengthByStepsOf_11 : decode cX9_strengthByStepsOf 11 = .ok (.istore_n 2, 1) := by decide +kernel
theorem dX9_strengthByStepsOf_12 : decode cX9_strengthByStepsOf 12 = .ok (.iconst 1, 1) := by decide +kernel
theorem dX9_strengthByStepsOf_13 : decode cX9_strengthByStepsOf 13 = .ok (.istore_n 3, 1) := by decide +kernel
theorem dX9_strengthByStepsOf_14 : decode cX9_strengthByStepsOf 14 = .ok (.iload_n 3, 1) := by decide +kernel
theorem dX9_strengthByStepsOf_15 : decode cX9_strengthByStepsOf 15 = .ok (.aload_n 0, 1) := by decide +kernel
theorem dX9_strengthByStepsOf_16 : decode cX9_strengthByStepsOf 16 = .ok (.iload_n 1, 1) := by decide +kernel
theorem dX9_strengthByStepsOf_17 : decode cX9_strengthByStepsOf 17 = .ok (.invokevirtual 42, 3) := by decide +kernel
theorem dX9_strengthByStepsOf_20 : decode cX9_strengthByStepsOf 20 = .ok (.if_icmp .gt 12, 3) := by decide +kernel
theorem dX9_strengthByStepsOf_23 : decode cX9_strengthByStepsOf 23 = .ok (.iinc 2 1, 3) := by decide +kernel
theorem dX9_strengthByStepsOf_26 : decode cX9_strengthByStepsOf 26 = .ok (.iinc 3 1, 3) := by decide +kernel
theorem dX9_strengthByStepsOf_29 : decode cX9_strengthByStepsOf 29 = .ok (.goto (-15), 3) := by decide +kernel
theorem dX9_strengthByStepsOf_32 : decode cX9_strengthByStepsOf 32 = .ok (.iconst 5, 1) := by decide +kernel
theorem dX9_strengthByStepsOf_33 : decode cX9_strengthByStepsOf 33 = .ok (.istore_n 3, 1) := by decide +kernel
theorem dX9_strengthByStepsOf_34 : decode cX9_strengthByStepsOf 34 = .ok (.iload_n 3, 1) := by decide +kernel
theorem dX9_strengthByStepsOf_35 : decode cX9_strengthByStepsOf 35 = .ok (.aload_n 0, 1) := by decide +kernel
theorem dX9_strengthByStepsOf_36 : decode cX9_strengthByStepsOf 36 = .ok (.iload_n 1, 1) := by decide +kernel
theorem dX9_strengthByStepsOf_37 : decode cX9_strengthByStepsOf 37 = .ok (.invokevirtual 54, 3) := by decide +kernel
theorem dX9_strengthByStepsOf_40 : decode cX9_strengthByStepsOf 40 = .ok (.if_icmp .gt 12, 3) := by decide +kernel
theorem dX9_strengthByStepsOf_43 : decode cX9_strengthByStepsOf 43 = .ok (.iinc 2 (-1), 3) := by decide +kernel
theorem dX9_strengthByStepsOf_46 : decode cX9_strengthByStepsOf 46 = .ok (.iinc 3 5, 3) := by decide +kernel
theorem dX9_strengthByStepsOf_49 : decode cX9_strengthByStepsOf 49 = .ok (.goto (-15), 3) := by decide +kernel
theorem dX9_strengthByStepsOf_52 : decode cX9_strengthByStepsOf 52 = .ok (.iconst 2, 1) := by decide +kernel
theorem dX9_strengthByStepsOf_53 : decode cX9_strengthByStepsOf 53 = .ok (.istore_n 3, 1) := by decide +kernel
theorem dX9_strengthByStepsOf_54 : decode cX9_strengthByStepsOf 54 = .ok (.iload_n 3, 1) := by decide +kernel
theorem dX9_strengthByStepsOf_55 : decode cX9_strengthByStepsOf 55 = .ok (.iload_n 1, 1) := by decide +kernel
theorem dX9_strengthByStepsOf_56 : decode cX9_strengthByStepsOf 56 = .ok (.if_icmp .gt 12, 3) := by decide +kernel
theorem dX9_strengthByStepsOf_59 : decode cX9_strengthByStepsOf 59 = .ok (.iinc 2 (-1), 3) := by decide +kernel
theorem dX9_strengthByStepsOf_62 : decode cX9_strengthByStepsOf 62 = .ok (.iinc 3 2, 3) := by decide +kernel
theorem dX9_strengthByStepsOf_65 : decode cX9_strengthByStepsOf 65 = .ok (.goto (-11), 3) := by decide +kernel
theorem dX9_strengthByStepsOf_68 : decode cX9_strengthByStepsOf 68 = .ok (.iload_n 2, 1) := by decide +kernel
theorem dX9_strengthByStepsOf_69 : decode cX9_strengthByStepsOf 69 = .ok (.ifCond .ge 7, 3) := by decide +kernel
theorem dX9_strengthByStepsOf_72 : decode cX9_strengthByStepsOf 72 = .ok (.iconst 0, 1) := by decide +kernel
theorem dX9_strengthByStepsOf_73 : decode cX9_strengthByStepsOf 73 = .ok (.goto 4, 3) := by decide +kernel
theorem dX9_strengthByStepsOf_76 : decode cX9_strengthByStepsOf 76 = .ok (.iload_n 2, 1) := by decide +kernel
theorem dX9_strengthByStepsOf_77 : decode cX9_strengthByStepsOf 77 = .ok (.ireturn, 1) := by decide +kernel
theorem dX9_allStrength_0 : decode cX9_allStrength 0 = .ok (.iconst 0, 1) := by decide +kernel
theorem dX9_allStrength_1 : decode cX9_allStrength 1 = .ok (.istore_n 1, 1) := by decide +kernel
theorem dX9_allStrength_2 : decode cX9_allStrength 2 = .ok (.iconst 0, 1) := by decide +kernel
theorem dX9_allStrength_3 : decode cX9_allStrength 3 = .ok (.istore_n 2, 1) := by decide +kernel
theorem dX9_allStrength_4 : decode cX9_allStrength 4 = .ok (.iload_n 2, 1) := by decide +kernel
theorem dX9_allStrength_5 : decode cX9_allStrength 5 = .ok (.aload_n 0, 1) := by decide +kernel
theorem dX9_allStrength_6 : decode cX9_allStrength 6 = .ok (.getfield 30, 3) := by decide +kernel
theorem dX9_allStrength_9 : decode cX9_allStrength 9 = .ok (.if_icmp .ge 17, 3) := by decide +kernel
theorem dX9_allStrength_12 : decode cX9_allStrength 12 = .ok (.iload_n 1, 1) := by decide +kernel
theorem dX9_allStrength_13 : decode cX9_allStrength 13 = .ok (.aload_n 0, 1) := by decide +kernel
theorem dX9_allStrength_14 : decode cX9_allStrength 14 = .ok (.iload_n 2, 1) := by decide +kernel
theorem dX9_allStrength_15 : decode cX9_allStrength 15 = .ok (.invokevirtual 57, 3) := by decide +kernel
theorem dX9_allStrength_18 : decode cX9_allStrength 18 = .ok (.iadd, 1) := by decide +kernel
theorem dX9_allStrength_19 : decode cX9_allStrength 19 = .ok (.istore_n 1, 1) := by decide +kernel
theorem dX9_allStrength_20 : decode cX9_allStrength 20 = .ok (.iinc 2 1, 3) := by decide +kernel
theorem dX9_allStrength_23 : decode cX9_allStrength 23 = .ok (.goto (-19), 3) := by decide +kernel
theorem dX9_allStrength_26 : decode cX9_allStrength 26 = .ok (.iload_n 1, 1) := by decide +kernel
theorem dX9_allStrength_27 : decode cX9_allStrength 27 = .ok (.ireturn, 1) := by decide +kernel
theorem dX9_allHours_0 : decode cX9_allHours 0 = .ok (.aload_n 0, 1) := by decide +kernel
theorem dX9_allHours_1 : decode cX9_allHours 1 = .ok (.getfield 21, 3) := by decide +kernel
theorem dX9_allHours_4 : decode cX9_allHours 4 = .ok (.aload_n 0, 1) := by decide +kernel
theorem dX9_allHours_5 : decode cX9_allHours 5 = .ok (.getfield 30, 3) := by decide +kernel
theorem dX9_allHours_8 : decode cX9_allHours 8 = .ok (.invokestatic 60, 3) := by decide +kernel
theorem dX9_allHours_11 : decode cX9_allHours 11 = .ok (.ireturn, 1) := by decide +kernel
theorem dX9_allLoads_0 : decode cX9_allLoads 0 = .ok (.aload_n 0, 1) := by decide +kernel
theorem dX9_allLoads_1 : decode cX9_allLoads 1 = .ok (.getfield 24, 3) := by decide +kernel
theorem dX9_allLoads_4 : decode cX9_allLoads 4 = .ok (.aload_n 0, 1) := by decide +kernel
theorem dX9_allLoads_5 : decode cX9_allLoads 5 = .ok (.getfield 30, 3) := by decide +kernel
theorem dX9_allLoads_8 : decode cX9_allLoads 8 = .ok (.invokestatic 60, 3) := by decide +kernel
theorem dX9_allLoads_11 : decode cX9_allLoads 11 = .ok (.ireturn, 1) := by decide +kernel
theorem dX9_howManyShut_0 : decode cX9_howManyShut 0 = .ok (.iconst 0, 1) := by decide +kernel
theorem dX9_howManyShut_1 : decode cX9_howManyShut 1 = .ok (.istore_n 1, 1) := by decide +kernel
theorem dX9_howManyShut_2 : decode cX9_howManyShut 2 = .ok (.iconst 0, 1) := by decide +kernel
theorem dX9_howManyShut_3 : decode cX9_howManyShut 3 = .ok (.istore_n 2, 1) := by decide +kernel
theorem dX9_howManyShut_4 : decode cX9_howManyShut 4 = .ok (.iload_n 2, 1) := by decide +kernel
theorem dX9_howManyShut_5 : decode cX9_howManyShut 5 = .ok (.aload_n 0, 1) := by decide +kernel
theorem dX9_howManyShut_6 : decode cX9_howManyShut 6 = .ok (.getfield 30, 3) := by decide +kernel
theorem dX9_howManyShut_9 : decode cX9_howManyShut 9 = .ok (.if_icmp .ge 25, 3) := by decide +kernel
theorem dX9_howManyShut_12 : decode cX9_howManyShut 12 = .ok (.iload_n 1, 1) := by decide +kernel
theorem dX9_howManyShut_13 : decode cX9_howManyShut 13 = .ok (.aload_n 0, 1) := by decide +kernel
theorem dX9_howManyShut_14 : decode cX9_howManyShut 14 = .ok (.iload_n 2, 1) := by decide +kernel
theorem dX9_howManyShut_15 : decode cX9_howManyShut 15 = .ok (.invokevirtual 63, 3) := by decide +kernel
theorem dX9_howManyShut_18 : decode cX9_howManyShut 18 = .ok (.ifCond .eq 7, 3) := by decide +kernel
theorem dX9_howManyShut_21 : decode cX9_howManyShut 21 = .ok (.iconst 1, 1) := by decide +kernel
theorem dX9_howManyShut_22 : decode cX9_howManyShut 22 = .ok (.goto 4, 3) := by decide +kernel
theorem dX9_howManyShut_25 : decode cX9_howManyShut 25 = .ok (.iconst 0, 1) := by decide +kernel
theorem dX9_howManyShut_26 : decode cX9_howManyShut 26 = .ok (.iadd, 1) := by decide +kernel
theorem dX9_howManyShut_27 : decode cX9_howManyShut 27 = .ok (.istore_n 1, 1) := by decide +kernel
theorem dX9_howManyShut_28 : decode cX9_howManyShut 28 = .ok (.iinc 2 1, 3) := by decide +kernel
theorem dX9_howManyShut_31 : decode cX9_howManyShut 31 = .ok (.goto (-27), 3) := by decide +kernel
theorem dX9_howManyShut_34 : decode cX9_howManyShut 34 = .ok (.iload_n 1, 1) := by decide +kernel
theorem dX9_howManyShut_35 : decode cX9_howManyShut 35 = .ok (.ireturn, 1) := by decide +kernel
theorem dX9_howManyShutBy_0 : decode cX9_howManyShutBy 0 = .ok (.iconst 0, 1) := by decide +kernel
theorem dX9_howManyShutBy_1 : decode cX9_howManyShutBy 1 = .ok (.istore_n 2, 1) := by decide +kernel
theorem dX9_howManyShutBy_2 : decode cX9_howManyShutBy 2 = .ok (.iconst 0, 1) := by decide +kernel
theorem dX9_howManyShutBy_3 : decode cX9_howManyShutBy 3 = .ok (.istore_n 3, 1) := by decide +kernel
theorem dX9_howManyShutBy_4 : decode cX9_howManyShutBy 4 = .ok (.iload_n 3, 1) := by decide +kernel
theorem dX9_howManyShutBy_5 : decode cX9_howManyShutBy 5 = .ok (.aload_n 0, 1) := by decide +kernel
theorem dX9_howManyShutBy_6 : decode cX9_howManyShutBy 6 = .ok (.getfield 30, 3) := by decide +kernel
theorem dX9_howManyShutBy_9 : decode cX9_howManyShutBy 9 = .ok (.if_icmp .ge 26, 3) := by decide +kernel
theorem dX9_howManyShutBy_12 : decode cX9_howManyShutBy 12 = .ok (.iload_n 2, 1) := by decide +kernel
theorem dX9_howManyShutBy_13 : decode cX9_howManyShutBy 13 = .ok (.aload_n 0, 1) := by decide +kernel
theorem dX9_howManyShutBy_14 : decode cX9_howManyShutBy 14 = .ok (.iload_n 3, 1) := by decide +kernel
theorem dX9_howManyShutBy_15 : decode cX9_howManyShutBy 15 = .ok (.invokevirtual 38, 3) := by decide +kernel
theorem dX9_howManyShutBy_18 : decode cX9_howManyShutBy 18 = .ok (.iload_n 1, 1) := by decide +kernel
theorem dX9_howManyShutBy_19 : decode cX9_howManyShutBy 19 = .ok (.if_icmp .ne 7, 3) := by decide +kernel
theorem dX9_howManyShutBy_22 : decode cX9_howManyShutBy 22 = .ok (.iconst 1, 1) := by decide +kernel
theorem dX9_howManyShutBy_23 : decode cX9_howManyShutBy 23 = .ok (.goto 4, 3) := by decide +kernel
theorem dX9_howManyShutBy_26 : decode cX9_howManyShutBy 26 = .ok (.iconst 0, 1) := by decide +kernel
theorem dX9_howManyShutBy_27 : decode cX9_howManyShutBy 27 = .ok (.iadd, 1) := by decide +kernel
theorem dX9_howManyShutBy_28 : decode cX9_howManyShutBy 28 = .ok (.istore_n 2, 1) := by decide +kernel
theorem dX9_howManyShutBy_29 : decode cX9_howManyShutBy 29 = .ok (.iinc 3 1, 3) := by decide +kernel
theorem dX9_howManyShutBy_32 : decode cX9_howManyShutBy 32 = .ok (.goto (-28), 3) := by decide +kernel
theorem dX9_howManyShutBy_35 : decode cX9_howManyShutBy 35 = .ok (.iload_n 2, 1) := by decide +kernel
theorem dX9_howManyShutBy_36 : decode cX9_howManyShutBy 36 = .ok (.ireturn, 1) := by decide +kernel
theorem dX9_howManyOld_0 : decode cX9_howManyOld 0 = .ok (.iconst 0, 1) := by decide +kernel
theorem dX9_howManyOld_1 : decode cX9_howManyOld 1 = .ok (.istore_n 1, 1) := by decide +kernel
theorem dX9_howManyOld_2 : decode cX9_howManyOld 2 = .ok (.iconst 0, 1) := by decide +kernel
theorem dX9_howManyOld_3 : decode cX9_howManyOld 3 = .ok (.istore_n 2, 1) := by decide +kernel
theorem dX9_howManyOld_4 : decode cX9_howManyOld 4 = .ok (.iload_n 2, 1) := by decide +kernel
theorem dX9_howManyOld_5 : decode cX9_howManyOld 5 = .ok (.aload_n 0, 1) := by decide +kernel
theorem dX9_howManyOld_6 : decode cX9_howManyOld 6 = .ok (.getfield 30, 3) := by decide +kernel
theorem dX9_howManyOld_9 : decode cX9_howManyOld 9 = .ok (.if_icmp .ge 25, 3) := by decide +kernel
theorem dX9_howManyOld_12 : decode cX9_howManyOld 12 = .ok (.iload_n 1, 1) := by decide +kernel
theorem dX9_howManyOld_13 : decode cX9_howManyOld 13 = .ok (.aload_n 0, 1) := by decide +kernel
theorem dX9_howManyOld_14 : decode cX9_howManyOld 14 = .ok (.iload_n 2, 1) := by decide +kernel
theorem dX9_howManyOld_15 : decode cX9_howManyOld 15 = .ok (.invokevirtual 67, 3) := by decide +kernel
theorem dX9_howManyOld_18 : decode cX9_howManyOld 18 = .ok (.ifCond .eq 7, 3) := by decide +kernel
theorem dX9_howManyOld_21 : decode cX9_howManyOld 21 = .ok (.iconst 1, 1) := by decide +kernel
theorem dX9_howManyOld_22 : decode cX9_howManyOld 22 = .ok (.goto 4, 3) := by decide +kernel
theorem dX9_howManyOld_25 : decode cX9_howManyOld 25 = .ok (.iconst 0, 1) := by decide +kernel
theorem dX9_howManyOld_26 : decode cX9_howManyOld 26 = .ok (.iadd, 1) := by decide +kernel
theorem dX9_howManyOld_27 : decode cX9_howManyOld 27 = .ok (.istore_n 1, 1) := by decide +kernel
theorem dX9_howManyOld_28 : decode cX9_howManyOld 28 = .ok (.iinc 2 1, 3) := by decide +kernel
theorem dX9_howManyOld_31 : decode cX9_howManyOld 31 = .ok (.goto (-27), 3) := by decide +kernel
theorem dX9_howManyOld_34 : decode cX9_howManyOld 34 = .ok (.iload_n 1, 1) := by decide +kernel
theorem dX9_howManyOld_35 : decode cX9_howManyOld 35 = .ok (.ireturn, 1) := by decide +kernel
theorem dX9_lowestOldUpTo_0 : decode cX9_lowestOldUpTo 0 = .ok (.iconst 0, 1) := by decide +kernel
theorem dX9_lowestOldUpTo_1 : decode cX9_lowestOldUpTo 1 = .ok (.istore_n 2, 1) := by decide +kernel
theorem dX9_lowestOldUpTo_2 : decode cX9_lowestOldUpTo 2 = .ok (.iload_n 2, 1) := by decide +kernel
theorem dX9_lowestOldUpTo_3 : decode cX9_lowestOldUpTo 3 = .ok (.iload_n 1, 1) := by decide +kernel
theorem dX9_lowestOldUpTo_4 : decode cX9_lowestOldUpTo 4 = .ok (.if_icmp .gt 32, 3) := by decide +kernel
theorem dX9_lowestOldUpTo_7 : decode cX9_lowestOldUpTo 7 = .ok (.iload_n 2, 1) := by decide +kernel
theorem dX9_lowestOldUpTo_8 : decode cX9_lowestOldUpTo 8 = .ok (.aload_n 0, 1) := by decide +kernel
theorem dX9_lowestOldUpTo_9 : decode cX9_lowestOldUpTo 9 = .ok (.getfield 30, 3) := by decide +kernel
theorem dX9_lowestOldUpTo_12 : decode cX9_lowestOldUpTo 12 = .ok (.if_icmp .ge 24, 3) := by decide +kernel
theorem dX9_lowestOldUpTo_15 : decode cX9_lowestOldUpTo 15 = .ok (.aload_n 0, 1) := by decide +kernel
theorem dX9_lowestOldUpTo_16 : decode cX9_lowestOldUpTo 16 = .ok (.getfield 18, 3) := by decide +kernel
theorem dX9_lowestOldUpTo_19 : decode cX9_lowestOldUpTo 19 = .ok (.iload_n 2, 1) := by decide +kernel
theorem dX9_lowestOldUpTo_20 : decode cX9_lowestOldUpTo 20 = .ok (.invokestatic 34, 3) := by decide +kernel
theorem dX9_lowestOldUpTo_23 : decode cX9_lowestOldUpTo 23 = .ok (.bipush 20, 2) := by decide +kernel
theorem dX9_lowestOldUpTo_25 : decode cX9_lowestOldUpTo 25 = .ok (.if_icmp .le 5, 3) := by decide +kernel
theorem dX9_lowestOldUpTo_28 : decode cX9_lowestOldUpTo 28 = .ok (.iload_n 2, 1) := by decide +kernel
theorem dX9_lowestOldUpTo_29 : decode cX9_lowestOldUpTo 29 = .ok (.ireturn, 1) := by decide +kernel
theorem dX9_lowestOldUpTo_30 : decode cX9_lowestOldUpTo 30 = .ok (.iinc 2 1, 3) := by decide +kernel
theorem dX9_lowestOldUpTo_33 : decode cX9_lowestOldUpTo 33 = .ok (.goto (-31), 3) := by decide +kernel
theorem dX9_lowestOldUpTo_36 : decode cX9_lowestOldUpTo 36 = .ok (.bipush (-4), 2) := by decide +kernel
theorem dX9_lowestOldUpTo_38 : decode cX9_lowestOldUpTo 38 = .ok (.ireturn, 1) := by decide +kernel
theorem dX9_lowestWeakerThan_0 : decode cX9_lowestWeakerThan 0 = .ok (.iconst 0, 1) := by decide +kernel
theorem dX9_lowestWeakerThan_1 : decode cX9_lowestWeakerThan 1 = .ok (.istore_n 2, 1) := by decide +kernel
theorem dX9_lowestWeakerThan_2 : decode cX9_lowestWeakerThan 2 = .ok (.iload_n 2, 1) := by decide +kernel
theorem dX9_lowestWeakerThan_3 : decode cX9_lowestWeakerThan 3 = .ok (.aload_n 0, 1) := by decide +kernel
theorem dX9_lowestWeakerThan_4 : decode cX9_lowestWeakerThan 4 = .ok (.getfield 30, 3) := by decide +kernel
theorem dX9_lowestWeakerThan_7 : decode cX9_lowestWeakerThan 7 = .ok (.if_icmp .ge 20, 3) := by decide +kernel
theorem dX9_lowestWeakerThan_10 : decode cX9_lowestWeakerThan 10 = .ok (.aload_n 0, 1) := by decide +kernel
theorem dX9_lowestWeakerThan_11 : decode cX9_lowestWeakerThan 11 = .ok (.iload_n 2, 1) := by decide +kernel
theorem dX9_lowestWeakerThan_12 : decode cX9_lowestWeakerThan 12 = .ok (.invokevirtual 57, 3) := by decide +kernel
theorem dX9_lowestWeakerThan_15 : decode cX9_lowestWeakerThan 15 = .ok (.iload_n 1, 1) := by decide +kernel
theorem dX9_lowestWeakerThan_16 : decode cX9_lowestWeakerThan 16 = .ok (.if_icmp .ge 5, 3) := by decide +kernel
theorem dX9_lowestWeakerThan_19 : decode cX9_lowestWeakerThan 19 = .ok (.iload_n 2, 1) := by decide +kernel
theorem dX9_lowestWeakerThan_20 : decode cX9_lowestWeakerThan 20 = .ok (.ireturn, 1) := by decide +kernel
theorem dX9_lowestWeakerThan_21 : decode cX9_lowestWeakerThan 21 = .ok (.iinc 2 1, 3) := by decide +kernel
theorem dX9_lowestWeakerThan_24 : decode cX9_lowestWeakerThan 24 = .ok (.goto (-22), 3) := by decide +kernel
theorem dX9_lowestWeakerThan_27 : decode cX9_lowestWeakerThan 27 = .ok (.bipush (-4), 2) := by decide +kernel
theorem dX9_lowestWeakerThan_29 : decode cX9_lowestWeakerThan 29 = .ok (.ireturn, 1) := by decide +kernel
theorem dX9_leastStrong_0 : decode cX9_leastStrong 0 = .ok (.bipush (-4), 2) := by decide +kernel
theorem dX9_leastStrong_2 : decode cX9_leastStrong 2 = .ok (.istore_n 1, 1) := by decide +kernel
theorem dX9_leastStrong_3 : decode cX9_leastStrong 3 = .ok (.iconst 0, 1) := by decide +kernel
theorem dX9_leastStrong_4 : decode cX9_leastStrong 4 = .ok (.istore_n 2, 1) := by decide +kernel
theorem dX9_leastStrong_5 : decode cX9_leastStrong 5 = .ok (.iload_n 2, 1) := by decide +kernel
theorem dX9_leastStrong_6 : decode cX9_leastStrong 6 = .ok (.aload_n 0, 1) := by decide +kernel
theorem dX9_leastStrong_7 : decode cX9_leastStrong 7 = .ok (.getfield 30, 3) := by decide +kernel
theorem dX9_leastStrong_10 : decode cX9_leastStrong 10 = .ok (.if_icmp .ge 30, 3) := by decide +kernel
theorem dX9_leastStrong_13 : decode cX9_leastStrong 13 = .ok (.iload_n 1, 1) := by decide +kernel
theorem dX9_leastStrong_14 : decode cX9_leastStrong 14 = .ok (.bipush (-4), 2) := by decide +kernel
theorem dX9_leastStrong_16 : decode cX9_leastStrong 16 = .ok (.if_icmp .eq 16, 3) := by decide +kernel
theorem dX9_leastStrong_19 : decode cX9_leastStrong 19 = .ok (.aload_n 0, 1) := by decide +kernel
theorem dX9_leastStrong_20 : decode cX9_leastStrong 20 = .ok (.iload_n 2, 1) := by decide +kernel
theorem dX9_leastStrong_21 : decode cX9_leastStrong 21 = .ok (.invokevirtual 57, 3) := by decide +kernel
theorem dX9_leastStrong_24 : decode cX9_leastStrong 24 = .ok (.aload_n 0, 1) := by decide +kernel
theorem dX9_leastStrong_25 : decode cX9_leastStrong 25 = .ok (.iload_n 1, 1) := by decide +kernel
theorem dX9_leastStrong_26 : decode cX9_leastStrong 26 = .ok (.invokevirtual 57, 3) := by decide +kernel
theorem dX9_leastStrong_29 : decode cX9_leastStrong 29 = .ok (.if_icmp .ge 5, 3) := by decide +kernel
theorem dX9_leastStrong_32 : decode cX9_leastStrong 32 = .ok (.iload_n 2, 1) := by decide +kernel
theorem dX9_leastStrong_33 : decode cX9_leastStrong 33 = .ok (.istore_n 1, 1) := by decide +kernel
theorem dX9_leastStrong_34 : decode cX9_leastStrong 34 = .ok (.iinc 2 1, 3) := by decide +kernel
theorem dX9_leastStrong_37 : decode cX9_leastStrong 37 = .ok (.goto (-32), 3) := by decide +kernel
theorem dX9_leastStrong_40 : decode cX9_leastStrong 40 = .ok (.iload_n 1, 1) := by decide +kernel
theorem dX9_leastStrong_41 : decode cX9_leastStrong 41 = .ok (.ireturn, 1) := by decide +kernel
theorem dX9_highestOpen_0 : decode cX9_highestOpen 0 = .ok (.bipush (-4), 2) := by decide +kernel
theorem dX9_highestOpen_2 : decode cX9_highestOpen 2 = .ok (.istore_n 1, 1) := by decide +kernel
theorem dX9_highestOpen_3 : decode cX9_highestOpen 3 = .ok (.iconst 0, 1) := by decide +kernel
theorem dX9_highestOpen_4 : decode cX9_highestOpen 4 = .ok (.istore_n 2, 1) := by decide +kernel
theorem dX9_highestOpen_5 : decode cX9_highestOpen 5 = .ok (.iload_n 2, 1) := by decide +kernel
theorem dX9_highestOpen_6 : decode cX9_highestOpen 6 = .ok (.aload_n 0, 1) := by decide +kernel
theorem dX9_highestOpen_7 : decode cX9_highestOpen 7 = .ok (.getfield 30, 3) := by decide +kernel
theorem dX9_highestOpen_10 : decode cX9_highestOpen 10 = .ok (.if_icmp .ge 27, 3) := by decide +kernel
theorem dX9_highestOpen_13 : decode cX9_highestOpen 13 = .ok (.aload_n 0, 1) := by decide +kernel
theorem dX9_highestOpen_14 : decode cX9_highestOpen 14 = .ok (.iload_n 2, 1) := by decide +kernel
theorem dX9_highestOpen_15 : decode cX9_highestOpen 15 = .ok (.invokevirtual 67, 3) := by decide +kernel
theorem dX9_highestOpen_18 : decode cX9_highestOpen 18 = .ok (.ifCond .ne 19, 3) := by decide +kernel
theorem dX9_highestOpen_21 : decode cX9_highestOpen 21 = .ok (.aload_n 0, 1) := by decide +kernel
theorem dX9_highestOpen_22 : decode cX9_highestOpen 22 = .ok (.iload_n 2, 1) := by decide +kernel
theorem dX9_highestOpen_23 : decode cX9_highestOpen 23 = .ok (.invokevirtual 63, 3) := by decide +kernel
theorem dX9_highestOpen_26 : decode cX9_highestOpen 26 = .ok (.ifCond .ne 5, 3) := by decide +kernel
theorem dX9_highestOpen_29 : decode cX9_highestOpen 29 = .ok (.iload_n 2, 1) := by decide +kernel
theorem dX9_highestOpen_30 : decode cX9_highestOpen 30 = .ok (.istore_n 1, 1) := by decide +kernel
theorem dX9_highestOpen_31 : decode cX9_highestOpen 31 = .ok (.iinc 2 1, 3) := by decide +kernel
theorem dX9_highestOpen_34 : decode cX9_highestOpen 34 = .ok (.goto (-29), 3) := by decide +kernel
theorem dX9_highestOpen_37 : decode cX9_highestOpen 37 = .ok (.iload_n 1, 1) := by decide +kernel
theorem dX9_highestOpen_38 : decode cX9_highestOpen 38 = .ok (.ireturn, 1) := by decide +kernel
theorem dX9_atPlaceByTie_0 : decode cX9_atPlaceByTie 0 = .ok (.iconst 0, 1) := by decide +kernel
theorem dX9_atPlaceByTie_1 : decode cX9_atPlaceByTie 1 = .ok (.istore_n 2, 1) := by decide +kernel
theorem dX9_atPlaceByTie_2 : decode cX9_atPlaceByTie 2 = .ok (.iload_n 2, 1) := by decide +kernel
theorem dX9_atPlaceByTie_3 : decode cX9_atPlaceByTie 3 = .ok (.aload_n 0, 1) := by decide +kernel
theorem dX9_atPlaceByTie_4 : decode cX9_atPlaceByTie 4 = .ok (.getfield 30, 3) := by decide +kernel
theorem dX9_atPlaceByTie_7 : decode cX9_atPlaceByTie 7 = .ok (.if_icmp .ge 20, 3) := by decide +kernel
theorem dX9_atPlaceByTie_10 : decode cX9_atPlaceByTie 10 = .ok (.aload_n 0, 1) := by decide +kernel
theorem dX9_atPlaceByTie_11 : decode cX9_atPlaceByTie 11 = .ok (.iload_n 2, 1) := by decide +kernel
theorem dX9_atPlaceByTie_12 : decode cX9_atPlaceByTie 12 = .ok (.invokevirtual 70, 3) := by decide +kernel
theorem dX9_atPlaceByTie_15 : decode cX9_atPlaceByTie 15 = .ok (.iload_n 1, 1) := by decide +kernel
theorem dX9_atPlaceByTie_16 : decode cX9_atPlaceByTie 16 = .ok (.if_icmp .ne 5, 3) := by decide +kernel
theorem dX9_atPlaceByTie_19 : decode cX9_atPlaceByTie 19 = .ok (.iload_n 2, 1) := by decide +kernel
theorem dX9_atPlaceByTie_20 : decode cX9_atPlaceByTie 20 = .ok (.ireturn, 1) := by decide +kernel
theorem dX9_atPlaceByTie_21 : decode cX9_atPlaceByTie 21 = .ok (.iinc 2 1, 3) := by decide +kernel
theorem dX9_atPlaceByTie_24 : decode cX9_atPlaceByTie 24 = .ok (.goto (-22), 3) := by decide +kernel
theorem dX9_atPlaceByTie_27 : decode cX9_atPlaceByTie 27 = .ok (.iconst (-1), 1) := by decide +kernel
theorem dX9_atPlaceByTie_28 : decode cX9_atPlaceByTie 28 = .ok (.ireturn, 1) := by decide +kernel
theorem dX9_placeByTieOf_0 : decode cX9_placeByTieOf 0 = .ok (.iconst 0, 1) := by decide +kernel
theorem dX9_placeByTieOf_1 : decode cX9_placeByTieOf 1 = .ok (.istore_n 2, 1) := by decide +kernel
theorem dX9_placeByTieOf_2 : decode cX9_placeByTieOf 2 = .ok (.iconst 0, 1) := by decide +kernel
theorem dX9_placeByTieOf_3 : decode cX9_placeByTieOf 3 = .ok (.istore_n 3, 1) := by decide +kernel
theorem dX9_placeByTieOf_4 : decode cX9_placeByTieOf 4 = .ok (.iload_n 3, 1) := by decide +kernel
theorem dX9_placeByTieOf_5 : decode cX9_placeByTieOf 5 = .ok (.aload_n 0, 1) := by decide +kernel
theorem dX9_placeByTieOf_6 : decode cX9_placeByTieOf 6 = .ok (.getfield 30, 3) := by decide +kernel
theorem dX9_placeByTieOf_9 : decode cX9_placeByTieOf 9 = .ok (.if_icmp .ge 60, 3) := by decide +kernel
theorem dX9_placeByTieOf_12 : decode cX9_placeByTieOf 12 = .ok (.aload_n 0, 1) := by decide +kernel
theorem dX9_placeByTieOf_13 : decode cX9_placeByTieOf 13 = .ok (.iload_n 3, 1) := by decide +kernel
theorem dX9_placeByTieOf_14 : decode cX9_placeByTieOf 14 = .ok (.invokevirtual 54, 3) := by decide +kernel
theorem dX9_placeByTieOf_17 : decode cX9_placeByTieOf 17 = .ok (.aload_n 0, 1) := by decide +kernel
theorem dX9_placeByTieOf_18 : decode cX9_placeByTieOf 18 = .ok (.iload_n 1, 1) := by decide +kernel
theorem dX9_placeByTieOf_19 : decode cX9_placeByTieOf 19 = .ok (.invokevirtual 54, 3) := by decide +kernel
theorem dX9_placeByTieOf_22 : decode cX9_placeByTieOf 22 = .ok (.if_icmp .ne 12, 3) := by decide +kernel
theorem dX9_placeByTieOf_25 : decode cX9_placeByTieOf 25 = .ok (.iload_n 3, 1) := by decide +kernel
theorem dX9_placeByTieOf_26 : decode cX9_placeByTieOf 26 = .ok (.iload_n 1, 1) := by decide +kernel
theorem dX9_placeByTieOf_27 : decode cX9_placeByTieOf 27 = .ok (.if_icmp .le 7, 3) := by decide +kernel
theorem dX9_placeByTieOf_30 : decode cX9_placeByTieOf 30 = .ok (.iconst 1, 1) := by decide +kernel
theorem dX9_placeByTieOf_31 : decode cX9_placeByTieOf 31 = .ok (.goto 4, 3) := by decide +kernel
theorem dX9_placeByTieOf_34 : decode cX9_placeByTieOf 34 = .ok (.iconst 0, 1) := by decide +kernel
theorem dX9_placeByTieOf_35 : decode cX9_placeByTieOf 35 = .ok (.istore 4, 2) := by decide +kernel
theorem dX9_placeByTieOf_37 : decode cX9_placeByTieOf 37 = .ok (.iload_n 2, 1) := by decide +kernel
theorem dX9_placeByTieOf_38 : decode cX9_placeByTieOf 38 = .ok (.aload_n 0, 1) := by decide +kernel
theorem dX9_placeByTieOf_39 : decode cX9_placeByTieOf 39 = .ok (.iload_n 3, 1) := by decide +kernel
theorem dX9_placeByTieOf_40 : decode cX9_placeByTieOf 40 = .ok (.invokevirtual 54, 3) := by decide +kernel
theorem dX9_placeByTieOf_43 : decode cX9_placeByTieOf 43 = .ok (.aload_n 0, 1) := by decide +kernel
theorem dX9_placeByTieOf_44 : decode cX9_placeByTieOf 44 = .ok (.iload_n 1, 1) := by decide +kernel
theorem dX9_placeByTieOf_45 : decode cX9_placeByTieOf 45 = .ok (.invokevirtual 54, 3) := by decide +kernel
theorem dX9_placeByTieOf_48 : decode cX9_placeByTieOf 48 = .ok (.if_icmp .gt 8, 3) := by decide +kernel
theorem dX9_placeByTieOf_51 : decode cX9_placeByTieOf 51 = .ok (.iload 4, 2) := by decide +kernel
theorem dX9_placeByTieOf_53 : decode cX9_placeByTieOf 53 = .ok (.ifCond .eq 7, 3) := by decide +kernel
theorem dX9_placeByTieOf_56 : decode cX9_placeByTieOf 56 = .ok (.iconst 1, 1) := by decide +kernel
theorem dX9_placeByTieOf_57 : decode cX9_placeByTieOf 57 = .ok (.goto 4, 3) := by decide +kernel
theorem dX9_placeByTieOf_60 : decode cX9_placeByTieOf 60 = .ok (.iconst 0, 1) := by decide +kernel
theorem dX9_placeByTieOf_61 : decode cX9_placeByTieOf 61 = .ok (.iadd, 1) := by decide +kernel
theorem dX9_placeByTieOf_62 : decode cX9_placeByTieOf 62 = .ok (.istore_n 2, 1) := by decide +kernel
theorem dX9_placeByTieOf_63 : decode cX9_placeByTieOf 63 = .ok (.iinc 3 1, 3) := by decide +kernel
theorem dX9_placeByTieOf_66 : decode cX9_placeByTieOf 66 = .ok (.goto (-62), 3) := by decide +kernel
theorem dX9_placeByTieOf_69 : decode cX9_placeByTieOf 69 = .ok (.iload_n 2, 1) := by decide +kernel
theorem dX9_placeByTieOf_70 : decode cX9_placeByTieOf 70 = .ok (.ireturn, 1) := by decide +kernel
theorem dX9_add_0 : decode cX9_add 0 = .ok (.aload_n 0, 1) := by decide +kernel
theorem dX9_add_1 : decode cX9_add 1 = .ok (.getfield 9, 3) := by decide +kernel
theorem dX9_add_4 : decode cX9_add 4 = .ok (.aload_n 0, 1) := by decide +kernel
theorem dX9_add_5 : decode cX9_add 5 = .ok (.getfield 30, 3) := by decide +kernel
theorem dX9_add_8 : decode cX9_add 8 = .ok (.iload_n 1, 1) := by decide +kernel
theorem dX9_add_9 : decode cX9_add 9 = .ok (.invokestatic 73, 3) := by decide +kernel
theorem dX9_add_12 : decode cX9_add 12 = .ok (.aload_n 0, 1) := by decide +kernel
theorem dX9_add_13 : decode cX9_add 13 = .ok (.getfield 15, 3) := by decide +kernel
theorem dX9_add_16 : decode cX9_add 16 = .ok (.aload_n 0, 1) := by decide +kernel
theorem dX9_add_17 : decode cX9_add 17 = .ok (.getfield 30, 3) := by decide +kernel
theorem dX9_add_20 : decode cX9_add 20 = .ok (.iload_n 2, 1) := by decide +kernel
theorem dX9_add_21 : decode cX9_add 21 = .ok (.invokestatic 73, 3) := by decide +kernel
theorem dX9_add_24 : decode cX9_add 24 = .ok (.aload_n 0, 1) := by decide +kernel
theorem dX9_add_25 : decode cX9_add 25 = .ok (.getfield 21, 3) := by decide +kernel
theorem dX9_add_28 : decode cX9_add 28 = .ok (.aload_n 0, 1) := by decide +kernel
theorem dX9_add_29 : decode cX9_add 29 = .ok (.getfield 30, 3) := by decide +kernel
theorem dX9_add_32 : decode cX9_add 32 = .ok (.iload_n 3, 1) := by decide +kernel
theorem dX9_add_33 : decode cX9_add 33 = .ok (.invokestatic 73, 3) := by decide +kernel
theorem dX9_add_36 : decode cX9_add 36 = .ok (.aload_n 0, 1) := by decide +kernel
theorem dX9_add_37 : decode cX9_add 37 = .ok (.getfield 24, 3) := by decide +kernel
theorem dX9_add_40 : decode cX9_add 40 = .ok (.aload_n 0, 1) := by decide +kernel
theorem dX9_add_41 : decode cX9_add 41 = .ok (.getfield 30, 3) := by decide +kernel
theorem dX9_add_44 : decode cX9_add 44 = .ok (.iconst 0, 1) := by decide +kernel
theorem dX9_add_45 : decode cX9_add 45 = .ok (.invokestatic 73, 3) := by decide +kernel
theorem dX9_add_48 : decode cX9_add 48 = .ok (.aload_n 0, 1) := by decide +kernel
theorem dX9_add_49 : decode cX9_add 49 = .ok (.aload_n 0, 1) := by decide +kernel
theorem dX9_add_50 : decode cX9_add 50 = .ok (.getfield 30, 3) := by decide +kernel
theorem dX9_add_53 : decode cX9_add 53 = .ok (.invokevirtual 77, 3) := by decide +kernel
theorem dX9_add_56 : decode cX9_add 56 = .ok (.aload_n 0, 1) := by decide +kernel
theorem dX9_add_57 : decode cX9_add 57 = .ok (.dup, 1) := by decide +kernel
theorem dX9_add_58 : decode cX9_add 58 = .ok (.getfield 30, 3) := by decide +kernel
theorem dX9_add_61 : decode cX9_add 61 = .ok (.iconst 1, 1) := by decide +kernel
theorem dX9_add_62 : decode cX9_add 62 = .ok (.iadd, 1) := by decide +kernel
theorem dX9_add_63 : decode cX9_add 63 = .ok (.putfield 30, 3) := by decide +kernel
theorem dX9_add_66 : decode cX9_add 66 = .ok (.aload_n 0, 1) := by decide +kernel
theorem dX9_add_67 : decode cX9_add 67 = .ok (.getfield 30, 3) := by decide +kernel
theorem dX9_add_70 : decode cX9_add 70 = .ok (.iconst 1, 1) := by decide +kernel
theorem dX9_add_71 : decode cX9_add 71 = .ok (.isub, 1) := by decide +kernel
theorem dX9_add_72 : decode cX9_add 72 = .ok (.ireturn, 1) := by decide +kernel
theorem dX9_bind_0 : decode cX9_bind 0 = .ok (.aload_n 0, 1) := by decide +kernel
theorem dX9_bind_1 : decode cX9_bind 1 = .ok (.getfield 18, 3) := by decide +kernel
theorem dX9_bind_4 : decode cX9_bind 4 = .ok (.iload_n 1, 1) := by decide +kernel
theorem dX9_bind_5 : decode cX9_bind 5 = .ok (.iconst 0, 1) := by decide +kernel
theorem dX9_bind_6 : decode cX9_bind 6 = .ok (.invokestatic 73, 3) := by decide +kernel
theorem dX9_bind_9 : decode cX9_bind 9 = .ok (.aload_n 0, 1) := by decide +kernel
theorem dX9_bind_10 : decode cX9_bind 10 = .ok (.getfield 27, 3) := by decide +kernel
theorem dX9_bind_13 : decode cX9_bind 13 = .ok (.iload_n 1, 1) := by decide +kernel
theorem dX9_bind_14 : decode cX9_bind 14 = .ok (.bipush (-4), 2) := by decide +kernel
theorem dX9_bind_16 : decode cX9_bind 16 = .ok (.invokestatic 73, 3) := by decide +kernel
theorem dX9_bind_19 : decode cX9_bind 19 = .ok (.return_, 1) := by decide +kernel
theorem dX9_shut_0 : decode cX9_shut 0 = .ok (.aload_n 0, 1) := by decide +kernel
theorem dX9_shut_1 : decode cX9_shut 1 = .ok (.getfield 27, 3) := by decide +kernel
theorem dX9_shut_4 : decode cX9_shut 4 = .ok (.iload_n 1, 1) := by decide +kernel
theorem dX9_shut_5 : decode cX9_shut 5 = .ok (.iload_n 2, 1) := by decide +kernel
theorem dX9_shut_6 : decode cX9_shut 6 = .ok (.invokestatic 73, 3) := by decide +kernel
theorem dX9_shut_9 : decode cX9_shut 9 = .ok (.return_, 1) := by decide +kernel
theorem dX9_addLoads_0 : decode cX9_addLoads 0 = .ok (.aload_n 0, 1) := by decide +kernel
theorem dX9_addLoads_1 : decode cX9_addLoads 1 = .ok (.getfield 24, 3) := by decide +kernel
theorem dX9_addLoads_4 : decode cX9_addLoads 4 = .ok (.iload_n 1, 1) := by decide +kernel
theorem dX9_addLoads_5 : decode cX9_addLoads 5 = .ok (.aload_n 0, 1) := by decide +kernel
theorem dX9_addLoads_6 : decode cX9_addLoads 6 = .ok (.iload_n 1, 1) := by decide +kernel
theorem dX9_addLoads_7 : decode cX9_addLoads 7 = .ok (.invokevirtual 81, 3) := by decide +kernel
theorem dX9_addLoads_10 : decode cX9_addLoads 10 = .ok (.iload_n 2, 1) := by decide +kernel
theorem dX9_addLoads_11 : decode cX9_addLoads 11 = .ok (.iadd, 1) := by decide +kernel
theorem dX9_addLoads_12 : decode cX9_addLoads 12 = .ok (.invokestatic 73, 3) := by decide +kernel
theorem dX9_addLoads_15 : decode cX9_addLoads 15 = .ok (.return_, 1) := by decide +kernel
theorem dX9_workOff_0 : decode cX9_workOff 0 = .ok (.aload_n 0, 1) := by decide +kernel
theorem dX9_workOff_1 : decode cX9_workOff 1 = .ok (.getfield 21, 3) := by decide +kernel
theorem dX9_workOff_4 : decode cX9_workOff 4 = .ok (.iload_n 1, 1) := by decide +kernel
theorem dX9_workOff_5 : decode cX9_workOff 5 = .ok (.aload_n 0, 1) := by decide +kernel
theorem dX9_workOff_6 : decode cX9_workOff 6 = .ok (.getfield 21, 3) := by decide +kernel
theorem dX9_workOff_9 : decode cX9_workOff 9 = .ok (.iload_n 1, 1) := by decide +kernel
theorem dX9_workOff_10 : decode cX9_workOff 10 = .ok (.invokestatic 34, 3) := by decide +kernel
theorem dX9_workOff_13 : decode cX9_workOff 13 = .ok (.iload_n 2, 1) := by decide +kernel
theorem dX9_workOff_14 : decode cX9_workOff 14 = .ok (.isub, 1) := by decide +kernel
theorem dX9_workOff_15 : decode cX9_workOff 15 = .ok (.invokestatic 73, 3) := by decide +kernel
theorem dX9_workOff_18 : decode cX9_workOff 18 = .ok (.aload_n 0, 1) := by decide +kernel
theorem dX9_workOff_19 : decode cX9_workOff 19 = .ok (.getfield 24, 3) := by decide +kernel
theorem dX9_workOff_22 : decode cX9_workOff 22 = .ok (.iload_n 1, 1) := by decide +kernel
theorem dX9_workOff_23 : decode cX9_workOff 23 = .ok (.aload_n 0, 1) := by decide +kernel
theorem dX9_workOff_24 : decode cX9_workOff 24 = .ok (.getfield 24, 3) := by decide +kernel
theorem dX9_workOff_27 : decode cX9_workOff 27 = .ok (.iload_n 1, 1) := by decide +kernel
theorem dX9_workOff_28 : decode cX9_workOff 28 = .ok (.invokestatic 34, 3) := by decide +kernel
theorem dX9_workOff_31 : decode cX9_workOff 31 = .ok (.iconst 1, 1) := by decide +kernel
theorem dX9_workOff_32 : decode cX9_workOff 32 = .ok (.isub, 1) := by decide +kernel
theorem dX9_workOff_33 : decode cX9_workOff 33 = .ok (.invokestatic 73, 3) := by decide +kernel
theorem dX9_workOff_36 : decode cX9_workOff 36 = .ok (.return_, 1) := by decide +kernel
theorem dX9_makeTiesOlder_0 : decode cX9_makeTiesOlder 0 = .ok (.aload_n 0, 1) := by decide +kernel
theorem dX9_makeTiesOlder_1 : decode cX9_makeTiesOlder 1 = .ok (.getfield 18, 3) := by decide +kernel
theorem dX9_makeTiesOlder_4 : decode cX9_makeTiesOlder 4 = .ok (.aload_n 0, 1) := by decide +kernel
theorem dX9_makeTiesOlder_5 : decode cX9_makeTiesOlder 5 = .ok (.getfield 30, 3) := by decide +kernel
theorem dX9_makeTiesOlder_8 : decode cX9_makeTiesOlder 8 = .ok (.iload_n 1, 1) := by decide +kernel
theorem dX9_makeTiesOlder_9 : decode cX9_makeTiesOlder 9 = .ok (.bipush 99, 2) := by decide +kernel
theorem dX9_makeTiesOlder_11 : decode cX9_makeTiesOlder 11 = .ok (.invokestatic 84, 3) := by decide +kernel
theorem dX9_makeTiesOlder_14 : decode cX9_makeTiesOlder 14 = .ok (.return_, 1) := by decide +kernel
theorem dX9_makePolesOlder_0 : decode cX9_makePolesOlder 0 = .ok (.aload_n 0, 1) := by decide +kernel
theorem dX9_makePolesOlder_1 : decode cX9_makePolesOlder 1 = .ok (.getfield 15, 3) := by decide +kernel
theorem dX9_makePolesOlder_4 : decode cX9_makePolesOlder 4 = .ok (.aload_n 0, 1) := by decide +kernel
theorem dX9_makePolesOlder_5 : decode cX9_makePolesOlder 5 = .ok (.getfield 30, 3) := by decide +kernel
theorem dX9_makePolesOlder_8 : decode cX9_makePolesOlder 8 = .ok (.iconst 1, 1) := by decide +kernel
theorem dX9_makePolesOlder_9 : decode cX9_makePolesOlder 9 = .ok (.bipush 60, 2) := by decide +kernel
theorem dX9_makePolesOlder_11 : decode cX9_makePolesOlder 11 = .ok (.invokestatic 84, 3) := by decide +kernel
theorem dX9_makePolesOlder_14 : decode cX9_makePolesOlder 14 = .ok (.return_, 1) := by decide +kernel
theorem dX9_cutTo_0 : decode cX9_cutTo 0 = .ok (.aload_n 0, 1) := by decide +kernel
theorem dX9_cutTo_1 : decode cX9_cutTo 1 = .ok (.aload_n 0, 1) := by decide +kernel
theorem dX9_cutTo_2 : decode cX9_cutTo 2 = .ok (.getfield 30, 3) := by decide +kernel
theorem dX9_cutTo_5 : decode cX9_cutTo 5 = .ok (.iload_n 1, 1) := by decide +kernel
theorem dX9_cutTo_6 : decode cX9_cutTo 6 = .ok (.invokestatic 88, 3) := by decide +kernel
theorem dX9_cutTo_9 : decode cX9_cutTo 9 = .ok (.iconst 0, 1) := by decide +kernel
theorem dX9_cutTo_10 : decode cX9_cutTo 10 = .ok (.invokestatic 45, 3) := by decide +kernel
theorem dX9_cutTo_13 : decode cX9_cutTo 13 = .ok (.putfield 30, 3) := by decide +kernel
theorem dX9_cutTo_16 : decode cX9_cutTo 16 = .ok (.return_, 1) := by decide +kernel
theorem dX9_take_0 : decode cX9_take 0 = .ok (.aload_n 1, 1) := by decide +kernel
theorem dX9_take_1 : decode cX9_take 1 = .ok (.getfield 9, 3) := by decide +kernel
theorem dX9_take_4 : decode cX9_take 4 = .ok (.aload_n 0, 1) := by decide +kernel
theorem dX9_take_5 : decode cX9_take 5 = .ok (.getfield 9, 3) := by decide +kernel
theorem dX9_take_8 : decode cX9_take 8 = .ok (.invokestatic 91, 3) := by decide +kernel
theorem dX9_take_11 : decode cX9_take 11 = .ok (.aload_n 1, 1) := by decide +kernel
theorem dX9_take_12 : decode cX9_take 12 = .ok (.getfield 15, 3) := by decide +kernel
theorem dX9_take_15 : decode cX9_take 15 = .ok (.aload_n 0, 1) := by decide +kernel
theorem dX9_take_16 : decode cX9_take 16 = .ok (.getfield 15, 3) := by decide +kernel
theorem dX9_take_19 : decode cX9_take 19 = .ok (.invokestatic 91, 3) := by decide +kernel
theorem dX9_take_22 : decode cX9_take 22 = .ok (.aload_n 1, 1) := by decide +kernel
theorem dX9_take_23 : decode cX9_take 23 = .ok (.getfield 18, 3) := by decide +kernel
theorem dX9_take_26 : decode cX9_take 26 = .ok (.aload_n 0, 1) := by decide +kernel
theorem dX9_take_27 : decode cX9_take 27 = .ok (.getfield 18, 3) := by decide +kernel
theorem dX9_take_30 : decode cX9_take 30 = .ok (.invokestatic 91, 3) := by decide +kernel
theorem dX9_take_33 : decode cX9_take 33 = .ok (.aload_n 1, 1) := by decide +kernel
theorem dX9_take_34 : decode cX9_take 34 = .ok (.getfield 21, 3) := by decide +kernel
theorem dX9_take_37 : decode cX9_take 37 = .ok (.aload_n 0, 1) := by decide +kernel
theorem dX9_take_38 : decode cX9_take 38 = .ok (.getfield 21, 3) := by decide +kernel
theorem dX9_take_41 : decode cX9_take 41 = .ok (.invokestatic 91, 3) := by decide +kernel
theorem dX9_take_44 : decode cX9_take 44 = .ok (.aload_n 1, 1) := by decide +kernel
theorem dX9_take_45 : decode cX9_take 45 = .ok (.getfield 24, 3) := by decide +kernel
theorem dX9_take_48 : decode cX9_take 48 = .ok (.aload_n 0, 1) := by decide +kernel
theorem dX9_take_49 : decode cX9_take 49 = .ok (.getfield 24, 3) := by decide +kernel
theorem dX9_take_52 : decode cX9_take 52 = .ok (.invokestatic 91, 3) := by decide +kernel
theorem dX9_take_55 : decode cX9_take 55 = .ok (.aload_n 1, 1) := by decide +kernel
theorem dX9_take_56 : decode cX9_take 56 = .ok (.getfield 27, 3) := by decide +kernel
theorem dX9_take_59 : decode cX9_take 59 = .ok (.aload_n 0, 1) := by decide +kernel
theorem dX9_take_60 : decode cX9_take 60 = .ok (.getfield 27, 3) := by decide +kernel
theorem dX9_take_63 : decode cX9_take 63 = .ok (.invokestatic 91, 3) := by decide +kernel
theorem dX9_take_66 : decode cX9_take 66 = .ok (.aload_n 0, 1) := by decide +kernel
theorem dX9_take_67 : decode cX9_take 67 = .ok (.aload_n 1, 1) := by decide +kernel
theorem dX9_take_68 : decode cX9_take 68 = .ok (.getfield 30, 3) := by decide +kernel
theorem dX9_take_71 : decode cX9_take 71 = .ok (.putfield 30, 3) := by decide +kernel
theorem dX9_take_74 : decode cX9_take 74 = .ok (.return_, 1) := by decide +kernel
theorem dX10_init_0 : decode cX10_init 0 = .ok (.aload_n 0, 1) := by decide +kernel
theorem dX10_init_1 : decode cX10_init 1 = .ok (.invokespecial 1, 3) := by decide +kernel
theorem dX10_init_4 : decode cX10_init 4 = .ok (.aload_n 0, 1) := by decide +kernel
theorem dX10_init_5 : decode cX10_init 5 = .ok (.new 7, 3) := by decide +kernel
theorem dX10_init_8 : decode cX10_init 8 = .ok (.dup, 1) := by decide +kernel
theorem dX10_init_9 : decode cX10_init 9 = .ok (.invokespecial 9, 3) := by decide +kernel
theorem dX10_init_12 : decode cX10_init 12 = .ok (.putfield 10, 3) := by decide +kernel
theorem dX10_init_15 : decode cX10_init 15 = .ok (.aload_n 0, 1) := by decide +kernel
theorem dX10_init_16 : decode cX10_init 16 = .ok (.aload_n 0, 1) := by decide +kernel
theorem dX10_init_17 : decode cX10_init 17 = .ok (.getfield 10, 3) := by decide +kernel
theorem dX10_init_20 : decode cX10_init 20 = .ok (.getfield 16, 3) := by decide +kernel
theorem dX10_init_23 : decode cX10_init 23 = .ok (.putfield 20, 3) := by decide +kernel
theorem dX10_init_26 : decode cX10_init 26 = .ok (.aload_n 0, 1) := by decide +kernel
theorem dX10_init_27 : decode cX10_init 27 = .ok (.new 23, 3) := by decide +kernel
theorem dX10_init_30 : decode cX10_init 30 = .ok (.dup, 1) := by decide +kernel
theorem dX10_init_31 : decode cX10_init 31 = .ok (.invokespecial 25, 3) := by decide +kernel
theorem dX10_init_34 : decode cX10_init 34 = .ok (.putfield 26, 3) := by decide +kernel
theorem dX10_init_37 : decode cX10_init 37 = .ok (.aload_n 0, 1) := by decide +kernel
theorem dX10_init_38 : decode cX10_init 38 = .ok (.new 23, 3) := by decide +kernel
theorem dX10_init_41 : decode cX10_init 41 = .ok (.dup, 1) := by decide +kernel
theorem dX10_init_42 : decode cX10_init 42 = .ok (.invokespecial 25, 3) := by decide +kernel
theorem dX10_init_45 : decode cX10_init 45 = .ok (.putfield 29, 3) := by decide +kernel
theorem dX10_init_48 : decode cX10_init 48 = .ok (.aload_n 0, 1) := by decide +kernel
theorem dX10_init_49 : decode cX10_init 49 = .ok (.new 32, 3) := by decide +kernel
theorem dX10_init_52 : decode cX10_init 52 = .ok (.dup, 1) := by decide +kernel
theorem dX10_init_53 : decode cX10_init 53 = .ok (.invokespecial 34, 3) := by decide +kernel
theorem dX10_init_56 : decode cX10_init 56 = .ok (.putfield 35, 3) := by decide +kernel
theorem dX10_init_59 : decode cX10_init 59 = .ok (.aload_n 0, 1) := by decide +kernel
theorem dX10_init_60 : decode cX10_init 60 = .ok (.new 39, 3) := by decide +kernel
theorem dX10_init_63 : decode cX10_init 63 = .ok (.dup, 1) := by decide +kernel
theorem dX10_init_64 : decode cX10_init 64 = .ok (.bipush 60, 2) := by decide +kernel
theorem dX10_init_66 : decode cX10_init 66 = .ok (.invokespecial 41, 3) := by decide +kernel
theorem dX10_init_69 : decode cX10_init 69 = .ok (.putfield 44, 3) := by decide +kernel
theorem dX10_init_72 : decode cX10_init 72 = .ok (.aload_n 0, 1) := by decide +kernel
theorem dX10_init_73 : decode cX10_init 73 = .ok (.new 39, 3) := by decide +kernel
theorem dX10_init_76 : decode cX10_init 76 = .ok (.dup, 1) := by decide +kernel
theorem dX10_init_77 : decode cX10_init 77 = .ok (.sipush 200, 3) := by decide +kernel
theorem dX10_init_80 : decode cX10_init 80 = .ok (.invokespecial 41, 3) := by decide +kernel
theorem dX10_init_83 : decode cX10_init 83 = .ok (.putfield 48, 3) := by decide +kernel
theorem dX10_init_86 : decode cX10_init 86 = .ok (.aload_n 0, 1) := by decide +kernel
theorem dX10_init_87 : decode cX10_init 87 = .ok (.new 51, 3) := by decide +kernel
theorem dX10_init_90 : decode cX10_init 90 = .ok (.dup, 1) := by decide +kernel
theorem dX10_init_91 : decode cX10_init 91 = .ok (.invokespecial 53, 3) := by decide +kernel
theorem dX10_init_94 : decode cX10_init 94 = .ok (.putfield 54, 3) := by decide +kernel
theorem dX10_init_97 : decode cX10_init 97 = .ok (.aload_n 0, 1) := by decide +kernel
theorem dX10_init_98 : decode cX10_init 98 = .ok (.iconst 0, 1) := by decide +kernel
theorem dX10_init_99 : decode cX10_init 99 = .ok (.putfield 58, 3) := by decide +kernel
theorem dX10_init_102 : decode cX10_init 102 = .ok (.aload_n 0, 1) := by decide +kernel
theorem dX10_init_103 : decode cX10_init 103 = .ok (.bipush (-4), 2) := by decide +kernel
theorem dX10_init_105 : decode cX10_init 105 = .ok (.putfield 62, 3) := by decide +kernel
theorem dX10_init_108 : decode cX10_init 108 = .ok (.return_, 1) := by decide +kernel
theorem dX10_clear_0 : decode cX10_clear 0 = .ok (.aload_n 0, 1) := by decide +kernel
theorem dX10_clear_1 : decode cX10_clear 1 = .ok (.getfield 20, 3) := by decide +kernel
theorem dX10_clear_4 : decode cX10_clear 4 = .ok (.getfield 66, 3) := by decide +kernel
theorem dX10_clear_7 : decode cX10_clear 7 = .ok (.istore_n 1, 1) := by decide +kernel
theorem dX10_clear_8 : decode cX10_clear 8 = .ok (.aload_n 0, 1) := by decide +kernel
theorem dX10_clear_9 : decode cX10_clear 9 = .ok (.getfield 20, 3) := by decide +kernel
theorem dX10_clear_12 : decode cX10_clear 12 = .ok (.invokevirtual 69, 3) := by decide +kernel
theorem dX10_clear_15 : decode cX10_clear 15 = .ok (.aload_n 0, 1) := by decide +kernel
theorem dX10_clear_16 : decode cX10_clear 16 = .ok (.getfield 35, 3) := by decide +kernel
theorem dX10_clear_19 : decode cX10_clear 19 = .ok (.invokevirtual 72, 3) := by decide +kernel
theorem dX10_clear_22 : decode cX10_clear 22 = .ok (.iload_n 1, 1) := by decide +kernel
theorem dX10_clear_23 : decode cX10_clear 23 = .ok (.ireturn, 1) := by decide +kernel
theorem dX10_append_0 : decode cX10_append 0 = .ok (.iload_n 1, 1) := by decide +kernel
theorem dX10_append_1 : decode cX10_append 1 = .ok (.bipush 32, 2) := by decide +kernel
theorem dX10_append_3 : decode cX10_append 3 = .ok (.bipush 126, 2) := by decide +kernel
theorem dX10_append_5 : decode cX10_append 5 = .ok (.invokestatic 75, 3) := by decide +kernel
theorem dX10_append_8 : decode cX10_append 8 = .ok (.ifCond .eq 15, 3) := by decide +kernel
theorem dX10_append_11 : decode cX10_append 11 = .ok (.aload_n 0, 1) := by decide +kernel
theorem dX10_append_12 : decode cX10_append 12 = .ok (.getfield 44, 3) := by decide +kernel
theorem dX10_append_15 : decode cX10_append 15 = .ok (.getfield 79, 3) := by decide +kernel
theorem dX10_append_18 : decode cX10_append 18 = .ok (.bipush 60, 2) := by decide +kernel
theorem dX10_append_20 : decode cX10_append 20 = .ok (.if_icmp .lt 6, 3) := by decide +kernel
theorem dX10_append_23 : decode cX10_append 23 = .ok (.bipush (-2), 2) := by decide +kernel
theorem dX10_append_25 : decode cX10_append 25 = .ok (.ireturn, 1) := by decide +kernel
theorem dX10_append_26 : decode cX10_append 26 = .ok (.aload_n 0, 1) := by decide +kernel
theorem dX10_append_27 : decode cX10_append 27 = .ok (.getfield 44, 3) := by decide +kernel
theorem dX10_append_30 : decode cX10_append 30 = .ok (.iload_n 1, 1) := by decide +kernel
theorem dX10_append_31 : decode cX10_append 31 = .ok (.invokevirtual 82, 3) := by decide +kernel
theorem dX10_append_34 : decode cX10_append 34 = .ok (.aload_n 0, 1) := by decide +kernel
theorem dX10_append_35 : decode cX10_append 35 = .ok (.getfield 44, 3) := by decide +kernel
theorem dX10_append_38 : decode cX10_append 38 = .ok (.getfield 79, 3) := by decide +kernel
theorem dX10_append_41 : decode cX10_append 41 = .ok (.ireturn, 1) := by decide +kernel
theorem dX10_bundle_0 : decode cX10_bundle 0 = .ok (.aload_n 0, 1) := by decide +kernel
theorem dX10_bundle_1 : decode cX10_bundle 1 = .ok (.getfield 35, 3) := by decide +kernel
theorem dX10_bundle_4 : decode cX10_bundle 4 = .ok (.aload_n 0, 1) := by decide +kernel
theorem dX10_bundle_5 : decode cX10_bundle 5 = .ok (.getfield 20, 3) := by decide +kernel
theorem dX10_bundle_8 : decode cX10_bundle 8 = .ok (.invokevirtual 86, 3) := by decide +kernel
theorem dX10_bundle_11 : decode cX10_bundle 11 = .ok (.aload_n 0, 1) := by decide +kernel
theorem dX10_bundle_12 : decode cX10_bundle 12 = .ok (.aload_n 0, 1) := by decide +kernel
theorem dX10_bundle_13 : decode cX10_bundle 13 = .ok (.getfield 10, 3) := by decide +kernel
theorem dX10_bundle_16 : decode cX10_bundle 16 = .ok (.iload_n 1, 1) := by decide +kernel
theorem dX10_bundle_17 : decode cX10_bundle 17 = .ok (.iload_n 2, 1) := by decide +kernel
theorem dX10_bundle_18 : decode cX10_bundle 18 = .ok (.invokevirtual 90, 3) := by decide +kernel
theorem dX10_bundle_21 : decode cX10_bundle 21 = .ok (.invokevirtual 94, 3) := by decide +kernel
theorem dX10_bundle_24 : decode cX10_bundle 24 = .ok (.ireturn, 1) := by decide +kernel
theorem dX10_strips_0 : decode cX10_strips 0 = .ok (.aload_n 0, 1) := by decide +kernel
theorem dX10_strips_1 : decode cX10_strips 1 = .ok (.getfield 35, 3) := by decide +kernel
theorem dX10_strips_4 : decode cX10_strips 4 = .ok (.aload_n 0, 1) := by decide +kernel
theorem dX10_strips_5 : decode cX10_strips 5 = .ok (.getfield 20, 3) := by decide +kernel
theorem dX10_strips_8 : decode cX10_strips 8 = .ok (.invokevirtual 86, 3) := by decide +kernel
theorem dX10_strips_11 : decode cX10_strips 11 = .ok (.aload_n 0, 1) := by decide +kernel
theorem dX10_strips_12 : decode cX10_strips 12 = .ok (.aload_n 0, 1) := by decide +kernel
theorem dX10_strips_13 : decode cX10_strips 13 = .ok (.getfield 10, 3) := by decide +kernel
theorem dX10_strips_16 : decode cX10_strips 16 = .ok (.iload_n 1, 1) := by decide +kernel
theorem dX10_strips_17 : decode cX10_strips 17 = .ok (.invokevirtual 98, 3) := by decide +kernel
theorem dX10_strips_20 : decode cX10_strips 20 = .ok (.invokevirtual 94, 3) := by decide +kernel
theorem dX10_strips_23 : decode cX10_strips 23 = .ok (.ireturn, 1) := by decide +kernel
theorem dX10_build_0 : decode cX10_build 0 = .ok (.aload_n 0, 1) := by decide +kernel
theorem dX10_build_1 : decode cX10_build 1 = .ok (.getfield 35, 3) := by decide +kernel
theorem dX10_build_4 : decode cX10_build 4 = .ok (.aload_n 0, 1) := by decide +kernel
theorem dX10_build_5 : decode cX10_build 5 = .ok (.getfield 20, 3) := by decide +kernel
theorem dX10_build_8 : decode cX10_build 8 = .ok (.invokevirtual 86, 3) := by decide +kernel
theorem dX10_build_11 : decode cX10_build 11 = .ok (.aload_n 0, 1) := by decide +kernel
theorem dX10_build_12 : decode cX10_build 12 = .ok (.aload_n 0, 1) := by decide +kernel
theorem dX10_build_13 : decode cX10_build 13 = .ok (.getfield 10, 3) := by decide +kernel
theorem dX10_build_16 : decode cX10_build 16 = .ok (.iload_n 1, 1) := by decide +kernel
theorem dX10_build_17 : decode cX10_build 17 = .ok (.iload_n 2, 1) := by decide +kernel
theorem dX10_build_18 : decode cX10_build 18 = .ok (.iload_n 3, 1) := by decide +kernel
theorem dX10_build_19 : decode cX10_build 19 = .ok (.invokevirtual 101, 3) := by decide +kernel
theorem dX10_build_22 : decode cX10_build 22 = .ok (.invokevirtual 94, 3) := by decide +kernel
theorem dX10_build_25 : decode cX10_build 25 = .ok (.ireturn, 1) := by decide +kernel
theorem dX10_tie_0 : decode cX10_tie 0 = .ok (.aload_n 0, 1) := by decide +kernel
theorem dX10_tie_1 : decode cX10_tie 1 = .ok (.getfield 35, 3) := by decide +kernel
theorem dX10_tie_4 : decode cX10_tie 4 = .ok (.aload_n 0, 1) := by decide +kernel
theorem dX10_tie_5 : decode cX10_tie 5 = .ok (.getfield 20, 3) := by decide +kernel
theorem dX10_tie_8 : decode cX10_tie 8 = .ok (.invokevirtual 86, 3) := by decide +kernel
theorem dX10_tie_11 : decode cX10_tie 11 = .ok (.aload_n 0, 1) := by decide +kernel
theorem dX10_tie_12 : decode cX10_tie 12 = .ok (.aload_n 0, 1) := by decide +kernel
theorem dX10_tie_13 : decode cX10_tie 13 = .ok (.getfield 10, 3) := by decide +kernel
theorem dX10_tie_16 : decode cX10_tie 16 = .ok (.iload_n 1, 1) := by decide +kernel
theorem dX10_tie_17 : decode cX10_tie 17 = .ok (.invokevirtual 105, 3) := by decide +kernel
theorem dX10_tie_20 : decode cX10_tie 20 = .ok (.invokevirtual 94, 3) := by decide +kernel
theorem dX10_tie_23 : decode cX10_tie 23 = .ok (.ireturn, 1) := by decide +kernel
theorem dX10_crew_0 : decode cX10_crew 0 = .ok (.aload_n 0, 1) := by decide +kernel
theorem dX10_crew_1 : decode cX10_crew 1 = .ok (.getfield 35, 3) := by decide +kernel
theorem dX10_crew_4 : decode cX10_crew 4 = .ok (.aload_n 0, 1) := by decide +kernel
theorem dX10_crew_5 : decode cX10_crew 5 = .ok (.getfield 20, 3) := by decide +kernel
theorem dX10_crew_8 : decode cX10_crew 8 = .ok (.invokevirtual 86, 3) := by decide +kernel
theorem dX10_crew_11 : decode cX10_crew 11 = .ok (.aload_n 0, 1) := by decide +kernel
theorem dX10_crew_12 : decode cX10_crew 12 = .ok (.aload_n 0, 1) := by decide +kernel
theorem dX10_crew_13 : decode cX10_crew 13 = .ok (.getfield 10, 3) := by decide +kernel
theorem dX10_crew_16 : decode cX10_crew 16 = .ok (.iload_n 1, 1) := by decide +kernel
theorem dX10_crew_17 : decode cX10_crew 17 = .ok (.invokevirtual 108, 3) := by decide +kernel
theorem dX10_crew_20 : decode cX10_crew 20 = .ok (.invokevirtual 94, 3) := by decide +kernel
theorem dX10_crew_23 : decode cX10_crew 23 = .ok (.ireturn, 1) := by decide +kernel
theorem dX10_up_0 : decode cX10_up 0 = .ok (.aload_n 0, 1) := by decide +kernel
theorem dX10_up_1 : decode cX10_up 1 = .ok (.getfield 35, 3) := by decide +kernel
theorem dX10_up_4 : decode cX10_up 4 = .ok (.aload_n 0, 1) := by decide +kernel
theorem dX10_up_5 : decode cX10_up 5 = .ok (.getfield 20, 3) := by decide +kernel
theorem dX10_up_8 : decode cX10_up 8 = .ok (.invokevirtual 86, 3) := by decide +kernel
theorem dX10_up_11 : decode cX10_up 11 = .ok (.aload_n 0, 1) := by decide +kernel
theorem dX10_up_12 : decode cX10_up 12 = .ok (.aload_n 0, 1) := by decide +kernel
theorem dX10_up_13 : decode cX10_up 13 = .ok (.getfield 10, 3) := by decide +kernel
theorem dX10_up_16 : decode cX10_up 16 = .ok (.iload_n 1, 1) := by decide +kernel
theorem dX10_up_17 : decode cX10_up 17 = .ok (.iload_n 2, 1) := by decide +kernel
theorem dX10_up_18 : decode cX10_up 18 = .ok (.invokevirtual 111, 3) := by decide +kernel
theorem dX10_up_21 : decode cX10_up 21 = .ok (.invokevirtual 94, 3) := by decide +kernel
theorem dX10_up_24 : decode cX10_up 24 = .ok (.ireturn, 1) := by decide +kernel
theorem dX10_down_0 : decode cX10_down 0 = .ok (.aload_n 0, 1) := by decide +kernel
theorem dX10_down_1 : decode cX10_down 1 = .ok (.getfield 35, 3) := by decide +kernel
theorem dX10_down_4 : decode cX10_down 4 = .ok (.aload_n 0, 1) := by decide +kernel
theorem dX10_down_5 : decode cX10_down 5 = .ok (.getfield 20, 3) := by decide +kernel
theorem dX10_down_8 : decode cX10_down 8 = .ok (.invokevirtual 86, 3) := by decide +kernel
theorem dX10_down_11 : decode cX10_down 11 = .ok (.aload_n 0, 1) := by decide +kernel
theorem dX10_down_12 : decode cX10_down 12 = .ok (.aload_n 0, 1) := by decide +kernel
theorem dX10_down_13 : decode cX10_down 13 = .ok (.getfield 10, 3) := by decide +kernel
theorem dX10_down_16 : decode cX10_down 16 = .ok (.iload_n 1, 1) := by decide +kernel
theorem dX10_down_17 : decode cX10_down 17 = .ok (.invokevirtual 114, 3) := by decide +kernel
theorem dX10_down_20 : decode cX10_down 20 = .ok (.invokevirtual 94, 3) := by decide +kernel
theorem dX10_down_23 : decode cX10_down 23 = .ok (.ireturn, 1) := by decide +kernel
theorem dX10_lift_0 : decode cX10_lift 0 = .ok (.aload_n 0, 1) := by decide +kernel
theorem dX10_lift_1 : decode cX10_lift 1 = .ok (.getfield 35, 3) := by decide +kernel
theorem dX10_lift_4 : decode cX10_lift 4 = .ok (.aload_n 0, 1) := by decide +kernel
theorem dX10_lift_5 : decode cX10_lift 5 = .ok (.getfield 20, 3) := by decide +kernel
theorem dX10_lift_8 : decode cX10_lift 8 = .ok (.invokevirtual 86, 3) := by decide +kernel
theorem dX10_lift_11 : decode cX10_lift 11 = .ok (.aload_n 0, 1) := by decide +kernel
theorem dX10_lift_12 : decode cX10_lift 12 = .ok (.aload_n 0, 1) := by decide +kernel
theorem dX10_lift_13 : decode cX10_lift 13 = .ok (.getfield 10, 3) := by decide +kernel
theorem dX10_lift_16 : decode cX10_lift 16 = .ok (.iload_n 1, 1) := by decide +kernel
theorem dX10_lift_17 : decode cX10_lift 17 = .ok (.iload_n 2, 1) := by decide +kernel
theorem dX10_lift_18 : decode cX10_lift 18 = .ok (.invokevirtual 117, 3) := by decide +kernel
theorem dX10_lift_21 : decode cX10_lift 21 = .ok (.invokevirtual 94, 3) := by decide +kernel
theorem dX10_lift_24 : decode cX10_lift 24 = .ok (.ireturn, 1) := by decide +kernel
theorem dX10_signal_0 : decode cX10_signal 0 = .ok (.aload_n 0, 1) := by decide +kernel
theorem dX10_signal_1 : decode cX10_signal 1 = .ok (.getfield 35, 3) := by decide +kernel
theorem dX10_signal_4 : decode cX10_signal 4 = .ok (.aload_n 0, 1) := by decide +kernel
theorem dX10_signal_5 : decode cX10_signal 5 = .ok (.getfield 20, 3) := by decide +kernel
theorem dX10_signal_8 : decode cX10_signal 8 = .ok (.invokevirtual 86, 3) := by decide +kernel
theorem dX10_signal_11 : decode cX10_signal 11 = .ok (.aload_n 0, 1) := by decide +kernel
theorem dX10_signal_12 : decode cX10_signal 12 = .ok (.aload_n 0, 1) := by decide +kernel
theorem dX10_signal_13 : decode cX10_signal 13 = .ok (.getfield 10, 3) := by decide +kernel
theorem dX10_signal_16 : decode cX10_signal 16 = .ok (.iload_n 1, 1) := by decide +kernel
theorem dX10_signal_17 : decode cX10_signal 17 = .ok (.invokevirtual 120, 3) := by decide +kernel
theorem dX10_signal_20 : decode cX10_signal 20 = .ok (.invokevirtual 94, 3) := by decide +kernel
theorem dX10_signal_23 : decode cX10_signal 23 = .ok (.ireturn, 1) := by decide +kernel
theorem dX10_inspector_0 : decode cX10_inspector 0 = .ok (.aload_n 0, 1) := by decide +kernel
theorem dX10_inspector_1 : decode cX10_inspector 1 = .ok (.getfield 35, 3) := by decide +kernel
theorem dX10_inspector_4 : decode cX10_inspector 4 = .ok (.aload_n 0, 1) := by decide +kernel
theorem dX10_inspector_5 : decode cX10_inspector 5 = .ok (.getfield 20, 3) := by decide +kernel
theorem dX10_inspector_8 : decode cX10_inspector 8 = .ok (.invokevirtual 86, 3) := by decide +kernel
theorem dX10_inspector_11 : decode cX10_inspector 11 = .ok (.aload_n 0, 1) := by decide +kernel
theorem dX10_inspector_12 : decode cX10_inspector 12 = .ok (.aload_n 0, 1) := by decide +kernel
theorem dX10_inspector_13 : decode cX10_inspector 13 = .ok (.getfield 10, 3) := by decide +kernel
theorem dX10_inspector_16 : decode cX10_inspector 16 = .ok (.iload_n 1, 1) := by decide +kernel
theorem dX10_inspector_17 : decode cX10_inspector 17 = .ok (.invokevirtual 123, 3) := by decide +kernel
theorem dX10_inspector_20 : decode cX10_inspector 20 = .ok (.invokevirtual 94, 3) := by decide +kernel
theorem dX10_inspector_23 : decode cX10_inspector 23 = .ok (.ireturn, 1) := by decide +kernel
theorem dX10_inspect_0 : decode cX10_inspect 0 = .ok (.aload_n 0, 1) := by decide +kernel
theorem dX10_inspect_1 : decode cX10_inspect 1 = .ok (.getfield 35, 3) := by decide +kernel
theorem dX10_inspect_4 : decode cX10_inspect 4 = .ok (.aload_n 0, 1) := by decide +kernel
theorem dX10_inspect_5 : decode cX10_inspect 5 = .ok (.getfield 20, 3) := by decide +kernel
theorem dX10_inspect_8 : decode cX10_inspect 8 = .ok (.invokevirtual 86, 3) := by decide +kernel
theorem dX10_inspect_11 : decode cX10_inspect 11 = .ok (.aload_n 0, 1) := by decide +kernel
theorem dX10_inspect_12 : decode cX10_inspect 12 = .ok (.aload_n 0, 1) := by decide +kernel
theorem dX10_inspect_13 : decode cX10_inspect 13 = .ok (.getfield 10, 3) := by decide +kernel
theorem dX10_inspect_16 : decode cX10_inspect 16 = .ok (.iload_n 1, 1) := by decide +kernel
theorem dX10_inspect_17 : decode cX10_inspect 17 = .ok (.iload_n 2, 1) := by decide +kernel
theorem dX10_inspect_18 : decode cX10_inspect 18 = .ok (.invokevirtual 126, 3) := by decide +kernel
theorem dX10_inspect_21 : decode cX10_inspect 21 = .ok (.invokevirtual 94, 3) := by decide +kernel
theorem dX10_inspect_24 : decode cX10_inspect 24 = .ok (.ireturn, 1) := by decide +kernel
theorem dX10_day_0 : decode cX10_day 0 = .ok (.aload_n 0, 1) := by decide +kernel
theorem dX10_day_1 : decode cX10_day 1 = .ok (.getfield 35, 3) := by decide +kernel
theorem dX10_day_4 : decode cX10_day 4 = .ok (.aload_n 0, 1) := by decide +kernel
theorem dX10_day_5 : decode cX10_day 5 = .ok (.getfield 20, 3) := by decide +kernel
theorem dX10_day_8 : decode cX10_day 8 = .ok (.invokevirtual 86, 3) := by decide +kernel
theorem dX10_day_11 : decode cX10_day 11 = .ok (.aload_n 0, 1) := by decide +kernel
theorem dX10_day_12 : decode cX10_day 12 = .ok (.aload_n 0, 1) := by decide +kernel
theorem dX10_day_13 : decode cX10_day 13 = .ok (.getfield 10, 3) := by decide +kernel
theorem dX10_day_16 : decode cX10_day 16 = .ok (.iload_n 1, 1) := by decide +kernel
theorem dX10_day_17 : decode cX10_day 17 = .ok (.invokevirtual 129, 3) := by decide +kernel
theorem dX10_day_20 : decode cX10_day 20 = .ok (.invokevirtual 94, 3) := by decide +kernel
theorem dX10_day_23 : decode cX10_day 23 = .ok (.ireturn, 1) := by decide +kernel
theorem dX10_script_0 : decode cX10_script 0 = .ok (.aload_n 0, 1) := by decide +kernel
theorem dX10_script_1 : decode cX10_script 1 = .ok (.getfield 54, 3) := by decide +kernel
theorem dX10_script_4 : decode cX10_script 4 = .ok (.aload_n 0, 1) := by decide +kernel
theorem dX10_script_5 : decode cX10_script 5 = .ok (.getfield 44, 3) := by decide +kernel
theorem dX10_script_8 : decode cX10_script 8 = .ok (.invokevirtual 132, 3) := by decide +kernel
theorem dX10_script_11 : decode cX10_script 11 = .ok (.istore_n 1, 1) := by decide +kernel
theorem dX10_script_12 : decode cX10_script 12 = .ok (.aload_n 0, 1) := by decide +kernel
theorem dX10_script_13 : decode cX10_script 13 = .ok (.getfield 44, 3) := by decide +kernel
theorem dX10_script_16 : decode cX10_script 16 = .ok (.invokevirtual 136, 3) := by decide +kernel
theorem dX10_script_19 : decode cX10_script 19 = .ok (.iload_n 1, 1) := by decide +kernel
theorem dX10_script_20 : decode cX10_script 20 = .ok (.bipush (-4), 2) := by decide +kernel
theorem dX10_script_22 : decode cX10_script 22 = .ok (.if_icmp .eq 11, 3) := by decide +kernel
theorem dX10_script_25 : decode cX10_script 25 = .ok (.aload_n 0, 1) := by decide +kernel
theorem dX10_script_26 : decode cX10_script 26 = .ok (.iload_n 1, 1) := by decide +kernel
theorem dX10_script_27 : decode cX10_script 27 = .ok (.putfield 62, 3) := by decide +kernel
theorem dX10_script_30 : decode cX10_script 30 = .ok (.bipush (-2), 2) := by decide +kernel
theorem dX10_script_32 : decode cX10_script 32 = .ok (.ireturn, 1) := by decide +kernel
theorem dX10_script_33 : decode cX10_script 33 = .ok (.aload_n 0, 1) := by decide +kernel
theorem dX10_script_34 : decode cX10_script 34 = .ok (.getfield 35, 3) := by decide +kernel
theorem dX10_script_37 : decode cX10_script 37 = .ok (.aload_n 0, 1) := by decide +kernel
theorem dX10_script_38 : decode cX10_script 38 = .ok (.getfield 20, 3) := by decide +kernel
theorem dX10_script_41 : decode cX10_script 41 = .ok (.invokevirtual 86, 3) := by decide +kernel
theorem dX10_script_44 : decode cX10_script 44 = .ok (.iconst 0, 1) := by decide +kernel
theorem dX10_script_45 : decode cX10_script 45 = .ok (.istore_n 2, 1) := by decide +kernel
theorem dX10_script_46 : decode cX10_script 46 = .ok (.iload_n 2, 1) := by decide +kernel
theorem dX10_script_47 : decode cX10_script 47 = .ok (.aload_n 0, 1) := by decide +kernel
theorem dX10_script_48 : decode cX10_script 48 = .ok (.getfield 54, 3) := by decide +kernel
theorem dX10_script_51 : decode cX10_script 51 = .ok (.getfield 139, 3) := by decide +kernel
theorem dX10_script_54 : decode cX10_script 54 = .ok (.if_icmp .ge 56, 3) := by decide +kernel
theorem dX10_script_57 : decode cX10_script 57 = .ok (.aload_n 0, 1) := by decide +kernel
theorem dX10_script_58 : decode cX10_script 58 = .ok (.iload_n 2, 1) := by decide +kernel
theorem dX10_script_59 : decode cX10_script 59 = .ok (.invokevirtual 142, 3) := by decide +kernel
theorem dX10_script_62 : decode cX10_script 62 = .ok (.istore_n 3, 1) := by decide +kernel
theorem dX10_script_63 : decode cX10_script 63 = .ok (.iload_n 3, 1) := by decide +kernel
theorem dX10_script_64 : decode cX10_script 64 = .ok (.ifCond .ge 40, 3) := by decide +kernel
theorem dX10_script_67 : decode cX10_script 67 = .ok (.aload_n 0, 1) := by decide +kernel
theorem dX10_script_68 : decode cX10_script 68 = .ok (.getfield 20, 3) := by decide +kernel
theorem dX10_script_71 : decode cX10_script 71 = .ok (.aload_n 0, 1) := by decide +kernel
theorem dX10_script_72 : decode cX10_script 72 = .ok (.getfield 35, 3) := by decide +kernel
theorem dX10_script_75 : decode cX10_script 75 = .ok (.invokevirtual 145, 3) := by decide +kernel
theorem dX10_script_78 : decode cX10_script 78 = .ok (.invokevirtual 149, 3) := by decide +kernel
theorem dX10_script_81 : decode cX10_script 81 = .ok (.aload_n 0, 1) := by decide +kernel
theorem dX10_script_82 : decode cX10_script 82 = .ok (.getfield 10, 3) := by decide +kernel
theorem dX10_script_85 : decode cX10_script 85 = .ok (.getfield 152, 3) := by decide +kernel
theorem dX10_script_88 : decode cX10_script 88 = .ok (.iload_n 2, 1) := by decide +kernel
theorem dX10_script_89 : decode cX10_script 89 = .ok (.iload_n 3, 1) := by decide +kernel
theorem dX10_script_90 : decode cX10_script 90 = .ok (.bipush (-3), 2) := by decide +kernel
theorem dX10_script_92 : decode cX10_script 92 = .ok (.if_icmp .ne 7, 3) := by decide +kernel
theorem dX10_script_95 : decode cX10_script 95 = .ok (.iconst 1, 1) := by decide +kernel
theorem dX10_script_96 : decode cX10_script 96 = .ok (.goto 4, 3) := by decide +kernel
theorem dX10_script_99 : decode cX10_script 99 = .ok (.iconst 0, 1) := by decide +kernel
theorem dX10_script_100 : decode cX10_script 100 = .ok (.invokevirtual 156, 3) := by decide +kernel
theorem dX10_script_103 : decode cX10_script 103 = .ok (.ireturn, 1) := by decide +kernel
theorem dX10_script_104 : decode cX10_script 104 = .ok (.iinc 2 1, 3) := by decide +kernel
theorem dX10_script_107 : decode cX10_script 107 = .ok (.goto (-61), 3) := by decide +kernel
theorem dX10_script_110 : decode cX10_script 110 = .ok (.aload_n 0, 1) := by decide +kernel
theorem dX10_script_111 : decode cX10_script 111 = .ok (.aload_n 0, 1) := by decide +kernel
theorem dX10_script_112 : decode cX10_script 112 = .ok (.getfield 54, 3) := by decide +kernel
theorem dX10_script_115 : decode cX10_script 115 = .ok (.getfield 139, 3) := by decide +kernel
theorem dX10_script_118 : decode cX10_script 118 = .ok (.invokevirtual 94, 3) := by decide +kernel
theorem dX10_script_121 : decode cX10_script 121 = .ok (.ireturn, 1) := by decide +kernel
theorem dX10_fault_0 : decode cX10_fault 0 = .ok (.aload_n 0, 1) := by decide +kernel
theorem dX10_fault_1 : decode cX10_fault 1 = .ok (.getfield 62, 3) := by decide +kernel
theorem dX10_fault_4 : decode cX10_fault 4 = .ok (.ireturn, 1) := by decide +kernel
theorem dX10_reason_0 : decode cX10_reason 0 = .ok (.aload_n 0, 1) := by decide +kernel
theorem dX10_reason_1 : decode cX10_reason 1 = .ok (.getfield 10, 3) := by decide +kernel
theorem dX10_reason_4 : decode cX10_reason 4 = .ok (.getfield 152, 3) := by decide +kernel
theorem dX10_reason_7 : decode cX10_reason 7 = .ok (.iload_n 1, 1) := by decide +kernel
theorem dX10_reason_8 : decode cX10_reason 8 = .ok (.iload_n 2, 1) := by decide +kernel
theorem dX10_reason_9 : decode cX10_reason 9 = .ok (.invokevirtual 162, 3) := by decide +kernel
theorem dX10_reason_12 : decode cX10_reason 12 = .ok (.ireturn, 1) := by decide +kernel
theorem dX10_bundleOf_0 : decode cX10_bundleOf 0 = .ok (.aload_n 0, 1) := by decide +kernel
theorem dX10_bundleOf_1 : decode cX10_bundleOf 1 = .ok (.getfield 20, 3) := by decide +kernel
theorem dX10_bundleOf_4 : decode cX10_bundleOf 4 = .ok (.getfield 165, 3) := by decide +kernel
theorem dX10_bundleOf_7 : decode cX10_bundleOf 7 = .ok (.iload_n 1, 1) := by decide +kernel
theorem dX10_bundleOf_8 : decode cX10_bundleOf 8 = .ok (.invokevirtual 169, 3) := by decide +kernel
theorem dX10_bundleOf_11 : decode cX10_bundleOf 11 = .ok (.ifCond .ne 5, 3) := by decide +kernel
theorem dX10_bundleOf_14 : decode cX10_bundleOf 14 = .ok (.iconst (-1), 1) := by decide +kernel
theorem dX10_bundleOf_15 : decode cX10_bundleOf 15 = .ok (.ireturn, 1) := by decide +kernel
theorem dX10_bundleOf_16 : decode cX10_bundleOf 16 = .ok (.iload_n 2, 1) := by decide +kernel
theorem dX10_bundleOf_17 : decode cX10_bundleOf 17 = .ok (.ifCond .eq 17, 3) := by decide +kernel
theorem dX10_bundleOf_20 : decode cX10_bundleOf 20 = .ok (.aload_n 0, 1) := by decide +kernel
theorem dX10_bundleOf_21 : decode cX10_bundleOf 21 = .ok (.getfield 20, 3) := by decide +kernel
theorem dX10_bundleOf_24 : decode cX10_bundleOf 24 = .ok (.getfield 165, 3) := by decide +kernel
theorem dX10_bundleOf_27 : decode cX10_bundleOf 27 = .ok (.iload_n 1, 1) := by decide +kernel
theorem dX10_bundleOf_28 : decode cX10_bundleOf 28 = .ok (.invokevirtual 175, 3) := by decide +kernel
theorem dX10_bundleOf_31 : decode cX10_bundleOf 31 = .ok (.goto 14, 3) := by decide +kernel
theorem dX10_bundleOf_34 : decode cX10_bundleOf 34 = .ok (.aload_n 0, 1) := by decide +kernel
theorem dX10_bundleOf_35 : decode cX10_bundleOf 35 = .ok (.getfield 20, 3) := by decide +kernel
theorem dX10_bundleOf_38 : decode cX10_bundleOf 38 = .ok (.getfield 165, 3) := by decide +kernel
theorem dX10_bundleOf_41 : decode cX10_bundleOf 41 = .ok (.iload_n 1, 1) := by decide +kernel
theorem dX10_bundleOf_42 : decode cX10_bundleOf 42 = .ok (.invokevirtual 178, 3) := by decide +kernel
theorem dX10_bundleOf_45 : decode cX10_bundleOf 45 = .ok (.ireturn, 1) := by decide +kernel
theorem dX10_storeyOf_0 : decode cX10_storeyOf 0 = .ok (.aload_n 0, 1) := by decide +kernel
theorem dX10_storeyOf_1 : decode cX10_storeyOf 1 = .ok (.getfield 20, 3) := by decide +kernel
theorem dX10_storeyOf_4 : decode cX10_storeyOf 4 = .ok (.getfield 181, 3) := by decide +kernel
theorem dX10_storeyOf_7 : decode cX10_storeyOf 7 = .ok (.astore_n 3, 1) := by decide +kernel
theorem dX10_storeyOf_8 : decode cX10_storeyOf 8 = .ok (.aload_n 3, 1) := by decide +kernel
theorem dX10_storeyOf_9 : decode cX10_storeyOf 9 = .ok (.iload_n 1, 1) := by decide +kernel
theorem dX10_storeyOf_10 : decode cX10_storeyOf 10 = .ok (.invokevirtual 185, 3) := by decide +kernel
theorem dX10_storeyOf_13 : decode cX10_storeyOf 13 = .ok (.ifCond .ne 5, 3) := by decide +kernel
theorem dX10_storeyOf_16 : decode cX10_storeyOf 16 = .ok (.iconst (-1), 1) := by decide +kernel
theorem dX10_storeyOf_17 : decode cX10_storeyOf 17 = .ok (.ireturn, 1) := by decide +kernel
theorem dX10_storeyOf_18 : decode cX10_storeyOf 18 = .ok (.iload_n 2, 1) := by decide +kernel
theorem dX10_storeyOf_19 : decode cX10_storeyOf 19 = .ok (.tableswitch 97 0 6 #[41, 47, 53, 59, 65, 71, 85], 41) := by decide +kernel
theorem dX10_storeyOf_60 : decode cX10_storeyOf 60 = .ok (.aload_n 3, 1) := by decide +kernel
theorem dX10_storeyOf_61 : decode cX10_storeyOf 61 = .ok (.iload_n 1, 1) := by decide +kernel
theorem dX10_storeyOf_62 : decode cX10_storeyOf 62 = .ok (.invokevirtual 188, 3) := by decide +kernel
theorem dX10_storeyOf_65 : decode cX10_storeyOf 65 = .ok (.ireturn, 1) := by decide +kernel
theorem dX10_storeyOf_66 : decode cX10_storeyOf 66 = .ok (.aload_n 3, 1) := by decide +kernel
theorem dX10_storeyOf_67 : decode cX10_storeyOf 67 = .ok (.iload_n 1, 1) := by decide +kernel
theorem dX10_storeyOf_68 : decode cX10_storeyOf 68 = .ok (.invokevirtual 189, 3) := by decide +kernel
theorem dX10_storeyOf_71 : decode cX10_storeyOf 71 = .ok (.ireturn, 1) := by decide +kernel
theorem dX10_storeyOf_72 : decode cX10_storeyOf 72 = .ok (.aload_n 3, 1) := by decide +kernel
theorem dX10_storeyOf_73 : decode cX10_storeyOf 73 = .ok (.iload_n 1, 1) := by decide +kernel
theorem dX10_storeyOf_74 : decode cX10_storeyOf 74 = .ok (.invokevirtual 190, 3) := by decide +kernel
theorem dX10_storeyOf_77 : decode cX10_storeyOf 77 = .ok (.ireturn, 1) := by decide +kernel
theorem dX10_storeyOf_78 : decode cX10_storeyOf 78 = .ok (.aload_n 3, 1) := by decide +kernel
theorem dX10_storeyOf_79 : decode cX10_storeyOf 79 = .ok (.iload_n 1, 1) := by decide +kernel
theorem dX10_storeyOf_80 : decode cX10_storeyOf 80 = .ok (.invokevirtual 193, 3) := by decide +kernel
theorem dX10_storeyOf_83 : decode cX10_storeyOf 83 = .ok (.ireturn, 1) := by decide +kernel
theorem dX10_storeyOf_84 : decode cX10_storeyOf 84 = .ok (.aload_n 3, 1) := by decide +kernel
theorem dX10_storeyOf_85 : decode cX10_storeyOf 85 = .ok (.iload_n 1, 1) := by decide +kernel
theorem dX10_storeyOf_86 : decode cX10_storeyOf 86 = .ok (.invokevirtual 196, 3) := by decide +kernel
theorem dX10_storeyOf_89 : decode cX10_storeyOf 89 = .ok (.ireturn, 1) := by decide +kernel
theorem dX10_storeyOf_90 : decode cX10_storeyOf 90 = .ok (.aload_n 3, 1) := by decide +kernel
theorem dX10_storeyOf_91 : decode cX10_storeyOf 91 = .ok (.iload_n 1, 1) := by decide +kernel
theorem dX10_storeyOf_92 : decode cX10_storeyOf 92 = .ok (.invokevirtual 199, 3) := by decide +kernel
theorem dX10_storeyOf_95 : decode cX10_storeyOf 95 = .ok (.ifCond .eq 7, 3) := by decide +kernel
theorem dX10_storeyOf_98 : decode cX10_storeyOf 98 = .ok (.iconst 1, 1) := by decide +kernel
theorem dX10_storeyOf_99 : decode cX10_storeyOf 99 = .ok (.goto 4, 3) := by decide +kernel
theorem dX10_storeyOf_102 : decode cX10_storeyOf 102 = .ok (.iconst 0, 1) := by decide +kernel
theorem dX10_storeyOf_103 : decode cX10_storeyOf 103 = .ok (.ireturn, 1) := by decide +kernel
theorem dX10_storeyOf_104 : decode cX10_storeyOf 104 = .ok (.aload_n 0, 1) := by decide +kernel
theorem dX10_storeyOf_105 : decode cX10_storeyOf 105 = .ok (.getfield 20, 3) := by decide +kernel
theorem dX10_storeyOf_108 : decode cX10_storeyOf 108 = .ok (.getfield 202, 3) := by decide +kernel
theorem dX10_storeyOf_111 : decode cX10_storeyOf 111 = .ok (.iload_n 1, 1) := by decide +kernel
theorem dX10_storeyOf_112 : decode cX10_storeyOf 112 = .ok (.invokevirtual 206, 3) := by decide +kernel
theorem dX10_storeyOf_115 : decode cX10_storeyOf 115 = .ok (.ireturn, 1) := by decide +kernel
theorem dX10_storeyOf_116 : decode cX10_storeyOf 116 = .ok (.bipush (-2), 2) := by decide +kernel
theorem dX10_storeyOf_118 : decode cX10_storeyOf 118 = .ok (.ireturn, 1) := by decide +kernel
theorem dX10_strength_0 : decode cX10_strength 0 = .ok (.aload_n 0, 1) := by decide +kernel
theorem dX10_strength_1 : decode cX10_strength 1 = .ok (.getfield 20, 3) := by decide +kernel
theorem dX10_strength_4 : decode cX10_strength 4 = .ok (.getfield 181, 3) := by decide +kernel
theorem dX10_strength_7 : decode cX10_strength 7 = .ok (.iload_n 1, 1) := by decide +kernel
theorem dX10_strength_8 : decode cX10_strength 8 = .ok (.invokevirtual 185, 3) := by decide +kernel
theorem dX10_strength_11 : decode cX10_strength 11 = .ok (.ifCond .ne 5, 3) := by decide +kernel
theorem dX10_strength_14 : decode cX10_strength 14 = .ok (.iconst (-1), 1) := by decide +kernel
theorem dX10_strength_15 : decode cX10_strength 15 = .ok (.ireturn, 1) := by decide +kernel
theorem dX10_strength_16 : decode cX10_strength 16 = .ok (.iload_n 2, 1) := by decide +kernel
theorem dX10_strength_17 : decode cX10_strength 17 = .ok (.ifCond .eq 17, 3) := by decide +kernel
theorem dX10_strength_20 : decode cX10_strength 20 = .ok (.aload_n 0, 1) := by decide +kernel
theorem dX10_strength_21 : decode cX10_strength 21 = .ok (.getfield 20, 3) := by decide +kernel
theorem dX10_strength_24 : decode cX10_strength 24 = .ok (.getfield 181, 3) := by decide +kernel
theorem dX10_strength_27 : decode cX10_strength 27 = .ok (.iload_n 1, 1) := by decide +kernel
theorem dX10_strength_28 : decode cX10_strength 28 = .ok (.invokevirtual 211, 3) := by decide +kernel
theorem dX10_strength_31 : decode cX10_strength 31 = .ok (.goto 14, 3) := by decide +kernel
theorem dX10_strength_34 : decode cX10_strength 34 = .ok (.aload_n 0, 1) := by decide +kernel
theorem dX10_strength_35 : decode cX10_strength 35 = .ok (.getfield 20, 3) := by decide +kernel
theorem dX10_strength_38 : decode cX10_strength 38 = .ok (.getfield 181, 3) := by decide +kernel
theorem dX10_strength_41 : decode cX10_strength 41 = .ok (.iload_n 1, 1) := by decide +kernel
theorem dX10_strength_42 : decode cX10_strength 42 = .ok (.invokevirtual 214, 3) := by decide +kernel
theorem dX10_strength_45 : decode cX10_strength 45 = .ok (.ireturn, 1) := by decide +kernel
theorem dX10_weakest_0 : decode cX10_weakest 0 = .ok (.aload_n 0, 1) := by decide +kernel
theorem dX10_weakest_1 : decode cX10_weakest 1 = .ok (.getfield 20, 3) := by decide +kernel
theorem dX10_weakest_4 : decode cX10_weakest 4 = .ok (.getfield 181, 3) := by decide +kernel
theorem dX10_weakest_7 : decode cX10_weakest 7 = .ok (.invokevirtual 217, 3) := by decide +kernel
theorem dX10_weakest_10 : decode cX10_weakest 10 = .ok (.ireturn, 1) := by decide +kernel
theorem dX10_oldest_0 : decode cX10_oldest 0 = .ok (.aload_n 0, 1) := by decide +kernel
theorem dX10_oldest_1 : decode cX10_oldest 1 = .ok (.getfield 20, 3) := by decide +kernel
theorem dX10_oldest_4 : decode cX10_oldest 4 = .ok (.getfield 181, 3) := by decide +kernel
theorem dX10_oldest_7 : decode cX10_oldest 7 = .ok (.iload_n 1, 1) := by decide +kernel
theorem dX10_oldest_8 : decode cX10_oldest 8 = .ok (.invokevirtual 221, 3) := by decide +kernel
theorem dX10_oldest_11 : decode cX10_oldest 11 = .ok (.ireturn, 1) := by decide +kernel
theorem dX10_crewOf_0 : decode cX10_crewOf 0 = .ok (.aload_n 0, 1) := by decide +kernel
theorem dX10_crewOf_1 : decode cX10_crewOf 1 = .ok (.getfield 20, 3) := by decide +kernel
theorem dX10_crewOf_4 : decode cX10_crewOf 4 = .ok (.getfield 202, 3) := by decide +kernel
theorem dX10_crewOf_7 : decode cX10_crewOf 7 = .ok (.astore_n 3, 1) := by decide +kernel
theorem dX10_crewOf_8 : decode cX10_crewOf 8 = .ok (.aload_n 3, 1) := by decide +kernel
theorem dX10_crewOf_9 : decode cX10_crewOf 9 = .ok (.iload_n 1, 1) := by decide +kernel
theorem dX10_crewOf_10 : decode cX10_crewOf 10 = .ok (.invokevirtual 224, 3) := by decide +kernel
theorem dX10_crewOf_13 : decode cX10_crewOf 13 = .ok (.ifCond .ne 5, 3) := by decide +kernel
theorem dX10_crewOf_16 : decode cX10_crewOf 16 = .ok (.iconst (-1), 1) := by decide +kernel
theorem dX10_crewOf_17 : decode cX10_crewOf 17 = .ok (.ireturn, 1) := by decide +kernel
theorem dX10_crewOf_18 : decode cX10_crewOf 18 = .ok (.iload_n 2, 1) := by decide +kernel
theorem dX10_crewOf_19 : decode cX10_crewOf 19 = .ok (.tableswitch 61 0 3 #[29, 35, 41, 55], 29) := by decide +kernel
theorem dX10_crewOf_48 : decode cX10_crewOf 48 = .ok (.aload_n 3, 1) := by decide +kernel
theorem dX10_crewOf_49 : decode cX10_crewOf 49 = .ok (.iload_n 1, 1) := by decide +kernel
theorem dX10_crewOf_50 : decode cX10_crewOf 50 = .ok (.invokevirtual 225, 3) := by decide +kernel
theorem dX10_crewOf_53 : decode cX10_crewOf 53 = .ok (.ireturn, 1) := by decide +kernel
theorem dX10_crewOf_54 : decode cX10_crewOf 54 = .ok (.aload_n 3, 1) := by decide +kernel
theorem dX10_crewOf_55 : decode cX10_crewOf 55 = .ok (.iload_n 1, 1) := by decide +kernel
theorem dX10_crewOf_56 : decode cX10_crewOf 56 = .ok (.invokevirtual 228, 3) := by decide +kernel
theorem dX10_crewOf_59 : decode cX10_crewOf 59 = .ok (.ireturn, 1) := by decide +kernel
theorem dX10_crewOf_60 : decode cX10_crewOf 60 = .ok (.aload_n 0, 1) := by decide +kernel
theorem dX10_crewOf_61 : decode cX10_crewOf 61 = .ok (.iload_n 1, 1) := by decide +kernel
theorem dX10_crewOf_62 : decode cX10_crewOf 62 = .ok (.invokevirtual 231, 3) := by decide +kernel
theorem dX10_crewOf_65 : decode cX10_crewOf 65 = .ok (.ifCond .eq 7, 3) := by decide +kernel
theorem dX10_crewOf_68 : decode cX10_crewOf 68 = .ok (.iconst 1, 1) := by decide +kernel
theorem dX10_crewOf_69 : decode cX10_crewOf 69 = .ok (.goto 4, 3) := by decide +kernel
theorem dX10_crewOf_72 : decode cX10_crewOf 72 = .ok (.iconst 0, 1) := by decide +kernel
theorem dX10_crewOf_73 : decode cX10_crewOf 73 = .ok (.ireturn, 1) := by decide +kernel
theorem dX10_crewOf_74 : decode cX10_crewOf 74 = .ok (.aload_n 3, 1) := by decide +kernel
theorem dX10_crewOf_75 : decode cX10_crewOf 75 = .ok (.iload_n 1, 1) := by decide +kernel
theorem dX10_crewOf_76 : decode cX10_crewOf 76 = .ok (.invokevirtual 234, 3) := by decide +kernel
theorem dX10_crewOf_79 : decode cX10_crewOf 79 = .ok (.ireturn, 1) := by decide +kernel
theorem dX10_crewOf_80 : decode cX10_crewOf 80 = .ok (.bipush (-2), 2) := by decide +kernel
theorem dX10_crewOf_82 : decode cX10_crewOf 82 = .ok (.ireturn, 1) := by decide +kernel
theorem dX10_inspectorOf_0 : decode cX10_inspectorOf 0 = .ok (.aload_n 0, 1) := by decide +kernel
theorem dX10_inspectorOf_1 : decode cX10_inspectorOf 1 = .ok (.getfield 20, 3) := by decide +kernel
theorem dX10_inspectorOf_4 : decode cX10_inspectorOf 4 = .ok (.getfield 235, 3) := by decide +kernel
theorem dX10_inspectorOf_7 : decode cX10_inspectorOf 7 = .ok (.astore_n 3, 1) := by decide +kernel
theorem dX10_inspectorOf_8 : decode cX10_inspectorOf 8 = .ok (.aload_n 3, 1) := by decide +kernel
theorem dX10_inspectorOf_9 : decode cX10_inspectorOf 9 = .ok (.iload_n 1, 1) := by decide +kernel
theorem dX10_inspectorOf_10 : decode cX10_inspectorOf 10 = .ok (.invokevirtual 239, 3) := by decide +kernel
theorem dX10_inspectorOf_13 : decode cX10_inspectorOf 13 = .ok (.ifCond .ne 5, 3) := by decide +kernel
theorem dX10_inspectorOf_16 : decode cX10_inspectorOf 16 = .ok (.iconst (-1), 1) := by decide +kernel
theorem dX10_inspectorOf_17 : decode cX10_inspectorOf 17 = .ok (.ireturn, 1) := by decide +kernel
theorem dX10_inspectorOf_18 : decode cX10_inspectorOf 18 = .ok (.iload_n 2, 1) := by decide +kernel
theorem dX10_inspectorOf_19 : decode cX10_inspectorOf 19 = .ok (.tableswitch 49 0 2 #[25, 31, 43], 25) := by decide +kernel
theorem dX10_inspectorOf_44 : decode cX10_inspectorOf 44 = .ok (.aload_n 3, 1) := by decide +kernel
theorem dX10_inspectorOf_45 : decode cX10_inspectorOf 45 = .ok (.iload_n 1, 1) := by decide +kernel
theorem dX10_inspectorOf_46 : decode cX10_inspectorOf 46 = .ok (.invokevirtual 242, 3) := by decide +kernel
theorem dX10_inspectorOf_49 : decode cX10_inspectorOf 49 = .ok (.ireturn, 1) := by decide +kernel
theorem dX10_inspectorOf_50 : decode cX10_inspectorOf 50 = .ok (.aload_n 0, 1) := by decide +kernel
theorem dX10_inspectorOf_51 : decode cX10_inspectorOf 51 = .ok (.getfield 20, 3) := by decide +kernel
theorem dX10_inspectorOf_54 : decode cX10_inspectorOf 54 = .ok (.getfield 181, 3) := by decide +kernel
theorem dX10_inspectorOf_57 : decode cX10_inspectorOf 57 = .ok (.iload_n 1, 1) := by decide +kernel
theorem dX10_inspectorOf_58 : decode cX10_inspectorOf 58 = .ok (.invokevirtual 245, 3) := by decide +kernel
theorem dX10_inspectorOf_61 : decode cX10_inspectorOf 61 = .ok (.ireturn, 1) := by decide +kernel
theorem dX10_inspectorOf_62 : decode cX10_inspectorOf 62 = .ok (.aload_n 3, 1) := by decide +kernel
theorem dX10_inspectorOf_63 : decode cX10_inspectorOf 63 = .ok (.iload_n 1, 1) := by decide +kernel
theorem dX10_inspectorOf_64 : decode cX10_inspectorOf 64 = .ok (.invokevirtual 248, 3) := by decide +kernel
theorem dX10_inspectorOf_67 : decode cX10_inspectorOf 67 = .ok (.ireturn, 1) := by decide +kernel
theorem dX10_inspectorOf_68 : decode cX10_inspectorOf 68 = .ok (.bipush (-2), 2) := by decide +kernel
theorem dX10_inspectorOf_70 : decode cX10_inspectorOf 70 = .ok (.ireturn, 1) := by decide +kernel
theorem dX10_highest_0 : decode cX10_highest 0 = .ok (.aload_n 0, 1) := by decide +kernel
theorem dX10_highest_1 : decode cX10_highest 1 = .ok (.getfield 20, 3) := by decide +kernel
theorem dX10_highest_4 : decode cX10_highest 4 = .ok (.invokevirtual 251, 3) := by decide +kernel
theorem dX10_highest_7 : decode cX10_highest 7 = .ok (.ifCond .eq 8, 3) := by decide +kernel
theorem dX10_highest_10 : decode cX10_highest 10 = .ok (.bipush (-4), 2) := by decide +kernel
theorem dX10_highest_12 : decode cX10_highest 12 = .ok (.goto 13, 3) := by decide +kernel
theorem dX10_highest_15 : decode cX10_highest 15 = .ok (.aload_n 0, 1) := by decide +kernel
theorem dX10_highest_16 : decode cX10_highest 16 = .ok (.getfield 20, 3) := by decide +kernel
theorem dX10_highest_19 : decode cX10_highest 19 = .ok (.getfield 181, 3) := by decide +kernel
theorem dX10_highest_22 : decode cX10_highest 22 = .ok (.invokevirtual 255, 3) := by decide +kernel
theorem dX10_highest_25 : decode cX10_highest 25 = .ok (.ireturn, 1) := by decide +kernel
theorem dX10_wouldFall_0 : decode cX10_wouldFall 0 = .ok (.iload_n 1, 1) := by decide +kernel
theorem dX10_wouldFall_1 : decode cX10_wouldFall 1 = .ok (.bipush 8, 2) := by decide +kernel
theorem dX10_wouldFall_3 : decode cX10_wouldFall 3 = .ok (.bipush 10, 2) := by decide +kernel
theorem dX10_wouldFall_5 : decode cX10_wouldFall 5 = .ok (.invokestatic 75, 3) := by decide +kernel
theorem dX10_wouldFall_8 : decode cX10_wouldFall 8 = .ok (.ifCond .ne 6, 3) := by decide +kernel
theorem dX10_wouldFall_11 : decode cX10_wouldFall 11 = .ok (.bipush (-2), 2) := by decide +kernel
theorem dX10_wouldFall_13 : decode cX10_wouldFall 13 = .ok (.ireturn, 1) := by decide +kernel
theorem dX10_wouldFall_14 : decode cX10_wouldFall 14 = .ok (.aload_n 0, 1) := by decide +kernel
theorem dX10_wouldFall_15 : decode cX10_wouldFall 15 = .ok (.getfield 20, 3) := by decide +kernel
theorem dX10_wouldFall_18 : decode cX10_wouldFall 18 = .ok (.getfield 181, 3) := by decide +kernel
theorem dX10_wouldFall_21 : decode cX10_wouldFall 21 = .ok (.iload_n 1, 1) := by decide +kernel
theorem dX10_wouldFall_22 : decode cX10_wouldFall 22 = .ok (.invokevirtual 258, 3) := by decide +kernel
theorem dX10_wouldFall_25 : decode cX10_wouldFall 25 = .ok (.ireturn, 1) := by decide +kernel
theorem dX10_oldIn_0 : decode cX10_oldIn 0 = .ok (.aload_n 0, 1) := by decide +kernel
theorem dX10_oldIn_1 : decode cX10_oldIn 1 = .ok (.getfield 20, 3) := by decide +kernel
theorem dX10_oldIn_4 : decode cX10_oldIn 4 = .ok (.getfield 181, 3) := by decide +kernel
theorem dX10_oldIn_7 : decode cX10_oldIn 7 = .ok (.iload_n 1, 1) := by decide +kernel
theorem dX10_oldIn_8 : decode cX10_oldIn 8 = .ok (.invokevirtual 185, 3) := by decide +kernel
theorem dX10_oldIn_11 : decode cX10_oldIn 11 = .ok (.ifCond .ne 5, 3) := by decide +kernel
theorem dX10_oldIn_14 : decode cX10_oldIn 14 = .ok (.iconst (-1), 1) := by decide +kernel
theorem dX10_oldIn_15 : decode cX10_oldIn 15 = .ok (.ireturn, 1) := by decide +kernel
theorem dX10_oldIn_16 : decode cX10_oldIn 16 = .ok (.aload_n 0, 1) := by decide +kernel
theorem dX10_oldIn_17 : decode cX10_oldIn 17 = .ok (.getfield 26, 3) := by decide +kernel
theorem dX10_oldIn_20 : decode cX10_oldIn 20 = .ok (.aload_n 0, 1) := by decide +kernel
theorem dX10_oldIn_21 : decode cX10_oldIn 21 = .ok (.getfield 20, 3) := by decide +kernel
theorem dX10_oldIn_24 : decode cX10_oldIn 24 = .ok (.invokevirtual 149, 3) := by decide +kernel
theorem dX10_oldIn_27 : decode cX10_oldIn 27 = .ok (.iconst 0, 1) := by decide +kernel
theorem dX10_oldIn_28 : decode cX10_oldIn 28 = .ok (.istore_n 2, 1) := by decide +kernel
theorem dX10_oldIn_29 : decode cX10_oldIn 29 = .ok (.iload_n 2, 1) := by decide +kernel
theorem dX10_oldIn_30 : decode cX10_oldIn 30 = .ok (.bipush 60, 2) := by decide +kernel
theorem dX10_oldIn_32 : decode cX10_oldIn 32 = .ok (.if_icmp .gt 49, 3) := by decide +kernel
theorem dX10_oldIn_35 : decode cX10_oldIn 35 = .ok (.aload_n 0, 1) := by decide +kernel
theorem dX10_oldIn_36 : decode cX10_oldIn 36 = .ok (.getfield 26, 3) := by decide +kernel
theorem dX10_oldIn_39 : decode cX10_oldIn 39 = .ok (.getfield 181, 3) := by decide +kernel
theorem dX10_oldIn_42 : decode cX10_oldIn 42 = .ok (.iload_n 1, 1) := by decide +kernel
theorem dX10_oldIn_43 : decode cX10_oldIn 43 = .ok (.invokevirtual 185, 3) := by decide +kernel
theorem dX10_oldIn_46 : decode cX10_oldIn 46 = .ok (.ifCond .ne 6, 3) := by decide +kernel
theorem dX10_oldIn_49 : decode cX10_oldIn 49 = .ok (.bipush (-4), 2) := by decide +kernel
theorem dX10_oldIn_51 : decode cX10_oldIn 51 = .ok (.ireturn, 1) := by decide +kernel
theorem dX10_oldIn_52 : decode cX10_oldIn 52 = .ok (.aload_n 0, 1) := by decide +kernel
theorem dX10_oldIn_53 : decode cX10_oldIn 53 = .ok (.getfield 26, 3) := by decide +kernel
theorem dX10_oldIn_56 : decode cX10_oldIn 56 = .ok (.getfield 181, 3) := by decide +kernel
theorem dX10_oldIn_59 : decode cX10_oldIn 59 = .ok (.iload_n 1, 1) := by decide +kernel
theorem dX10_oldIn_60 : decode cX10_oldIn 60 = .ok (.invokevirtual 261, 3) := by decide +kernel
theorem dX10_oldIn_63 : decode cX10_oldIn 63 = .ok (.ifCond .eq 5, 3) := by decide +kernel
theorem dX10_oldIn_66 : decode cX10_oldIn 66 = .ok (.iload_n 2, 1) := by decide +kernel
theorem dX10_oldIn_67 : decode cX10_oldIn 67 = .ok (.ireturn, 1) := by decide +kernel
theorem dX10_oldIn_68 : decode cX10_oldIn 68 = .ok (.aload_n 0, 1) := by decide +kernel
theorem dX10_oldIn_69 : decode cX10_oldIn 69 = .ok (.getfield 26, 3) := by decide +kernel
theorem dX10_oldIn_72 : decode cX10_oldIn 72 = .ok (.invokevirtual 264, 3) := by decide +kernel
theorem dX10_oldIn_75 : decode cX10_oldIn 75 = .ok (.iinc 2 1, 3) := by decide +kernel
theorem dX10_oldIn_78 : decode cX10_oldIn 78 = .ok (.goto (-49), 3) := by decide +kernel
theorem dX10_oldIn_81 : decode cX10_oldIn 81 = .ok (.bipush (-4), 2) := by decide +kernel
theorem dX10_oldIn_83 : decode cX10_oldIn 83 = .ok (.ireturn, 1) := by decide +kernel
theorem dX10_doneIn_0 : decode cX10_doneIn 0 = .ok (.aload_n 0, 1) := by decide +kernel
theorem dX10_doneIn_1 : decode cX10_doneIn 1 = .ok (.getfield 20, 3) := by decide +kernel
theorem dX10_doneIn_4 : decode cX10_doneIn 4 = .ok (.getfield 181, 3) := by decide +kernel
theorem dX10_doneIn_7 : decode cX10_doneIn 7 = .ok (.iload_n 1, 1) := by decide +kernel
theorem dX10_doneIn_8 : decode cX10_doneIn 8 = .ok (.invokevirtual 185, 3) := by decide +kernel
theorem dX10_doneIn_11 : decode cX10_doneIn 11 = .ok (.ifCond .ne 5, 3) := by decide +kernel
theorem dX10_doneIn_14 : decode cX10_doneIn 14 = .ok (.iconst (-1), 1) := by decide +kernel
theorem dX10_doneIn_15 : decode cX10_doneIn 15 = .ok (.ireturn, 1) := by decide +kernel
theorem dX10_doneIn_16 : decode cX10_doneIn 16 = .ok (.aload_n 0, 1) := by decide +kernel
theorem dX10_doneIn_17 : decode cX10_doneIn 17 = .ok (.getfield 26, 3) := by decide +kernel
theorem dX10_doneIn_20 : decode cX10_doneIn 20 = .ok (.aload_n 0, 1) := by decide +kernel
theorem dX10_doneIn_21 : decode cX10_doneIn 21 = .ok (.getfield 20, 3) := by decide +kernel
theorem dX10_doneIn_24 : decode cX10_doneIn 24 = .ok (.invokevirtual 149, 3) := by decide +kernel
theorem dX10_doneIn_27 : decode cX10_doneIn 27 = .ok (.iconst 0, 1) := by decide +kernel
theorem dX10_doneIn_28 : decode cX10_doneIn 28 = .ok (.istore_n 2, 1) := by decide +kernel
theorem dX10_doneIn_29 : decode cX10_doneIn 29 = .ok (.iload_n 2, 1) := by decide +kernel
theorem dX10_doneIn_30 : decode cX10_doneIn 30 = .ok (.bipush 60, 2) := by decide +kernel
theorem dX10_doneIn_32 : decode cX10_doneIn 32 = .ok (.if_icmp .gt 49, 3) := by decide +kernel
theorem dX10_doneIn_35 : decode cX10_doneIn 35 = .ok (.aload_n 0, 1) := by decide +kernel
theorem dX10_doneIn_36 : decode cX10_doneIn 36 = .ok (.getfield 26, 3) := by decide +kernel
theorem dX10_doneIn_39 : decode cX10_doneIn 39 = .ok (.getfield 181, 3) := by decide +kernel
theorem dX10_doneIn_42 : decode cX10_doneIn 42 = .ok (.iload_n 1, 1) := by decide +kernel
theorem dX10_doneIn_43 : decode cX10_doneIn 43 = .ok (.invokevirtual 185, 3) := by decide +kernel
theorem dX10_doneIn_46 : decode cX10_doneIn 46 = .ok (.ifCond .ne 6, 3) := by decide +kernel
theorem dX10_doneIn_49 : decode cX10_doneIn 49 = .ok (.bipush (-4), 2) := by decide +kernel
theorem dX10_doneIn_51 : decode cX10_doneIn 51 = .ok (.ireturn, 1) := by decide +kernel
theorem dX10_doneIn_52 : decode cX10_doneIn 52 = .ok (.aload_n 0, 1) := by decide +kernel
theorem dX10_doneIn_53 : decode cX10_doneIn 53 = .ok (.getfield 26, 3) := by decide +kernel
theorem dX10_doneIn_56 : decode cX10_doneIn 56 = .ok (.getfield 181, 3) := by decide +kernel
theorem dX10_doneIn_59 : decode cX10_doneIn 59 = .ok (.iload_n 1, 1) := by decide +kernel
theorem dX10_doneIn_60 : decode cX10_doneIn 60 = .ok (.invokevirtual 193, 3) := by decide +kernel
theorem dX10_doneIn_63 : decode cX10_doneIn 63 = .ok (.ifCond .ne 5, 3) := by decide +kernel
theorem dX10_doneIn_66 : decode cX10_doneIn 66 = .ok (.iload_n 2, 1) := by decide +kernel
theorem dX10_doneIn_67 : decode cX10_doneIn 67 = .ok (.ireturn, 1) := by decide +kernel
theorem dX10_doneIn_68 : decode cX10_doneIn 68 = .ok (.aload_n 0, 1) := by decide +kernel
theorem dX10_doneIn_69 : decode cX10_doneIn 69 = .ok (.getfield 26, 3) := by decide +kernel
theorem dX10_doneIn_72 : decode cX10_doneIn 72 = .ok (.invokevirtual 264, 3) := by decide +kernel
theorem dX10_doneIn_75 : decode cX10_doneIn 75 = .ok (.iinc 2 1, 3) := by decide +kernel
theorem dX10_doneIn_78 : decode cX10_doneIn 78 = .ok (.goto (-49), 3) := by decide +kernel
theorem dX10_doneIn_81 : decode cX10_doneIn 81 = .ok (.bipush (-4), 2) := by decide +kernel
theorem dX10_doneIn_83 : decode cX10_doneIn 83 = .ok (.ireturn, 1) := by decide +kernel
theorem dX10_describe_0 : decode cX10_describe 0 = .ok (.aload_n 0, 1) := by decide +kernel
theorem dX10_describe_1 : decode cX10_describe 1 = .ok (.getfield 48, 3) := by decide +kernel
theorem dX10_describe_4 : decode cX10_describe 4 = .ok (.invokevirtual 136, 3) := by decide +kernel
theorem dX10_describe_7 : decode cX10_describe 7 = .ok (.aload_n 0, 1) := by decide +kernel
theorem dX10_describe_8 : decode cX10_describe 8 = .ok (.getfield 20, 3) := by decide +kernel
theorem dX10_describe_11 : decode cX10_describe 11 = .ok (.getfield 181, 3) := by decide +kernel
theorem dX10_describe_14 : decode cX10_describe 14 = .ok (.getfield 267, 3) := by decide +kernel
theorem dX10_describe_17 : decode cX10_describe 17 = .ok (.iconst 1, 1) := by decide +kernel
theorem dX10_describe_18 : decode cX10_describe 18 = .ok (.isub, 1) := by decide +kernel
theorem dX10_describe_19 : decode cX10_describe 19 = .ok (.istore_n 1, 1) := by decide +kernel
theorem dX10_describe_20 : decode cX10_describe 20 = .ok (.iload_n 1, 1) := by decide +kernel
theorem dX10_describe_21 : decode cX10_describe 21 = .ok (.ifCond .lt 27, 3) := by decide +kernel
theorem dX10_describe_24 : decode cX10_describe 24 = .ok (.aload_n 0, 1) := by decide +kernel
theorem dX10_describe_25 : decode cX10_describe 25 = .ok (.iload_n 1, 1) := by decide +kernel
theorem dX10_describe_26 : decode cX10_describe 26 = .ok (.invokevirtual 268, 3) := by decide +kernel
theorem dX10_describe_29 : decode cX10_describe 29 = .ok (.iload_n 1, 1) := by decide +kernel
theorem dX10_describe_30 : decode cX10_describe 30 = .ok (.ifCond .le 12, 3) := by decide +kernel
theorem dX10_describe_33 : decode cX10_describe 33 = .ok (.aload_n 0, 1) := by decide +kernel
theorem dX10_describe_34 : decode cX10_describe 34 = .ok (.getfield 48, 3) := by decide +kernel
theorem dX10_describe_37 : decode cX10_describe 37 = .ok (.bipush 32, 2) := by decide +kernel
theorem dX10_describe_39 : decode cX10_describe 39 = .ok (.invokevirtual 82, 3) := by decide +kernel
theorem dX10_describe_42 : decode cX10_describe 42 = .ok (.iinc 1 (-1), 3) := by decide +kernel
theorem dX10_describe_45 : decode cX10_describe 45 = .ok (.goto (-25), 3) := by decide +kernel
theorem dX10_describe_48 : decode cX10_describe 48 = .ok (.aload_n 0, 1) := by decide +kernel
theorem dX10_describe_49 : decode cX10_describe 49 = .ok (.getfield 20, 3) := by decide +kernel
theorem dX10_describe_52 : decode cX10_describe 52 = .ok (.getfield 181, 3) := by decide +kernel
theorem dX10_describe_55 : decode cX10_describe 55 = .ok (.getfield 267, 3) := by decide +kernel
theorem dX10_describe_58 : decode cX10_describe 58 = .ok (.ifCond .ne 7, 3) := by decide +kernel
theorem dX10_describe_61 : decode cX10_describe 61 = .ok (.aload_n 0, 1) := by decide +kernel
theorem dX10_describe_62 : decode cX10_describe 62 = .ok (.invokevirtual 271, 3) := by decide +kernel
theorem dX10_describe_65 : decode cX10_describe 65 = .ok (.aload_n 0, 1) := by decide +kernel
theorem dX10_describe_66 : decode cX10_describe 66 = .ok (.getfield 48, 3) := by decide +kernel
theorem dX10_describe_69 : decode cX10_describe 69 = .ok (.getfield 79, 3) := by decide +kernel
theorem dX10_describe_72 : decode cX10_describe 72 = .ok (.ireturn, 1) := by decide +kernel
theorem dX10_written_0 : decode cX10_written 0 = .ok (.iload_n 1, 1) := by decide +kernel
theorem dX10_written_1 : decode cX10_written 1 = .ok (.ifCond .lt 14, 3) := by decide +kernel
theorem dX10_written_4 : decode cX10_written 4 = .ok (.iload_n 1, 1) := by decide +kernel
theorem dX10_written_5 : decode cX10_written 5 = .ok (.aload_n 0, 1) := by decide +kernel
theorem dX10_written_6 : decode cX10_written 6 = .ok (.getfield 48, 3) := by decide +kernel
theorem dX10_written_9 : decode cX10_written 9 = .ok (.getfield 79, 3) := by decide +kernel
theorem dX10_written_12 : decode cX10_written 12 = .ok (.if_icmp .lt 7, 3) := by decide +kernel
theorem dX10_written_15 : decode cX10_written 15 = .ok (.iconst (-1), 1) := by decide +kernel
theorem dX10_written_16 : decode cX10_written 16 = .ok (.goto 11, 3) := by decide +kernel
theorem dX10_written_19 : decode cX10_written 19 = .ok (.aload_n 0, 1) := by decide +kernel
theorem dX10_written_20 : decode cX10_written 20 = .ok (.getfield 48, 3) := by decide +kernel
theorem dX10_written_23 : decode cX10_written 23 = .ok (.iload_n 1, 1) := by decide +kernel
theorem dX10_written_24 : decode cX10_written 24 = .ok (.invokevirtual 274, 3) := by decide +kernel
theorem dX10_written_27 : decode cX10_written 27 = .ok (.ireturn, 1) := by decide +kernel
theorem dX10_work_0 : decode cX10_work 0 = .ok (.iload_n 1, 1) := by decide +kernel
theorem dX10_work_1 : decode cX10_work 1 = .ok (.ifCond .eq 29, 3) := by decide +kernel
theorem dX10_work_4 : decode cX10_work 4 = .ok (.aload_n 0, 1) := by decide +kernel
theorem dX10_work_5 : decode cX10_work 5 = .ok (.getfield 20, 3) := by decide +kernel
theorem dX10_work_8 : decode cX10_work 8 = .ok (.getfield 278, 3) := by decide +kernel
theorem dX10_work_11 : decode cX10_work 11 = .ok (.aload_n 0, 1) := by decide +kernel
theorem dX10_work_12 : decode cX10_work 12 = .ok (.getfield 20, 3) := by decide +kernel
theorem dX10_work_15 : decode cX10_work 15 = .ok (.getfield 281, 3) := by decide +kernel
theorem dX10_work_18 : decode cX10_work 18 = .ok (.isub, 1) := by decide +kernel
theorem dX10_work_19 : decode cX10_work 19 = .ok (.aload_n 0, 1) := by decide +kernel
theorem dX10_work_20 : decode cX10_work 20 = .ok (.getfield 20, 3) := by decide +kernel
theorem dX10_work_23 : decode cX10_work 23 = .ok (.getfield 284, 3) := by decide +kernel
theorem dX10_work_26 : decode cX10_work 26 = .ok (.isub, 1) := by decide +kernel
theorem dX10_work_27 : decode cX10_work 27 = .ok (.goto 13, 3) := by decide +kernel
theorem dX10_work_30 : decode cX10_work 30 = .ok (.aload_n 0, 1) := by decide +kernel
theorem dX10_work_31 : decode cX10_work 31 = .ok (.getfield 20, 3) := by decide +kernel
theorem dX10_work_34 : decode cX10_work 34 = .ok (.getfield 181, 3) := by decide +kernel
theorem dX10_work_37 : decode cX10_work 37 = .ok (.invokevirtual 287, 3) := by decide +kernel
theorem dX10_work_40 : decode cX10_work 40 = .ok (.ireturn, 1) := by decide +kernel
theorem dX10_meanStrength_0 : decode cX10_meanStrength 0 = .ok (.aload_n 0, 1) := by decide +kernel
theorem dX10_meanStrength_1 : decode cX10_meanStrength 1 = .ok (.getfield 20, 3) := by decide +kernel
theorem dX10_meanStrength_4 : decode cX10_meanStrength 4 = .ok (.getfield 181, 3) := by decide +kernel
theorem dX10_meanStrength_7 : decode cX10_meanStrength 7 = .ok (.getfield 267, 3) := by decide +kernel
theorem dX10_meanStrength_10 : decode cX10_meanStrength 10 = .ok (.istore_n 1, 1) := by decide +kernel
theorem dX10_meanStrength_11 : decode cX10_meanStrength 11 = .ok (.iload_n 1, 1) := by decide +kernel
theorem dX10_meanStrength_12 : decode cX10_meanStrength 12 = .ok (.ifCond .ne 7, 3) := by decide +kernel
theorem dX10_meanStrength_15 : decode cX10_meanStrength 15 = .ok (.fconst 0, 1) := by decide +kernel
theorem dX10_meanStrength_16 : decode cX10_meanStrength 16 = .ok (.goto 17, 3) := by decide +kernel
theorem dX10_meanStrength_19 : decode cX10_meanStrength 19 = .ok (.aload_n 0, 1) := by decide +kernel
theorem dX10_meanStrength_20 : decode cX10_meanStrength 20 = .ok (.getfield 20, 3) := by decide +kernel
theorem dX10_meanStrength_23 : decode cX10_meanStrength 23 = .ok (.getfield 181, 3) := by decide +kernel
theorem dX10_meanStrength_26 : decode cX10_meanStrength 26 = .ok (.invokevirtual 290, 3) := by decide +kernel
theorem dX10_meanStrength_29 : decode cX10_meanStrength 29 = .ok (.i2f, 1) := by decide +kernel
theorem dX10_meanStrength_30 : decode cX10_meanStrength 30 = .ok (.iload_n 1, 1) := by decide +kernel
theorem dX10_meanStrength_31 : decode cX10_meanStrength 31 = .ok (.i2f, 1) := by decide +kernel
theorem dX10_meanStrength_32 : decode cX10_meanStrength 32 = .ok (.fdiv, 1) := by decide +kernel
theorem dX10_meanStrength_33 : decode cX10_meanStrength 33 = .ok (.freturn, 1) := by decide +kernel
theorem dX10_doneShare_0 : decode cX10_doneShare 0 = .ok (.aload_n 0, 1) := by decide +kernel
theorem dX10_doneShare_1 : decode cX10_doneShare 1 = .ok (.getfield 20, 3) := by decide +kernel
theorem dX10_doneShare_4 : decode cX10_doneShare 4 = .ok (.getfield 278, 3) := by decide +kernel
theorem dX10_doneShare_7 : decode cX10_doneShare 7 = .ok (.ifCond .ne 7, 3) := by decide +kernel
theorem dX10_doneShare_10 : decode cX10_doneShare 10 = .ok (.dconst 0, 1) := by decide +kernel
theorem dX10_doneShare_11 : decode cX10_doneShare 11 = .ok (.goto 20, 3) := by decide +kernel
theorem dX10_doneShare_14 : decode cX10_doneShare 14 = .ok (.aload_n 0, 1) := by decide +kernel
theorem dX10_doneShare_15 : decode cX10_doneShare 15 = .ok (.getfield 20, 3) := by decide +kernel
theorem dX10_doneShare_18 : decode cX10_doneShare 18 = .ok (.getfield 281, 3) := by decide +kernel
theorem dX10_doneShare_21 : decode cX10_doneShare 21 = .ok (.i2d, 1) := by decide +kernel
theorem dX10_doneShare_22 : decode cX10_doneShare 22 = .ok (.aload_n 0, 1) := by decide +kernel
theorem dX10_doneShare_23 : decode cX10_doneShare 23 = .ok (.getfield 20, 3) := by decide +kernel
theorem dX10_doneShare_26 : decode cX10_doneShare 26 = .ok (.getfield 278, 3) := by decide +kernel
theorem dX10_doneShare_29 : decode cX10_doneShare 29 = .ok (.i2d, 1) := by decide +kernel
theorem dX10_doneShare_30 : decode cX10_doneShare 30 = .ok (.ddiv, 1) := by decide +kernel
theorem dX10_doneShare_31 : decode cX10_doneShare 31 = .ok (.dreturn, 1) := by decide +kernel
theorem dX10_account_0 : decode cX10_account 0 = .ok (.iload_n 1, 1) := by decide +kernel
theorem dX10_account_1 : decode cX10_account 1 = .ok (.tableswitch 270 0 18 #[91, 99, 107, 118, 129, 140, 151, 162, 173, 184, 192, 200, 211, 222, 230, 238, 246, 254, 262], 91) := by decide +kernel
theorem dX10_account_92 : decode cX10_account 92 = .ok (.aload_n 0, 1) := by decide +kernel
theorem dX10_account_93 : decode cX10_account 93 = .ok (.getfield 20, 3) := by decide +kernel
theorem dX10_account_96 : decode cX10_account 96 = .ok (.getfield 66, 3) := by decide +kernel
theorem dX10_account_99 : decode cX10_account 99 = .ok (.ireturn, 1) := by decide +kernel
theorem dX10_account_100 : decode cX10_account 100 = .ok (.aload_n 0, 1) := by decide +kernel
theorem dX10_account_101 : decode cX10_account 101 = .ok (.getfield 20, 3) := by decide +kernel
theorem dX10_account_104 : decode cX10_account 104 = .ok (.getfield 293, 3) := by decide +kernel
theorem dX10_account_107 : decode cX10_account 107 = .ok (.ireturn, 1) := by decide +kernel
theorem dX10_account_108 : decode cX10_account 108 = .ok (.aload_n 0, 1) := by decide +kernel
theorem dX10_account_109 : decode cX10_account 109 = .ok (.getfield 20, 3) := by decide +kernel
theorem dX10_account_112 : decode cX10_account 112 = .ok (.getfield 165, 3) := by decide +kernel
theorem dX10_account_115 : decode cX10_account 115 = .ok (.getfield 296, 3) := by decide +kernel
theorem dX10_account_118 : decode cX10_account 118 = .ok (.ireturn, 1) := by decide +kernel
theorem dX10_account_119 : decode cX10_account 119 = .ok (.aload_n 0, 1) := by decide +kernel
theorem dX10_account_120 : decode cX10_account 120 = .ok (.getfield 20, 3) := by decide +kernel
theorem dX10_account_123 : decode cX10_account 123 = .ok (.getfield 165, 3) := by decide +kernel
theorem dX10_account_126 : decode cX10_account 126 = .ok (.invokevirtual 297, 3) := by decide +kernel
theorem dX10_account_129 : decode cX10_account 129 = .ok (.ireturn, 1) := by decide +kernel
theorem dX10_account_130 : decode cX10_account 130 = .ok (.aload_n 0, 1) := by decide +kernel
theorem dX10_account_131 : decode cX10_account 131 = .ok (.getfield 20, 3) := by decide +kernel
theorem dX10_account_134 : decode cX10_account 134 = .ok (.getfield 181, 3) := by decide +kernel
theorem dX10_account_137 : decode cX10_account 137 = .ok (.getfield 267, 3) := by decide +kernel
theorem dX10_account_140 : decode cX10_account 140 = .ok (.ireturn, 1) := by decide +kernel
theorem dX10_account_141 : decode cX10_account 141 = .ok (.aload_n 0, 1) := by decide +kernel
theorem dX10_account_142 : decode cX10_account 142 = .ok (.getfield 20, 3) := by decide +kernel
theorem dX10_account_145 : decode cX10_account 145 = .ok (.getfield 181, 3) := by decide +kernel
theorem dX10_account_148 : decode cX10_account 148 = .ok (.invokevirtual 300, 3) := by decide +kernel
theorem dX10_account_151 : decode cX10_account 151 = .ok (.ireturn, 1) := by decide +kernel
theorem dX10_account_152 : decode cX10_account 152 = .ok (.aload_n 0, 1) := by decide +kernel
theorem dX10_account_153 : decode cX10_account 153 = .ok (.getfield 20, 3) := by decide +kernel
theorem dX10_account_156 : decode cX10_account 156 = .ok (.getfield 181, 3) := by decide +kernel
theorem dX10_account_159 : decode cX10_account 159 = .ok (.invokevirtual 303, 3) := by decide +kernel
theorem dX10_account_162 : decode cX10_account 162 = .ok (.ireturn, 1) := by decide +kernel
theorem dX10_account_163 : decode cX10_account 163 = .ok (.aload_n 0, 1) := by decide +kernel
theorem dX10_account_164 : decode cX10_account 164 = .ok (.getfield 20, 3) := by decide +kernel
theorem dX10_account_167 : decode cX10_account 167 = .ok (.getfield 202, 3) := by decide +kernel
theorem dX10_account_170 : decode cX10_account 170 = .ok (.getfield 306, 3) := by decide +kernel
theorem dX10_account_173 : decode cX10_account 173 = .ok (.ireturn, 1) := by decide +kernel
theorem dX10_account_174 : decode cX10_account 174 = .ok (.aload_n 0, 1) := by decide +kernel
theorem dX10_account_175 : decode cX10_account 175 = .ok (.getfield 20, 3) := by decide +kernel
theorem dX10_account_178 : decode cX10_account 178 = .ok (.getfield 202, 3) := by decide +kernel
theorem dX10_account_181 : decode cX10_account 181 = .ok (.invokevirtual 307, 3) := by decide +kernel
theorem dX10_account_184 : decode cX10_account 184 = .ok (.ireturn, 1) := by decide +kernel
theorem dX10_account_185 : decode cX10_account 185 = .ok (.aload_n 0, 1) := by decide +kernel
theorem dX10_account_186 : decode cX10_account 186 = .ok (.getfield 20, 3) := by decide +kernel
theorem dX10_account_189 : decode cX10_account 189 = .ok (.getfield 310, 3) := by decide +kernel
theorem dX10_account_192 : decode cX10_account 192 = .ok (.ireturn, 1) := by decide +kernel
theorem dX10_account_193 : decode cX10_account 193 = .ok (.aload_n 0, 1) := by decide +kernel
theorem dX10_account_194 : decode cX10_account 194 = .ok (.getfield 20, 3) := by decide +kernel
theorem dX10_account_197 : decode cX10_account 197 = .ok (.getfield 313, 3) := by decide +kernel
theorem dX10_account_200 : decode cX10_account 200 = .ok (.ireturn, 1) := by decide +kernel
theorem dX10_account_201 : decode cX10_account 201 = .ok (.aload_n 0, 1) := by decide +kernel
theorem dX10_account_202 : decode cX10_account 202 = .ok (.getfield 20, 3) := by decide +kernel
theorem dX10_account_205 : decode cX10_account 205 = .ok (.getfield 181, 3) := by decide +kernel
theorem dX10_account_208 : decode cX10_account 208 = .ok (.invokevirtual 316, 3) := by decide +kernel
theorem dX10_account_211 : decode cX10_account 211 = .ok (.ireturn, 1) := by decide +kernel
theorem dX10_account_212 : decode cX10_account 212 = .ok (.aload_n 0, 1) := by decide +kernel
theorem dX10_account_213 : decode cX10_account 213 = .ok (.getfield 20, 3) := by decide +kernel
theorem dX10_account_216 : decode cX10_account 216 = .ok (.getfield 235, 3) := by decide +kernel
theorem dX10_account_219 : decode cX10_account 219 = .ok (.getfield 319, 3) := by decide +kernel
theorem dX10_account_222 : decode cX10_account 222 = .ok (.ireturn, 1) := by decide +kernel
theorem dX10_account_223 : decode cX10_account 223 = .ok (.aload_n 0, 1) := by decide +kernel
theorem dX10_account_224 : decode cX10_account 224 = .ok (.getfield 20, 3) := by decide +kernel
theorem dX10_account_227 : decode cX10_account 227 = .ok (.getfield 320, 3) := by decide +kernel
theorem dX10_account_230 : decode cX10_account 230 = .ok (.ireturn, 1) := by decide +kernel
theorem dX10_account_231 : decode cX10_account 231 = .ok (.aload_n 0, 1) := by decide +kernel
theorem dX10_account_232 : decode cX10_account 232 = .ok (.getfield 20, 3) := by decide +kernel
theorem dX10_account_235 : decode cX10_account 235 = .ok (.getfield 281, 3) := by decide +kernel
theorem dX10_account_238 : decode cX10_account 238 = .ok (.ireturn, 1) := by decide +kernel
theorem dX10_account_239 : decode cX10_account 239 = .ok (.aload_n 0, 1) := by decide +kernel
theorem dX10_account_240 : decode cX10_account 240 = .ok (.getfield 20, 3) := by decide +kernel
theorem dX10_account_243 : decode cX10_account 243 = .ok (.getfield 323, 3) := by decide +kernel
theorem dX10_account_246 : decode cX10_account 246 = .ok (.ireturn, 1) := by decide +kernel
theorem dX10_account_247 : decode cX10_account 247 = .ok (.aload_n 0, 1) := by decide +kernel
theorem dX10_account_248 : decode cX10_account 248 = .ok (.getfield 20, 3) := by decide +kernel
theorem dX10_account_251 : decode cX10_account 251 = .ok (.getfield 326, 3) := by decide +kernel
theorem dX10_account_254 : decode cX10_account 254 = .ok (.ireturn, 1) := by decide +kernel
theorem dX10_account_255 : decode cX10_account 255 = .ok (.aload_n 0, 1) := by decide +kernel
theorem dX10_account_256 : decode cX10_account 256 = .ok (.getfield 44, 3) := by decide +kernel
theorem dX10_account_259 : decode cX10_account 259 = .ok (.getfield 79, 3) := by decide +kernel
theorem dX10_account_262 : decode cX10_account 262 = .ok (.ireturn, 1) := by decide +kernel
theorem dX10_account_263 : decode cX10_account 263 = .ok (.aload_n 0, 1) := by decide +kernel
theorem dX10_account_264 : decode cX10_account 264 = .ok (.getfield 35, 3) := by decide +kernel
theorem dX10_account_267 : decode cX10_account 267 = .ok (.getfield 329, 3) := by decide +kernel
theorem dX10_account_270 : decode cX10_account 270 = .ok (.ireturn, 1) := by decide +kernel
theorem dX10_account_271 : decode cX10_account 271 = .ok (.bipush (-2), 2) := by decide +kernel
theorem dX10_account_273 : decode cX10_account 273 = .ok (.ireturn, 1) := by decide +kernel
theorem dX10_undo_0 : decode cX10_undo 0 = .ok (.aload_n 0, 1) := by decide +kernel
theorem dX10_undo_1 : decode cX10_undo 1 = .ok (.getfield 35, 3) := by decide +kernel
theorem dX10_undo_4 : decode cX10_undo 4 = .ok (.getfield 329, 3) := by decide +kernel
theorem dX10_undo_7 : decode cX10_undo 7 = .ok (.ifCond .ne 6, 3) := by decide +kernel
theorem dX10_undo_10 : decode cX10_undo 10 = .ok (.bipush (-4), 2) := by decide +kernel
theorem dX10_undo_12 : decode cX10_undo 12 = .ok (.ireturn, 1) := by decide +kernel
theorem dX10_undo_13 : decode cX10_undo 13 = .ok (.aload_n 0, 1) := by decide +kernel
theorem dX10_undo_14 : decode cX10_undo 14 = .ok (.getfield 20, 3) := by decide +kernel
theorem dX10_undo_17 : decode cX10_undo 17 = .ok (.aload_n 0, 1) := by decide +kernel
theorem dX10_undo_18 : decode cX10_undo 18 = .ok (.getfield 35, 3) := by decide +kernel
theorem dX10_undo_21 : decode cX10_undo 21 = .ok (.invokevirtual 330, 3) := by decide +kernel
theorem dX10_undo_24 : decode cX10_undo 24 = .ok (.invokevirtual 149, 3) := by decide +kernel
theorem dX10_undo_27 : decode cX10_undo 27 = .ok (.aload_n 0, 1) := by decide +kernel
theorem dX10_undo_28 : decode cX10_undo 28 = .ok (.getfield 35, 3) := by decide +kernel
theorem dX10_undo_31 : decode cX10_undo 31 = .ok (.getfield 329, 3) := by decide +kernel
theorem dX10_undo_34 : decode cX10_undo 34 = .ok (.ireturn, 1) := by decide +kernel
theorem dX10_save_0 : decode cX10_save 0 = .ok (.aload_n 0, 1) := by decide +kernel
theorem dX10_save_1 : decode cX10_save 1 = .ok (.getfield 29, 3) := by decide +kernel
theorem dX10_save_4 : decode cX10_save 4 = .ok (.aload_n 0, 1) := by decide +kernel
theorem dX10_save_5 : decode cX10_save 5 = .ok (.getfield 20, 3) := by decide +kernel
theorem dX10_save_8 : decode cX10_save 8 = .ok (.invokevirtual 149, 3) := by decide +kernel
theorem dX10_save_11 : decode cX10_save 11 = .ok (.aload_n 0, 1) := by decide +kernel
theorem dX10_save_12 : decode cX10_save 12 = .ok (.iconst 1, 1) := by decide +kernel
theorem dX10_save_13 : decode cX10_save 13 = .ok (.putfield 58, 3) := by decide +kernel
theorem dX10_save_16 : decode cX10_save 16 = .ok (.aload_n 0, 1) := by decide +kernel
theorem dX10_save_17 : decode cX10_save 17 = .ok (.getfield 20, 3) := by decide +kernel
theorem dX10_save_20 : decode cX10_save 20 = .ok (.getfield 66, 3) := by decide +kernel
theorem dX10_save_23 : decode cX10_save 23 = .ok (.ireturn, 1) := by decide +kernel
theorem dX10_restore_0 : decode cX10_restore 0 = .ok (.aload_n 0, 1) := by decide +kernel
theorem dX10_restore_1 : decode cX10_restore 1 = .ok (.getfield 58, 3) := by decide +kernel
theorem dX10_restore_4 : decode cX10_restore 4 = .ok (.ifCond .ne 6, 3) := by decide +kernel
theorem dX10_restore_7 : decode cX10_restore 7 = .ok (.bipush (-4), 2) := by decide +kernel
theorem dX10_restore_9 : decode cX10_restore 9 = .ok (.ireturn, 1) := by decide +kernel
theorem dX10_restore_10 : decode cX10_restore 10 = .ok (.aload_n 0, 1) := by decide +kernel
theorem dX10_restore_11 : decode cX10_restore 11 = .ok (.getfield 20, 3) := by decide +kernel
theorem dX10_restore_14 : decode cX10_restore 14 = .ok (.aload_n 0, 1) := by decide +kernel
theorem dX10_restore_15 : decode cX10_restore 15 = .ok (.getfield 29, 3) := by decide +kernel
theorem dX10_restore_18 : decode cX10_restore 18 = .ok (.invokevirtual 149, 3) := by decide +kernel
theorem dX10_restore_21 : decode cX10_restore 21 = .ok (.aload_n 0, 1) := by decide +kernel
theorem dX10_restore_22 : decode cX10_restore 22 = .ok (.getfield 35, 3) := by decide +kernel
theorem dX10_restore_25 : decode cX10_restore 25 = .ok (.invokevirtual 72, 3) := by decide +kernel
theorem dX10_restore_28 : decode cX10_restore 28 = .ok (.aload_n 0, 1) := by decide +kernel
theorem dX10_restore_29 : decode cX10_restore 29 = .ok (.getfield 20, 3) := by decide +kernel
theorem dX10_restore_32 : decode cX10_restore 32 = .ok (.getfield 66, 3) := by decide +kernel
theorem dX10_restore_35 : decode cX10_restore 35 = .ok (.ireturn, 1) := by decide +kernel
theorem dX10_kept_0 : decode cX10_kept 0 = .ok (.iload_n 1, 1) := by decide +kernel
theorem dX10_kept_1 : decode cX10_kept 1 = .ok (.ifCond .lt 10, 3) := by decide +kernel
theorem dX10_kept_4 : decode cX10_kept 4 = .ok (.aload_n 0, 1) := by decide +kernel
theorem dX10_kept_5 : decode cX10_kept 5 = .ok (.getfield 35, 3) := by decide +kernel
theorem dX10_kept_8 : decode cX10_kept 8 = .ok (.invokevirtual 333, 3) := by decide +kernel
theorem dX10_kept_11 : decode cX10_kept 11 = .ok (.iload_n 1, 1) := by decide +kernel
theorem dX10_kept_12 : decode cX10_kept 12 = .ok (.ireturn, 1) := by decide +kernel
theorem dX10_obey_0 : decode cX10_obey 0 = .ok (.aload_n 0, 1) := by decide +kernel
theorem dX10_obey_1 : decode cX10_obey 1 = .ok (.getfield 54, 3) := by decide +kernel
theorem dX10_obey_4 : decode cX10_obey 4 = .ok (.iload_n 1, 1) := by decide +kernel
theorem dX10_obey_5 : decode cX10_obey 5 = .ok (.iconst 0, 1) := by decide +kernel
theorem dX10_obey_6 : decode cX10_obey 6 = .ok (.invokevirtual 336, 3) := by decide +kernel
theorem dX10_obey_9 : decode cX10_obey 9 = .ok (.istore_n 2, 1) := by decide +kernel
theorem dX10_obey_10 : decode cX10_obey 10 = .ok (.aload_n 0, 1) := by decide +kernel
theorem dX10_obey_11 : decode cX10_obey 11 = .ok (.getfield 54, 3) := by decide +kernel
theorem dX10_obey_14 : decode cX10_obey 14 = .ok (.iload_n 1, 1) := by decide +kernel
theorem dX10_obey_15 : decode cX10_obey 15 = .ok (.iconst 1, 1) := by decide +kernel
theorem dX10_obey_16 : decode cX10_obey 16 = .ok (.invokevirtual 336, 3) := by decide +kernel
theorem dX10_obey_19 : decode cX10_obey 19 = .ok (.istore_n 3, 1) := by decide +kernel
theorem dX10_obey_20 : decode cX10_obey 20 = .ok (.aload_n 0, 1) := by decide +kernel
theorem dX10_obey_21 : decode cX10_obey 21 = .ok (.getfield 54, 3) := by decide +kernel
theorem dX10_obey_24 : decode cX10_obey 24 = .ok (.iload_n 1, 1) := by decide +kernel
theorem dX10_obey_25 : decode cX10_obey 25 = .ok (.invokevirtual 339, 3) := by decide +kernel
theorem dX10_obey_28 : decode cX10_obey 28 = .ok (.tableswitch 181 98 117 #[96, 181, 134, 181, 181, 153, 181, 162, 181, 181, 143, 181, 172, 181, 181, 181, 181, 181, 115, 124], 96) := by decide +kernel
theorem dX10_obey_124 : decode cX10_obey 124 = .ok (.aload_n 0, 1) := by decide +kernel
theorem dX10_obey_125 : decode cX10_obey 125 = .ok (.getfield 10, 3) := by decide +kernel
theorem dX10_obey_128 : decode cX10_obey 128 = .ok (.iload_n 2, 1) := by decide +kernel
theorem dX10_obey_129 : decode cX10_obey 129 = .ok (.iload_n 3, 1) := by decide +kernel
theorem dX10_obey_130 : decode cX10_obey 130 = .ok (.aload_n 0, 1) := by decide +kernel
theorem dX10_obey_131 : decode cX10_obey 131 = .ok (.getfield 54, 3) := by decide +kernel
theorem dX10_obey_134 : decode cX10_obey 134 = .ok (.iload_n 1, 1) := by decide +kernel
theorem dX10_obey_135 : decode cX10_obey 135 = .ok (.iconst 2, 1) := by decide +kernel
theorem dX10_obey_136 : decode cX10_obey 136 = .ok (.invokevirtual 336, 3) := by decide +kernel
theorem dX10_obey_139 : decode cX10_obey 139 = .ok (.invokevirtual 101, 3) := by decide +kernel
theorem dX10_obey_142 : decode cX10_obey 142 = .ok (.ireturn, 1) := by decide +kernel
theorem dX10_obey_143 : decode cX10_obey 143 = .ok (.aload_n 0, 1) := by decide +kernel
theorem dX10_obey_144 : decode cX10_obey 144 = .ok (.getfield 10, 3) := by decide +kernel
theorem dX10_obey_147 : decode cX10_obey 147 = .ok (.iload_n 2, 1) := by decide +kernel
theorem dX10_obey_148 : decode cX10_obey 148 = .ok (.invokevirtual 105, 3) := by decide +kernel
theorem dX10_obey_151 : decode cX10_obey 151 = .ok (.ireturn, 1) := by decide +kernel
theorem dX10_obey_152 : decode cX10_obey 152 = .ok (.aload_n 0, 1) := by decide +kernel
theorem dX10_obey_153 : decode cX10_obey 153 = .ok (.getfield 10, 3) := by decide +kernel
theorem dX10_obey_156 : decode cX10_obey 156 = .ok (.iload_n 2, 1) := by decide +kernel
theorem dX10_obey_157 : decode cX10_obey 157 = .ok (.iload_n 3, 1) := by decide +kernel
theorem dX10_obey_158 : decode cX10_obey 158 = .ok (.invokevirtual 111, 3) := by decide +kernel
theorem dX10_obey_161 : decode cX10_obey 161 = .ok (.ireturn, 1) := by decide +kernel
theorem dX10_obey_162 : decode cX10_obey 162 = .ok (.aload_n 0, 1) := by decide +kernel
theorem dX10_obey_163 : decode cX10_obey 163 = .ok (.getfield 10, 3) := by decide +kernel
theorem dX10_obey_166 : decode cX10_obey 166 = .ok (.iload_n 2, 1) := by decide +kernel
theorem dX10_obey_167 : decode cX10_obey 167 = .ok (.invokevirtual 114, 3) := by decide +kernel
theorem dX10_obey_170 : decode cX10_obey 170 = .ok (.ireturn, 1) := by decide +kernel
theorem dX10_obey_171 : decode cX10_obey 171 = .ok (.aload_n 0, 1) := by decide +kernel
theorem dX10_obey_172 : decode cX10_obey 172 = .ok (.getfield 10, 3) := by decide +kernel
theorem dX10_obey_175 : decode cX10_obey 175 = .ok (.iload_n 2, 1) := by decide +kernel
theorem dX10_obey_176 : decode cX10_obey 176 = .ok (.iload_n 3, 1) := by decide +kernel
theorem dX10_obey_177 : decode cX10_obey 177 = .ok (.invokevirtual 117, 3) := by decide +kernel
theorem dX10_obey_180 : decode cX10_obey 180 = .ok (.ireturn, 1) := by decide +kernel
theorem dX10_obey_181 : decode cX10_obey 181 = .ok (.aload_n 0, 1) := by decide +kernel
theorem dX10_obey_182 : decode cX10_obey 182 = .ok (.getfield 10, 3) := by decide +kernel
theorem dX10_obey_185 : decode cX10_obey 185 = .ok (.iload_n 2, 1) := by decide +kernel
theorem dX10_obey_186 : decode cX10_obey 186 = .ok (.invokevirtual 120, 3) := by decide +kernel
theorem dX10_obey_189 : decode cX10_obey 189 = .ok (.ireturn, 1) := by decide +kernel
theorem dX10_obey_190 : decode cX10_obey 190 = .ok (.aload_n 0, 1) := by decide +kernel
theorem dX10_obey_191 : decode cX10_obey 191 = .ok (.getfield 10, 3) := by decide +kernel
theorem dX10_obey_194 : decode cX10_obey 194 = .ok (.iload_n 2, 1) := by decide +kernel
theorem dX10_obey_195 : decode cX10_obey 195 = .ok (.iload_n 3, 1) := by decide +kernel
theorem dX10_obey_196 : decode cX10_obey 196 = .ok (.invokevirtual 126, 3) := by decide +kernel
theorem dX10_obey_199 : decode cX10_obey 199 = .ok (.ireturn, 1) := by decide +kernel
theorem dX10_obey_200 : decode cX10_obey 200 = .ok (.aload_n 0, 1) := by decide +kernel
theorem dX10_obey_201 : decode cX10_obey 201 = .ok (.getfield 10, 3) := by decide +kernel
theorem dX10_obey_204 : decode cX10_obey 204 = .ok (.iload_n 2, 1) := by decide +kernel
theorem dX10_obey_205 : decode cX10_obey 205 = .ok (.invokevirtual 129, 3) := by decide +kernel
theorem dX10_obey_208 : decode cX10_obey 208 = .ok (.ireturn, 1) := by decide +kernel
theorem dX10_obey_209 : decode cX10_obey 209 = .ok (.bipush (-2), 2) := by decide +kernel
theorem dX10_obey_211 : decode cX10_obey 211 = .ok (.ireturn, 1) := by decide +kernel
theorem dX10_worksToday_0 : decode cX10_worksToday 0 = .ok (.aload_n 0, 1) := by decide +kernel
theorem dX10_worksToday_1 : decode cX10_worksToday 1 = .ok (.getfield 26, 3) := by decide +kernel
theorem dX10_worksToday_4 : decode cX10_worksToday 4 = .ok (.aload_n 0, 1) := by decide +kernel
theorem dX10_worksToday_5 : decode cX10_worksToday 5 = .ok (.getfield 20, 3) := by decide +kernel
theorem dX10_worksToday_8 : decode cX10_worksToday 8 = .ok (.invokevirtual 149, 3) := by decide +kernel
theorem dX10_worksToday_11 : decode cX10_worksToday 11 = .ok (.iconst 0, 1) := by decide +kernel
theorem dX10_worksToday_12 : decode cX10_worksToday 12 = .ok (.istore_n 2, 1) := by decide +kernel
theorem dX10_worksToday_13 : decode cX10_worksToday 13 = .ok (.iload_n 2, 1) := by decide +kernel
theorem dX10_worksToday_14 : decode cX10_worksToday 14 = .ok (.iload_n 1, 1) := by decide +kernel
theorem dX10_worksToday_15 : decode cX10_worksToday 15 = .ok (.if_icmp .ge 28, 3) := by decide +kernel
theorem dX10_worksToday_18 : decode cX10_worksToday 18 = .ok (.aload_n 0, 1) := by decide +kernel
theorem dX10_worksToday_19 : decode cX10_worksToday 19 = .ok (.getfield 26, 3) := by decide +kernel
theorem dX10_worksToday_22 : decode cX10_worksToday 22 = .ok (.iload_n 2, 1) := by decide +kernel
theorem dX10_worksToday_23 : decode cX10_worksToday 23 = .ok (.invokevirtual 342, 3) := by decide +kernel
theorem dX10_worksToday_26 : decode cX10_worksToday 26 = .ok (.ifCond .eq 11, 3) := by decide +kernel
theorem dX10_worksToday_29 : decode cX10_worksToday 29 = .ok (.aload_n 0, 1) := by decide +kernel
theorem dX10_worksToday_30 : decode cX10_worksToday 30 = .ok (.getfield 26, 3) := by decide +kernel
theorem dX10_worksToday_33 : decode cX10_worksToday 33 = .ok (.iload_n 2, 1) := by decide +kernel
theorem dX10_worksToday_34 : decode cX10_worksToday 34 = .ok (.invokevirtual 345, 3) := by decide +kernel
theorem dX10_worksToday_37 : decode cX10_worksToday 37 = .ok (.iinc 2 1, 3) := by decide +kernel
theorem dX10_worksToday_40 : decode cX10_worksToday 40 = .ok (.goto (-27), 3) := by decide +kernel
theorem dX10_worksToday_43 : decode cX10_worksToday 43 = .ok (.aload_n 0, 1) := by decide +kernel
theorem dX10_worksToday_44 : decode cX10_worksToday 44 = .ok (.getfield 26, 3) := by decide +kernel
theorem dX10_worksToday_47 : decode cX10_worksToday 47 = .ok (.iload_n 1, 1) := by decide +kernel
theorem dX10_worksToday_48 : decode cX10_worksToday 48 = .ok (.invokevirtual 342, 3) := by decide +kernel
theorem dX10_worksToday_51 : decode cX10_worksToday 51 = .ok (.ireturn, 1) := by decide +kernel
theorem dX10_writeStorey_0 : decode cX10_writeStorey 0 = .ok (.aload_n 0, 1) := by decide +kernel
theorem dX10_writeStorey_1 : decode cX10_writeStorey 1 = .ok (.getfield 20, 3) := by decide +kernel
theorem dX10_writeStorey_4 : decode cX10_writeStorey 4 = .ok (.getfield 181, 3) := by decide +kernel
theorem dX10_writeStorey_7 : decode cX10_writeStorey 7 = .ok (.astore_n 2, 1) := by decide +kernel
theorem dX10_writeStorey_8 : decode cX10_writeStorey 8 = .ok (.aload_n 0, 1) := by decide +kernel
theorem dX10_writeStorey_9 : decode cX10_writeStorey 9 = .ok (.getfield 48, 3) := by decide +kernel
theorem dX10_writeStorey_12 : decode cX10_writeStorey 12 = .ok (.iload_n 1, 1) := by decide +kernel
theorem dX10_writeStorey_13 : decode cX10_writeStorey 13 = .ok (.invokevirtual 348, 3) := by decide +kernel
theorem dX10_writeStorey_16 : decode cX10_writeStorey 16 = .ok (.aload_n 0, 1) := by decide +kernel
theorem dX10_writeStorey_17 : decode cX10_writeStorey 17 = .ok (.getfield 48, 3) := by decide +kernel
theorem dX10_writeStorey_20 : decode cX10_writeStorey 20 = .ok (.bipush 58, 2) := by decide +kernel
theorem dX10_writeStorey_22 : decode cX10_writeStorey 22 = .ok (.invokevirtual 82, 3) := by decide +kernel
theorem dX10_writeStorey_25 : decode cX10_writeStorey 25 = .ok (.aload_n 0, 1) := by decide +kernel
theorem dX10_writeStorey_26 : decode cX10_writeStorey 26 = .ok (.getfield 48, 3) := by decide +kernel
theorem dX10_writeStorey_29 : decode cX10_writeStorey 29 = .ok (.aload_n 2, 1) := by decide +kernel
theorem dX10_writeStorey_30 : decode cX10_writeStorey 30 = .ok (.iload_n 1, 1) := by decide +kernel
theorem dX10_writeStorey_31 : decode cX10_writeStorey 31 = .ok (.invokevirtual 188, 3) := by decide +kernel
theorem dX10_writeStorey_34 : decode cX10_writeStorey 34 = .ok (.invokevirtual 348, 3) := by decide +kernel
theorem dX10_writeStorey_37 : decode cX10_writeStorey 37 = .ok (.aload_n 0, 1) := by decide +kernel
theorem dX10_writeStorey_38 : decode cX10_writeStorey 38 = .ok (.getfield 48, 3) := by decide +kernel
theorem dX10_writeStorey_41 : decode cX10_writeStorey 41 = .ok (.bipush 112, 2) := by decide +kernel
theorem dX10_writeStorey_43 : decode cX10_writeStorey 43 = .ok (.invokevirtual 82, 3) := by decide +kernel
theorem dX10_writeStorey_46 : decode cX10_writeStorey 46 = .ok (.aload_n 0, 1) := by decide +kernel
theorem dX10_writeStorey_47 : decode cX10_writeStorey 47 = .ok (.getfield 48, 3) := by decide +kernel
theorem dX10_writeStorey_50 : decode cX10_writeStorey 50 = .ok (.aload_n 2, 1) := by decide +kernel
theorem dX10_writeStorey_51 : decode cX10_writeStorey 51 = .ok (.iload_n 1, 1) := by decide +kernel
theorem dX10_writeStorey_52 : decode cX10_writeStorey 52 = .ok (.invokevirtual 190, 3) := by decide +kernel
theorem dX10_writeStorey_55 : decode cX10_writeStorey 55 = .ok (.invokevirtual 348, 3) := by decide +kernel
theorem dX10_writeStorey_58 : decode cX10_writeStorey 58 = .ok (.aload_n 2, 1) := by decide +kernel
theorem dX10_writeStorey_59 : decode cX10_writeStorey 59 = .ok (.iload_n 1, 1) := by decide +kernel
theorem dX10_writeStorey_60 : decode cX10_writeStorey 60 = .ok (.invokevirtual 199, 3) := by decide +kernel
theorem dX10_writeStorey_63 : decode cX10_writeStorey 63 = .ok (.ifCond .eq 12, 3) := by decide +kernel
theorem dX10_writeStorey_66 : decode cX10_writeStorey 66 = .ok (.aload_n 0, 1) := by decide +kernel
theorem dX10_writeStorey_67 : decode cX10_writeStorey 67 = .ok (.getfield 48, 3) := by decide +kernel
theorem dX10_writeStorey_70 : decode cX10_writeStorey 70 = .ok (.bipush 35, 2) := by decide +kernel
theorem dX10_writeStorey_72 : decode cX10_writeStorey 72 = .ok (.invokevirtual 82, 3) := by decide +kernel
theorem dX10_writeStorey_75 : decode cX10_writeStorey 75 = .ok (.aload_n 0, 1) := by decide +kernel
theorem dX10_writeStorey_76 : decode cX10_writeStorey 76 = .ok (.getfield 20, 3) := by decide +kernel
theorem dX10_writeStorey_79 : decode cX10_writeStorey 79 = .ok (.getfield 202, 3) := by decide +kernel
theorem dX10_writeStorey_82 : decode cX10_writeStorey 82 = .ok (.iload_n 1, 1) := by decide +kernel
theorem dX10_writeStorey_83 : decode cX10_writeStorey 83 = .ok (.invokevirtual 351, 3) := by decide +kernel
theorem dX10_writeStorey_86 : decode cX10_writeStorey 86 = .ok (.istore_n 3, 1) := by decide +kernel
theorem dX10_writeStorey_87 : decode cX10_writeStorey 87 = .ok (.iconst 0, 1) := by decide +kernel
theorem dX10_writeStorey_88 : decode cX10_writeStorey 88 = .ok (.istore 4, 2) := by decide +kernel
theorem dX10_writeStorey_90 : decode cX10_writeStorey 90 = .ok (.iload 4, 2) := by decide +kernel
theorem dX10_writeStorey_92 : decode cX10_writeStorey 92 = .ok (.iload_n 3, 1) := by decide +kernel
theorem dX10_writeStorey_93 : decode cX10_writeStorey 93 = .ok (.if_icmp .ge 18, 3) := by decide +kernel
theorem dX10_writeStorey_96 : decode cX10_writeStorey 96 = .ok (.aload_n 0, 1) := by decide +kernel
theorem dX10_writeStorey_97 : decode cX10_writeStorey 97 = .ok (.getfield 48, 3) := by decide +kernel
theorem dX10_writeStorey_100 : decode cX10_writeStorey 100 = .ok (.bipush 42, 2) := by decide +kernel
theorem dX10_writeStorey_102 : decode cX10_writeStorey 102 = .ok (.invokevirtual 82, 3) := by decide +kernel
theorem dX10_writeStorey_105 : decode cX10_writeStorey 105 = .ok (.iinc 4 1, 3) := by decide +kernel
theorem dX10_writeStorey_108 : decode cX10_writeStorey 108 = .ok (.goto (-18), 3) := by decide +kernel
theorem dX10_writeStorey_111 : decode cX10_writeStorey 111 = .ok (.aload_n 2, 1) := by decide +kernel
theorem dX10_writeStorey_112 : decode cX10_writeStorey 112 = .ok (.iload_n 1, 1) := by decide +kernel
theorem dX10_writeStorey_113 : decode cX10_writeStorey 113 = .ok (.invokevirtual 193, 3) := by decide +kernel
theorem dX10_writeStorey_116 : decode cX10_writeStorey 116 = .ok (.ifCond .le 24, 3) := by decide +kernel
theorem dX10_writeStorey_119 : decode cX10_writeStorey 119 = .ok (.aload_n 0, 1) := by decide +kernel
theorem dX10_writeStorey_120 : decode cX10_writeStorey 120 = .ok (.getfield 48, 3) := by decide +kernel
theorem dX10_writeStorey_123 : decode cX10_writeStorey 123 = .ok (.bipush 119, 2) := by decide +kernel
theorem dX10_writeStorey_125 : decode cX10_writeStorey 125 = .ok (.invokevirtual 82, 3) := by decide +kernel
theorem dX10_writeStorey_128 : decode cX10_writeStorey 128 = .ok (.aload_n 0, 1) := by decide +kernel
theorem dX10_writeStorey_129 : decode cX10_writeStorey 129 = .ok (.getfield 48, 3) := by decide +kernel
theorem dX10_writeStorey_132 : decode cX10_writeStorey 132 = .ok (.aload_n 2, 1) := by decide +kernel
theorem dX10_writeStorey_133 : decode cX10_writeStorey 133 = .ok (.iload_n 1, 1) := by decide +kernel
theorem dX10_writeStorey_134 : decode cX10_writeStorey 134 = .ok (.invokevirtual 193, 3) := by decide +kernel
theorem dX10_writeStorey_137 : decode cX10_writeStorey 137 = .ok (.invokevirtual 348, 3) := by decide +kernel
theorem dX10_writeStorey_140 : decode cX10_writeStorey 140 = .ok (.return_, 1) := by decide +kernel
theorem dX10_writeBare_0 : decode cX10_writeBare 0 = .ok (.aload_n 0, 1) := by decide +kernel
theorem dX10_writeBare_1 : decode cX10_writeBare 1 = .ok (.getfield 48, 3) := by decide +kernel
theorem dX10_writeBare_4 : decode cX10_writeBare 4 = .ok (.bipush 98, 2) := by decide +kernel
theorem dX10_writeBare_6 : decode cX10_writeBare 6 = .ok (.invokevirtual 82, 3) := by decide +kernel
theorem dX10_writeBare_9 : decode cX10_writeBare 9 = .ok (.aload_n 0, 1) := by decide +kernel
theorem dX10_writeBare_10 : decode cX10_writeBare 10 = .ok (.getfield 48, 3) := by decide +kernel
theorem dX10_writeBare_13 : decode cX10_writeBare 13 = .ok (.bipush 97, 2) := by decide +kernel
theorem dX10_writeBare_15 : decode cX10_writeBare 15 = .ok (.invokevirtual 82, 3) := by decide +kernel
theorem dX10_writeBare_18 : decode cX10_writeBare 18 = .ok (.aload_n 0, 1) := by decide +kernel
theorem dX10_writeBare_19 : decode cX10_writeBare 19 = .ok (.getfield 48, 3) := by decide +kernel
theorem dX10_writeBare_22 : decode cX10_writeBare 22 = .ok (.bipush 114, 2) := by decide +kernel
theorem dX10_writeBare_24 : decode cX10_writeBare 24 = .ok (.invokevirtual 82, 3) := by decide +kernel
theorem dX10_writeBare_27 : decode cX10_writeBare 27 = .ok (.aload_n 0, 1) := by decide +kernel
theorem dX10_writeBare_28 : decode cX10_writeBare 28 = .ok (.getfield 48, 3) := by decide +kernel
theorem dX10_writeBare_31 : decode cX10_writeBare 31 = .ok (.bipush 101, 2) := by decide +kernel
theorem dX10_writeBare_33 : decode cX10_writeBare 33 = .ok (.invokevirtual 82, 3) := by decide +kernel
theorem dX10_writeBare_36 : decode cX10_writeBare 36 = .ok (.return_, 1) := by decide +kernel
theorem dX10_isWithin_0 : decode cX10_isWithin 0 = .ok (.iload_n 0, 1) := by decide +kernel
theorem dX10_isWithin_1 : decode cX10_isWithin 1 = .ok (.iload_n 1, 1) := by decide +kernel
theorem dX10_isWithin_2 : decode cX10_isWithin 2 = .ok (.if_icmp .lt 12, 3) := by decide +kernel
theorem dX10_isWithin_5 : decode cX10_isWithin 5 = .ok (.iload_n 0, 1) := by decide +kernel
theorem dX10_isWithin_6 : decode cX10_isWithin 6 = .ok (.iload_n 2, 1) := by decide +kernel
theorem dX10_isWithin_7 : decode cX10_isWithin 7 = .ok (.if_icmp .gt 7, 3) := by decide +kernel
theorem dX10_isWithin_10 : decode cX10_isWithin 10 = .ok (.iconst 1, 1) := by decide +kernel
theorem dX10_isWithin_11 : decode cX10_isWithin 11 = .ok (.goto 4, 3) := by decide +kernel
theorem dX10_isWithin_14 : decode cX10_isWithin 14 = .ok (.iconst 0, 1) := by decide +kernel
theorem dX10_isWithin_15 : decode cX10_isWithin 15 = .ok (.ireturn, 1) := by decide +kernel
theorem dX10_at_0 : decode cX10_at 0 = .ok (.iload_n 1, 1) := by decide +kernel
theorem dX10_at_1 : decode cX10_at 1 = .ok (.ifCond .lt 15, 3) := by decide +kernel
theorem dX10_at_4 : decode cX10_at 4 = .ok (.iload_n 1, 1) := by decide +kernel
theorem dX10_at_5 : decode cX10_at 5 = .ok (.aload_n 0, 1) := by decide +kernel
theorem dX10_at_6 : decode cX10_at 6 = .ok (.arraylength, 1) := by decide +kernel
theorem dX10_at_7 : decode cX10_at 7 = .ok (.if_icmp .ge 9, 3) := by decide +kernel
theorem dX10_at_10 : decode cX10_at 10 = .ok (.aload_n 0, 1) := by decide +kernel
theorem dX10_at_11 : decode cX10_at 11 = .ok (.iload_n 1, 1) := by decide +kernel
theorem dX10_at_12 : decode cX10_at 12 = .ok (.iaload, 1) := by decide +kernel
theorem dX10_at_13 : decode cX10_at 13 = .ok (.goto 4, 3) := by decide +kernel
theorem dX10_at_16 : decode cX10_at 16 = .ok (.iconst 0, 1) := by decide +kernel
theorem dX10_at_17 : decode cX10_at 17 = .ok (.ireturn, 1) := by decide +kernel
theorem dX10_put_0 : decode cX10_put 0 = .ok (.iload_n 1, 1) := by decide +kernel
theorem dX10_put_1 : decode cX10_put 1 = .ok (.ifCond .lt 13, 3) := by decide +kernel
theorem dX10_put_4 : decode cX10_put 4 = .ok (.iload_n 1, 1) := by decide +kernel
theorem dX10_put_5 : decode cX10_put 5 = .ok (.aload_n 0, 1) := by decide +kernel
theorem dX10_put_6 : decode cX10_put 6 = .ok (.arraylength, 1) := by decide +kernel
theorem dX10_put_7 : decode cX10_put 7 = .ok (.if_icmp .ge 7, 3) := by decide +kernel
theorem dX10_put_10 : decode cX10_put 10 = .ok (.aload_n 0, 1) := by decide +kernel
theorem dX10_put_11 : decode cX10_put 11 = .ok (.iload_n 1, 1) := by decide +kernel
theorem dX10_put_12 : decode cX10_put 12 = .ok (.iload_n 2, 1) := by decide +kernel
theorem dX10_put_13 : decode cX10_put 13 = .ok (.iastore, 1) := by decide +kernel
theorem dX10_put_14 : decode cX10_put 14 = .ok (.return_, 1) := by decide +kernel
theorem dX10_sum_0 : decode cX10_sum 0 = .ok (.iconst 0, 1) := by decide +kernel
theorem dX10_sum_1 : decode cX10_sum 1 = .ok (.istore_n 2, 1) := by decide +kernel
theorem dX10_sum_2 : decode cX10_sum 2 = .ok (.iconst 0, 1) := by decide +kernel
theorem dX10_sum_3 : decode cX10_sum 3 = .ok (.istore_n 3, 1) := by decide +kernel
theorem dX10_sum_4 : decode cX10_sum 4 = .ok (.iload_n 3, 1) := by decide +kernel
theorem dX10_sum_5 : decode cX10_sum 5 = .ok (.iload_n 1, 1) := by decide +kernel
theorem dX10_sum_6 : decode cX10_sum 6 = .ok (.if_icmp .ge 17, 3) := by decide +kernel
theorem dX10_sum_9 : decode cX10_sum 9 = .ok (.iload_n 2, 1) := by decide +kernel
theorem dX10_sum_10 : decode cX10_sum 10 = .ok (.aload_n 0, 1) := by decide +kernel
theorem dX10_sum_11 : decode cX10_sum 11 = .ok (.iload_n 3, 1) := by decide +kernel
theorem dX10_sum_12 : decode cX10_sum 12 = .ok (.invokestatic 354, 3) := by decide +kernel
theorem dX10_sum_15 : decode cX10_sum 15 = .ok (.iadd, 1) := by decide +kernel
theorem dX10_sum_16 : decode cX10_sum 16 = .ok (.istore_n 2, 1) := by decide +kernel
theorem dX10_sum_17 : decode cX10_sum 17 = .ok (.iinc 3 1, 3) := by decide +kernel
theorem dX10_sum_20 : decode cX10_sum 20 = .ok (.goto (-16), 3) := by decide +kernel
theorem dX10_sum_23 : decode cX10_sum 23 = .ok (.iload_n 2, 1) := by decide +kernel
theorem dX10_sum_24 : decode cX10_sum 24 = .ok (.ireturn, 1) := by decide +kernel
theorem dX10_copy_0 : decode cX10_copy 0 = .ok (.aload_n 0, 1) := by decide +kernel
theorem dX10_copy_1 : decode cX10_copy 1 = .ok (.iconst 0, 1) := by decide +kernel
theorem dX10_copy_2 : decode cX10_copy 2 = .ok (.aload_n 1, 1) := by decide +kernel
theorem dX10_copy_3 : decode cX10_copy 3 = .ok (.iconst 0, 1) := by decide +kernel
theorem dX10_copy_4 : decode cX10_copy 4 = .ok (.aload_n 0, 1) := by decide +kernel
theorem dX10_copy_5 : decode cX10_copy 5 = .ok (.arraylength, 1) := by decide +kernel
theorem dX10_copy_6 : decode cX10_copy 6 = .ok (.aload_n 1, 1) := by decide +kernel
theorem dX10_copy_7 : decode cX10_copy 7 = .ok (.arraylength, 1) := by decide +kernel
theorem dX10_copy_8 : decode cX10_copy 8 = .ok (.invokestatic 358, 3) := by decide +kernel
theorem dX10_copy_11 : decode cX10_copy 11 = .ok (.invokestatic 363, 3) := by decide +kernel
theorem dX10_copy_14 : decode cX10_copy 14 = .ok (.return_, 1) := by decide +kernel
theorem dX10_makeOlder_0 : decode cX10_makeOlder 0 = .ok (.iconst 0, 1) := by decide +kernel
theorem dX10_makeOlder_1 : decode cX10_makeOlder 1 = .ok (.istore 4, 2) := by decide +kernel
theorem dX10_makeOlder_3 : decode cX10_makeOlder 3 = .ok (.iload 4, 2) := by decide +kernel
theorem dX10_makeOlder_5 : decode cX10_makeOlder 5 = .ok (.iload_n 1, 1) := by decide +kernel
theorem dX10_makeOlder_6 : decode cX10_makeOlder 6 = .ok (.if_icmp .ge 27, 3) := by decide +kernel
theorem dX10_makeOlder_9 : decode cX10_makeOlder 9 = .ok (.aload_n 0, 1) := by decide +kernel
theorem dX10_makeOlder_10 : decode cX10_makeOlder 10 = .ok (.iload 4, 2) := by decide +kernel
theorem dX10_makeOlder_12 : decode cX10_makeOlder 12 = .ok (.aload_n 0, 1) := by decide +kernel
theorem dX10_makeOlder_13 : decode cX10_makeOlder 13 = .ok (.iload 4, 2) := by decide +kernel
theorem dX10_makeOlder_15 : decode cX10_makeOlder 15 = .ok (.invokestatic 354, 3) := by decide +kernel
theorem dX10_makeOlder_18 : decode cX10_makeOlder 18 = .ok (.iload_n 2, 1) := by decide +kernel
theorem dX10_makeOlder_19 : decode cX10_makeOlder 19 = .ok (.iadd, 1) := by decide +kernel
theorem dX10_makeOlder_20 : decode cX10_makeOlder 20 = .ok (.iload_n 3, 1) := by decide +kernel
theorem dX10_makeOlder_21 : decode cX10_makeOlder 21 = .ok (.invokestatic 358, 3) := by decide +kernel
theorem dX10_makeOlder_24 : decode cX10_makeOlder 24 = .ok (.invokestatic 369, 3) := by decide +kernel
theorem dX10_makeOlder_27 : decode cX10_makeOlder 27 = .ok (.iinc 4 1, 3) := by decide +kernel
theorem dX10_makeOlder_30 : decode cX10_makeOlder 30 = .ok (.goto (-27), 3) := by decide +kernel
theorem dX10_makeOlder_33 : decode cX10_makeOlder 33 = .ok (.return_, 1) := by decide +kernel
theorem dX11_init_0 : decode cX11_init 0 = .ok (.aload_n 0, 1) := by decide +kernel
theorem dX11_init_1 : decode cX11_init 1 = .ok (.invokespecial 3, 3) := by decide +kernel
theorem dX11_init_4 : decode cX11_init 4 = .ok (.aload_n 0, 1) := by decide +kernel
theorem dX11_init_5 : decode cX11_init 5 = .ok (.bipush 111, 2) := by decide +kernel
theorem dX11_init_7 : decode cX11_init 7 = .ok (.newarray .int, 2) := by decide +kernel
theorem dX11_init_9 : decode cX11_init 9 = .ok (.putfield 9, 3) := by decide +kernel
theorem dX11_init_12 : decode cX11_init 12 = .ok (.aload_n 0, 1) := by decide +kernel
theorem dX11_init_13 : decode cX11_init 13 = .ok (.bipush 111, 2) := by decide +kernel
theorem dX11_init_15 : decode cX11_init 15 = .ok (.newarray .int, 2) := by decide +kernel
theorem dX11_init_17 : decode cX11_init 17 = .ok (.putfield 13, 3) := by decide +kernel
theorem dX11_init_20 : decode cX11_init 20 = .ok (.aload_n 0, 1) := by decide +kernel
theorem dX11_init_21 : decode cX11_init 21 = .ok (.bipush 111, 2) := by decide +kernel
theorem dX11_init_23 : decode cX11_init 23 = .ok (.newarray .int, 2) := by decide +kernel
theorem dX11_init_25 : decode cX11_init 25 = .ok (.putfield 16, 3) := by decide +kernel
theorem dX11_init_28 : decode cX11_init 28 = .ok (.aload_n 0, 1) := by decide +kernel
theorem dX11_init_29 : decode cX11_init 29 = .ok (.sipush 888, 3) := by decide +kernel
theorem dX11_init_32 : decode cX11_init 32 = .ok (.newarray .int, 2) := by decide +kernel
theorem dX11_init_34 : decode cX11_init 34 = .ok (.putfield 19, 3) := by decide +kernel
theorem dX11_init_37 : decode cX11_init 37 = .ok (.aload_n 0, 1) := by decide +kernel
theorem dX11_init_38 : decode cX11_init 38 = .ok (.bipush 111, 2) := by decide +kernel
theorem dX11_init_40 : decode cX11_init 40 = .ok (.newarray .int, 2) := by decide +kernel
theorem dX11_init_42 : decode cX11_init 42 = .ok (.putfield 22, 3) := by decide +kernel
theorem dX11_init_45 : decode cX11_init 45 = .ok (.aload_n 0, 1) := by decide +kernel
theorem dX11_init_46 : decode cX11_init 46 = .ok (.sipush 180, 3) := by decide +kernel
theorem dX11_init_49 : decode cX11_init 49 = .ok (.newarray .int, 2) := by decide +kernel
theorem dX11_init_51 : decode cX11_init 51 = .ok (.putfield 25, 3) := by decide +kernel
theorem dX11_init_54 : decode cX11_init 54 = .ok (.aload_n 0, 1) := by decide +kernel
theorem dX11_init_55 : decode cX11_init 55 = .ok (.bipush 60, 2) := by decide +kernel
theorem dX11_init_57 : decode cX11_init 57 = .ok (.newarray .char, 2) := by decide +kernel
theorem dX11_init_59 : decode cX11_init 59 = .ok (.putfield 28, 3) := by decide +kernel
theorem dX11_init_62 : decode cX11_init 62 = .ok (.aload_n 0, 1) := by decide +kernel
theorem dX11_init_63 : decode cX11_init 63 = .ok (.iconst 3, 1) := by decide +kernel
theorem dX11_init_64 : decode cX11_init 64 = .ok (.newarray .int, 2) := by decide +kernel
theorem dX11_init_66 : decode cX11_init 66 = .ok (.putfield 32, 3) := by decide +kernel
theorem dX11_init_69 : decode cX11_init 69 = .ok (.aload_n 0, 1) := by decide +kernel
theorem dX11_init_70 : decode cX11_init 70 = .ok (.bipush (-4), 2) := by decide +kernel
theorem dX11_init_72 : decode cX11_init 72 = .ok (.putfield 35, 3) := by decide +kernel
theorem dX11_init_75 : decode cX11_init 75 = .ok (.aload_n 0, 1) := by decide +kernel
theorem dX11_init_76 : decode cX11_init 76 = .ok (.bipush 8, 2) := by decide +kernel
theorem dX11_init_78 : decode cX11_init 78 = .ok (.newarray .int, 2) := by decide +kernel
theorem dX11_init_80 : decode cX11_init 80 = .ok (.putfield 39, 3) := by decide +kernel
theorem dX11_init_83 : decode cX11_init 83 = .ok (.aload_n 0, 1) := by decide +kernel
theorem dX11_init_84 : decode cX11_init 84 = .ok (.invokevirtual 42, 3) := by decide +kernel
theorem dX11_init_87 : decode cX11_init 87 = .ok (.return_, 1) := by decide +kernel
theorem dX11_begins_0 : decode cX11_begins 0 = .ok (.iconst 0, 1) := by decide +kernel
theorem dX11_begins_1 : decode cX11_begins 1 = .ok (.istore_n 1, 1) := by decide +kernel
theorem dX11_begins_2 : decode cX11_begins 2 = .ok (.iload_n 1, 1) := by decide +kernel
theorem dX11_begins_3 : decode cX11_begins 3 = .ok (.bipush 111, 2) := by decide +kernel
theorem dX11_begins_5 : decode cX11_begins 5 = .ok (.if_icmp .ge 16, 3) := by decide +kernel
theorem dX11_begins_8 : decode cX11_begins 8 = .ok (.aload_n 0, 1) := by decide +kernel
theorem dX11_begins_9 : decode cX11_begins 9 = .ok (.getfield 9, 3) := by decide +kernel
theorem dX11_begins_12 : decode cX11_begins 12 = .ok (.iload_n 1, 1) := by decide +kernel
theorem dX11_begins_13 : decode cX11_begins 13 = .ok (.iconst 0, 1) := by decide +kernel
theorem dX11_begins_14 : decode cX11_begins 14 = .ok (.iastore, 1) := by decide +kernel
theorem dX11_begins_15 : decode cX11_begins 15 = .ok (.iinc 1 1, 3) := by decide +kernel
theorem dX11_begins_18 : decode cX11_begins 18 = .ok (.goto (-16), 3) := by decide +kernel
theorem dX11_begins_21 : decode cX11_begins 21 = .ok (.aload_n 0, 1) := by decide +kernel
theorem dX11_begins_22 : decode cX11_begins 22 = .ok (.getfield 9, 3) := by decide +kernel
theorem dX11_begins_25 : decode cX11_begins 25 = .ok (.bipush 6, 2) := by decide +kernel
theorem dX11_begins_27 : decode cX11_begins 27 = .ok (.bipush 60, 2) := by decide +kernel
theorem dX11_begins_29 : decode cX11_begins 29 = .ok (.iastore, 1) := by decide +kernel
theorem dX11_begins_30 : decode cX11_begins 30 = .ok (.aload_n 0, 1) := by decide +kernel
theorem dX11_begins_31 : decode cX11_begins 31 = .ok (.getfield 9, 3) := by decide +kernel
theorem dX11_begins_34 : decode cX11_begins 34 = .ok (.bipush 7, 2) := by decide +kernel
theorem dX11_begins_36 : decode cX11_begins 36 = .ok (.bipush 20, 2) := by decide +kernel
theorem dX11_begins_38 : decode cX11_begins 38 = .ok (.iastore, 1) := by decide +kernel
theorem dX11_begins_39 : decode cX11_begins 39 = .ok (.return_, 1) := by decide +kernel
theorem dX11_in_0 : decode cX11_in 0 = .ok (.iload_n 0, 1) := by decide +kernel
theorem dX11_in_1 : decode cX11_in 1 = .ok (.iload_n 1, 1) := by decide +kernel
theorem dX11_in_2 : decode cX11_in 2 = .ok (.if_icmp .lt 12, 3) := by decide +kernel
theorem dX11_in_5 : decode cX11_in 5 = .ok (.iload_n 0, 1) := by decide +kernel
theorem dX11_in_6 : decode cX11_in 6 = .ok (.iload_n 2, 1) := by decide +kernel
theorem dX11_in_7 : decode cX11_in 7 = .ok (.if_icmp .gt 7, 3) := by decide +kernel
theorem dX11_in_10 : decode cX11_in 10 = .ok (.iconst 1, 1) := by decide +kernel
theorem dX11_in_11 : decode cX11_in 11 = .ok (.goto 4, 3) := by decide +kernel
theorem dX11_in_14 : decode cX11_in 14 = .ok (.iconst 0, 1) := by decide +kernel
theorem dX11_in_15 : decode cX11_in 15 = .ok (.ireturn, 1) := by decide +kernel
theorem dX11_tries_0 : decode cX11_tries 0 = .ok (.iconst 0, 1) := by decide +kernel
theorem dX11_tries_1 : decode cX11_tries 1 = .ok (.istore_n 1, 1) := by decide +kernel
theorem dX11_tries_2 : decode cX11_tries 2 = .ok (.iload_n 1, 1) := by decide +kernel
theorem dX11_tries_3 : decode cX11_tries 3 = .ok (.bipush 111, 2) := by decide +kernel
theorem dX11_tries_5 : decode cX11_tries 5 = .ok (.if_icmp .ge 21, 3) := by decide +kernel
theorem dX11_tries_8 : decode cX11_tries 8 = .ok (.aload_n 0, 1) := by decide +kernel
theorem dX11_tries_9 : decode cX11_tries 9 = .ok (.getfield 13, 3) := by decide +kernel
theorem dX11_tries_12 : decode cX11_tries 12 = .ok (.iload_n 1, 1) := by decide +kernel
theorem dX11_tries_13 : decode cX11_tries 13 = .ok (.aload_n 0, 1) := by decide +kernel
theorem dX11_tries_14 : decode cX11_tries 14 = .ok (.getfield 9, 3) := by decide +kernel
theorem dX11_tries_17 : decode cX11_tries 17 = .ok (.iload_n 1, 1) := by decide +kernel
theorem dX11_tries_18 : decode cX11_tries 18 = .ok (.iaload, 1) := by decide +kernel
theorem dX11_tries_19 : decode cX11_tries 19 = .ok (.iastore, 1) := by decide +kernel
theorem dX11_tries_20 : decode cX11_tries 20 = .ok (.iinc 1 1, 3) := by decide +kernel
theorem dX11_tries_23 : decode cX11_tries 23 = .ok (.goto (-21), 3) := by decide +kernel
theorem dX11_tries_26 : decode cX11_tries 26 = .ok (.return_, 1) := by decide +kernel
theorem dX11_comesBack_0 : decode cX11_comesBack 0 = .ok (.iconst 0, 1) := by decide +kernel
theorem dX11_comesBack_1 : decode cX11_comesBack 1 = .ok (.istore_n 1, 1) := by decide +kernel
theorem dX11_comesBack_2 : decode cX11_comesBack 2 = .ok (.iload_n 1, 1) := by decide +kernel
theorem dX11_comesBack_3 : decode cX11_comesBack 3 = .ok (.bipush 111, 2) := by decide +kernel
theorem dX11_comesBack_5 : decode cX11_comesBack 5 = .ok (.if_icmp .ge 21, 3) := by decide +kernel
theorem dX11_comesBack_8 : decode cX11_comesBack 8 = .ok (.aload_n 0, 1) := by decide +kernel
theorem dX11_comesBack_9 : decode cX11_comesBack 9 = .ok (.getfield 9, 3) := by decide +kernel
theorem dX11_comesBack_12 : decode cX11_comesBack 12 = .ok (.iload_n 1, 1) := by decide +kernel
theorem dX11_comesBack_13 : decode cX11_comesBack 13 = .ok (.aload_n 0, 1) := by decide +kernel
theorem dX11_comesBack_14 : decode cX11_comesBack 14 = .ok (.getfield 13, 3) := by decide +kernel
theorem dX11_comesBack_17 : decode cX11_comesBack 17 = .ok (.iload_n 1, 1) := by decide +kernel
theorem dX11_comesBack_18 : decode cX11_comesBack 18 = .ok (.iaload, 1) := by decide +kernel
theorem dX11_comesBack_19 : decode cX11_comesBack 19 = .ok (.iastore, 1) := by decide +kernel
theorem dX11_comesBack_20 : decode cX11_comesBack 20 = .ok (.iinc 1 1, 3) := by decide +kernel
theorem dX11_comesBack_23 : decode cX11_comesBack 23 = .ok (.goto (-21), 3) := by decide +kernel
theorem dX11_comesBack_26 : decode cX11_comesBack 26 = .ok (.return_, 1) := by decide +kernel
theorem dX11_thinks_0 : decode cX11_thinks 0 = .ok (.iconst 0, 1) := by decide +kernel
theorem dX11_thinks_1 : decode cX11_thinks 1 = .ok (.istore_n 1, 1) := by decide +kernel
theorem dX11_thinks_2 : decode cX11_thinks 2 = .ok (.iload_n 1, 1) := by decide +kernel
theorem dX11_thinks_3 : decode cX11_thinks 3 = .ok (.bipush 111, 2) := by decide +kernel
theorem dX11_thinks_5 : decode cX11_thinks 5 = .ok (.if_icmp .ge 21, 3) := by decide +kernel
theorem dX11_thinks_8 : decode cX11_thinks 8 = .ok (.aload_n 0, 1) := by decide +kernel
theorem dX11_thinks_9 : decode cX11_thinks 9 = .ok (.getfield 16, 3) := by decide +kernel
theorem dX11_thinks_12 : decode cX11_thinks 12 = .ok (.iload_n 1, 1) := by decide +kernel
theorem dX11_thinks_13 : decode cX11_thinks 13 = .ok (.aload_n 0, 1) := by decide +kernel
theorem dX11_thinks_14 : decode cX11_thinks 14 = .ok (.getfield 9, 3) := by decide +kernel
theorem dX11_thinks_17 : decode cX11_thinks 17 = .ok (.iload_n 1, 1) := by decide +kernel
theorem dX11_thinks_18 : decode cX11_thinks 18 = .ok (.iaload, 1) := by decide +kernel
theorem dX11_thinks_19 : decode cX11_thinks 19 = .ok (.iastore, 1) := by decide +kernel
theorem dX11_thinks_20 : decode cX11_thinks 20 = .ok (.iinc 1 1, 3) := by decide +kernel
theorem dX11_thinks_23 : decode cX11_thinks 23 = .ok (.goto (-21), 3) := by decide +kernel
theorem dX11_thinks_26 : decode cX11_thinks 26 = .ok (.return_, 1) := by decide +kernel
theorem dX11_thinksNoMore_0 : decode cX11_thinksNoMore 0 = .ok (.iconst 0, 1) := by decide +kernel
theorem dX11_thinksNoMore_1 : decode cX11_thinksNoMore 1 = .ok (.istore_n 1, 1) := by decide +kernel
theorem dX11_thinksNoMore_2 : decode cX11_thinksNoMore 2 = .ok (.iload_n 1, 1) := by decide +kernel
theorem dX11_thinksNoMore_3 : decode cX11_thinksNoMore 3 = .ok (.bipush 111, 2) := by decide +kernel
theorem dX11_thinksNoMore_5 : decode cX11_thinksNoMore 5 = .ok (.if_icmp .ge 21, 3) := by decide +kernel
theorem dX11_thinksNoMore_8 : decode cX11_thinksNoMore 8 = .ok (.aload_n 0, 1) := by decide +kernel
theorem dX11_thinksNoMore_9 : decode cX11_thinksNoMore 9 = .ok (.getfield 9, 3) := by decide +kernel
theorem dX11_thinksNoMore_12 : decode cX11_thinksNoMore 12 = .ok (.iload_n 1, 1) := by decide +kernel
theorem dX11_thinksNoMore_13 : decode cX11_thinksNoMore 13 = .ok (.aload_n 0, 1) := by decide +kernel
theorem dX11_thinksNoMore_14 : decode cX11_thinksNoMore 14 = .ok (.getfield 16, 3) := by decide +kernel
theorem dX11_thinksNoMore_17 : decode cX11_thinksNoMore 17 = .ok (.iload_n 1, 1) := by decide +kernel
theorem dX11_thinksNoMore_18 : decode cX11_thinksNoMore 18 = .ok (.iaload, 1) := by decide +kernel
theorem dX11_thinksNoMore_19 : decode cX11_thinksNoMore 19 = .ok (.iastore, 1) := by decide +kernel
theorem dX11_thinksNoMore_20 : decode cX11_thinksNoMore 20 = .ok (.iinc 1 1, 3) := by decide +kernel
theorem dX11_thinksNoMore_23 : decode cX11_thinksNoMore 23 = .ok (.goto (-21), 3) := by decide +kernel
theorem dX11_thinksNoMore_26 : decode cX11_thinksNoMore 26 = .ok (.return_, 1) := by decide +kernel
theorem dX11_keeps_0 : decode cX11_keeps 0 = .ok (.aload_n 0, 1) := by decide +kernel
theorem dX11_keeps_1 : decode cX11_keeps 1 = .ok (.getfield 45, 3) := by decide +kernel
theorem dX11_keeps_4 : decode cX11_keeps 4 = .ok (.bipush 8, 2) := by decide +kernel
theorem dX11_keeps_6 : decode cX11_keeps 6 = .ok (.if_icmp .ne 43, 3) := by decide +kernel
theorem dX11_keeps_9 : decode cX11_keeps 9 = .ok (.iconst 0, 1) := by decide +kernel
theorem dX11_keeps_10 : decode cX11_keeps 10 = .ok (.istore_n 2, 1) := by decide +kernel
theorem dX11_keeps_11 : decode cX11_keeps 11 = .ok (.iload_n 2, 1) := by decide +kernel
theorem dX11_keeps_12 : decode cX11_keeps 12 = .ok (.sipush 777, 3) := by decide +kernel
theorem dX11_keeps_15 : decode cX11_keeps 15 = .ok (.if_icmp .ge 24, 3) := by decide +kernel
theorem dX11_keeps_18 : decode cX11_keeps 18 = .ok (.aload_n 0, 1) := by decide +kernel
theorem dX11_keeps_19 : decode cX11_keeps 19 = .ok (.getfield 19, 3) := by decide +kernel
theorem dX11_keeps_22 : decode cX11_keeps 22 = .ok (.iload_n 2, 1) := by decide +kernel
theorem dX11_keeps_23 : decode cX11_keeps 23 = .ok (.aload_n 0, 1) := by decide +kernel
theorem dX11_keeps_24 : decode cX11_keeps 24 = .ok (.getfield 19, 3) := by decide +kernel
theorem dX11_keeps_27 : decode cX11_keeps 27 = .ok (.bipush 111, 2) := by decide +kernel
theorem dX11_keeps_29 : decode cX11_keeps 29 = .ok (.iload_n 2, 1) := by decide +kernel
theorem dX11_keeps_30 : decode cX11_keeps 30 = .ok (.iadd, 1) := by decide +kernel
theorem dX11_keeps_31 : decode cX11_keeps 31 = .ok (.iaload, 1) := by decide +kernel
theorem dX11_keeps_32 : decode cX11_keeps 32 = .ok (.iastore, 1) := by decide +kernel
theorem dX11_keeps_33 : decode cX11_keeps 33 = .ok (.iinc 2 1, 3) := by decide +kernel
theorem dX11_keeps_36 : decode cX11_keeps 36 = .ok (.goto (-25), 3) := by decide +kernel
theorem dX11_keeps_39 : decode cX11_keeps 39 = .ok (.aload_n 0, 1) := by decide +kernel
theorem dX11_keeps_40 : decode cX11_keeps 40 = .ok (.dup, 1) := by decide +kernel
theorem dX11_keeps_41 : decode cX11_keeps 41 = .ok (.getfield 45, 3) := by decide +kernel
theorem dX11_keeps_44 : decode cX11_keeps 44 = .ok (.iconst 1, 1) := by decide +kernel
theorem dX11_keeps_45 : decode cX11_keeps 45 = .ok (.isub, 1) := by decide +kernel
theorem dX11_keeps_46 : decode cX11_keeps 46 = .ok (.putfield 45, 3) := by decide +kernel
theorem dX11_keeps_49 : decode cX11_keeps 49 = .ok (.iconst 0, 1) := by decide +kernel
theorem dX11_keeps_50 : decode cX11_keeps 50 = .ok (.istore_n 2, 1) := by decide +kernel
theorem dX11_keeps_51 : decode cX11_keeps 51 = .ok (.iload_n 2, 1) := by decide +kernel
theorem dX11_keeps_52 : decode cX11_keeps 52 = .ok (.bipush 111, 2) := by decide +kernel
theorem dX11_keeps_54 : decode cX11_keeps 54 = .ok (.if_icmp .ge 29, 3) := by decide +kernel
theorem dX11_keeps_57 : decode cX11_keeps 57 = .ok (.aload_n 0, 1) := by decide +kernel
theorem dX11_keeps_58 : decode cX11_keeps 58 = .ok (.getfield 19, 3) := by decide +kernel
theorem dX11_keeps_61 : decode cX11_keeps 61 = .ok (.bipush 111, 2) := by decide +kernel
theorem dX11_keeps_63 : decode cX11_keeps 63 = .ok (.aload_n 0, 1) := by decide +kernel
theorem dX11_keeps_64 : decode cX11_keeps 64 = .ok (.getfield 45, 3) := by decide +kernel
theorem dX11_keeps_67 : decode cX11_keeps 67 = .ok (.imul, 1) := by decide +kernel
theorem dX11_keeps_68 : decode cX11_keeps 68 = .ok (.iload_n 2, 1) := by decide +kernel
theorem dX11_keeps_69 : decode cX11_keeps 69 = .ok (.iadd, 1) := by decide +kernel
theorem dX11_keeps_70 : decode cX11_keeps 70 = .ok (.aload_n 0, 1) := by decide +kernel
theorem dX11_keeps_71 : decode cX11_keeps 71 = .ok (.getfield 13, 3) := by decide +kernel
theorem dX11_keeps_74 : decode cX11_keeps 74 = .ok (.iload_n 2, 1) := by decide +kernel
theorem dX11_keeps_75 : decode cX11_keeps 75 = .ok (.iaload, 1) := by decide +kernel
theorem dX11_keeps_76 : decode cX11_keeps 76 = .ok (.iastore, 1) := by decide +kernel
theorem dX11_keeps_77 : decode cX11_keeps 77 = .ok (.iinc 2 1, 3) := by decide +kernel
theorem dX11_keeps_80 : decode cX11_keeps 80 = .ok (.goto (-29), 3) := by decide +kernel
theorem dX11_keeps_83 : decode cX11_keeps 83 = .ok (.aload_n 0, 1) := by decide +kernel
theorem dX11_keeps_84 : decode cX11_keeps 84 = .ok (.dup, 1) := by decide +kernel
theorem dX11_keeps_85 : decode cX11_keeps 85 = .ok (.getfield 45, 3) := by decide +kernel
theorem dX11_keeps_88 : decode cX11_keeps 88 = .ok (.iconst 1, 1) := by decide +kernel
theorem dX11_keeps_89 : decode cX11_keeps 89 = .ok (.iadd, 1) := by decide +kernel
theorem dX11_keeps_90 : decode cX11_keeps 90 = .ok (.putfield 45, 3) := by decide +kernel
theorem dX11_keeps_93 : decode cX11_keeps 93 = .ok (.iload_n 1, 1) := by decide +kernel
theorem dX11_keeps_94 : decode cX11_keeps 94 = .ok (.ireturn, 1) := by decide +kernel
theorem dX11_refuses_0 : decode cX11_refuses 0 = .ok (.aload_n 0, 1) := by decide +kernel
theorem dX11_refuses_1 : decode cX11_refuses 1 = .ok (.getfield 39, 3) := by decide +kernel
theorem dX11_refuses_4 : decode cX11_refuses 4 = .ok (.iconst 0, 1) := by decide +kernel
theorem dX11_refuses_5 : decode cX11_refuses 5 = .ok (.iload_n 1, 1) := by decide +kernel
theorem dX11_refuses_6 : decode cX11_refuses 6 = .ok (.iastore, 1) := by decide +kernel
theorem dX11_refuses_7 : decode cX11_refuses 7 = .ok (.aload_n 0, 1) := by decide +kernel
theorem dX11_refuses_8 : decode cX11_refuses 8 = .ok (.getfield 39, 3) := by decide +kernel
theorem dX11_refuses_11 : decode cX11_refuses 11 = .ok (.iconst 1, 1) := by decide +kernel
theorem dX11_refuses_12 : decode cX11_refuses 12 = .ok (.iload_n 2, 1) := by decide +kernel
theorem dX11_refuses_13 : decode cX11_refuses 13 = .ok (.iastore, 1) := by decide +kernel
theorem dX11_refuses_14 : decode cX11_refuses 14 = .ok (.aload_n 0, 1) := by decide +kernel
theorem dX11_refuses_15 : decode cX11_refuses 15 = .ok (.iconst 1, 1) := by decide +kernel
theorem dX11_refuses_16 : decode cX11_refuses 16 = .ok (.putfield 48, 3) := by decide +kernel
theorem dX11_refuses_19 : decode cX11_refuses 19 = .ok (.bipush (-3), 2) := by decide +kernel
theorem dX11_refuses_21 : decode cX11_refuses 21 = .ok (.ireturn, 1) := by decide +kernel
theorem dX11_refusesBy_0 : decode cX11_refusesBy 0 = .ok (.iconst 2, 1) := by decide +kernel
theorem dX11_refusesBy_1 : decode cX11_refusesBy 1 = .ok (.aload_n 0, 1) := by decide +kernel
theorem dX11_refusesBy_2 : decode cX11_refusesBy 2 = .ok (.getfield 48, 3) := by decide +kernel
theorem dX11_refusesBy_5 : decode cX11_refusesBy 5 = .ok (.imul, 1) := by decide +kernel
theorem dX11_refusesBy_6 : decode cX11_refusesBy 6 = .ok (.iconst 1, 1) := by decide +kernel
theorem dX11_refusesBy_7 : decode cX11_refusesBy 7 = .ok (.isub, 1) := by decide +kernel
theorem dX11_refusesBy_8 : decode cX11_refusesBy 8 = .ok (.istore_n 3, 1) := by decide +kernel
theorem dX11_refusesBy_9 : decode cX11_refusesBy 9 = .ok (.iload_n 3, 1) := by decide +kernel
theorem dX11_refusesBy_10 : decode cX11_refusesBy 10 = .ok (.ifCond .lt 23, 3) := by decide +kernel
theorem dX11_refusesBy_13 : decode cX11_refusesBy 13 = .ok (.aload_n 0, 1) := by decide +kernel
theorem dX11_refusesBy_14 : decode cX11_refusesBy 14 = .ok (.getfield 39, 3) := by decide +kernel
theorem dX11_refusesBy_17 : decode cX11_refusesBy 17 = .ok (.iload_n 3, 1) := by decide +kernel
theorem dX11_refusesBy_18 : decode cX11_refusesBy 18 = .ok (.iconst 2, 1) := by decide +kernel
theorem dX11_refusesBy_19 : decode cX11_refusesBy 19 = .ok (.iadd, 1) := by decide +kernel
theorem dX11_refusesBy_20 : decode cX11_refusesBy 20 = .ok (.aload_n 0, 1) := by decide +kernel
theorem dX11_refusesBy_21 : decode cX11_refusesBy 21 = .ok (.getfield 39, 3) := by decide +kernel
theorem dX11_refusesBy_24 : decode cX11_refusesBy 24 = .ok (.iload_n 3, 1) := by decide +kernel
theorem dX11_refusesBy_25 : decode cX11_refusesBy 25 = .ok (.iaload, 1) := by decide +kernel
theorem dX11_refusesBy_26 : decode cX11_refusesBy 26 = .ok (.iastore, 1) := by decide +kernel
theorem dX11_refusesBy_27 : decode cX11_refusesBy 27 = .ok (.iinc 3 (-1), 3) := by decide +kernel
theorem dX11_refusesBy_30 : decode cX11_refusesBy 30 = .ok (.goto (-21), 3) := by decide +kernel
theorem dX11_refusesBy_33 : decode cX11_refusesBy 33 = .ok (.aload_n 0, 1) := by decide +kernel
theorem dX11_refusesBy_34 : decode cX11_refusesBy 34 = .ok (.getfield 39, 3) := by decide +kernel
theorem dX11_refusesBy_37 : decode cX11_refusesBy 37 = .ok (.iconst 0, 1) := by decide +kernel
theorem dX11_refusesBy_38 : decode cX11_refusesBy 38 = .ok (.iload_n 1, 1) := by decide +kernel
theorem dX11_refusesBy_39 : decode cX11_refusesBy 39 = .ok (.iastore, 1) := by decide +kernel
theorem dX11_refusesBy_40 : decode cX11_refusesBy 40 = .ok (.aload_n 0, 1) := by decide +kernel
theorem dX11_refusesBy_41 : decode cX11_refusesBy 41 = .ok (.getfield 39, 3) := by decide +kernel
theorem dX11_refusesBy_44 : decode cX11_refusesBy 44 = .ok (.iconst 1, 1) := by decide +kernel
theorem dX11_refusesBy_45 : decode cX11_refusesBy 45 = .ok (.iload_n 2, 1) := by decide +kernel
theorem dX11_refusesBy_46 : decode cX11_refusesBy 46 = .ok (.iastore, 1) := by decide +kernel
theorem dX11_refusesBy_47 : decode cX11_refusesBy 47 = .ok (.aload_n 0, 1) := by decide +kernel
theorem dX11_refusesBy_48 : decode cX11_refusesBy 48 = .ok (.dup, 1) := by decide +kernel
theorem dX11_refusesBy_49 : decode cX11_refusesBy 49 = .ok (.getfield 48, 3) := by decide +kernel
theorem dX11_refusesBy_52 : decode cX11_refusesBy 52 = .ok (.iconst 1, 1) := by decide +kernel
theorem dX11_refusesBy_53 : decode cX11_refusesBy 53 = .ok (.iadd, 1) := by decide +kernel
theorem dX11_refusesBy_54 : decode cX11_refusesBy 54 = .ok (.putfield 48, 3) := by decide +kernel
theorem dX11_refusesBy_57 : decode cX11_refusesBy 57 = .ok (.bipush (-3), 2) := by decide +kernel
theorem dX11_refusesBy_59 : decode cX11_refusesBy 59 = .ok (.ireturn, 1) := by decide +kernel
theorem dX11_does_0 : decode cX11_does 0 = .ok (.aload_n 0, 1) := by decide +kernel
theorem dX11_does_1 : decode cX11_does 1 = .ok (.iload_n 1, 1) := by decide +kernel
theorem dX11_does_2 : decode cX11_does 2 = .ok (.putfield 51, 3) := by decide +kernel
theorem dX11_does_5 : decode cX11_does 5 = .ok (.iconst 0, 1) := by decide +kernel
theorem dX11_does_6 : decode cX11_does 6 = .ok (.ireturn, 1) := by decide +kernel
theorem dX11_ends_0 : decode cX11_ends 0 = .ok (.iload_n 1, 1) := by decide +kernel
theorem dX11_ends_1 : decode cX11_ends 1 = .ok (.ifCond .ne 14, 3) := by decide +kernel
theorem dX11_ends_4 : decode cX11_ends 4 = .ok (.aload_n 0, 1) := by decide +kernel
theorem dX11_ends_5 : decode cX11_ends 5 = .ok (.aload_n 0, 1) := by decide +kernel
theorem dX11_ends_6 : decode cX11_ends 6 = .ok (.getfield 51, 3) := by decide +kernel
theorem dX11_ends_9 : decode cX11_ends 9 = .ok (.invokevirtual 54, 3) := by decide +kernel
theorem dX11_ends_12 : decode cX11_ends 12 = .ok (.goto 4, 3) := by decide +kernel
theorem dX11_ends_15 : decode cX11_ends 15 = .ok (.iload_n 1, 1) := by decide +kernel
theorem dX11_ends_16 : decode cX11_ends 16 = .ok (.ireturn, 1) := by decide +kernel
theorem dX11_isBundle_0 : decode cX11_isBundle 0 = .ok (.iload_n 1, 1) := by decide +kernel
theorem dX11_isBundle_1 : decode cX11_isBundle 1 = .ok (.iconst 0, 1) := by decide +kernel
theorem dX11_isBundle_2 : decode cX11_isBundle 2 = .ok (.aload_n 0, 1) := by decide +kernel
theorem dX11_isBundle_3 : decode cX11_isBundle 3 = .ok (.getfield 9, 3) := by decide +kernel
theorem dX11_isBundle_6 : decode cX11_isBundle 6 = .ok (.iconst 2, 1) := by decide +kernel
theorem dX11_isBundle_7 : decode cX11_isBundle 7 = .ok (.iaload, 1) := by decide +kernel
theorem dX11_isBundle_8 : decode cX11_isBundle 8 = .ok (.iconst 1, 1) := by decide +kernel
theorem dX11_isBundle_9 : decode cX11_isBundle 9 = .ok (.isub, 1) := by decide +kernel
theorem dX11_isBundle_10 : decode cX11_isBundle 10 = .ok (.invokestatic 58, 3) := by decide +kernel
theorem dX11_isBundle_13 : decode cX11_isBundle 13 = .ok (.ireturn, 1) := by decide +kernel
theorem dX11_isStorey_0 : decode cX11_isStorey 0 = .ok (.iload_n 1, 1) := by decide +kernel
theorem dX11_isStorey_1 : decode cX11_isStorey 1 = .ok (.iconst 0, 1) := by decide +kernel
theorem dX11_isStorey_2 : decode cX11_isStorey 2 = .ok (.aload_n 0, 1) := by decide +kernel
theorem dX11_isStorey_3 : decode cX11_isStorey 3 = .ok (.getfield 9, 3) := by decide +kernel
theorem dX11_isStorey_6 : decode cX11_isStorey 6 = .ok (.iconst 3, 1) := by decide +kernel
theorem dX11_isStorey_7 : decode cX11_isStorey 7 = .ok (.iaload, 1) := by decide +kernel
theorem dX11_isStorey_8 : decode cX11_isStorey 8 = .ok (.iconst 1, 1) := by decide +kernel
theorem dX11_isStorey_9 : decode cX11_isStorey 9 = .ok (.isub, 1) := by decide +kernel
theorem dX11_isStorey_10 : decode cX11_isStorey 10 = .ok (.invokestatic 58, 3) := by decide +kernel
theorem dX11_isStorey_13 : decode cX11_isStorey 13 = .ok (.ireturn, 1) := by decide +kernel
theorem dX11_isCrew_0 : decode cX11_isCrew 0 = .ok (.iload_n 1, 1) := by decide +kernel
theorem dX11_isCrew_1 : decode cX11_isCrew 1 = .ok (.iconst 0, 1) := by decide +kernel
theorem dX11_isCrew_2 : decode cX11_isCrew 2 = .ok (.aload_n 0, 1) := by decide +kernel
theorem dX11_isCrew_3 : decode cX11_isCrew 3 = .ok (.getfield 9, 3) := by decide +kernel
theorem dX11_isCrew_6 : decode cX11_isCrew 6 = .ok (.iconst 4, 1) := by decide +kernel
theorem dX11_isCrew_7 : decode cX11_isCrew 7 = .ok (.iaload, 1) := by decide +kernel
theorem dX11_isCrew_8 : decode cX11_isCrew 8 = .ok (.iconst 1, 1) := by decide +kernel
theorem dX11_isCrew_9 : decode cX11_isCrew 9 = .ok (.isub, 1) := by decide +kernel
theorem dX11_isCrew_10 : decode cX11_isCrew 10 = .ok (.invokestatic 58, 3) := by decide +kernel
theorem dX11_isCrew_13 : decode cX11_isCrew 13 = .ok (.ireturn, 1) := by decide +kernel
theorem dX11_isInspector_0 : decode cX11_isInspector 0 = .ok (.iload_n 1, 1) := by decide +kernel
theorem dX11_isInspector_1 : decode cX11_isInspector 1 = .ok (.iconst 0, 1) := by decide +kernel
theorem dX11_isInspector_2 : decode cX11_isInspector 2 = .ok (.aload_n 0, 1) := by decide +kernel
theorem dX11_isInspector_3 : decode cX11_isInspector 3 = .ok (.getfield 9, 3) := by decide +kernel
theorem dX11_isInspector_6 : decode cX11_isInspector 6 = .ok (.iconst 5, 1) := by decide +kernel
theorem dX11_isInspector_7 : decode cX11_isInspector 7 = .ok (.iaload, 1) := by decide +kernel
theorem dX11_isInspector_8 : decode cX11_isInspector 8 = .ok (.iconst 1, 1) := by decide +kernel
theorem dX11_isInspector_9 : decode cX11_isInspector 9 = .ok (.isub, 1) := by decide +kernel
theorem dX11_isInspector_10 : decode cX11_isInspector 10 = .ok (.invokestatic 58, 3) := by decide +kernel
theorem dX11_isInspector_13 : decode cX11_isInspector 13 = .ok (.ireturn, 1) := by decide +kernel
theorem dX11_of_0 : decode cX11_of 0 = .ok (.aload_n 0, 1) := by decide +kernel
theorem dX11_of_1 : decode cX11_of 1 = .ok (.getfield 9, 3) := by decide +kernel
theorem dX11_of_4 : decode cX11_of 4 = .ok (.bipush 30, 2) := by decide +kernel
theorem dX11_of_6 : decode cX11_of 6 = .ok (.bipush 6, 2) := by decide +kernel
theorem dX11_of_8 : decode cX11_of 8 = .ok (.iload_n 1, 1) := by decide +kernel
theorem dX11_of_9 : decode cX11_of 9 = .ok (.imul, 1) := by decide +kernel
theorem dX11_of_10 : decode cX11_of 10 = .ok (.iadd, 1) := by decide +kernel
theorem dX11_of_11 : decode cX11_of 11 = .ok (.iload_n 2, 1) := by decide +kernel
theorem dX11_of_12 : decode cX11_of 12 = .ok (.iadd, 1) := by decide +kernel
theorem dX11_of_13 : decode cX11_of 13 = .ok (.iaload, 1) := by decide +kernel
theorem dX11_of_14 : decode cX11_of 14 = .ok (.ireturn, 1) := by decide +kernel
theorem dX11_sets_0 : decode cX11_sets 0 = .ok (.aload_n 0, 1) := by decide +kernel
theorem dX11_sets_1 : decode cX11_sets 1 = .ok (.getfield 9, 3) := by decide +kernel
theorem dX11_sets_4 : decode cX11_sets 4 = .ok (.bipush 30, 2) := by decide +kernel
theorem dX11_sets_6 : decode cX11_sets 6 = .ok (.bipush 6, 2) := by decide +kernel
theorem dX11_sets_8 : decode cX11_sets 8 = .ok (.iload_n 1, 1) := by decide +kernel
theorem dX11_sets_9 : decode cX11_sets 9 = .ok (.imul, 1) := by decide +kernel
theorem dX11_sets_10 : decode cX11_sets 10 = .ok (.iadd, 1) := by decide +kernel
theorem dX11_sets_11 : decode cX11_sets 11 = .ok (.iload_n 2, 1) := by decide +kernel
theorem dX11_sets_12 : decode cX11_sets 12 = .ok (.iadd, 1) := by decide +kernel
theorem dX11_sets_13 : decode cX11_sets 13 = .ok (.iload_n 3, 1) := by decide +kernel
theorem dX11_sets_14 : decode cX11_sets 14 = .ok (.iastore, 1) := by decide +kernel
theorem dX11_sets_15 : decode cX11_sets 15 = .ok (.return_, 1) := by decide +kernel
theorem dX11_where_0 : decode cX11_where 0 = .ok (.aload_n 0, 1) := by decide +kernel
theorem dX11_where_1 : decode cX11_where 1 = .ok (.getfield 9, 3) := by decide +kernel
theorem dX11_where_4 : decode cX11_where 4 = .ok (.bipush 90, 2) := by decide +kernel
theorem dX11_where_6 : decode cX11_where 6 = .ok (.iconst 3, 1) := by decide +kernel
theorem dX11_where_7 : decode cX11_where 7 = .ok (.iload_n 1, 1) := by decide +kernel
theorem dX11_where_8 : decode cX11_where 8 = .ok (.imul, 1) := by decide +kernel
theorem dX11_where_9 : decode cX11_where 9 = .ok (.iadd, 1) := by decide +kernel
theorem dX11_where_10 : decode cX11_where 10 = .ok (.iconst 1, 1) := by decide +kernel
theorem dX11_where_11 : decode cX11_where 11 = .ok (.iadd, 1) := by decide +kernel
theorem dX11_where_12 : decode cX11_where 12 = .ok (.iaload, 1) := by decide +kernel
theorem dX11_where_13 : decode cX11_where 13 = .ok (.iconst 1, 1) := by decide +kernel
theorem dX11_where_14 : decode cX11_where 14 = .ok (.isub, 1) := by decide +kernel
theorem dX11_where_15 : decode cX11_where 15 = .ok (.ireturn, 1) := by decide +kernel
theorem dX11_clear_0 : decode cX11_clear 0 = .ok (.aload_n 0, 1) := by decide +kernel
theorem dX11_clear_1 : decode cX11_clear 1 = .ok (.getfield 9, 3) := by decide +kernel
theorem dX11_clear_4 : decode cX11_clear 4 = .ok (.iconst 0, 1) := by decide +kernel
theorem dX11_clear_5 : decode cX11_clear 5 = .ok (.iaload, 1) := by decide +kernel
theorem dX11_clear_6 : decode cX11_clear 6 = .ok (.istore_n 1, 1) := by decide +kernel
theorem dX11_clear_7 : decode cX11_clear 7 = .ok (.aload_n 0, 1) := by decide +kernel
theorem dX11_clear_8 : decode cX11_clear 8 = .ok (.invokevirtual 42, 3) := by decide +kernel
theorem dX11_clear_11 : decode cX11_clear 11 = .ok (.aload_n 0, 1) := by decide +kernel
theorem dX11_clear_12 : decode cX11_clear 12 = .ok (.iconst 0, 1) := by decide +kernel
theorem dX11_clear_13 : decode cX11_clear 13 = .ok (.putfield 45, 3) := by decide +kernel
theorem dX11_clear_16 : decode cX11_clear 16 = .ok (.iload_n 1, 1) := by decide +kernel
theorem dX11_clear_17 : decode cX11_clear 17 = .ok (.ireturn, 1) := by decide +kernel
theorem dX11_append_0 : decode cX11_append 0 = .ok (.iload_n 1, 1) := by decide +kernel
theorem dX11_append_1 : decode cX11_append 1 = .ok (.bipush 32, 2) := by decide +kernel
theorem dX11_append_3 : decode cX11_append 3 = .ok (.bipush 126, 2) := by decide +kernel
theorem dX11_append_5 : decode cX11_append 5 = .ok (.invokestatic 58, 3) := by decide +kernel
theorem dX11_append_8 : decode cX11_append 8 = .ok (.ifCond .eq 12, 3) := by decide +kernel
theorem dX11_append_11 : decode cX11_append 11 = .ok (.aload_n 0, 1) := by decide +kernel
theorem dX11_append_12 : decode cX11_append 12 = .ok (.getfield 62, 3) := by decide +kernel
theorem dX11_append_15 : decode cX11_append 15 = .ok (.bipush 60, 2) := by decide +kernel
theorem dX11_append_17 : decode cX11_append 17 = .ok (.if_icmp .ne 6, 3) := by decide +kernel
theorem dX11_append_20 : decode cX11_append 20 = .ok (.bipush (-2), 2) := by decide +kernel
theorem dX11_append_22 : decode cX11_append 22 = .ok (.ireturn, 1) := by decide +kernel
theorem dX11_append_23 : decode cX11_append 23 = .ok (.aload_n 0, 1) := by decide +kernel
theorem dX11_append_24 : decode cX11_append 24 = .ok (.getfield 28, 3) := by decide +kernel
theorem dX11_append_27 : decode cX11_append 27 = .ok (.aload_n 0, 1) := by decide +kernel
theorem dX11_append_28 : decode cX11_append 28 = .ok (.dup, 1) := by decide +kernel
theorem dX11_append_29 : decode cX11_append 29 = .ok (.getfield 62, 3) := by decide +kernel
theorem dX11_append_32 : decode cX11_append 32 = .ok (.dup_x1, 1) := by decide +kernel
theorem dX11_append_33 : decode cX11_append 33 = .ok (.iconst 1, 1) := by decide +kernel
theorem dX11_append_34 : decode cX11_append 34 = .ok (.iadd, 1) := by decide +kernel
theorem dX11_append_35 : decode cX11_append 35 = .ok (.putfield 62, 3) := by decide +kernel
theorem dX11_append_38 : decode cX11_append 38 = .ok (.iload_n 1, 1) := by decide +kernel
theorem dX11_append_39 : decode cX11_append 39 = .ok (.castore, 1) := by decide +kernel
theorem dX11_append_40 : decode cX11_append 40 = .ok (.aload_n 0, 1) := by decide +kernel
theorem dX11_append_41 : decode cX11_append 41 = .ok (.getfield 62, 3) := by decide +kernel
theorem dX11_append_44 : decode cX11_append 44 = .ok (.ireturn, 1) := by decide +kernel
theorem dX11_bundle_0 : decode cX11_bundle 0 = .ok (.aload_n 0, 1) := by decide +kernel
theorem dX11_bundle_1 : decode cX11_bundle 1 = .ok (.invokevirtual 65, 3) := by decide +kernel
theorem dX11_bundle_4 : decode cX11_bundle 4 = .ok (.iload_n 1, 1) := by decide +kernel
theorem dX11_bundle_5 : decode cX11_bundle 5 = .ok (.iconst 1, 1) := by decide +kernel
theorem dX11_bundle_6 : decode cX11_bundle 6 = .ok (.bipush 30, 2) := by decide +kernel
theorem dX11_bundle_8 : decode cX11_bundle 8 = .ok (.invokestatic 58, 3) := by decide +kernel
theorem dX11_bundle_11 : decode cX11_bundle 11 = .ok (.ifCond .eq 13, 3) := by decide +kernel
theorem dX11_bundle_14 : decode cX11_bundle 14 = .ok (.iload_n 2, 1) := by decide +kernel
theorem dX11_bundle_15 : decode cX11_bundle 15 = .ok (.iconst 0, 1) := by decide +kernel
theorem dX11_bundle_16 : decode cX11_bundle 16 = .ok (.bipush 60, 2) := by decide +kernel
theorem dX11_bundle_18 : decode cX11_bundle 18 = .ok (.invokestatic 58, 3) := by decide +kernel
theorem dX11_bundle_21 : decode cX11_bundle 21 = .ok (.ifCond .ne 6, 3) := by decide +kernel
theorem dX11_bundle_24 : decode cX11_bundle 24 = .ok (.bipush (-2), 2) := by decide +kernel
theorem dX11_bundle_26 : decode cX11_bundle 26 = .ok (.ireturn, 1) := by decide +kernel
theorem dX11_bundle_27 : decode cX11_bundle 27 = .ok (.aload_n 0, 1) := by decide +kernel
theorem dX11_bundle_28 : decode cX11_bundle 28 = .ok (.getfield 9, 3) := by decide +kernel
theorem dX11_bundle_31 : decode cX11_bundle 31 = .ok (.iconst 2, 1) := by decide +kernel
theorem dX11_bundle_32 : decode cX11_bundle 32 = .ok (.iaload, 1) := by decide +kernel
theorem dX11_bundle_33 : decode cX11_bundle 33 = .ok (.istore_n 3, 1) := by decide +kernel
theorem dX11_bundle_34 : decode cX11_bundle 34 = .ok (.iload_n 3, 1) := by decide +kernel
theorem dX11_bundle_35 : decode cX11_bundle 35 = .ok (.bipush 8, 2) := by decide +kernel
theorem dX11_bundle_37 : decode cX11_bundle 37 = .ok (.if_icmp .ne 11, 3) := by decide +kernel
theorem dX11_bundle_40 : decode cX11_bundle 40 = .ok (.aload_n 0, 1) := by decide +kernel
theorem dX11_bundle_41 : decode cX11_bundle 41 = .ok (.iconst 1, 1) := by decide +kernel
theorem dX11_bundle_42 : decode cX11_bundle 42 = .ok (.bipush 8, 2) := by decide +kernel
theorem dX11_bundle_44 : decode cX11_bundle 44 = .ok (.invokevirtual 68, 3) := by decide +kernel
theorem dX11_bundle_47 : decode cX11_bundle 47 = .ok (.ireturn, 1) := by decide +kernel
theorem dX11_bundle_48 : decode cX11_bundle 48 = .ok (.aload_n 0, 1) := by decide +kernel
theorem dX11_bundle_49 : decode cX11_bundle 49 = .ok (.getfield 9, 3) := by decide +kernel
theorem dX11_bundle_52 : decode cX11_bundle 52 = .ok (.iconst 2, 1) := by decide +kernel
theorem dX11_bundle_53 : decode cX11_bundle 53 = .ok (.dup2, 1) := by decide +kernel
theorem dX11_bundle_54 : decode cX11_bundle 54 = .ok (.iaload, 1) := by decide +kernel
theorem dX11_bundle_55 : decode cX11_bundle 55 = .ok (.iconst 1, 1) := by decide +kernel
theorem dX11_bundle_56 : decode cX11_bundle 56 = .ok (.iadd, 1) := by decide +kernel
theorem dX11_bundle_57 : decode cX11_bundle 57 = .ok (.iastore, 1) := by decide +kernel
theorem dX11_bundle_58 : decode cX11_bundle 58 = .ok (.aload_n 0, 1) := by decide +kernel
theorem dX11_bundle_59 : decode cX11_bundle 59 = .ok (.getfield 9, 3) := by decide +kernel
theorem dX11_bundle_62 : decode cX11_bundle 62 = .ok (.bipush 14, 2) := by decide +kernel
theorem dX11_bundle_64 : decode cX11_bundle 64 = .ok (.iconst 2, 1) := by decide +kernel
theorem dX11_bundle_65 : decode cX11_bundle 65 = .ok (.iload_n 3, 1) := by decide +kernel
theorem dX11_bundle_66 : decode cX11_bundle 66 = .ok (.imul, 1) := by decide +kernel
theorem dX11_bundle_67 : decode cX11_bundle 67 = .ok (.iadd, 1) := by decide +kernel
theorem dX11_bundle_68 : decode cX11_bundle 68 = .ok (.iload_n 1, 1) := by decide +kernel
theorem dX11_bundle_69 : decode cX11_bundle 69 = .ok (.iastore, 1) := by decide +kernel
theorem dX11_bundle_70 : decode cX11_bundle 70 = .ok (.aload_n 0, 1) := by decide +kernel
theorem dX11_bundle_71 : decode cX11_bundle 71 = .ok (.getfield 9, 3) := by decide +kernel
theorem dX11_bundle_74 : decode cX11_bundle 74 = .ok (.bipush 14, 2) := by decide +kernel
theorem dX11_bundle_76 : decode cX11_bundle 76 = .ok (.iconst 2, 1) := by decide +kernel
theorem dX11_bundle_77 : decode cX11_bundle 77 = .ok (.iload_n 3, 1) := by decide +kernel
theorem dX11_bundle_78 : decode cX11_bundle 78 = .ok (.imul, 1) := by decide +kernel
theorem dX11_bundle_79 : decode cX11_bundle 79 = .ok (.iadd, 1) := by decide +kernel
theorem dX11_bundle_80 : decode cX11_bundle 80 = .ok (.iconst 1, 1) := by decide +kernel
theorem dX11_bundle_81 : decode cX11_bundle 81 = .ok (.iadd, 1) := by decide +kernel
theorem dX11_bundle_82 : decode cX11_bundle 82 = .ok (.iload_n 2, 1) := by decide +kernel
theorem dX11_bundle_83 : decode cX11_bundle 83 = .ok (.iastore, 1) := by decide +kernel
theorem dX11_bundle_84 : decode cX11_bundle 84 = .ok (.aload_n 0, 1) := by decide +kernel
theorem dX11_bundle_85 : decode cX11_bundle 85 = .ok (.iload_n 3, 1) := by decide +kernel
theorem dX11_bundle_86 : decode cX11_bundle 86 = .ok (.invokevirtual 54, 3) := by decide +kernel
theorem dX11_bundle_89 : decode cX11_bundle 89 = .ok (.ireturn, 1) := by decide +kernel
theorem dX11_strips_0 : decode cX11_strips 0 = .ok (.aload_n 0, 1) := by decide +kernel
theorem dX11_strips_1 : decode cX11_strips 1 = .ok (.invokevirtual 65, 3) := by decide +kernel
theorem dX11_strips_4 : decode cX11_strips 4 = .ok (.iload_n 1, 1) := by decide +kernel
theorem dX11_strips_5 : decode cX11_strips 5 = .ok (.iconst 1, 1) := by decide +kernel
theorem dX11_strips_6 : decode cX11_strips 6 = .ok (.bipush 99, 2) := by decide +kernel
theorem dX11_strips_8 : decode cX11_strips 8 = .ok (.invokestatic 58, 3) := by decide +kernel
theorem dX11_strips_11 : decode cX11_strips 11 = .ok (.ifCond .ne 6, 3) := by decide +kernel
theorem dX11_strips_14 : decode cX11_strips 14 = .ok (.bipush (-2), 2) := by decide +kernel
theorem dX11_strips_16 : decode cX11_strips 16 = .ok (.ireturn, 1) := by decide +kernel
theorem dX11_strips_17 : decode cX11_strips 17 = .ok (.aload_n 0, 1) := by decide +kernel
theorem dX11_strips_18 : decode cX11_strips 18 = .ok (.getfield 9, 3) := by decide +kernel
theorem dX11_strips_21 : decode cX11_strips 21 = .ok (.bipush 6, 2) := by decide +kernel
theorem dX11_strips_23 : decode cX11_strips 23 = .ok (.sipush 200, 3) := by decide +kernel
theorem dX11_strips_26 : decode cX11_strips 26 = .ok (.aload_n 0, 1) := by decide +kernel
theorem dX11_strips_27 : decode cX11_strips 27 = .ok (.getfield 9, 3) := by decide +kernel
theorem dX11_strips_30 : decode cX11_strips 30 = .ok (.bipush 6, 2) := by decide +kernel
theorem dX11_strips_32 : decode cX11_strips 32 = .ok (.iaload, 1) := by decide +kernel
theorem dX11_strips_33 : decode cX11_strips 33 = .ok (.iload_n 1, 1) := by decide +kernel
theorem dX11_strips_34 : decode cX11_strips 34 = .ok (.iadd, 1) := by decide +kernel
theorem dX11_strips_35 : decode cX11_strips 35 = .ok (.invokestatic 72, 3) := by decide +kernel
theorem dX11_strips_38 : decode cX11_strips 38 = .ok (.iastore, 1) := by decide +kernel
theorem dX11_strips_39 : decode cX11_strips 39 = .ok (.aload_n 0, 1) := by decide +kernel
theorem dX11_strips_40 : decode cX11_strips 40 = .ok (.aload_n 0, 1) := by decide +kernel
theorem dX11_strips_41 : decode cX11_strips 41 = .ok (.getfield 9, 3) := by decide +kernel
theorem dX11_strips_44 : decode cX11_strips 44 = .ok (.bipush 6, 2) := by decide +kernel
theorem dX11_strips_46 : decode cX11_strips 46 = .ok (.iaload, 1) := by decide +kernel
theorem dX11_strips_47 : decode cX11_strips 47 = .ok (.invokevirtual 54, 3) := by decide +kernel
theorem dX11_strips_50 : decode cX11_strips 50 = .ok (.ireturn, 1) := by decide +kernel
theorem dX11_builds_0 : decode cX11_builds 0 = .ok (.aload_n 0, 1) := by decide +kernel
theorem dX11_builds_1 : decode cX11_builds 1 = .ok (.iload_n 1, 1) := by decide +kernel
theorem dX11_builds_2 : decode cX11_builds 2 = .ok (.invokevirtual 77, 3) := by decide +kernel
theorem dX11_builds_5 : decode cX11_builds 5 = .ok (.ifCond .ne 5, 3) := by decide +kernel
theorem dX11_builds_8 : decode cX11_builds 8 = .ok (.iconst (-1), 1) := by decide +kernel
theorem dX11_builds_9 : decode cX11_builds 9 = .ok (.ireturn, 1) := by decide +kernel
theorem dX11_builds_10 : decode cX11_builds 10 = .ok (.iload_n 2, 1) := by decide +kernel
theorem dX11_builds_11 : decode cX11_builds 11 = .ok (.iconst 4, 1) := by decide +kernel
theorem dX11_builds_12 : decode cX11_builds 12 = .ok (.bipush 8, 2) := by decide +kernel
theorem dX11_builds_14 : decode cX11_builds 14 = .ok (.invokestatic 58, 3) := by decide +kernel
theorem dX11_builds_17 : decode cX11_builds 17 = .ok (.ifCond .eq 13, 3) := by decide +kernel
theorem dX11_builds_20 : decode cX11_builds 20 = .ok (.iload_n 3, 1) := by decide +kernel
theorem dX11_builds_21 : decode cX11_builds 21 = .ok (.iconst 0, 1) := by decide +kernel
theorem dX11_builds_22 : decode cX11_builds 22 = .ok (.bipush 40, 2) := by decide +kernel
theorem dX11_builds_24 : decode cX11_builds 24 = .ok (.invokestatic 58, 3) := by decide +kernel
theorem dX11_builds_27 : decode cX11_builds 27 = .ok (.ifCond .ne 6, 3) := by decide +kernel
theorem dX11_builds_30 : decode cX11_builds 30 = .ok (.bipush (-2), 2) := by decide +kernel
theorem dX11_builds_32 : decode cX11_builds 32 = .ok (.ireturn, 1) := by decide +kernel
theorem dX11_builds_33 : decode cX11_builds 33 = .ok (.aload_n 0, 1) := by decide +kernel
theorem dX11_builds_34 : decode cX11_builds 34 = .ok (.getfield 9, 3) := by decide +kernel
theorem dX11_builds_37 : decode cX11_builds 37 = .ok (.iconst 3, 1) := by decide +kernel
theorem dX11_builds_38 : decode cX11_builds 38 = .ok (.iaload, 1) := by decide +kernel
theorem dX11_builds_39 : decode cX11_builds 39 = .ok (.istore 4, 2) := by decide +kernel
theorem dX11_builds_41 : decode cX11_builds 41 = .ok (.iload 4, 2) := by decide +kernel
theorem dX11_builds_43 : decode cX11_builds 43 = .ok (.bipush 10, 2) := by decide +kernel
theorem dX11_builds_45 : decode cX11_builds 45 = .ok (.if_icmp .ne 11, 3) := by decide +kernel
theorem dX11_builds_48 : decode cX11_builds 48 = .ok (.aload_n 0, 1) := by decide +kernel
theorem dX11_builds_49 : decode cX11_builds 49 = .ok (.iconst 1, 1) := by decide +kernel
theorem dX11_builds_50 : decode cX11_builds 50 = .ok (.bipush 10, 2) := by decide +kernel
theorem dX11_builds_52 : decode cX11_builds 52 = .ok (.invokevirtual 68, 3) := by decide +kernel
theorem dX11_builds_55 : decode cX11_builds 55 = .ok (.ireturn, 1) := by decide +kernel
theorem dX11_builds_56 : decode cX11_builds 56 = .ok (.aload_n 0, 1) := by decide +kernel
theorem dX11_builds_57 : decode cX11_builds 57 = .ok (.getfield 9, 3) := by decide +kernel
theorem dX11_builds_60 : decode cX11_builds 60 = .ok (.iconst 1, 1) := by decide +kernel
theorem dX11_builds_61 : decode cX11_builds 61 = .ok (.iaload, 1) := by decide +kernel
theorem dX11_builds_62 : decode cX11_builds 62 = .ok (.iconst 3, 1) := by decide +kernel
theorem dX11_builds_63 : decode cX11_builds 63 = .ok (.if_icmp .lt 15, 3) := by decide +kernel
theorem dX11_builds_66 : decode cX11_builds 66 = .ok (.aload_n 0, 1) := by decide +kernel
theorem dX11_builds_67 : decode cX11_builds 67 = .ok (.iconst 4, 1) := by decide +kernel
theorem dX11_builds_68 : decode cX11_builds 68 = .ok (.aload_n 0, 1) := by decide +kernel
theorem dX11_builds_69 : decode cX11_builds 69 = .ok (.getfield 9, 3) := by decide +kernel
theorem dX11_builds_72 : decode cX11_builds 72 = .ok (.iconst 1, 1) := by decide +kernel
theorem dX11_builds_73 : decode cX11_builds 73 = .ok (.iaload, 1) := by decide +kernel
theorem dX11_builds_74 : decode cX11_builds 74 = .ok (.invokevirtual 68, 3) := by decide +kernel
theorem dX11_builds_77 : decode cX11_builds 77 = .ok (.ireturn, 1) := by decide +kernel
theorem dX11_builds_78 : decode cX11_builds 78 = .ok (.aload_n 0, 1) := by decide +kernel
theorem dX11_builds_79 : decode cX11_builds 79 = .ok (.getfield 9, 3) := by decide +kernel
theorem dX11_builds_82 : decode cX11_builds 82 = .ok (.bipush 14, 2) := by decide +kernel
theorem dX11_builds_84 : decode cX11_builds 84 = .ok (.iconst 2, 1) := by decide +kernel
theorem dX11_builds_85 : decode cX11_builds 85 = .ok (.iload_n 1, 1) := by decide +kernel
theorem dX11_builds_86 : decode cX11_builds 86 = .ok (.imul, 1) := by decide +kernel
theorem dX11_builds_87 : decode cX11_builds 87 = .ok (.iadd, 1) := by decide +kernel
theorem dX11_builds_88 : decode cX11_builds 88 = .ok (.iaload, 1) := by decide +kernel
theorem dX11_builds_89 : decode cX11_builds 89 = .ok (.iload_n 2, 1) := by decide +kernel
theorem dX11_builds_90 : decode cX11_builds 90 = .ok (.if_icmp .ge 20, 3) := by decide +kernel
theorem dX11_builds_93 : decode cX11_builds 93 = .ok (.aload_n 0, 1) := by decide +kernel
theorem dX11_builds_94 : decode cX11_builds 94 = .ok (.iconst 2, 1) := by decide +kernel
theorem dX11_builds_95 : decode cX11_builds 95 = .ok (.aload_n 0, 1) := by decide +kernel
theorem dX11_builds_96 : decode cX11_builds 96 = .ok (.getfield 9, 3) := by decide +kernel
theorem dX11_builds_99 : decode cX11_builds 99 = .ok (.bipush 14, 2) := by decide +kernel
theorem dX11_builds_101 : decode cX11_builds 101 = .ok (.iconst 2, 1) := by decide +kernel
theorem dX11_builds_102 : decode cX11_builds 102 = .ok (.iload_n 1, 1) := by decide +kernel
theorem dX11_builds_103 : decode cX11_builds 103 = .ok (.imul, 1) := by decide +kernel
theorem dX11_builds_104 : decode cX11_builds 104 = .ok (.iadd, 1) := by decide +kernel
theorem dX11_builds_105 : decode cX11_builds 105 = .ok (.iaload, 1) := by decide +kernel
theorem dX11_builds_106 : decode cX11_builds 106 = .ok (.invokevirtual 68, 3) := by decide +kernel
theorem dX11_builds_109 : decode cX11_builds 109 = .ok (.ireturn, 1) := by decide +kernel
theorem dX11_builds_110 : decode cX11_builds 110 = .ok (.aload_n 0, 1) := by decide +kernel
theorem dX11_builds_111 : decode cX11_builds 111 = .ok (.getfield 9, 3) := by decide +kernel
theorem dX11_builds_114 : decode cX11_builds 114 = .ok (.bipush 6, 2) := by decide +kernel
theorem dX11_builds_116 : decode cX11_builds 116 = .ok (.iaload, 1) := by decide +kernel
theorem dX11_builds_117 : decode cX11_builds 117 = .ok (.iconst 2, 1) := by decide +kernel
theorem dX11_builds_118 : decode cX11_builds 118 = .ok (.iload_n 2, 1) := by decide +kernel
theorem dX11_builds_119 : decode cX11_builds 119 = .ok (.imul, 1) := by decide +kernel
theorem dX11_builds_120 : decode cX11_builds 120 = .ok (.if_icmp .ge 20, 3) := by decide +kernel
theorem dX11_builds_123 : decode cX11_builds 123 = .ok (.aload_n 0, 1) := by decide +kernel
theorem dX11_builds_124 : decode cX11_builds 124 = .ok (.iconst 3, 1) := by decide +kernel
theorem dX11_builds_125 : decode cX11_builds 125 = .ok (.iconst 2, 1) := by decide +kernel
theorem dX11_builds_126 : decode cX11_builds 126 = .ok (.iload_n 2, 1) := by decide +kernel
theorem dX11_builds_127 : decode cX11_builds 127 = .ok (.imul, 1) := by decide +kernel
theorem dX11_builds_128 : decode cX11_builds 128 = .ok (.aload_n 0, 1) := by decide +kernel
theorem dX11_builds_129 : decode cX11_builds 129 = .ok (.getfield 9, 3) := by decide +kernel
theorem dX11_builds_132 : decode cX11_builds 132 = .ok (.bipush 6, 2) := by decide +kernel
theorem dX11_builds_134 : decode cX11_builds 134 = .ok (.iaload, 1) := by decide +kernel
theorem dX11_builds_135 : decode cX11_builds 135 = .ok (.isub, 1) := by decide +kernel
theorem dX11_builds_136 : decode cX11_builds 136 = .ok (.invokevirtual 68, 3) := by decide +kernel
theorem dX11_builds_139 : decode cX11_builds 139 = .ok (.ireturn, 1) := by decide +kernel
theorem dX11_builds_140 : decode cX11_builds 140 = .ok (.aload_n 0, 1) := by decide +kernel
theorem dX11_builds_141 : decode cX11_builds 141 = .ok (.getfield 9, 3) := by decide +kernel
theorem dX11_builds_144 : decode cX11_builds 144 = .ok (.bipush 14, 2) := by decide +kernel
theorem dX11_builds_146 : decode cX11_builds 146 = .ok (.iconst 2, 1) := by decide +kernel
theorem dX11_builds_147 : decode cX11_builds 147 = .ok (.iload_n 1, 1) := by decide +kernel
end
section
theorem dX11_builds_148 : decode cX11_builds 148 = .ok (.imul, 1) := by decide +kernel
theorem dX11_builds_149 : decode cX11_builds 149 = .ok (.iadd, 1) := by decide +kernel
theorem dX11_builds_150 : decode cX11_builds 150 = .ok (.dup2, 1) := by decide +kernel
theorem dX11_builds_151 : decode cX11_builds 151 = .ok (.iaload, 1) := by decide +kernel
theorem dX11_builds_152 : decode cX11_builds 152 = .ok (.iload_n 2, 1) := by decide +kernel
theorem dX11_builds_153 : decode cX11_builds 153 = .ok (.isub, 1) := by decide +kernel
theorem dX11_builds_154 : decode cX11_builds 154 = .ok (.iastore, 1) := by decide +kernel
theorem dX11_builds_155 : decode cX11_builds 155 = .ok (.aload_n 0, 1) := by decide +kernel
theorem dX11_builds_156 : decode cX11_builds 156 = .ok (.getfield 9, 3) := by decide +kernel
theorem dX11_builds_159 : decode cX11_builds 159 = .ok (.bipush 6, 2) := by decide +kernel
theorem dX11_builds_161 : decode cX11_builds 161 = .ok (.dup2, 1) := by decide +kernel
theorem dX11_builds_162 : decode cX11_builds 162 = .ok (.iaload, 1) := by decide +kernel
theorem dX11_builds_163 : decode cX11_builds 163 = .ok (.iconst 2, 1) := by decide +kernel
theorem dX11_builds_164 : decode cX11_builds 164 = .ok (.iload_n 2, 1) := by decide +kernel
theorem dX11_builds_165 : decode cX11_builds 165 = .ok (.imul, 1) := by decide +kernel
theorem dX11_builds_166 : decode cX11_builds 166 = .ok (.isub, 1) := by decide +kernel
theorem dX11_builds_167 : decode cX11_builds 167 = .ok (.iastore, 1) := by decide +kernel
theorem dX11_builds_168 : decode cX11_builds 168 = .ok (.aload_n 0, 1) := by decide +kernel
theorem dX11_builds_169 : decode cX11_builds 169 = .ok (.getfield 9, 3) := by decide +kernel
theorem dX11_builds_172 : decode cX11_builds 172 = .ok (.bipush 12, 2) := by decide +kernel
theorem dX11_builds_174 : decode cX11_builds 174 = .ok (.dup2, 1) := by decide +kernel
theorem dX11_builds_175 : decode cX11_builds 175 = .ok (.iaload, 1) := by decide +kernel
theorem dX11_builds_176 : decode cX11_builds 176 = .ok (.iload_n 3, 1) := by decide +kernel
theorem dX11_builds_177 : decode cX11_builds 177 = .ok (.iadd, 1) := by decide +kernel
theorem dX11_builds_178 : decode cX11_builds 178 = .ok (.iastore, 1) := by decide +kernel
theorem dX11_builds_179 : decode cX11_builds 179 = .ok (.aload_n 0, 1) := by decide +kernel
theorem dX11_builds_180 : decode cX11_builds 180 = .ok (.getfield 9, 3) := by decide +kernel
theorem dX11_builds_183 : decode cX11_builds 183 = .ok (.iconst 3, 1) := by decide +kernel
theorem dX11_builds_184 : decode cX11_builds 184 = .ok (.dup2, 1) := by decide +kernel
theorem dX11_builds_185 : decode cX11_builds 185 = .ok (.iaload, 1) := by decide +kernel
theorem dX11_builds_186 : decode cX11_builds 186 = .ok (.iconst 1, 1) := by decide +kernel
theorem dX11_builds_187 : decode cX11_builds 187 = .ok (.iadd, 1) := by decide +kernel
theorem dX11_builds_188 : decode cX11_builds 188 = .ok (.iastore, 1) := by decide +kernel
theorem dX11_builds_189 : decode cX11_builds 189 = .ok (.iconst 0, 1) := by decide +kernel
theorem dX11_builds_190 : decode cX11_builds 190 = .ok (.istore 5, 2) := by decide +kernel
theorem dX11_builds_192 : decode cX11_builds 192 = .ok (.iload 5, 2) := by decide +kernel
theorem dX11_builds_194 : decode cX11_builds 194 = .ok (.bipush 6, 2) := by decide +kernel
theorem dX11_builds_196 : decode cX11_builds 196 = .ok (.if_icmp .ge 18, 3) := by decide +kernel
theorem dX11_builds_199 : decode cX11_builds 199 = .ok (.aload_n 0, 1) := by decide +kernel
theorem dX11_builds_200 : decode cX11_builds 200 = .ok (.iload 4, 2) := by decide +kernel
theorem dX11_builds_202 : decode cX11_builds 202 = .ok (.iload 5, 2) := by decide +kernel
theorem dX11_builds_204 : decode cX11_builds 204 = .ok (.iconst 0, 1) := by decide +kernel
theorem dX11_builds_205 : decode cX11_builds 205 = .ok (.invokevirtual 81, 3) := by decide +kernel
theorem dX11_builds_208 : decode cX11_builds 208 = .ok (.iinc 5 1, 3) := by decide +kernel
theorem dX11_builds_211 : decode cX11_builds 211 = .ok (.goto (-19), 3) := by decide +kernel
theorem dX11_builds_214 : decode cX11_builds 214 = .ok (.aload_n 0, 1) := by decide +kernel
theorem dX11_builds_215 : decode cX11_builds 215 = .ok (.iload 4, 2) := by decide +kernel
theorem dX11_builds_217 : decode cX11_builds 217 = .ok (.iconst 0, 1) := by decide +kernel
theorem dX11_builds_218 : decode cX11_builds 218 = .ok (.iload_n 2, 1) := by decide +kernel
theorem dX11_builds_219 : decode cX11_builds 219 = .ok (.invokevirtual 81, 3) := by decide +kernel
theorem dX11_builds_222 : decode cX11_builds 222 = .ok (.aload_n 0, 1) := by decide +kernel
theorem dX11_builds_223 : decode cX11_builds 223 = .ok (.iload 4, 2) := by decide +kernel
theorem dX11_builds_225 : decode cX11_builds 225 = .ok (.iconst 1, 1) := by decide +kernel
theorem dX11_builds_226 : decode cX11_builds 226 = .ok (.aload_n 0, 1) := by decide +kernel
theorem dX11_builds_227 : decode cX11_builds 227 = .ok (.getfield 9, 3) := by decide +kernel
theorem dX11_builds_230 : decode cX11_builds 230 = .ok (.bipush 14, 2) := by decide +kernel
theorem dX11_builds_232 : decode cX11_builds 232 = .ok (.iconst 2, 1) := by decide +kernel
theorem dX11_builds_233 : decode cX11_builds 233 = .ok (.iload_n 1, 1) := by decide +kernel
theorem dX11_builds_234 : decode cX11_builds 234 = .ok (.imul, 1) := by decide +kernel
theorem dX11_builds_235 : decode cX11_builds 235 = .ok (.iadd, 1) := by decide +kernel
theorem dX11_builds_236 : decode cX11_builds 236 = .ok (.iconst 1, 1) := by decide +kernel
theorem dX11_builds_237 : decode cX11_builds 237 = .ok (.iadd, 1) := by decide +kernel
theorem dX11_builds_238 : decode cX11_builds 238 = .ok (.iaload, 1) := by decide +kernel
theorem dX11_builds_239 : decode cX11_builds 239 = .ok (.invokevirtual 81, 3) := by decide +kernel
theorem dX11_builds_242 : decode cX11_builds 242 = .ok (.aload_n 0, 1) := by decide +kernel
theorem dX11_builds_243 : decode cX11_builds 243 = .ok (.iload 4, 2) := by decide +kernel
theorem dX11_builds_245 : decode cX11_builds 245 = .ok (.iconst 3, 1) := by decide +kernel
theorem dX11_builds_246 : decode cX11_builds 246 = .ok (.iload_n 3, 1) := by decide +kernel
theorem dX11_builds_247 : decode cX11_builds 247 = .ok (.invokevirtual 81, 3) := by decide +kernel
theorem dX11_builds_250 : decode cX11_builds 250 = .ok (.aload_n 0, 1) := by decide +kernel
theorem dX11_builds_251 : decode cX11_builds 251 = .ok (.iload 4, 2) := by decide +kernel
theorem dX11_builds_253 : decode cX11_builds 253 = .ok (.invokevirtual 85, 3) := by decide +kernel
theorem dX11_builds_256 : decode cX11_builds 256 = .ok (.ireturn, 1) := by decide +kernel
theorem dX11_build_0 : decode cX11_build 0 = .ok (.aload_n 0, 1) := by decide +kernel
theorem dX11_build_1 : decode cX11_build 1 = .ok (.invokevirtual 65, 3) := by decide +kernel
theorem dX11_build_4 : decode cX11_build 4 = .ok (.aload_n 0, 1) := by decide +kernel
theorem dX11_build_5 : decode cX11_build 5 = .ok (.aload_n 0, 1) := by decide +kernel
theorem dX11_build_6 : decode cX11_build 6 = .ok (.iload_n 1, 1) := by decide +kernel
theorem dX11_build_7 : decode cX11_build 7 = .ok (.iload_n 2, 1) := by decide +kernel
theorem dX11_build_8 : decode cX11_build 8 = .ok (.iload_n 3, 1) := by decide +kernel
theorem dX11_build_9 : decode cX11_build 9 = .ok (.invokevirtual 88, 3) := by decide +kernel
theorem dX11_build_12 : decode cX11_build 12 = .ok (.invokevirtual 92, 3) := by decide +kernel
theorem dX11_build_15 : decode cX11_build 15 = .ok (.ireturn, 1) := by decide +kernel
theorem dX11_ties_0 : decode cX11_ties 0 = .ok (.aload_n 0, 1) := by decide +kernel
theorem dX11_ties_1 : decode cX11_ties 1 = .ok (.iload_n 1, 1) := by decide +kernel
theorem dX11_ties_2 : decode cX11_ties 2 = .ok (.invokevirtual 95, 3) := by decide +kernel
theorem dX11_ties_5 : decode cX11_ties 5 = .ok (.ifCond .ne 5, 3) := by decide +kernel
theorem dX11_ties_8 : decode cX11_ties 8 = .ok (.iconst (-1), 1) := by decide +kernel
theorem dX11_ties_9 : decode cX11_ties 9 = .ok (.ireturn, 1) := by decide +kernel
theorem dX11_ties_10 : decode cX11_ties 10 = .ok (.aload_n 0, 1) := by decide +kernel
theorem dX11_ties_11 : decode cX11_ties 11 = .ok (.getfield 9, 3) := by decide +kernel
theorem dX11_ties_14 : decode cX11_ties 14 = .ok (.iconst 1, 1) := by decide +kernel
theorem dX11_ties_15 : decode cX11_ties 15 = .ok (.iaload, 1) := by decide +kernel
theorem dX11_ties_16 : decode cX11_ties 16 = .ok (.iconst 3, 1) := by decide +kernel
theorem dX11_ties_17 : decode cX11_ties 17 = .ok (.if_icmp .lt 15, 3) := by decide +kernel
theorem dX11_ties_20 : decode cX11_ties 20 = .ok (.aload_n 0, 1) := by decide +kernel
theorem dX11_ties_21 : decode cX11_ties 21 = .ok (.iconst 4, 1) := by decide +kernel
theorem dX11_ties_22 : decode cX11_ties 22 = .ok (.aload_n 0, 1) := by decide +kernel
theorem dX11_ties_23 : decode cX11_ties 23 = .ok (.getfield 9, 3) := by decide +kernel
theorem dX11_ties_26 : decode cX11_ties 26 = .ok (.iconst 1, 1) := by decide +kernel
theorem dX11_ties_27 : decode cX11_ties 27 = .ok (.iaload, 1) := by decide +kernel
theorem dX11_ties_28 : decode cX11_ties 28 = .ok (.invokevirtual 68, 3) := by decide +kernel
theorem dX11_ties_31 : decode cX11_ties 31 = .ok (.ireturn, 1) := by decide +kernel
theorem dX11_ties_32 : decode cX11_ties 32 = .ok (.aload_n 0, 1) := by decide +kernel
theorem dX11_ties_33 : decode cX11_ties 33 = .ok (.iload_n 1, 1) := by decide +kernel
theorem dX11_ties_34 : decode cX11_ties 34 = .ok (.iconst 2, 1) := by decide +kernel
theorem dX11_ties_35 : decode cX11_ties 35 = .ok (.invokevirtual 98, 3) := by decide +kernel
theorem dX11_ties_38 : decode cX11_ties 38 = .ok (.istore_n 2, 1) := by decide +kernel
theorem dX11_ties_39 : decode cX11_ties 39 = .ok (.iload_n 2, 1) := by decide +kernel
theorem dX11_ties_40 : decode cX11_ties 40 = .ok (.ifCond .ne 11, 3) := by decide +kernel
theorem dX11_ties_43 : decode cX11_ties 43 = .ok (.aload_n 0, 1) := by decide +kernel
theorem dX11_ties_44 : decode cX11_ties 44 = .ok (.bipush 10, 2) := by decide +kernel
theorem dX11_ties_46 : decode cX11_ties 46 = .ok (.iload_n 1, 1) := by decide +kernel
theorem dX11_ties_47 : decode cX11_ties 47 = .ok (.invokevirtual 68, 3) := by decide +kernel
theorem dX11_ties_50 : decode cX11_ties 50 = .ok (.ireturn, 1) := by decide +kernel
theorem dX11_ties_51 : decode cX11_ties 51 = .ok (.iconst 2, 1) := by decide +kernel
theorem dX11_ties_52 : decode cX11_ties 52 = .ok (.aload_n 0, 1) := by decide +kernel
theorem dX11_ties_53 : decode cX11_ties 53 = .ok (.iload_n 1, 1) := by decide +kernel
theorem dX11_ties_54 : decode cX11_ties 54 = .ok (.iconst 0, 1) := by decide +kernel
theorem dX11_ties_55 : decode cX11_ties 55 = .ok (.invokevirtual 98, 3) := by decide +kernel
theorem dX11_ties_58 : decode cX11_ties 58 = .ok (.imul, 1) := by decide +kernel
theorem dX11_ties_59 : decode cX11_ties 59 = .ok (.istore_n 3, 1) := by decide +kernel
theorem dX11_ties_60 : decode cX11_ties 60 = .ok (.aload_n 0, 1) := by decide +kernel
theorem dX11_ties_61 : decode cX11_ties 61 = .ok (.getfield 9, 3) := by decide +kernel
theorem dX11_ties_64 : decode cX11_ties 64 = .ok (.bipush 6, 2) := by decide +kernel
theorem dX11_ties_66 : decode cX11_ties 66 = .ok (.iaload, 1) := by decide +kernel
theorem dX11_ties_67 : decode cX11_ties 67 = .ok (.iload_n 3, 1) := by decide +kernel
theorem dX11_ties_68 : decode cX11_ties 68 = .ok (.if_icmp .ge 18, 3) := by decide +kernel
theorem dX11_ties_71 : decode cX11_ties 71 = .ok (.aload_n 0, 1) := by decide +kernel
theorem dX11_ties_72 : decode cX11_ties 72 = .ok (.iconst 3, 1) := by decide +kernel
theorem dX11_ties_73 : decode cX11_ties 73 = .ok (.iload_n 3, 1) := by decide +kernel
theorem dX11_ties_74 : decode cX11_ties 74 = .ok (.aload_n 0, 1) := by decide +kernel
theorem dX11_ties_75 : decode cX11_ties 75 = .ok (.getfield 9, 3) := by decide +kernel
theorem dX11_ties_78 : decode cX11_ties 78 = .ok (.bipush 6, 2) := by decide +kernel
theorem dX11_ties_80 : decode cX11_ties 80 = .ok (.iaload, 1) := by decide +kernel
theorem dX11_ties_81 : decode cX11_ties 81 = .ok (.isub, 1) := by decide +kernel
theorem dX11_ties_82 : decode cX11_ties 82 = .ok (.invokevirtual 68, 3) := by decide +kernel
theorem dX11_ties_85 : decode cX11_ties 85 = .ok (.ireturn, 1) := by decide +kernel
theorem dX11_ties_86 : decode cX11_ties 86 = .ok (.aload_n 0, 1) := by decide +kernel
theorem dX11_ties_87 : decode cX11_ties 87 = .ok (.getfield 9, 3) := by decide +kernel
theorem dX11_ties_90 : decode cX11_ties 90 = .ok (.bipush 6, 2) := by decide +kernel
theorem dX11_ties_92 : decode cX11_ties 92 = .ok (.dup2, 1) := by decide +kernel
theorem dX11_ties_93 : decode cX11_ties 93 = .ok (.iaload, 1) := by decide +kernel
theorem dX11_ties_94 : decode cX11_ties 94 = .ok (.iload_n 3, 1) := by decide +kernel
theorem dX11_ties_95 : decode cX11_ties 95 = .ok (.isub, 1) := by decide +kernel
theorem dX11_ties_96 : decode cX11_ties 96 = .ok (.iastore, 1) := by decide +kernel
theorem dX11_ties_97 : decode cX11_ties 97 = .ok (.aload_n 0, 1) := by decide +kernel
theorem dX11_ties_98 : decode cX11_ties 98 = .ok (.iload_n 1, 1) := by decide +kernel
theorem dX11_ties_99 : decode cX11_ties 99 = .ok (.iconst 2, 1) := by decide +kernel
theorem dX11_ties_100 : decode cX11_ties 100 = .ok (.iconst 0, 1) := by decide +kernel
theorem dX11_ties_101 : decode cX11_ties 101 = .ok (.invokevirtual 81, 3) := by decide +kernel
theorem dX11_ties_104 : decode cX11_ties 104 = .ok (.aload_n 0, 1) := by decide +kernel
theorem dX11_ties_105 : decode cX11_ties 105 = .ok (.iload_n 1, 1) := by decide +kernel
theorem dX11_ties_106 : decode cX11_ties 106 = .ok (.iconst 5, 1) := by decide +kernel
theorem dX11_ties_107 : decode cX11_ties 107 = .ok (.iconst 0, 1) := by decide +kernel
theorem dX11_ties_108 : decode cX11_ties 108 = .ok (.invokevirtual 81, 3) := by decide +kernel
theorem dX11_ties_111 : decode cX11_ties 111 = .ok (.aload_n 0, 1) := by decide +kernel
theorem dX11_ties_112 : decode cX11_ties 112 = .ok (.iload_n 2, 1) := by decide +kernel
theorem dX11_ties_113 : decode cX11_ties 113 = .ok (.invokevirtual 85, 3) := by decide +kernel
theorem dX11_ties_116 : decode cX11_ties 116 = .ok (.ireturn, 1) := by decide +kernel
theorem dX11_tie_0 : decode cX11_tie 0 = .ok (.aload_n 0, 1) := by decide +kernel
theorem dX11_tie_1 : decode cX11_tie 1 = .ok (.invokevirtual 65, 3) := by decide +kernel
theorem dX11_tie_4 : decode cX11_tie 4 = .ok (.aload_n 0, 1) := by decide +kernel
theorem dX11_tie_5 : decode cX11_tie 5 = .ok (.aload_n 0, 1) := by decide +kernel
theorem dX11_tie_6 : decode cX11_tie 6 = .ok (.iload_n 1, 1) := by decide +kernel
theorem dX11_tie_7 : decode cX11_tie 7 = .ok (.invokevirtual 101, 3) := by decide +kernel
theorem dX11_tie_10 : decode cX11_tie 10 = .ok (.invokevirtual 92, 3) := by decide +kernel
theorem dX11_tie_13 : decode cX11_tie 13 = .ok (.ireturn, 1) := by decide +kernel
theorem dX11_crew_0 : decode cX11_crew 0 = .ok (.aload_n 0, 1) := by decide +kernel
theorem dX11_crew_1 : decode cX11_crew 1 = .ok (.invokevirtual 65, 3) := by decide +kernel
theorem dX11_crew_4 : decode cX11_crew 4 = .ok (.iload_n 1, 1) := by decide +kernel
theorem dX11_crew_5 : decode cX11_crew 5 = .ok (.iconst 1, 1) := by decide +kernel
theorem dX11_crew_6 : decode cX11_crew 6 = .ok (.iconst 4, 1) := by decide +kernel
theorem dX11_crew_7 : decode cX11_crew 7 = .ok (.invokestatic 58, 3) := by decide +kernel
theorem dX11_crew_10 : decode cX11_crew 10 = .ok (.ifCond .ne 6, 3) := by decide +kernel
theorem dX11_crew_13 : decode cX11_crew 13 = .ok (.bipush (-2), 2) := by decide +kernel
theorem dX11_crew_15 : decode cX11_crew 15 = .ok (.ireturn, 1) := by decide +kernel
theorem dX11_crew_16 : decode cX11_crew 16 = .ok (.aload_n 0, 1) := by decide +kernel
theorem dX11_crew_17 : decode cX11_crew 17 = .ok (.getfield 9, 3) := by decide +kernel
theorem dX11_crew_20 : decode cX11_crew 20 = .ok (.iconst 4, 1) := by decide +kernel
theorem dX11_crew_21 : decode cX11_crew 21 = .ok (.iaload, 1) := by decide +kernel
theorem dX11_crew_22 : decode cX11_crew 22 = .ok (.istore_n 2, 1) := by decide +kernel
theorem dX11_crew_23 : decode cX11_crew 23 = .ok (.iload_n 2, 1) := by decide +kernel
theorem dX11_crew_24 : decode cX11_crew 24 = .ok (.iconst 5, 1) := by decide +kernel
theorem dX11_crew_25 : decode cX11_crew 25 = .ok (.if_icmp .ne 10, 3) := by decide +kernel
theorem dX11_crew_28 : decode cX11_crew 28 = .ok (.aload_n 0, 1) := by decide +kernel
theorem dX11_crew_29 : decode cX11_crew 29 = .ok (.iconst 1, 1) := by decide +kernel
theorem dX11_crew_30 : decode cX11_crew 30 = .ok (.iconst 5, 1) := by decide +kernel
theorem dX11_crew_31 : decode cX11_crew 31 = .ok (.invokevirtual 68, 3) := by decide +kernel
theorem dX11_crew_34 : decode cX11_crew 34 = .ok (.ireturn, 1) := by decide +kernel
theorem dX11_crew_35 : decode cX11_crew 35 = .ok (.aload_n 0, 1) := by decide +kernel
theorem dX11_crew_36 : decode cX11_crew 36 = .ok (.getfield 9, 3) := by decide +kernel
theorem dX11_crew_39 : decode cX11_crew 39 = .ok (.iconst 4, 1) := by decide +kernel
theorem dX11_crew_40 : decode cX11_crew 40 = .ok (.dup2, 1) := by decide +kernel
theorem dX11_crew_41 : decode cX11_crew 41 = .ok (.iaload, 1) := by decide +kernel
theorem dX11_crew_42 : decode cX11_crew 42 = .ok (.iconst 1, 1) := by decide +kernel
theorem dX11_crew_43 : decode cX11_crew 43 = .ok (.iadd, 1) := by decide +kernel
theorem dX11_crew_44 : decode cX11_crew 44 = .ok (.iastore, 1) := by decide +kernel
theorem dX11_crew_45 : decode cX11_crew 45 = .ok (.aload_n 0, 1) := by decide +kernel
theorem dX11_crew_46 : decode cX11_crew 46 = .ok (.getfield 9, 3) := by decide +kernel
theorem dX11_crew_49 : decode cX11_crew 49 = .ok (.bipush 90, 2) := by decide +kernel
theorem dX11_crew_51 : decode cX11_crew 51 = .ok (.iconst 3, 1) := by decide +kernel
theorem dX11_crew_52 : decode cX11_crew 52 = .ok (.iload_n 2, 1) := by decide +kernel
theorem dX11_crew_53 : decode cX11_crew 53 = .ok (.imul, 1) := by decide +kernel
theorem dX11_crew_54 : decode cX11_crew 54 = .ok (.iadd, 1) := by decide +kernel
theorem dX11_crew_55 : decode cX11_crew 55 = .ok (.iload_n 1, 1) := by decide +kernel
theorem dX11_crew_56 : decode cX11_crew 56 = .ok (.iastore, 1) := by decide +kernel
theorem dX11_crew_57 : decode cX11_crew 57 = .ok (.aload_n 0, 1) := by decide +kernel
theorem dX11_crew_58 : decode cX11_crew 58 = .ok (.getfield 9, 3) := by decide +kernel
theorem dX11_crew_61 : decode cX11_crew 61 = .ok (.bipush 90, 2) := by decide +kernel
theorem dX11_crew_63 : decode cX11_crew 63 = .ok (.iconst 3, 1) := by decide +kernel
theorem dX11_crew_64 : decode cX11_crew 64 = .ok (.iload_n 2, 1) := by decide +kernel
theorem dX11_crew_65 : decode cX11_crew 65 = .ok (.imul, 1) := by decide +kernel
theorem dX11_crew_66 : decode cX11_crew 66 = .ok (.iadd, 1) := by decide +kernel
theorem dX11_crew_67 : decode cX11_crew 67 = .ok (.iconst 1, 1) := by decide +kernel
theorem dX11_crew_68 : decode cX11_crew 68 = .ok (.iadd, 1) := by decide +kernel
theorem dX11_crew_69 : decode cX11_crew 69 = .ok (.iconst 0, 1) := by decide +kernel
theorem dX11_crew_70 : decode cX11_crew 70 = .ok (.iastore, 1) := by decide +kernel
theorem dX11_crew_71 : decode cX11_crew 71 = .ok (.aload_n 0, 1) := by decide +kernel
theorem dX11_crew_72 : decode cX11_crew 72 = .ok (.getfield 9, 3) := by decide +kernel
theorem dX11_crew_75 : decode cX11_crew 75 = .ok (.bipush 90, 2) := by decide +kernel
theorem dX11_crew_77 : decode cX11_crew 77 = .ok (.iconst 3, 1) := by decide +kernel
theorem dX11_crew_78 : decode cX11_crew 78 = .ok (.iload_n 2, 1) := by decide +kernel
theorem dX11_crew_79 : decode cX11_crew 79 = .ok (.imul, 1) := by decide +kernel
theorem dX11_crew_80 : decode cX11_crew 80 = .ok (.iadd, 1) := by decide +kernel
theorem dX11_crew_81 : decode cX11_crew 81 = .ok (.iconst 2, 1) := by decide +kernel
theorem dX11_crew_82 : decode cX11_crew 82 = .ok (.iadd, 1) := by decide +kernel
theorem dX11_crew_83 : decode cX11_crew 83 = .ok (.iconst 0, 1) := by decide +kernel
theorem dX11_crew_84 : decode cX11_crew 84 = .ok (.iastore, 1) := by decide +kernel
theorem dX11_crew_85 : decode cX11_crew 85 = .ok (.aload_n 0, 1) := by decide +kernel
theorem dX11_crew_86 : decode cX11_crew 86 = .ok (.iload_n 2, 1) := by decide +kernel
theorem dX11_crew_87 : decode cX11_crew 87 = .ok (.invokevirtual 54, 3) := by decide +kernel
theorem dX11_crew_90 : decode cX11_crew 90 = .ok (.ireturn, 1) := by decide +kernel
theorem dX11_oldUpTo_0 : decode cX11_oldUpTo 0 = .ok (.iconst 0, 1) := by decide +kernel
theorem dX11_oldUpTo_1 : decode cX11_oldUpTo 1 = .ok (.istore_n 2, 1) := by decide +kernel
theorem dX11_oldUpTo_2 : decode cX11_oldUpTo 2 = .ok (.iload_n 2, 1) := by decide +kernel
theorem dX11_oldUpTo_3 : decode cX11_oldUpTo 3 = .ok (.iload_n 1, 1) := by decide +kernel
theorem dX11_oldUpTo_4 : decode cX11_oldUpTo 4 = .ok (.if_icmp .gt 22, 3) := by decide +kernel
theorem dX11_oldUpTo_7 : decode cX11_oldUpTo 7 = .ok (.aload_n 0, 1) := by decide +kernel
theorem dX11_oldUpTo_8 : decode cX11_oldUpTo 8 = .ok (.iload_n 2, 1) := by decide +kernel
theorem dX11_oldUpTo_9 : decode cX11_oldUpTo 9 = .ok (.iconst 2, 1) := by decide +kernel
theorem dX11_oldUpTo_10 : decode cX11_oldUpTo 10 = .ok (.invokevirtual 98, 3) := by decide +kernel
theorem dX11_oldUpTo_13 : decode cX11_oldUpTo 13 = .ok (.bipush 20, 2) := by decide +kernel
theorem dX11_oldUpTo_15 : decode cX11_oldUpTo 15 = .ok (.if_icmp .le 5, 3) := by decide +kernel
theorem dX11_oldUpTo_18 : decode cX11_oldUpTo 18 = .ok (.iload_n 2, 1) := by decide +kernel
theorem dX11_oldUpTo_19 : decode cX11_oldUpTo 19 = .ok (.ireturn, 1) := by decide +kernel
theorem dX11_oldUpTo_20 : decode cX11_oldUpTo 20 = .ok (.iinc 2 1, 3) := by decide +kernel
theorem dX11_oldUpTo_23 : decode cX11_oldUpTo 23 = .ok (.goto (-21), 3) := by decide +kernel
theorem dX11_oldUpTo_26 : decode cX11_oldUpTo 26 = .ok (.iconst (-1), 1) := by decide +kernel
theorem dX11_oldUpTo_27 : decode cX11_oldUpTo 27 = .ok (.ireturn, 1) := by decide +kernel
theorem dX11_crewsOn_0 : decode cX11_crewsOn 0 = .ok (.iconst 0, 1) := by decide +kernel
theorem dX11_crewsOn_1 : decode cX11_crewsOn 1 = .ok (.istore_n 2, 1) := by decide +kernel
theorem dX11_crewsOn_2 : decode cX11_crewsOn 2 = .ok (.iconst 0, 1) := by decide +kernel
theorem dX11_crewsOn_3 : decode cX11_crewsOn 3 = .ok (.istore_n 3, 1) := by decide +kernel
theorem dX11_crewsOn_4 : decode cX11_crewsOn 4 = .ok (.iload_n 3, 1) := by decide +kernel
theorem dX11_crewsOn_5 : decode cX11_crewsOn 5 = .ok (.aload_n 0, 1) := by decide +kernel
theorem dX11_crewsOn_6 : decode cX11_crewsOn 6 = .ok (.getfield 9, 3) := by decide +kernel
theorem dX11_crewsOn_9 : decode cX11_crewsOn 9 = .ok (.iconst 4, 1) := by decide +kernel
theorem dX11_crewsOn_10 : decode cX11_crewsOn 10 = .ok (.iaload, 1) := by decide +kernel
theorem dX11_crewsOn_11 : decode cX11_crewsOn 11 = .ok (.if_icmp .ge 24, 3) := by decide +kernel
theorem dX11_crewsOn_14 : decode cX11_crewsOn 14 = .ok (.aload_n 0, 1) := by decide +kernel
theorem dX11_crewsOn_15 : decode cX11_crewsOn 15 = .ok (.iload_n 3, 1) := by decide +kernel
theorem dX11_crewsOn_16 : decode cX11_crewsOn 16 = .ok (.invokevirtual 104, 3) := by decide +kernel
theorem dX11_crewsOn_19 : decode cX11_crewsOn 19 = .ok (.iload_n 1, 1) := by decide +kernel
theorem dX11_crewsOn_20 : decode cX11_crewsOn 20 = .ok (.if_icmp .ne 9, 3) := by decide +kernel
theorem dX11_crewsOn_23 : decode cX11_crewsOn 23 = .ok (.iload_n 2, 1) := by decide +kernel
theorem dX11_crewsOn_24 : decode cX11_crewsOn 24 = .ok (.iconst 1, 1) := by decide +kernel
theorem dX11_crewsOn_25 : decode cX11_crewsOn 25 = .ok (.iload_n 3, 1) := by decide +kernel
theorem dX11_crewsOn_26 : decode cX11_crewsOn 26 = .ok (.ishl, 1) := by decide +kernel
theorem dX11_crewsOn_27 : decode cX11_crewsOn 27 = .ok (.ior, 1) := by decide +kernel
theorem dX11_crewsOn_28 : decode cX11_crewsOn 28 = .ok (.istore_n 2, 1) := by decide +kernel
theorem dX11_crewsOn_29 : decode cX11_crewsOn 29 = .ok (.iinc 3 1, 3) := by decide +kernel
theorem dX11_crewsOn_32 : decode cX11_crewsOn 32 = .ok (.goto (-28), 3) := by decide +kernel
theorem dX11_crewsOn_35 : decode cX11_crewsOn 35 = .ok (.iload_n 2, 1) := by decide +kernel
theorem dX11_crewsOn_36 : decode cX11_crewsOn 36 = .ok (.ireturn, 1) := by decide +kernel
theorem dX11_goesUp_0 : decode cX11_goesUp 0 = .ok (.aload_n 0, 1) := by decide +kernel
theorem dX11_goesUp_1 : decode cX11_goesUp 1 = .ok (.iload_n 1, 1) := by decide +kernel
theorem dX11_goesUp_2 : decode cX11_goesUp 2 = .ok (.invokevirtual 107, 3) := by decide +kernel
theorem dX11_goesUp_5 : decode cX11_goesUp 5 = .ok (.ifCond .eq 11, 3) := by decide +kernel
theorem dX11_goesUp_8 : decode cX11_goesUp 8 = .ok (.aload_n 0, 1) := by decide +kernel
theorem dX11_goesUp_9 : decode cX11_goesUp 9 = .ok (.iload_n 2, 1) := by decide +kernel
theorem dX11_goesUp_10 : decode cX11_goesUp 10 = .ok (.invokevirtual 95, 3) := by decide +kernel
theorem dX11_goesUp_13 : decode cX11_goesUp 13 = .ok (.ifCond .ne 5, 3) := by decide +kernel
theorem dX11_goesUp_16 : decode cX11_goesUp 16 = .ok (.iconst (-1), 1) := by decide +kernel
theorem dX11_goesUp_17 : decode cX11_goesUp 17 = .ok (.ireturn, 1) := by decide +kernel
theorem dX11_goesUp_18 : decode cX11_goesUp 18 = .ok (.aload_n 0, 1) := by decide +kernel
theorem dX11_goesUp_19 : decode cX11_goesUp 19 = .ok (.iload_n 1, 1) := by decide +kernel
theorem dX11_goesUp_20 : decode cX11_goesUp 20 = .ok (.invokevirtual 104, 3) := by decide +kernel
theorem dX11_goesUp_23 : decode cX11_goesUp 23 = .ok (.iload_n 2, 1) := by decide +kernel
theorem dX11_goesUp_24 : decode cX11_goesUp 24 = .ok (.if_icmp .ne 11, 3) := by decide +kernel
theorem dX11_goesUp_27 : decode cX11_goesUp 27 = .ok (.aload_n 0, 1) := by decide +kernel
theorem dX11_goesUp_28 : decode cX11_goesUp 28 = .ok (.bipush 7, 2) := by decide +kernel
theorem dX11_goesUp_30 : decode cX11_goesUp 30 = .ok (.iload_n 2, 1) := by decide +kernel
theorem dX11_goesUp_31 : decode cX11_goesUp 31 = .ok (.invokevirtual 68, 3) := by decide +kernel
theorem dX11_goesUp_34 : decode cX11_goesUp 34 = .ok (.ireturn, 1) := by decide +kernel
theorem dX11_goesUp_35 : decode cX11_goesUp 35 = .ok (.aload_n 0, 1) := by decide +kernel
theorem dX11_goesUp_36 : decode cX11_goesUp 36 = .ok (.getfield 9, 3) := by decide +kernel
theorem dX11_goesUp_39 : decode cX11_goesUp 39 = .ok (.iconst 1, 1) := by decide +kernel
theorem dX11_goesUp_40 : decode cX11_goesUp 40 = .ok (.iaload, 1) := by decide +kernel
theorem dX11_goesUp_41 : decode cX11_goesUp 41 = .ok (.iconst 3, 1) := by decide +kernel
theorem dX11_goesUp_42 : decode cX11_goesUp 42 = .ok (.if_icmp .lt 15, 3) := by decide +kernel
theorem dX11_goesUp_45 : decode cX11_goesUp 45 = .ok (.aload_n 0, 1) := by decide +kernel
theorem dX11_goesUp_46 : decode cX11_goesUp 46 = .ok (.iconst 4, 1) := by decide +kernel
theorem dX11_goesUp_47 : decode cX11_goesUp 47 = .ok (.aload_n 0, 1) := by decide +kernel
theorem dX11_goesUp_48 : decode cX11_goesUp 48 = .ok (.getfield 9, 3) := by decide +kernel
theorem dX11_goesUp_51 : decode cX11_goesUp 51 = .ok (.iconst 1, 1) := by decide +kernel
theorem dX11_goesUp_52 : decode cX11_goesUp 52 = .ok (.iaload, 1) := by decide +kernel
theorem dX11_goesUp_53 : decode cX11_goesUp 53 = .ok (.invokevirtual 68, 3) := by decide +kernel
theorem dX11_goesUp_56 : decode cX11_goesUp 56 = .ok (.ireturn, 1) := by decide +kernel
theorem dX11_goesUp_57 : decode cX11_goesUp 57 = .ok (.aload_n 0, 1) := by decide +kernel
theorem dX11_goesUp_58 : decode cX11_goesUp 58 = .ok (.iload_n 2, 1) := by decide +kernel
theorem dX11_goesUp_59 : decode cX11_goesUp 59 = .ok (.invokevirtual 110, 3) := by decide +kernel
theorem dX11_goesUp_62 : decode cX11_goesUp 62 = .ok (.istore_n 3, 1) := by decide +kernel
theorem dX11_goesUp_63 : decode cX11_goesUp 63 = .ok (.iload_n 3, 1) := by decide +kernel
theorem dX11_goesUp_64 : decode cX11_goesUp 64 = .ok (.ifCond .lt 10, 3) := by decide +kernel
theorem dX11_goesUp_67 : decode cX11_goesUp 67 = .ok (.aload_n 0, 1) := by decide +kernel
theorem dX11_goesUp_68 : decode cX11_goesUp 68 = .ok (.iconst 5, 1) := by decide +kernel
theorem dX11_goesUp_69 : decode cX11_goesUp 69 = .ok (.iload_n 3, 1) := by decide +kernel
theorem dX11_goesUp_70 : decode cX11_goesUp 70 = .ok (.invokevirtual 68, 3) := by decide +kernel
theorem dX11_goesUp_73 : decode cX11_goesUp 73 = .ok (.ireturn, 1) := by decide +kernel
theorem dX11_goesUp_74 : decode cX11_goesUp 74 = .ok (.aload_n 0, 1) := by decide +kernel
theorem dX11_goesUp_75 : decode cX11_goesUp 75 = .ok (.iload_n 2, 1) := by decide +kernel
theorem dX11_goesUp_76 : decode cX11_goesUp 76 = .ok (.iconst 5, 1) := by decide +kernel
theorem dX11_goesUp_77 : decode cX11_goesUp 77 = .ok (.invokevirtual 98, 3) := by decide +kernel
theorem dX11_goesUp_80 : decode cX11_goesUp 80 = .ok (.ifCond .le 27, 3) := by decide +kernel
theorem dX11_goesUp_83 : decode cX11_goesUp 83 = .ok (.aload_n 0, 1) := by decide +kernel
theorem dX11_goesUp_84 : decode cX11_goesUp 84 = .ok (.bipush 13, 2) := by decide +kernel
theorem dX11_goesUp_86 : decode cX11_goesUp 86 = .ok (.aload_n 0, 1) := by decide +kernel
theorem dX11_goesUp_87 : decode cX11_goesUp 87 = .ok (.iload_n 2, 1) := by decide +kernel
theorem dX11_goesUp_88 : decode cX11_goesUp 88 = .ok (.iconst 5, 1) := by decide +kernel
theorem dX11_goesUp_89 : decode cX11_goesUp 89 = .ok (.invokevirtual 98, 3) := by decide +kernel
theorem dX11_goesUp_92 : decode cX11_goesUp 92 = .ok (.iconst 1, 1) := by decide +kernel
theorem dX11_goesUp_93 : decode cX11_goesUp 93 = .ok (.isub, 1) := by decide +kernel
theorem dX11_goesUp_94 : decode cX11_goesUp 94 = .ok (.invokevirtual 68, 3) := by decide +kernel
theorem dX11_goesUp_97 : decode cX11_goesUp 97 = .ok (.istore 4, 2) := by decide +kernel
theorem dX11_goesUp_99 : decode cX11_goesUp 99 = .ok (.aload_n 0, 1) := by decide +kernel
theorem dX11_goesUp_100 : decode cX11_goesUp 100 = .ok (.bipush 6, 2) := by decide +kernel
theorem dX11_goesUp_102 : decode cX11_goesUp 102 = .ok (.iload_n 2, 1) := by decide +kernel
theorem dX11_goesUp_103 : decode cX11_goesUp 103 = .ok (.invokevirtual 113, 3) := by decide +kernel
theorem dX11_goesUp_106 : decode cX11_goesUp 106 = .ok (.ireturn, 1) := by decide +kernel
theorem dX11_goesUp_107 : decode cX11_goesUp 107 = .ok (.aload_n 0, 1) := by decide +kernel
theorem dX11_goesUp_108 : decode cX11_goesUp 108 = .ok (.getfield 9, 3) := by decide +kernel
theorem dX11_goesUp_111 : decode cX11_goesUp 111 = .ok (.bipush 90, 2) := by decide +kernel
theorem dX11_goesUp_113 : decode cX11_goesUp 113 = .ok (.iconst 3, 1) := by decide +kernel
theorem dX11_goesUp_114 : decode cX11_goesUp 114 = .ok (.iload_n 1, 1) := by decide +kernel
theorem dX11_goesUp_115 : decode cX11_goesUp 115 = .ok (.imul, 1) := by decide +kernel
theorem dX11_goesUp_116 : decode cX11_goesUp 116 = .ok (.iadd, 1) := by decide +kernel
theorem dX11_goesUp_117 : decode cX11_goesUp 117 = .ok (.iconst 1, 1) := by decide +kernel
theorem dX11_goesUp_118 : decode cX11_goesUp 118 = .ok (.iadd, 1) := by decide +kernel
theorem dX11_goesUp_119 : decode cX11_goesUp 119 = .ok (.iload_n 2, 1) := by decide +kernel
theorem dX11_goesUp_120 : decode cX11_goesUp 120 = .ok (.iconst 1, 1) := by decide +kernel
theorem dX11_goesUp_121 : decode cX11_goesUp 121 = .ok (.iadd, 1) := by decide +kernel
theorem dX11_goesUp_122 : decode cX11_goesUp 122 = .ok (.iastore, 1) := by decide +kernel
theorem dX11_goesUp_123 : decode cX11_goesUp 123 = .ok (.aload_n 0, 1) := by decide +kernel
theorem dX11_goesUp_124 : decode cX11_goesUp 124 = .ok (.aload_n 0, 1) := by decide +kernel
theorem dX11_goesUp_125 : decode cX11_goesUp 125 = .ok (.iload_n 2, 1) := by decide +kernel
theorem dX11_goesUp_126 : decode cX11_goesUp 126 = .ok (.invokevirtual 116, 3) := by decide +kernel
theorem dX11_goesUp_129 : decode cX11_goesUp 129 = .ok (.invokestatic 119, 3) := by decide +kernel
theorem dX11_goesUp_132 : decode cX11_goesUp 132 = .ok (.invokevirtual 85, 3) := by decide +kernel
theorem dX11_goesUp_135 : decode cX11_goesUp 135 = .ok (.ireturn, 1) := by decide +kernel
theorem dX11_up_0 : decode cX11_up 0 = .ok (.aload_n 0, 1) := by decide +kernel
theorem dX11_up_1 : decode cX11_up 1 = .ok (.invokevirtual 65, 3) := by decide +kernel
theorem dX11_up_4 : decode cX11_up 4 = .ok (.aload_n 0, 1) := by decide +kernel
theorem dX11_up_5 : decode cX11_up 5 = .ok (.aload_n 0, 1) := by decide +kernel
theorem dX11_up_6 : decode cX11_up 6 = .ok (.iload_n 1, 1) := by decide +kernel
theorem dX11_up_7 : decode cX11_up 7 = .ok (.iload_n 2, 1) := by decide +kernel
theorem dX11_up_8 : decode cX11_up 8 = .ok (.invokevirtual 124, 3) := by decide +kernel
theorem dX11_up_11 : decode cX11_up 11 = .ok (.invokevirtual 92, 3) := by decide +kernel
theorem dX11_up_14 : decode cX11_up 14 = .ok (.ireturn, 1) := by decide +kernel
theorem dX11_comesDown_0 : decode cX11_comesDown 0 = .ok (.aload_n 0, 1) := by decide +kernel
theorem dX11_comesDown_1 : decode cX11_comesDown 1 = .ok (.iload_n 1, 1) := by decide +kernel
theorem dX11_comesDown_2 : decode cX11_comesDown 2 = .ok (.invokevirtual 107, 3) := by decide +kernel
theorem dX11_comesDown_5 : decode cX11_comesDown 5 = .ok (.ifCond .ne 5, 3) := by decide +kernel
theorem dX11_comesDown_8 : decode cX11_comesDown 8 = .ok (.iconst (-1), 1) := by decide +kernel
theorem dX11_comesDown_9 : decode cX11_comesDown 9 = .ok (.ireturn, 1) := by decide +kernel
theorem dX11_comesDown_10 : decode cX11_comesDown 10 = .ok (.aload_n 0, 1) := by decide +kernel
theorem dX11_comesDown_11 : decode cX11_comesDown 11 = .ok (.iload_n 1, 1) := by decide +kernel
theorem dX11_comesDown_12 : decode cX11_comesDown 12 = .ok (.invokevirtual 104, 3) := by decide +kernel
theorem dX11_comesDown_15 : decode cX11_comesDown 15 = .ok (.istore_n 2, 1) := by decide +kernel
theorem dX11_comesDown_16 : decode cX11_comesDown 16 = .ok (.iload_n 2, 1) := by decide +kernel
theorem dX11_comesDown_17 : decode cX11_comesDown 17 = .ok (.ifCond .ge 11, 3) := by decide +kernel
theorem dX11_comesDown_20 : decode cX11_comesDown 20 = .ok (.aload_n 0, 1) := by decide +kernel
theorem dX11_comesDown_21 : decode cX11_comesDown 21 = .ok (.bipush 11, 2) := by decide +kernel
theorem dX11_comesDown_23 : decode cX11_comesDown 23 = .ok (.iload_n 1, 1) := by decide +kernel
theorem dX11_comesDown_24 : decode cX11_comesDown 24 = .ok (.invokevirtual 68, 3) := by decide +kernel
theorem dX11_comesDown_27 : decode cX11_comesDown 27 = .ok (.ireturn, 1) := by decide +kernel
theorem dX11_comesDown_28 : decode cX11_comesDown 28 = .ok (.aload_n 0, 1) := by decide +kernel
theorem dX11_comesDown_29 : decode cX11_comesDown 29 = .ok (.getfield 9, 3) := by decide +kernel
theorem dX11_comesDown_32 : decode cX11_comesDown 32 = .ok (.bipush 90, 2) := by decide +kernel
theorem dX11_comesDown_34 : decode cX11_comesDown 34 = .ok (.iconst 3, 1) := by decide +kernel
theorem dX11_comesDown_35 : decode cX11_comesDown 35 = .ok (.iload_n 1, 1) := by decide +kernel
theorem dX11_comesDown_36 : decode cX11_comesDown 36 = .ok (.imul, 1) := by decide +kernel
theorem dX11_comesDown_37 : decode cX11_comesDown 37 = .ok (.iadd, 1) := by decide +kernel
theorem dX11_comesDown_38 : decode cX11_comesDown 38 = .ok (.iconst 1, 1) := by decide +kernel
theorem dX11_comesDown_39 : decode cX11_comesDown 39 = .ok (.iadd, 1) := by decide +kernel
theorem dX11_comesDown_40 : decode cX11_comesDown 40 = .ok (.iconst 0, 1) := by decide +kernel
theorem dX11_comesDown_41 : decode cX11_comesDown 41 = .ok (.iastore, 1) := by decide +kernel
theorem dX11_comesDown_42 : decode cX11_comesDown 42 = .ok (.aload_n 0, 1) := by decide +kernel
theorem dX11_comesDown_43 : decode cX11_comesDown 43 = .ok (.iload_n 2, 1) := by decide +kernel
theorem dX11_comesDown_44 : decode cX11_comesDown 44 = .ok (.invokevirtual 85, 3) := by decide +kernel
theorem dX11_comesDown_47 : decode cX11_comesDown 47 = .ok (.ireturn, 1) := by decide +kernel
theorem dX11_down_0 : decode cX11_down 0 = .ok (.aload_n 0, 1) := by decide +kernel
theorem dX11_down_1 : decode cX11_down 1 = .ok (.invokevirtual 65, 3) := by decide +kernel
theorem dX11_down_4 : decode cX11_down 4 = .ok (.aload_n 0, 1) := by decide +kernel
theorem dX11_down_5 : decode cX11_down 5 = .ok (.aload_n 0, 1) := by decide +kernel
theorem dX11_down_6 : decode cX11_down 6 = .ok (.iload_n 1, 1) := by decide +kernel
theorem dX11_down_7 : decode cX11_down 7 = .ok (.invokevirtual 127, 3) := by decide +kernel
theorem dX11_down_10 : decode cX11_down 10 = .ok (.invokevirtual 92, 3) := by decide +kernel
theorem dX11_down_13 : decode cX11_down 13 = .ok (.ireturn, 1) := by decide +kernel
theorem dX11_lifts_0 : decode cX11_lifts 0 = .ok (.aload_n 0, 1) := by decide +kernel
theorem dX11_lifts_1 : decode cX11_lifts 1 = .ok (.iload_n 1, 1) := by decide +kernel
theorem dX11_lifts_2 : decode cX11_lifts 2 = .ok (.invokevirtual 95, 3) := by decide +kernel
theorem dX11_lifts_5 : decode cX11_lifts 5 = .ok (.ifCond .ne 5, 3) := by decide +kernel
theorem dX11_lifts_8 : decode cX11_lifts 8 = .ok (.iconst (-1), 1) := by decide +kernel
theorem dX11_lifts_9 : decode cX11_lifts 9 = .ok (.ireturn, 1) := by decide +kernel
theorem dX11_lifts_10 : decode cX11_lifts 10 = .ok (.iload_n 2, 1) := by decide +kernel
theorem dX11_lifts_11 : decode cX11_lifts 11 = .ok (.iconst 1, 1) := by decide +kernel
theorem dX11_lifts_12 : decode cX11_lifts 12 = .ok (.bipush 9, 2) := by decide +kernel
theorem dX11_lifts_14 : decode cX11_lifts 14 = .ok (.invokestatic 58, 3) := by decide +kernel
theorem dX11_lifts_17 : decode cX11_lifts 17 = .ok (.ifCond .ne 6, 3) := by decide +kernel
theorem dX11_lifts_20 : decode cX11_lifts 20 = .ok (.bipush (-2), 2) := by decide +kernel
theorem dX11_lifts_22 : decode cX11_lifts 22 = .ok (.ireturn, 1) := by decide +kernel
theorem dX11_lifts_23 : decode cX11_lifts 23 = .ok (.aload_n 0, 1) := by decide +kernel
theorem dX11_lifts_24 : decode cX11_lifts 24 = .ok (.getfield 9, 3) := by decide +kernel
theorem dX11_lifts_27 : decode cX11_lifts 27 = .ok (.iconst 1, 1) := by decide +kernel
theorem dX11_lifts_28 : decode cX11_lifts 28 = .ok (.iaload, 1) := by decide +kernel
theorem dX11_lifts_29 : decode cX11_lifts 29 = .ok (.iconst 3, 1) := by decide +kernel
theorem dX11_lifts_30 : decode cX11_lifts 30 = .ok (.if_icmp .lt 15, 3) := by decide +kernel
theorem dX11_lifts_33 : decode cX11_lifts 33 = .ok (.aload_n 0, 1) := by decide +kernel
theorem dX11_lifts_34 : decode cX11_lifts 34 = .ok (.iconst 4, 1) := by decide +kernel
theorem dX11_lifts_35 : decode cX11_lifts 35 = .ok (.aload_n 0, 1) := by decide +kernel
theorem dX11_lifts_36 : decode cX11_lifts 36 = .ok (.getfield 9, 3) := by decide +kernel
theorem dX11_lifts_39 : decode cX11_lifts 39 = .ok (.iconst 1, 1) := by decide +kernel
theorem dX11_lifts_40 : decode cX11_lifts 40 = .ok (.iaload, 1) := by decide +kernel
theorem dX11_lifts_41 : decode cX11_lifts 41 = .ok (.invokevirtual 68, 3) := by decide +kernel
theorem dX11_lifts_44 : decode cX11_lifts 44 = .ok (.ireturn, 1) := by decide +kernel
theorem dX11_lifts_45 : decode cX11_lifts 45 = .ok (.aload_n 0, 1) := by decide +kernel
theorem dX11_lifts_46 : decode cX11_lifts 46 = .ok (.iload_n 1, 1) := by decide +kernel
theorem dX11_lifts_47 : decode cX11_lifts 47 = .ok (.iconst 4, 1) := by decide +kernel
theorem dX11_lifts_48 : decode cX11_lifts 48 = .ok (.invokevirtual 98, 3) := by decide +kernel
theorem dX11_lifts_51 : decode cX11_lifts 51 = .ok (.iload_n 2, 1) := by decide +kernel
theorem dX11_lifts_52 : decode cX11_lifts 52 = .ok (.iadd, 1) := by decide +kernel
theorem dX11_lifts_53 : decode cX11_lifts 53 = .ok (.bipush 9, 2) := by decide +kernel
theorem dX11_lifts_55 : decode cX11_lifts 55 = .ok (.if_icmp .le 16, 3) := by decide +kernel
theorem dX11_lifts_58 : decode cX11_lifts 58 = .ok (.aload_n 0, 1) := by decide +kernel
theorem dX11_lifts_59 : decode cX11_lifts 59 = .ok (.bipush 9, 2) := by decide +kernel
theorem dX11_lifts_61 : decode cX11_lifts 61 = .ok (.aload_n 0, 1) := by decide +kernel
theorem dX11_lifts_62 : decode cX11_lifts 62 = .ok (.iload_n 1, 1) := by decide +kernel
theorem dX11_lifts_63 : decode cX11_lifts 63 = .ok (.iconst 4, 1) := by decide +kernel
theorem dX11_lifts_64 : decode cX11_lifts 64 = .ok (.invokevirtual 98, 3) := by decide +kernel
theorem dX11_lifts_67 : decode cX11_lifts 67 = .ok (.invokevirtual 68, 3) := by decide +kernel
theorem dX11_lifts_70 : decode cX11_lifts 70 = .ok (.ireturn, 1) := by decide +kernel
theorem dX11_lifts_71 : decode cX11_lifts 71 = .ok (.iload_n 2, 1) := by decide +kernel
theorem dX11_lifts_72 : decode cX11_lifts 72 = .ok (.iload_n 1, 1) := by decide +kernel
theorem dX11_lifts_73 : decode cX11_lifts 73 = .ok (.iconst 1, 1) := by decide +kernel
theorem dX11_lifts_74 : decode cX11_lifts 74 = .ok (.iadd, 1) := by decide +kernel
theorem dX11_lifts_75 : decode cX11_lifts 75 = .ok (.imul, 1) := by decide +kernel
theorem dX11_lifts_76 : decode cX11_lifts 76 = .ok (.istore_n 3, 1) := by decide +kernel
theorem dX11_lifts_77 : decode cX11_lifts 77 = .ok (.aload_n 0, 1) := by decide +kernel
theorem dX11_lifts_78 : decode cX11_lifts 78 = .ok (.getfield 9, 3) := by decide +kernel
theorem dX11_lifts_81 : decode cX11_lifts 81 = .ok (.bipush 7, 2) := by decide +kernel
theorem dX11_lifts_83 : decode cX11_lifts 83 = .ok (.iaload, 1) := by decide +kernel
theorem dX11_lifts_84 : decode cX11_lifts 84 = .ok (.iload_n 3, 1) := by decide +kernel
theorem dX11_lifts_85 : decode cX11_lifts 85 = .ok (.if_icmp .ge 17, 3) := by decide +kernel
theorem dX11_lifts_88 : decode cX11_lifts 88 = .ok (.aload_n 0, 1) := by decide +kernel
theorem dX11_lifts_89 : decode cX11_lifts 89 = .ok (.bipush 8, 2) := by decide +kernel
theorem dX11_lifts_91 : decode cX11_lifts 91 = .ok (.aload_n 0, 1) := by decide +kernel
theorem dX11_lifts_92 : decode cX11_lifts 92 = .ok (.getfield 9, 3) := by decide +kernel
theorem dX11_lifts_95 : decode cX11_lifts 95 = .ok (.bipush 7, 2) := by decide +kernel
theorem dX11_lifts_97 : decode cX11_lifts 97 = .ok (.iaload, 1) := by decide +kernel
theorem dX11_lifts_98 : decode cX11_lifts 98 = .ok (.invokevirtual 68, 3) := by decide +kernel
theorem dX11_lifts_101 : decode cX11_lifts 101 = .ok (.ireturn, 1) := by decide +kernel
theorem dX11_lifts_102 : decode cX11_lifts 102 = .ok (.aload_n 0, 1) := by decide +kernel
theorem dX11_lifts_103 : decode cX11_lifts 103 = .ok (.getfield 9, 3) := by decide +kernel
theorem dX11_lifts_106 : decode cX11_lifts 106 = .ok (.bipush 7, 2) := by decide +kernel
theorem dX11_lifts_108 : decode cX11_lifts 108 = .ok (.dup2, 1) := by decide +kernel
theorem dX11_lifts_109 : decode cX11_lifts 109 = .ok (.iaload, 1) := by decide +kernel
theorem dX11_lifts_110 : decode cX11_lifts 110 = .ok (.iload_n 3, 1) := by decide +kernel
theorem dX11_lifts_111 : decode cX11_lifts 111 = .ok (.isub, 1) := by decide +kernel
theorem dX11_lifts_112 : decode cX11_lifts 112 = .ok (.iastore, 1) := by decide +kernel
theorem dX11_lifts_113 : decode cX11_lifts 113 = .ok (.aload_n 0, 1) := by decide +kernel
theorem dX11_lifts_114 : decode cX11_lifts 114 = .ok (.iload_n 1, 1) := by decide +kernel
theorem dX11_lifts_115 : decode cX11_lifts 115 = .ok (.iconst 4, 1) := by decide +kernel
theorem dX11_lifts_116 : decode cX11_lifts 116 = .ok (.aload_n 0, 1) := by decide +kernel
theorem dX11_lifts_117 : decode cX11_lifts 117 = .ok (.iload_n 1, 1) := by decide +kernel
theorem dX11_lifts_118 : decode cX11_lifts 118 = .ok (.iconst 4, 1) := by decide +kernel
theorem dX11_lifts_119 : decode cX11_lifts 119 = .ok (.invokevirtual 98, 3) := by decide +kernel
theorem dX11_lifts_122 : decode cX11_lifts 122 = .ok (.iload_n 2, 1) := by decide +kernel
theorem dX11_lifts_123 : decode cX11_lifts 123 = .ok (.iadd, 1) := by decide +kernel
theorem dX11_lifts_124 : decode cX11_lifts 124 = .ok (.invokevirtual 81, 3) := by decide +kernel
theorem dX11_lifts_127 : decode cX11_lifts 127 = .ok (.aload_n 0, 1) := by decide +kernel
theorem dX11_lifts_128 : decode cX11_lifts 128 = .ok (.aload_n 0, 1) := by decide +kernel
theorem dX11_lifts_129 : decode cX11_lifts 129 = .ok (.getfield 9, 3) := by decide +kernel
theorem dX11_lifts_132 : decode cX11_lifts 132 = .ok (.bipush 7, 2) := by decide +kernel
theorem dX11_lifts_134 : decode cX11_lifts 134 = .ok (.iaload, 1) := by decide +kernel
theorem dX11_lifts_135 : decode cX11_lifts 135 = .ok (.invokevirtual 85, 3) := by decide +kernel
theorem dX11_lifts_138 : decode cX11_lifts 138 = .ok (.ireturn, 1) := by decide +kernel
theorem dX11_lift_0 : decode cX11_lift 0 = .ok (.aload_n 0, 1) := by decide +kernel
theorem dX11_lift_1 : decode cX11_lift 1 = .ok (.invokevirtual 65, 3) := by decide +kernel
theorem dX11_lift_4 : decode cX11_lift 4 = .ok (.aload_n 0, 1) := by decide +kernel
theorem dX11_lift_5 : decode cX11_lift 5 = .ok (.aload_n 0, 1) := by decide +kernel
theorem dX11_lift_6 : decode cX11_lift 6 = .ok (.iload_n 1, 1) := by decide +kernel
theorem dX11_lift_7 : decode cX11_lift 7 = .ok (.iload_n 2, 1) := by decide +kernel
theorem dX11_lift_8 : decode cX11_lift 8 = .ok (.invokevirtual 130, 3) := by decide +kernel
theorem dX11_lift_11 : decode cX11_lift 11 = .ok (.invokevirtual 92, 3) := by decide +kernel
theorem dX11_lift_14 : decode cX11_lift 14 = .ok (.ireturn, 1) := by decide +kernel
theorem dX11_signals_0 : decode cX11_signals 0 = .ok (.iload_n 1, 1) := by decide +kernel
theorem dX11_signals_1 : decode cX11_signals 1 = .ok (.iconst 0, 1) := by decide +kernel
theorem dX11_signals_2 : decode cX11_signals 2 = .ok (.bipush 10, 2) := by decide +kernel
theorem dX11_signals_4 : decode cX11_signals 4 = .ok (.invokestatic 58, 3) := by decide +kernel
theorem dX11_signals_7 : decode cX11_signals 7 = .ok (.ifCond .ne 6, 3) := by decide +kernel
theorem dX11_signals_10 : decode cX11_signals 10 = .ok (.bipush (-2), 2) := by decide +kernel
theorem dX11_signals_12 : decode cX11_signals 12 = .ok (.ireturn, 1) := by decide +kernel
theorem dX11_signals_13 : decode cX11_signals 13 = .ok (.aload_n 0, 1) := by decide +kernel
theorem dX11_signals_14 : decode cX11_signals 14 = .ok (.getfield 9, 3) := by decide +kernel
theorem dX11_signals_17 : decode cX11_signals 17 = .ok (.iconst 1, 1) := by decide +kernel
theorem dX11_signals_18 : decode cX11_signals 18 = .ok (.iaload, 1) := by decide +kernel
theorem dX11_signals_19 : decode cX11_signals 19 = .ok (.istore_n 2, 1) := by decide +kernel
theorem dX11_signals_20 : decode cX11_signals 20 = .ok (.aload_n 0, 1) := by decide +kernel
theorem dX11_signals_21 : decode cX11_signals 21 = .ok (.getfield 9, 3) := by decide +kernel
theorem dX11_signals_24 : decode cX11_signals 24 = .ok (.iconst 1, 1) := by decide +kernel
theorem dX11_signals_25 : decode cX11_signals 25 = .ok (.iload_n 1, 1) := by decide +kernel
theorem dX11_signals_26 : decode cX11_signals 26 = .ok (.iastore, 1) := by decide +kernel
theorem dX11_signals_27 : decode cX11_signals 27 = .ok (.iconst 0, 1) := by decide +kernel
theorem dX11_signals_28 : decode cX11_signals 28 = .ok (.istore_n 3, 1) := by decide +kernel
theorem dX11_signals_29 : decode cX11_signals 29 = .ok (.iload_n 3, 1) := by decide +kernel
theorem dX11_signals_30 : decode cX11_signals 30 = .ok (.aload_n 0, 1) := by decide +kernel
theorem dX11_signals_31 : decode cX11_signals 31 = .ok (.getfield 9, 3) := by decide +kernel
theorem dX11_signals_34 : decode cX11_signals 34 = .ok (.iconst 4, 1) := by decide +kernel
theorem dX11_signals_35 : decode cX11_signals 35 = .ok (.iaload, 1) := by decide +kernel
theorem dX11_signals_36 : decode cX11_signals 36 = .ok (.if_icmp .ge 28, 3) := by decide +kernel
theorem dX11_signals_39 : decode cX11_signals 39 = .ok (.iload_n 1, 1) := by decide +kernel
theorem dX11_signals_40 : decode cX11_signals 40 = .ok (.iconst 3, 1) := by decide +kernel
theorem dX11_signals_41 : decode cX11_signals 41 = .ok (.if_icmp .lt 23, 3) := by decide +kernel
theorem dX11_signals_44 : decode cX11_signals 44 = .ok (.aload_n 0, 1) := by decide +kernel
theorem dX11_signals_45 : decode cX11_signals 45 = .ok (.getfield 9, 3) := by decide +kernel
theorem dX11_signals_48 : decode cX11_signals 48 = .ok (.bipush 90, 2) := by decide +kernel
theorem dX11_signals_50 : decode cX11_signals 50 = .ok (.iconst 3, 1) := by decide +kernel
theorem dX11_signals_51 : decode cX11_signals 51 = .ok (.iload_n 3, 1) := by decide +kernel
theorem dX11_signals_52 : decode cX11_signals 52 = .ok (.imul, 1) := by decide +kernel
theorem dX11_signals_53 : decode cX11_signals 53 = .ok (.iadd, 1) := by decide +kernel
theorem dX11_signals_54 : decode cX11_signals 54 = .ok (.iconst 1, 1) := by decide +kernel
theorem dX11_signals_55 : decode cX11_signals 55 = .ok (.iadd, 1) := by decide +kernel
theorem dX11_signals_56 : decode cX11_signals 56 = .ok (.iconst 0, 1) := by decide +kernel
theorem dX11_signals_57 : decode cX11_signals 57 = .ok (.iastore, 1) := by decide +kernel
theorem dX11_signals_58 : decode cX11_signals 58 = .ok (.iinc 3 1, 3) := by decide +kernel
theorem dX11_signals_61 : decode cX11_signals 61 = .ok (.goto (-32), 3) := by decide +kernel
theorem dX11_signals_64 : decode cX11_signals 64 = .ok (.aload_n 0, 1) := by decide +kernel
theorem dX11_signals_65 : decode cX11_signals 65 = .ok (.iload_n 2, 1) := by decide +kernel
theorem dX11_signals_66 : decode cX11_signals 66 = .ok (.invokevirtual 85, 3) := by decide +kernel
theorem dX11_signals_69 : decode cX11_signals 69 = .ok (.ireturn, 1) := by decide +kernel
theorem dX11_signal_0 : decode cX11_signal 0 = .ok (.aload_n 0, 1) := by decide +kernel
theorem dX11_signal_1 : decode cX11_signal 1 = .ok (.invokevirtual 65, 3) := by decide +kernel
theorem dX11_signal_4 : decode cX11_signal 4 = .ok (.aload_n 0, 1) := by decide +kernel
theorem dX11_signal_5 : decode cX11_signal 5 = .ok (.aload_n 0, 1) := by decide +kernel
theorem dX11_signal_6 : decode cX11_signal 6 = .ok (.iload_n 1, 1) := by decide +kernel
theorem dX11_signal_7 : decode cX11_signal 7 = .ok (.invokevirtual 133, 3) := by decide +kernel
theorem dX11_signal_10 : decode cX11_signal 10 = .ok (.invokevirtual 92, 3) := by decide +kernel
theorem dX11_signal_13 : decode cX11_signal 13 = .ok (.ireturn, 1) := by decide +kernel
theorem dX11_inspector_0 : decode cX11_inspector 0 = .ok (.aload_n 0, 1) := by decide +kernel
theorem dX11_inspector_1 : decode cX11_inspector 1 = .ok (.invokevirtual 65, 3) := by decide +kernel
theorem dX11_inspector_4 : decode cX11_inspector 4 = .ok (.iload_n 1, 1) := by decide +kernel
theorem dX11_inspector_5 : decode cX11_inspector 5 = .ok (.iconst 1, 1) := by decide +kernel
theorem dX11_inspector_6 : decode cX11_inspector 6 = .ok (.bipush 9, 2) := by decide +kernel
theorem dX11_inspector_8 : decode cX11_inspector 8 = .ok (.invokestatic 58, 3) := by decide +kernel
theorem dX11_inspector_11 : decode cX11_inspector 11 = .ok (.ifCond .ne 6, 3) := by decide +kernel
theorem dX11_inspector_14 : decode cX11_inspector 14 = .ok (.bipush (-2), 2) := by decide +kernel
theorem dX11_inspector_16 : decode cX11_inspector 16 = .ok (.ireturn, 1) := by decide +kernel
theorem dX11_inspector_17 : decode cX11_inspector 17 = .ok (.aload_n 0, 1) := by decide +kernel
theorem dX11_inspector_18 : decode cX11_inspector 18 = .ok (.getfield 9, 3) := by decide +kernel
theorem dX11_inspector_21 : decode cX11_inspector 21 = .ok (.iconst 5, 1) := by decide +kernel
theorem dX11_inspector_22 : decode cX11_inspector 22 = .ok (.iaload, 1) := by decide +kernel
theorem dX11_inspector_23 : decode cX11_inspector 23 = .ok (.istore_n 2, 1) := by decide +kernel
theorem dX11_inspector_24 : decode cX11_inspector 24 = .ok (.iload_n 2, 1) := by decide +kernel
theorem dX11_inspector_25 : decode cX11_inspector 25 = .ok (.iconst 3, 1) := by decide +kernel
theorem dX11_inspector_26 : decode cX11_inspector 26 = .ok (.if_icmp .ne 10, 3) := by decide +kernel
theorem dX11_inspector_29 : decode cX11_inspector 29 = .ok (.aload_n 0, 1) := by decide +kernel
theorem dX11_inspector_30 : decode cX11_inspector 30 = .ok (.iconst 1, 1) := by decide +kernel
theorem dX11_inspector_31 : decode cX11_inspector 31 = .ok (.iconst 3, 1) := by decide +kernel
theorem dX11_inspector_32 : decode cX11_inspector 32 = .ok (.invokevirtual 68, 3) := by decide +kernel
theorem dX11_inspector_35 : decode cX11_inspector 35 = .ok (.ireturn, 1) := by decide +kernel
theorem dX11_inspector_36 : decode cX11_inspector 36 = .ok (.aload_n 0, 1) := by decide +kernel
theorem dX11_inspector_37 : decode cX11_inspector 37 = .ok (.getfield 9, 3) := by decide +kernel
theorem dX11_inspector_40 : decode cX11_inspector 40 = .ok (.iconst 5, 1) := by decide +kernel
theorem dX11_inspector_41 : decode cX11_inspector 41 = .ok (.dup2, 1) := by decide +kernel
theorem dX11_inspector_42 : decode cX11_inspector 42 = .ok (.iaload, 1) := by decide +kernel
theorem dX11_inspector_43 : decode cX11_inspector 43 = .ok (.iconst 1, 1) := by decide +kernel
theorem dX11_inspector_44 : decode cX11_inspector 44 = .ok (.iadd, 1) := by decide +kernel
theorem dX11_inspector_45 : decode cX11_inspector 45 = .ok (.iastore, 1) := by decide +kernel
theorem dX11_inspector_46 : decode cX11_inspector 46 = .ok (.aload_n 0, 1) := by decide +kernel
theorem dX11_inspector_47 : decode cX11_inspector 47 = .ok (.getfield 9, 3) := by decide +kernel
theorem dX11_inspector_50 : decode cX11_inspector 50 = .ok (.bipush 105, 2) := by decide +kernel
theorem dX11_inspector_52 : decode cX11_inspector 52 = .ok (.iconst 2, 1) := by decide +kernel
theorem dX11_inspector_53 : decode cX11_inspector 53 = .ok (.iload_n 2, 1) := by decide +kernel
theorem dX11_inspector_54 : decode cX11_inspector 54 = .ok (.imul, 1) := by decide +kernel
theorem dX11_inspector_55 : decode cX11_inspector 55 = .ok (.iadd, 1) := by decide +kernel
theorem dX11_inspector_56 : decode cX11_inspector 56 = .ok (.iload_n 1, 1) := by decide +kernel
theorem dX11_inspector_57 : decode cX11_inspector 57 = .ok (.iastore, 1) := by decide +kernel
theorem dX11_inspector_58 : decode cX11_inspector 58 = .ok (.aload_n 0, 1) := by decide +kernel
theorem dX11_inspector_59 : decode cX11_inspector 59 = .ok (.getfield 9, 3) := by decide +kernel
theorem dX11_inspector_62 : decode cX11_inspector 62 = .ok (.bipush 105, 2) := by decide +kernel
theorem dX11_inspector_64 : decode cX11_inspector 64 = .ok (.iconst 2, 1) := by decide +kernel
theorem dX11_inspector_65 : decode cX11_inspector 65 = .ok (.iload_n 2, 1) := by decide +kernel
theorem dX11_inspector_66 : decode cX11_inspector 66 = .ok (.imul, 1) := by decide +kernel
theorem dX11_inspector_67 : decode cX11_inspector 67 = .ok (.iadd, 1) := by decide +kernel
theorem dX11_inspector_68 : decode cX11_inspector 68 = .ok (.iconst 1, 1) := by decide +kernel
theorem dX11_inspector_69 : decode cX11_inspector 69 = .ok (.iadd, 1) := by decide +kernel
theorem dX11_inspector_70 : decode cX11_inspector 70 = .ok (.iconst 0, 1) := by decide +kernel
theorem dX11_inspector_71 : decode cX11_inspector 71 = .ok (.iastore, 1) := by decide +kernel
theorem dX11_inspector_72 : decode cX11_inspector 72 = .ok (.aload_n 0, 1) := by decide +kernel
theorem dX11_inspector_73 : decode cX11_inspector 73 = .ok (.iload_n 2, 1) := by decide +kernel
theorem dX11_inspector_74 : decode cX11_inspector 74 = .ok (.invokevirtual 54, 3) := by decide +kernel
theorem dX11_inspector_77 : decode cX11_inspector 77 = .ok (.ireturn, 1) := by decide +kernel
theorem dX11_inspects_0 : decode cX11_inspects 0 = .ok (.aload_n 0, 1) := by decide +kernel
theorem dX11_inspects_1 : decode cX11_inspects 1 = .ok (.iload_n 1, 1) := by decide +kernel
theorem dX11_inspects_2 : decode cX11_inspects 2 = .ok (.invokevirtual 136, 3) := by decide +kernel
theorem dX11_inspects_5 : decode cX11_inspects 5 = .ok (.ifCond .eq 11, 3) := by decide +kernel
theorem dX11_inspects_8 : decode cX11_inspects 8 = .ok (.aload_n 0, 1) := by decide +kernel
theorem dX11_inspects_9 : decode cX11_inspects 9 = .ok (.iload_n 2, 1) := by decide +kernel
theorem dX11_inspects_10 : decode cX11_inspects 10 = .ok (.invokevirtual 95, 3) := by decide +kernel
theorem dX11_inspects_13 : decode cX11_inspects 13 = .ok (.ifCond .ne 5, 3) := by decide +kernel
theorem dX11_inspects_16 : decode cX11_inspects 16 = .ok (.iconst (-1), 1) := by decide +kernel
theorem dX11_inspects_17 : decode cX11_inspects 17 = .ok (.ireturn, 1) := by decide +kernel
theorem dX11_inspects_18 : decode cX11_inspects 18 = .ok (.aload_n 0, 1) := by decide +kernel
theorem dX11_inspects_19 : decode cX11_inspects 19 = .ok (.getfield 9, 3) := by decide +kernel
theorem dX11_inspects_22 : decode cX11_inspects 22 = .ok (.iconst 1, 1) := by decide +kernel
theorem dX11_inspects_23 : decode cX11_inspects 23 = .ok (.iaload, 1) := by decide +kernel
theorem dX11_inspects_24 : decode cX11_inspects 24 = .ok (.iconst 3, 1) := by decide +kernel
theorem dX11_inspects_25 : decode cX11_inspects 25 = .ok (.if_icmp .lt 15, 3) := by decide +kernel
theorem dX11_inspects_28 : decode cX11_inspects 28 = .ok (.aload_n 0, 1) := by decide +kernel
theorem dX11_inspects_29 : decode cX11_inspects 29 = .ok (.iconst 4, 1) := by decide +kernel
theorem dX11_inspects_30 : decode cX11_inspects 30 = .ok (.aload_n 0, 1) := by decide +kernel
theorem dX11_inspects_31 : decode cX11_inspects 31 = .ok (.getfield 9, 3) := by decide +kernel
theorem dX11_inspects_34 : decode cX11_inspects 34 = .ok (.iconst 1, 1) := by decide +kernel
theorem dX11_inspects_35 : decode cX11_inspects 35 = .ok (.iaload, 1) := by decide +kernel
theorem dX11_inspects_36 : decode cX11_inspects 36 = .ok (.invokevirtual 68, 3) := by decide +kernel
theorem dX11_inspects_39 : decode cX11_inspects 39 = .ok (.ireturn, 1) := by decide +kernel
theorem dX11_inspects_40 : decode cX11_inspects 40 = .ok (.aload_n 0, 1) := by decide +kernel
theorem dX11_inspects_41 : decode cX11_inspects 41 = .ok (.getfield 9, 3) := by decide +kernel
theorem dX11_inspects_44 : decode cX11_inspects 44 = .ok (.bipush 105, 2) := by decide +kernel
theorem dX11_inspects_46 : decode cX11_inspects 46 = .ok (.iconst 2, 1) := by decide +kernel
theorem dX11_inspects_47 : decode cX11_inspects 47 = .ok (.iload_n 1, 1) := by decide +kernel
theorem dX11_inspects_48 : decode cX11_inspects 48 = .ok (.imul, 1) := by decide +kernel
theorem dX11_inspects_49 : decode cX11_inspects 49 = .ok (.iadd, 1) := by decide +kernel
theorem dX11_inspects_50 : decode cX11_inspects 50 = .ok (.iaload, 1) := by decide +kernel
theorem dX11_inspects_51 : decode cX11_inspects 51 = .ok (.istore_n 3, 1) := by decide +kernel
theorem dX11_inspects_52 : decode cX11_inspects 52 = .ok (.aload_n 0, 1) := by decide +kernel
theorem dX11_inspects_53 : decode cX11_inspects 53 = .ok (.iload_n 2, 1) := by decide +kernel
theorem dX11_inspects_54 : decode cX11_inspects 54 = .ok (.iconst 2, 1) := by decide +kernel
theorem dX11_inspects_55 : decode cX11_inspects 55 = .ok (.invokevirtual 98, 3) := by decide +kernel
theorem dX11_inspects_58 : decode cX11_inspects 58 = .ok (.iload_n 3, 1) := by decide +kernel
theorem dX11_inspects_59 : decode cX11_inspects 59 = .ok (.iadd, 1) := by decide +kernel
theorem dX11_inspects_60 : decode cX11_inspects 60 = .ok (.bipush 20, 2) := by decide +kernel
theorem dX11_inspects_62 : decode cX11_inspects 62 = .ok (.if_icmp .gt 9, 3) := by decide +kernel
theorem dX11_inspects_65 : decode cX11_inspects 65 = .ok (.aload_n 0, 1) := by decide +kernel
theorem dX11_inspects_66 : decode cX11_inspects 66 = .ok (.iconst 0, 1) := by decide +kernel
theorem dX11_inspects_67 : decode cX11_inspects 67 = .ok (.invokevirtual 85, 3) := by decide +kernel
theorem dX11_inspects_70 : decode cX11_inspects 70 = .ok (.ireturn, 1) := by decide +kernel
theorem dX11_inspects_71 : decode cX11_inspects 71 = .ok (.aload_n 0, 1) := by decide +kernel
theorem dX11_inspects_72 : decode cX11_inspects 72 = .ok (.getfield 9, 3) := by decide +kernel
theorem dX11_inspects_75 : decode cX11_inspects 75 = .ok (.bipush 105, 2) := by decide +kernel
theorem dX11_inspects_77 : decode cX11_inspects 77 = .ok (.iconst 2, 1) := by decide +kernel
theorem dX11_inspects_78 : decode cX11_inspects 78 = .ok (.iload_n 1, 1) := by decide +kernel
theorem dX11_inspects_79 : decode cX11_inspects 79 = .ok (.imul, 1) := by decide +kernel
theorem dX11_inspects_80 : decode cX11_inspects 80 = .ok (.iadd, 1) := by decide +kernel
theorem dX11_inspects_81 : decode cX11_inspects 81 = .ok (.iconst 1, 1) := by decide +kernel
theorem dX11_inspects_82 : decode cX11_inspects 82 = .ok (.iadd, 1) := by decide +kernel
theorem dX11_inspects_83 : decode cX11_inspects 83 = .ok (.dup2, 1) := by decide +kernel
theorem dX11_inspects_84 : decode cX11_inspects 84 = .ok (.iaload, 1) := by decide +kernel
theorem dX11_inspects_85 : decode cX11_inspects 85 = .ok (.iconst 1, 1) := by decide +kernel
theorem dX11_inspects_86 : decode cX11_inspects 86 = .ok (.iadd, 1) := by decide +kernel
theorem dX11_inspects_87 : decode cX11_inspects 87 = .ok (.iastore, 1) := by decide +kernel
theorem dX11_inspects_88 : decode cX11_inspects 88 = .ok (.aload_n 0, 1) := by decide +kernel
theorem dX11_inspects_89 : decode cX11_inspects 89 = .ok (.getfield 9, 3) := by decide +kernel
theorem dX11_inspects_92 : decode cX11_inspects 92 = .ok (.bipush 8, 2) := by decide +kernel
theorem dX11_inspects_94 : decode cX11_inspects 94 = .ok (.dup2, 1) := by decide +kernel
theorem dX11_inspects_95 : decode cX11_inspects 95 = .ok (.iaload, 1) := by decide +kernel
theorem dX11_inspects_96 : decode cX11_inspects 96 = .ok (.iload_n 3, 1) := by decide +kernel
theorem dX11_inspects_97 : decode cX11_inspects 97 = .ok (.iadd, 1) := by decide +kernel
theorem dX11_inspects_98 : decode cX11_inspects 98 = .ok (.iastore, 1) := by decide +kernel
theorem dX11_inspects_99 : decode cX11_inspects 99 = .ok (.aload_n 0, 1) := by decide +kernel
theorem dX11_inspects_100 : decode cX11_inspects 100 = .ok (.iload_n 2, 1) := by decide +kernel
theorem dX11_inspects_101 : decode cX11_inspects 101 = .ok (.iconst 5, 1) := by decide +kernel
theorem dX11_inspects_102 : decode cX11_inspects 102 = .ok (.invokevirtual 98, 3) := by decide +kernel
theorem dX11_inspects_105 : decode cX11_inspects 105 = .ok (.ifCond .ne 57, 3) := by decide +kernel
theorem dX11_inspects_108 : decode cX11_inspects 108 = .ok (.aload_n 0, 1) := by decide +kernel
theorem dX11_inspects_109 : decode cX11_inspects 109 = .ok (.iload_n 2, 1) := by decide +kernel
theorem dX11_inspects_110 : decode cX11_inspects 110 = .ok (.iconst 5, 1) := by decide +kernel
theorem dX11_inspects_111 : decode cX11_inspects 111 = .ok (.iload_n 1, 1) := by decide +kernel
theorem dX11_inspects_112 : decode cX11_inspects 112 = .ok (.iconst 1, 1) := by decide +kernel
theorem dX11_inspects_113 : decode cX11_inspects 113 = .ok (.iadd, 1) := by decide +kernel
theorem dX11_inspects_114 : decode cX11_inspects 114 = .ok (.invokevirtual 81, 3) := by decide +kernel
theorem dX11_inspects_117 : decode cX11_inspects 117 = .ok (.iconst 0, 1) := by decide +kernel
theorem dX11_inspects_118 : decode cX11_inspects 118 = .ok (.istore 4, 2) := by decide +kernel
theorem dX11_inspects_120 : decode cX11_inspects 120 = .ok (.iload 4, 2) := by decide +kernel
theorem dX11_inspects_122 : decode cX11_inspects 122 = .ok (.aload_n 0, 1) := by decide +kernel
theorem dX11_inspects_123 : decode cX11_inspects 123 = .ok (.getfield 9, 3) := by decide +kernel
theorem dX11_inspects_126 : decode cX11_inspects 126 = .ok (.iconst 4, 1) := by decide +kernel
theorem dX11_inspects_127 : decode cX11_inspects 127 = .ok (.iaload, 1) := by decide +kernel
theorem dX11_inspects_128 : decode cX11_inspects 128 = .ok (.if_icmp .ge 34, 3) := by decide +kernel
theorem dX11_inspects_131 : decode cX11_inspects 131 = .ok (.aload_n 0, 1) := by decide +kernel
theorem dX11_inspects_132 : decode cX11_inspects 132 = .ok (.iload 4, 2) := by decide +kernel
theorem dX11_inspects_134 : decode cX11_inspects 134 = .ok (.invokevirtual 104, 3) := by decide +kernel
theorem dX11_inspects_137 : decode cX11_inspects 137 = .ok (.iload_n 2, 1) := by decide +kernel
theorem dX11_inspects_138 : decode cX11_inspects 138 = .ok (.if_icmp .ne 18, 3) := by decide +kernel
theorem dX11_inspects_141 : decode cX11_inspects 141 = .ok (.aload_n 0, 1) := by decide +kernel
theorem dX11_inspects_142 : decode cX11_inspects 142 = .ok (.getfield 9, 3) := by decide +kernel
theorem dX11_inspects_145 : decode cX11_inspects 145 = .ok (.bipush 90, 2) := by decide +kernel
theorem dX11_inspects_147 : decode cX11_inspects 147 = .ok (.iconst 3, 1) := by decide +kernel
theorem dX11_inspects_148 : decode cX11_inspects 148 = .ok (.iload 4, 2) := by decide +kernel
theorem dX11_inspects_150 : decode cX11_inspects 150 = .ok (.imul, 1) := by decide +kernel
theorem dX11_inspects_151 : decode cX11_inspects 151 = .ok (.iadd, 1) := by decide +kernel
theorem dX11_inspects_152 : decode cX11_inspects 152 = .ok (.iconst 1, 1) := by decide +kernel
theorem dX11_inspects_153 : decode cX11_inspects 153 = .ok (.iadd, 1) := by decide +kernel
theorem dX11_inspects_154 : decode cX11_inspects 154 = .ok (.iconst 0, 1) := by decide +kernel
theorem dX11_inspects_155 : decode cX11_inspects 155 = .ok (.iastore, 1) := by decide +kernel
theorem dX11_inspects_156 : decode cX11_inspects 156 = .ok (.iinc 4 1, 3) := by decide +kernel
theorem dX11_inspects_159 : decode cX11_inspects 159 = .ok (.goto (-39), 3) := by decide +kernel
theorem dX11_inspects_162 : decode cX11_inspects 162 = .ok (.aload_n 0, 1) := by decide +kernel
theorem dX11_inspects_163 : decode cX11_inspects 163 = .ok (.iconst 1, 1) := by decide +kernel
theorem dX11_inspects_164 : decode cX11_inspects 164 = .ok (.invokevirtual 85, 3) := by decide +kernel
theorem dX11_inspects_167 : decode cX11_inspects 167 = .ok (.ireturn, 1) := by decide +kernel
theorem dX11_inspect_0 : decode cX11_inspect 0 = .ok (.aload_n 0, 1) := by decide +kernel
theorem dX11_inspect_1 : decode cX11_inspect 1 = .ok (.invokevirtual 65, 3) := by decide +kernel
theorem dX11_inspect_4 : decode cX11_inspect 4 = .ok (.aload_n 0, 1) := by decide +kernel
theorem dX11_inspect_5 : decode cX11_inspect 5 = .ok (.aload_n 0, 1) := by decide +kernel
theorem dX11_inspect_6 : decode cX11_inspect 6 = .ok (.iload_n 1, 1) := by decide +kernel
theorem dX11_inspect_7 : decode cX11_inspect 7 = .ok (.iload_n 2, 1) := by decide +kernel
theorem dX11_inspect_8 : decode cX11_inspect 8 = .ok (.invokevirtual 139, 3) := by decide +kernel
theorem dX11_inspect_11 : decode cX11_inspect 11 = .ok (.invokevirtual 92, 3) := by decide +kernel
theorem dX11_inspect_14 : decode cX11_inspect 14 = .ok (.ireturn, 1) := by decide +kernel
theorem dX11_strong_0 : decode cX11_strong 0 = .ok (.iconst 0, 1) := by decide +kernel
theorem dX11_strong_1 : decode cX11_strong 1 = .ok (.bipush 12, 2) := by decide +kernel
theorem dX11_strong_3 : decode cX11_strong 3 = .ok (.aload_n 0, 1) := by decide +kernel
theorem dX11_strong_4 : decode cX11_strong 4 = .ok (.iload_n 1, 1) := by decide +kernel
theorem dX11_strong_5 : decode cX11_strong 5 = .ok (.iconst 1, 1) := by decide +kernel
theorem dX11_strong_6 : decode cX11_strong 6 = .ok (.invokevirtual 98, 3) := by decide +kernel
theorem dX11_strong_9 : decode cX11_strong 9 = .ok (.bipush 6, 2) := by decide +kernel
theorem dX11_strong_11 : decode cX11_strong 11 = .ok (.idiv, 1) := by decide +kernel
theorem dX11_strong_12 : decode cX11_strong 12 = .ok (.isub, 1) := by decide +kernel
theorem dX11_strong_13 : decode cX11_strong 13 = .ok (.aload_n 0, 1) := by decide +kernel
theorem dX11_strong_14 : decode cX11_strong 14 = .ok (.iload_n 1, 1) := by decide +kernel
theorem dX11_strong_15 : decode cX11_strong 15 = .ok (.iconst 0, 1) := by decide +kernel
theorem dX11_strong_16 : decode cX11_strong 16 = .ok (.invokevirtual 98, 3) := by decide +kernel
theorem dX11_strong_19 : decode cX11_strong 19 = .ok (.iadd, 1) := by decide +kernel
theorem dX11_strong_20 : decode cX11_strong 20 = .ok (.aload_n 0, 1) := by decide +kernel
theorem dX11_strong_21 : decode cX11_strong 21 = .ok (.iload_n 1, 1) := by decide +kernel
theorem dX11_strong_22 : decode cX11_strong 22 = .ok (.iconst 2, 1) := by decide +kernel
theorem dX11_strong_23 : decode cX11_strong 23 = .ok (.invokevirtual 98, 3) := by decide +kernel
theorem dX11_strong_26 : decode cX11_strong 26 = .ok (.iconst 5, 1) := by decide +kernel
theorem dX11_strong_27 : decode cX11_strong 27 = .ok (.idiv, 1) := by decide +kernel
theorem dX11_strong_28 : decode cX11_strong 28 = .ok (.isub, 1) := by decide +kernel
theorem dX11_strong_29 : decode cX11_strong 29 = .ok (.iload_n 1, 1) := by decide +kernel
theorem dX11_strong_30 : decode cX11_strong 30 = .ok (.iconst 2, 1) := by decide +kernel
theorem dX11_strong_31 : decode cX11_strong 31 = .ok (.idiv, 1) := by decide +kernel
theorem dX11_strong_32 : decode cX11_strong 32 = .ok (.isub, 1) := by decide +kernel
theorem dX11_strong_33 : decode cX11_strong 33 = .ok (.invokestatic 142, 3) := by decide +kernel
theorem dX11_strong_36 : decode cX11_strong 36 = .ok (.ireturn, 1) := by decide +kernel
theorem dX11_fallsBy_0 : decode cX11_fallsBy 0 = .ok (.iconst 0, 1) := by decide +kernel
theorem dX11_fallsBy_1 : decode cX11_fallsBy 1 = .ok (.istore_n 2, 1) := by decide +kernel
theorem dX11_fallsBy_2 : decode cX11_fallsBy 2 = .ok (.iload_n 2, 1) := by decide +kernel
theorem dX11_fallsBy_3 : decode cX11_fallsBy 3 = .ok (.aload_n 0, 1) := by decide +kernel
theorem dX11_fallsBy_4 : decode cX11_fallsBy 4 = .ok (.getfield 9, 3) := by decide +kernel
theorem dX11_fallsBy_7 : decode cX11_fallsBy 7 = .ok (.iconst 3, 1) := by decide +kernel
theorem dX11_fallsBy_8 : decode cX11_fallsBy 8 = .ok (.iaload, 1) := by decide +kernel
theorem dX11_fallsBy_9 : decode cX11_fallsBy 9 = .ok (.if_icmp .ge 20, 3) := by decide +kernel
theorem dX11_fallsBy_12 : decode cX11_fallsBy 12 = .ok (.aload_n 0, 1) := by decide +kernel
theorem dX11_fallsBy_13 : decode cX11_fallsBy 13 = .ok (.iload_n 2, 1) := by decide +kernel
theorem dX11_fallsBy_14 : decode cX11_fallsBy 14 = .ok (.invokevirtual 145, 3) := by decide +kernel
theorem dX11_fallsBy_17 : decode cX11_fallsBy 17 = .ok (.iload_n 1, 1) := by decide +kernel
theorem dX11_fallsBy_18 : decode cX11_fallsBy 18 = .ok (.if_icmp .ge 5, 3) := by decide +kernel
theorem dX11_fallsBy_21 : decode cX11_fallsBy 21 = .ok (.iload_n 2, 1) := by decide +kernel
theorem dX11_fallsBy_22 : decode cX11_fallsBy 22 = .ok (.ireturn, 1) := by decide +kernel
theorem dX11_fallsBy_23 : decode cX11_fallsBy 23 = .ok (.iinc 2 1, 3) := by decide +kernel
theorem dX11_fallsBy_26 : decode cX11_fallsBy 26 = .ok (.goto (-24), 3) := by decide +kernel
theorem dX11_fallsBy_29 : decode cX11_fallsBy 29 = .ok (.bipush (-4), 2) := by decide +kernel
theorem dX11_fallsBy_31 : decode cX11_fallsBy 31 = .ok (.ireturn, 1) := by decide +kernel
theorem dX11_works_0 : decode cX11_works 0 = .ok (.aload_n 0, 1) := by decide +kernel
theorem dX11_works_1 : decode cX11_works 1 = .ok (.iload_n 1, 1) := by decide +kernel
theorem dX11_works_2 : decode cX11_works 2 = .ok (.invokevirtual 104, 3) := by decide +kernel
theorem dX11_works_5 : decode cX11_works 5 = .ok (.istore_n 2, 1) := by decide +kernel
theorem dX11_works_6 : decode cX11_works 6 = .ok (.iload_n 2, 1) := by decide +kernel
theorem dX11_works_7 : decode cX11_works 7 = .ok (.ifCond .lt 33, 3) := by decide +kernel
theorem dX11_works_10 : decode cX11_works 10 = .ok (.aload_n 0, 1) := by decide +kernel
theorem dX11_works_11 : decode cX11_works 11 = .ok (.iload_n 2, 1) := by decide +kernel
theorem dX11_works_12 : decode cX11_works 12 = .ok (.invokevirtual 110, 3) := by decide +kernel
theorem dX11_works_15 : decode cX11_works 15 = .ok (.ifCond .ge 25, 3) := by decide +kernel
theorem dX11_works_18 : decode cX11_works 18 = .ok (.aload_n 0, 1) := by decide +kernel
theorem dX11_works_19 : decode cX11_works 19 = .ok (.iload_n 2, 1) := by decide +kernel
theorem dX11_works_20 : decode cX11_works 20 = .ok (.iconst 3, 1) := by decide +kernel
theorem dX11_works_21 : decode cX11_works 21 = .ok (.invokevirtual 98, 3) := by decide +kernel
theorem dX11_works_24 : decode cX11_works 24 = .ok (.ifCond .le 16, 3) := by decide +kernel
theorem dX11_works_27 : decode cX11_works 27 = .ok (.aload_n 0, 1) := by decide +kernel
theorem dX11_works_28 : decode cX11_works 28 = .ok (.iload_n 2, 1) := by decide +kernel
theorem dX11_works_29 : decode cX11_works 29 = .ok (.iconst 4, 1) := by decide +kernel
theorem dX11_works_30 : decode cX11_works 30 = .ok (.invokevirtual 98, 3) := by decide +kernel
theorem dX11_works_33 : decode cX11_works 33 = .ok (.ifCond .le 7, 3) := by decide +kernel
theorem dX11_works_36 : decode cX11_works 36 = .ok (.iconst 1, 1) := by decide +kernel
theorem dX11_works_37 : decode cX11_works 37 = .ok (.goto 4, 3) := by decide +kernel
theorem dX11_works_40 : decode cX11_works 40 = .ok (.iconst 0, 1) := by decide +kernel
theorem dX11_works_41 : decode cX11_works 41 = .ok (.ireturn, 1) := by decide +kernel
theorem dX11_passes_0 : decode cX11_passes 0 = .ok (.iconst 0, 1) := by decide +kernel
theorem dX11_passes_1 : decode cX11_passes 1 = .ok (.istore_n 1, 1) := by decide +kernel
theorem dX11_passes_2 : decode cX11_passes 2 = .ok (.iload_n 1, 1) := by decide +kernel
theorem dX11_passes_3 : decode cX11_passes 3 = .ok (.aload_n 0, 1) := by decide +kernel
theorem dX11_passes_4 : decode cX11_passes 4 = .ok (.getfield 9, 3) := by decide +kernel
theorem dX11_passes_7 : decode cX11_passes 7 = .ok (.iconst 4, 1) := by decide +kernel
theorem dX11_passes_8 : decode cX11_passes 8 = .ok (.iaload, 1) := by decide +kernel
theorem dX11_passes_9 : decode cX11_passes 9 = .ok (.if_icmp .ge 103, 3) := by decide +kernel
theorem dX11_passes_12 : decode cX11_passes 12 = .ok (.aload_n 0, 1) := by decide +kernel
theorem dX11_passes_13 : decode cX11_passes 13 = .ok (.iload_n 1, 1) := by decide +kernel
theorem dX11_passes_14 : decode cX11_passes 14 = .ok (.invokevirtual 148, 3) := by decide +kernel
theorem dX11_passes_17 : decode cX11_passes 17 = .ok (.ifCond .ne 6, 3) := by decide +kernel
theorem dX11_passes_20 : decode cX11_passes 20 = .ok (.goto 86, 3) := by decide +kernel
theorem dX11_passes_23 : decode cX11_passes 23 = .ok (.aload_n 0, 1) := by decide +kernel
theorem dX11_passes_24 : decode cX11_passes 24 = .ok (.iload_n 1, 1) := by decide +kernel
theorem dX11_passes_25 : decode cX11_passes 25 = .ok (.invokevirtual 104, 3) := by decide +kernel
theorem dX11_passes_28 : decode cX11_passes 28 = .ok (.istore_n 2, 1) := by decide +kernel
theorem dX11_passes_29 : decode cX11_passes 29 = .ok (.aload_n 0, 1) := by decide +kernel
theorem dX11_passes_30 : decode cX11_passes 30 = .ok (.iload_n 2, 1) := by decide +kernel
theorem dX11_passes_31 : decode cX11_passes 31 = .ok (.iconst 3, 1) := by decide +kernel
theorem dX11_passes_32 : decode cX11_passes 32 = .ok (.invokevirtual 98, 3) := by decide +kernel
theorem dX11_passes_35 : decode cX11_passes 35 = .ok (.aload_n 0, 1) := by decide +kernel
theorem dX11_passes_36 : decode cX11_passes 36 = .ok (.getfield 9, 3) := by decide +kernel
theorem dX11_passes_39 : decode cX11_passes 39 = .ok (.bipush 90, 2) := by decide +kernel
theorem dX11_passes_41 : decode cX11_passes 41 = .ok (.iconst 3, 1) := by decide +kernel
theorem dX11_passes_42 : decode cX11_passes 42 = .ok (.iload_n 1, 1) := by decide +kernel
theorem dX11_passes_43 : decode cX11_passes 43 = .ok (.imul, 1) := by decide +kernel
theorem dX11_passes_44 : decode cX11_passes 44 = .ok (.iadd, 1) := by decide +kernel
theorem dX11_passes_45 : decode cX11_passes 45 = .ok (.iaload, 1) := by decide +kernel
theorem dX11_passes_46 : decode cX11_passes 46 = .ok (.invokestatic 72, 3) := by decide +kernel
theorem dX11_passes_49 : decode cX11_passes 49 = .ok (.istore_n 3, 1) := by decide +kernel
theorem dX11_passes_50 : decode cX11_passes 50 = .ok (.aload_n 0, 1) := by decide +kernel
theorem dX11_passes_51 : decode cX11_passes 51 = .ok (.iload_n 2, 1) := by decide +kernel
theorem dX11_passes_52 : decode cX11_passes 52 = .ok (.iconst 3, 1) := by decide +kernel
theorem dX11_passes_53 : decode cX11_passes 53 = .ok (.aload_n 0, 1) := by decide +kernel
theorem dX11_passes_54 : decode cX11_passes 54 = .ok (.iload_n 2, 1) := by decide +kernel
theorem dX11_passes_55 : decode cX11_passes 55 = .ok (.iconst 3, 1) := by decide +kernel
theorem dX11_passes_56 : decode cX11_passes 56 = .ok (.invokevirtual 98, 3) := by decide +kernel
theorem dX11_passes_59 : decode cX11_passes 59 = .ok (.iload_n 3, 1) := by decide +kernel
theorem dX11_passes_60 : decode cX11_passes 60 = .ok (.isub, 1) := by decide +kernel
theorem dX11_passes_61 : decode cX11_passes 61 = .ok (.invokevirtual 81, 3) := by decide +kernel
theorem dX11_passes_64 : decode cX11_passes 64 = .ok (.aload_n 0, 1) := by decide +kernel
theorem dX11_passes_65 : decode cX11_passes 65 = .ok (.iload_n 2, 1) := by decide +kernel
theorem dX11_passes_66 : decode cX11_passes 66 = .ok (.iconst 4, 1) := by decide +kernel
theorem dX11_passes_67 : decode cX11_passes 67 = .ok (.aload_n 0, 1) := by decide +kernel
theorem dX11_passes_68 : decode cX11_passes 68 = .ok (.iload_n 2, 1) := by decide +kernel
theorem dX11_passes_69 : decode cX11_passes 69 = .ok (.iconst 4, 1) := by decide +kernel
theorem dX11_passes_70 : decode cX11_passes 70 = .ok (.invokevirtual 98, 3) := by decide +kernel
theorem dX11_passes_73 : decode cX11_passes 73 = .ok (.iconst 1, 1) := by decide +kernel
theorem dX11_passes_74 : decode cX11_passes 74 = .ok (.isub, 1) := by decide +kernel
theorem dX11_passes_75 : decode cX11_passes 75 = .ok (.invokevirtual 81, 3) := by decide +kernel
theorem dX11_passes_78 : decode cX11_passes 78 = .ok (.aload_n 0, 1) := by decide +kernel
theorem dX11_passes_79 : decode cX11_passes 79 = .ok (.getfield 9, 3) := by decide +kernel
theorem dX11_passes_82 : decode cX11_passes 82 = .ok (.bipush 90, 2) := by decide +kernel
theorem dX11_passes_84 : decode cX11_passes 84 = .ok (.iconst 3, 1) := by decide +kernel
theorem dX11_passes_85 : decode cX11_passes 85 = .ok (.iload_n 1, 1) := by decide +kernel
theorem dX11_passes_86 : decode cX11_passes 86 = .ok (.imul, 1) := by decide +kernel
theorem dX11_passes_87 : decode cX11_passes 87 = .ok (.iadd, 1) := by decide +kernel
theorem dX11_passes_88 : decode cX11_passes 88 = .ok (.iconst 2, 1) := by decide +kernel
theorem dX11_passes_89 : decode cX11_passes 89 = .ok (.iadd, 1) := by decide +kernel
theorem dX11_passes_90 : decode cX11_passes 90 = .ok (.dup2, 1) := by decide +kernel
theorem dX11_passes_91 : decode cX11_passes 91 = .ok (.iaload, 1) := by decide +kernel
theorem dX11_passes_92 : decode cX11_passes 92 = .ok (.iload_n 3, 1) := by decide +kernel
theorem dX11_passes_93 : decode cX11_passes 93 = .ok (.iadd, 1) := by decide +kernel
theorem dX11_passes_94 : decode cX11_passes 94 = .ok (.iastore, 1) := by decide +kernel
theorem dX11_passes_95 : decode cX11_passes 95 = .ok (.aload_n 0, 1) := by decide +kernel
theorem dX11_passes_96 : decode cX11_passes 96 = .ok (.getfield 9, 3) := by decide +kernel
theorem dX11_passes_99 : decode cX11_passes 99 = .ok (.bipush 9, 2) := by decide +kernel
theorem dX11_passes_101 : decode cX11_passes 101 = .ok (.dup2, 1) := by decide +kernel
theorem dX11_passes_102 : decode cX11_passes 102 = .ok (.iaload, 1) := by decide +kernel
theorem dX11_passes_103 : decode cX11_passes 103 = .ok (.iload_n 3, 1) := by decide +kernel
theorem dX11_passes_104 : decode cX11_passes 104 = .ok (.iadd, 1) := by decide +kernel
theorem dX11_passes_105 : decode cX11_passes 105 = .ok (.iastore, 1) := by decide +kernel
theorem dX11_passes_106 : decode cX11_passes 106 = .ok (.iinc 1 1, 3) := by decide +kernel
theorem dX11_passes_109 : decode cX11_passes 109 = .ok (.goto (-107), 3) := by decide +kernel
theorem dX11_passes_112 : decode cX11_passes 112 = .ok (.aload_n 0, 1) := by decide +kernel
theorem dX11_passes_113 : decode cX11_passes 113 = .ok (.getfield 9, 3) := by decide +kernel
theorem dX11_passes_116 : decode cX11_passes 116 = .ok (.iconst 1, 1) := by decide +kernel
theorem dX11_passes_117 : decode cX11_passes 117 = .ok (.iaload, 1) := by decide +kernel
theorem dX11_passes_118 : decode cX11_passes 118 = .ok (.bipush 8, 2) := by decide +kernel
theorem dX11_passes_120 : decode cX11_passes 120 = .ok (.if_icmp .lt 7, 3) := by decide +kernel
theorem dX11_passes_123 : decode cX11_passes 123 = .ok (.iconst 1, 1) := by decide +kernel
theorem dX11_passes_124 : decode cX11_passes 124 = .ok (.goto 4, 3) := by decide +kernel
theorem dX11_passes_127 : decode cX11_passes 127 = .ok (.iconst 0, 1) := by decide +kernel
theorem dX11_passes_128 : decode cX11_passes 128 = .ok (.istore_n 1, 1) := by decide +kernel
theorem dX11_passes_129 : decode cX11_passes 129 = .ok (.iconst 0, 1) := by decide +kernel
theorem dX11_passes_130 : decode cX11_passes 130 = .ok (.istore_n 2, 1) := by decide +kernel
theorem dX11_passes_131 : decode cX11_passes 131 = .ok (.iload_n 2, 1) := by decide +kernel
theorem dX11_passes_132 : decode cX11_passes 132 = .ok (.aload_n 0, 1) := by decide +kernel
theorem dX11_passes_133 : decode cX11_passes 133 = .ok (.getfield 9, 3) := by decide +kernel
theorem dX11_passes_136 : decode cX11_passes 136 = .ok (.iconst 3, 1) := by decide +kernel
theorem dX11_passes_137 : decode cX11_passes 137 = .ok (.iaload, 1) := by decide +kernel
theorem dX11_passes_138 : decode cX11_passes 138 = .ok (.if_icmp .ge 36, 3) := by decide +kernel
theorem dX11_passes_141 : decode cX11_passes 141 = .ok (.aload_n 0, 1) := by decide +kernel
theorem dX11_passes_142 : decode cX11_passes 142 = .ok (.iload_n 2, 1) := by decide +kernel
theorem dX11_passes_143 : decode cX11_passes 143 = .ok (.iconst 2, 1) := by decide +kernel
theorem dX11_passes_144 : decode cX11_passes 144 = .ok (.bipush 99, 2) := by decide +kernel
theorem dX11_passes_146 : decode cX11_passes 146 = .ok (.aload_n 0, 1) := by decide +kernel
theorem dX11_passes_147 : decode cX11_passes 147 = .ok (.iload_n 2, 1) := by decide +kernel
theorem dX11_passes_148 : decode cX11_passes 148 = .ok (.iconst 2, 1) := by decide +kernel
theorem dX11_passes_149 : decode cX11_passes 149 = .ok (.invokevirtual 98, 3) := by decide +kernel
theorem dX11_passes_152 : decode cX11_passes 152 = .ok (.iload_n 1, 1) := by decide +kernel
theorem dX11_passes_153 : decode cX11_passes 153 = .ok (.ifCond .eq 7, 3) := by decide +kernel
theorem dX11_passes_156 : decode cX11_passes 156 = .ok (.iconst 4, 1) := by decide +kernel
theorem dX11_passes_157 : decode cX11_passes 157 = .ok (.goto 4, 3) := by decide +kernel
theorem dX11_passes_160 : decode cX11_passes 160 = .ok (.iconst 1, 1) := by decide +kernel
theorem dX11_passes_161 : decode cX11_passes 161 = .ok (.iadd, 1) := by decide +kernel
theorem dX11_passes_162 : decode cX11_passes 162 = .ok (.invokestatic 72, 3) := by decide +kernel
theorem dX11_passes_165 : decode cX11_passes 165 = .ok (.invokevirtual 81, 3) := by decide +kernel
theorem dX11_passes_168 : decode cX11_passes 168 = .ok (.iinc 2 1, 3) := by decide +kernel
theorem dX11_passes_171 : decode cX11_passes 171 = .ok (.goto (-40), 3) := by decide +kernel
theorem dX11_passes_174 : decode cX11_passes 174 = .ok (.iload_n 1, 1) := by decide +kernel
theorem dX11_passes_175 : decode cX11_passes 175 = .ok (.ifCond .eq 16, 3) := by decide +kernel
theorem dX11_passes_178 : decode cX11_passes 178 = .ok (.aload_n 0, 1) := by decide +kernel
theorem dX11_passes_179 : decode cX11_passes 179 = .ok (.aload_n 0, 1) := by decide +kernel
theorem dX11_passes_180 : decode cX11_passes 180 = .ok (.getfield 9, 3) := by decide +kernel
theorem dX11_passes_183 : decode cX11_passes 183 = .ok (.iconst 1, 1) := by decide +kernel
theorem dX11_passes_184 : decode cX11_passes 184 = .ok (.iaload, 1) := by decide +kernel
theorem dX11_passes_185 : decode cX11_passes 185 = .ok (.invokevirtual 151, 3) := by decide +kernel
theorem dX11_passes_188 : decode cX11_passes 188 = .ok (.goto 5, 3) := by decide +kernel
theorem dX11_passes_191 : decode cX11_passes 191 = .ok (.bipush (-4), 2) := by decide +kernel
theorem dX11_passes_193 : decode cX11_passes 193 = .ok (.istore_n 2, 1) := by decide +kernel
theorem dX11_passes_194 : decode cX11_passes 194 = .ok (.iconst 0, 1) := by decide +kernel
theorem dX11_passes_195 : decode cX11_passes 195 = .ok (.istore_n 3, 1) := by decide +kernel
theorem dX11_passes_196 : decode cX11_passes 196 = .ok (.iload_n 2, 1) := by decide +kernel
theorem dX11_passes_197 : decode cX11_passes 197 = .ok (.ifCond .lt 78, 3) := by decide +kernel
theorem dX11_passes_200 : decode cX11_passes 200 = .ok (.iload_n 2, 1) := by decide +kernel
theorem dX11_passes_201 : decode cX11_passes 201 = .ok (.istore 4, 2) := by decide +kernel
theorem dX11_passes_203 : decode cX11_passes 203 = .ok (.iload 4, 2) := by decide +kernel
theorem dX11_passes_205 : decode cX11_passes 205 = .ok (.aload_n 0, 1) := by decide +kernel
theorem dX11_passes_206 : decode cX11_passes 206 = .ok (.getfield 9, 3) := by decide +kernel
theorem dX11_passes_209 : decode cX11_passes 209 = .ok (.iconst 3, 1) := by decide +kernel
theorem dX11_passes_210 : decode cX11_passes 210 = .ok (.iaload, 1) := by decide +kernel
theorem dX11_passes_211 : decode cX11_passes 211 = .ok (.if_icmp .ge 46, 3) := by decide +kernel
theorem dX11_passes_214 : decode cX11_passes 214 = .ok (.aload_n 0, 1) := by decide +kernel
theorem dX11_passes_215 : decode cX11_passes 215 = .ok (.getfield 9, 3) := by decide +kernel
theorem dX11_passes_218 : decode cX11_passes 218 = .ok (.bipush 11, 2) := by decide +kernel
theorem dX11_passes_220 : decode cX11_passes 220 = .ok (.dup2, 1) := by decide +kernel
theorem dX11_passes_221 : decode cX11_passes 221 = .ok (.iaload, 1) := by decide +kernel
theorem dX11_passes_222 : decode cX11_passes 222 = .ok (.aload_n 0, 1) := by decide +kernel
theorem dX11_passes_223 : decode cX11_passes 223 = .ok (.iload 4, 2) := by decide +kernel
theorem dX11_passes_225 : decode cX11_passes 225 = .ok (.iconst 0, 1) := by decide +kernel
theorem dX11_passes_226 : decode cX11_passes 226 = .ok (.invokevirtual 98, 3) := by decide +kernel
theorem dX11_passes_229 : decode cX11_passes 229 = .ok (.iadd, 1) := by decide +kernel
theorem dX11_passes_230 : decode cX11_passes 230 = .ok (.iastore, 1) := by decide +kernel
theorem dX11_passes_231 : decode cX11_passes 231 = .ok (.aload_n 0, 1) := by decide +kernel
theorem dX11_passes_232 : decode cX11_passes 232 = .ok (.getfield 9, 3) := by decide +kernel
theorem dX11_passes_235 : decode cX11_passes 235 = .ok (.bipush 13, 2) := by decide +kernel
theorem dX11_passes_237 : decode cX11_passes 237 = .ok (.dup2, 1) := by decide +kernel
theorem dX11_passes_238 : decode cX11_passes 238 = .ok (.iaload, 1) := by decide +kernel
theorem dX11_passes_239 : decode cX11_passes 239 = .ok (.aload_n 0, 1) := by decide +kernel
theorem dX11_passes_240 : decode cX11_passes 240 = .ok (.iload 4, 2) := by decide +kernel
theorem dX11_passes_242 : decode cX11_passes 242 = .ok (.iconst 3, 1) := by decide +kernel
theorem dX11_passes_243 : decode cX11_passes 243 = .ok (.invokevirtual 98, 3) := by decide +kernel
theorem dX11_passes_246 : decode cX11_passes 246 = .ok (.iadd, 1) := by decide +kernel
theorem dX11_passes_247 : decode cX11_passes 247 = .ok (.iastore, 1) := by decide +kernel
theorem dX11_passes_248 : decode cX11_passes 248 = .ok (.iinc 3 1, 3) := by decide +kernel
theorem dX11_passes_251 : decode cX11_passes 251 = .ok (.iinc 4 1, 3) := by decide +kernel
theorem dX11_passes_254 : decode cX11_passes 254 = .ok (.goto (-51), 3) := by decide +kernel
theorem dX11_passes_257 : decode cX11_passes 257 = .ok (.aload_n 0, 1) := by decide +kernel
theorem dX11_passes_258 : decode cX11_passes 258 = .ok (.getfield 9, 3) := by decide +kernel
theorem dX11_passes_261 : decode cX11_passes 261 = .ok (.iconst 3, 1) := by decide +kernel
theorem dX11_passes_262 : decode cX11_passes 262 = .ok (.iload_n 2, 1) := by decide +kernel
theorem dX11_passes_263 : decode cX11_passes 263 = .ok (.iastore, 1) := by decide +kernel
theorem dX11_passes_264 : decode cX11_passes 264 = .ok (.aload_n 0, 1) := by decide +kernel
theorem dX11_passes_265 : decode cX11_passes 265 = .ok (.getfield 9, 3) := by decide +kernel
theorem dX11_passes_268 : decode cX11_passes 268 = .ok (.bipush 10, 2) := by decide +kernel
theorem dX11_passes_270 : decode cX11_passes 270 = .ok (.dup2, 1) := by decide +kernel
theorem dX11_passes_271 : decode cX11_passes 271 = .ok (.iaload, 1) := by decide +kernel
theorem dX11_passes_272 : decode cX11_passes 272 = .ok (.iload_n 3, 1) := by decide +kernel
theorem dX11_passes_273 : decode cX11_passes 273 = .ok (.iadd, 1) := by decide +kernel
theorem dX11_passes_274 : decode cX11_passes 274 = .ok (.iastore, 1) := by decide +kernel
theorem dX11_passes_275 : decode cX11_passes 275 = .ok (.aload_n 0, 1) := by decide +kernel
theorem dX11_passes_276 : decode cX11_passes 276 = .ok (.getfield 9, 3) := by decide +kernel
theorem dX11_passes_279 : decode cX11_passes 279 = .ok (.iconst 0, 1) := by decide +kernel
theorem dX11_passes_280 : decode cX11_passes 280 = .ok (.dup2, 1) := by decide +kernel
theorem dX11_passes_281 : decode cX11_passes 281 = .ok (.iaload, 1) := by decide +kernel
theorem dX11_passes_282 : decode cX11_passes 282 = .ok (.iconst 1, 1) := by decide +kernel
theorem dX11_passes_283 : decode cX11_passes 283 = .ok (.iadd, 1) := by decide +kernel
theorem dX11_passes_284 : decode cX11_passes 284 = .ok (.iastore, 1) := by decide +kernel
theorem dX11_passes_285 : decode cX11_passes 285 = .ok (.aload_n 0, 1) := by decide +kernel
theorem dX11_passes_286 : decode cX11_passes 286 = .ok (.getfield 9, 3) := by decide +kernel
theorem dX11_passes_289 : decode cX11_passes 289 = .ok (.bipush 7, 2) := by decide +kernel
theorem dX11_passes_291 : decode cX11_passes 291 = .ok (.bipush 20, 2) := by decide +kernel
theorem dX11_passes_293 : decode cX11_passes 293 = .ok (.iastore, 1) := by decide +kernel
theorem dX11_passes_294 : decode cX11_passes 294 = .ok (.aload_n 0, 1) := by decide +kernel
theorem dX11_passes_295 : decode cX11_passes 295 = .ok (.getfield 9, 3) := by decide +kernel
theorem dX11_passes_298 : decode cX11_passes 298 = .ok (.iconst 0, 1) := by decide +kernel
theorem dX11_passes_299 : decode cX11_passes 299 = .ok (.iaload, 1) := by decide +kernel
theorem dX11_passes_300 : decode cX11_passes 300 = .ok (.bipush 7, 2) := by decide +kernel
theorem dX11_passes_302 : decode cX11_passes 302 = .ok (.irem, 1) := by decide +kernel
theorem dX11_passes_303 : decode cX11_passes 303 = .ok (.ifCond .ne 99, 3) := by decide +kernel
theorem dX11_passes_306 : decode cX11_passes 306 = .ok (.iconst 0, 1) := by decide +kernel
theorem dX11_passes_307 : decode cX11_passes 307 = .ok (.istore 4, 2) := by decide +kernel
theorem dX11_passes_309 : decode cX11_passes 309 = .ok (.iload 4, 2) := by decide +kernel
theorem dX11_passes_311 : decode cX11_passes 311 = .ok (.aload_n 0, 1) := by decide +kernel
theorem dX11_passes_312 : decode cX11_passes 312 = .ok (.getfield 9, 3) := by decide +kernel
theorem dX11_passes_315 : decode cX11_passes 315 = .ok (.iconst 2, 1) := by decide +kernel
theorem dX11_passes_316 : decode cX11_passes 316 = .ok (.iaload, 1) := by decide +kernel
theorem dX11_passes_317 : decode cX11_passes 317 = .ok (.if_icmp .ge 44, 3) := by decide +kernel
theorem dX11_passes_320 : decode cX11_passes 320 = .ok (.aload_n 0, 1) := by decide +kernel
theorem dX11_passes_321 : decode cX11_passes 321 = .ok (.getfield 9, 3) := by decide +kernel
theorem dX11_passes_324 : decode cX11_passes 324 = .ok (.bipush 14, 2) := by decide +kernel
theorem dX11_passes_326 : decode cX11_passes 326 = .ok (.iconst 2, 1) := by decide +kernel
theorem dX11_passes_327 : decode cX11_passes 327 = .ok (.iload 4, 2) := by decide +kernel
theorem dX11_passes_329 : decode cX11_passes 329 = .ok (.imul, 1) := by decide +kernel
theorem dX11_passes_330 : decode cX11_passes 330 = .ok (.iadd, 1) := by decide +kernel
theorem dX11_passes_331 : decode cX11_passes 331 = .ok (.iconst 1, 1) := by decide +kernel
theorem dX11_passes_332 : decode cX11_passes 332 = .ok (.iadd, 1) := by decide +kernel
theorem dX11_passes_333 : decode cX11_passes 333 = .ok (.bipush 60, 2) := by decide +kernel
theorem dX11_passes_335 : decode cX11_passes 335 = .ok (.aload_n 0, 1) := by decide +kernel
theorem dX11_passes_336 : decode cX11_passes 336 = .ok (.getfield 9, 3) := by decide +kernel
theorem dX11_passes_339 : decode cX11_passes 339 = .ok (.bipush 14, 2) := by decide +kernel
theorem dX11_passes_341 : decode cX11_passes 341 = .ok (.iconst 2, 1) := by decide +kernel
theorem dX11_passes_342 : decode cX11_passes 342 = .ok (.iload 4, 2) := by decide +kernel
theorem dX11_passes_344 : decode cX11_passes 344 = .ok (.imul, 1) := by decide +kernel
theorem dX11_passes_345 : decode cX11_passes 345 = .ok (.iadd, 1) := by decide +kernel
theorem dX11_passes_346 : decode cX11_passes 346 = .ok (.iconst 1, 1) := by decide +kernel
theorem dX11_passes_347 : decode cX11_passes 347 = .ok (.iadd, 1) := by decide +kernel
theorem dX11_passes_348 : decode cX11_passes 348 = .ok (.iaload, 1) := by decide +kernel
theorem dX11_passes_349 : decode cX11_passes 349 = .ok (.iconst 1, 1) := by decide +kernel
theorem dX11_passes_350 : decode cX11_passes 350 = .ok (.iadd, 1) := by decide +kernel
theorem dX11_passes_351 : decode cX11_passes 351 = .ok (.invokestatic 72, 3) := by decide +kernel
theorem dX11_passes_354 : decode cX11_passes 354 = .ok (.iastore, 1) := by decide +kernel
theorem dX11_passes_355 : decode cX11_passes 355 = .ok (.iinc 4 1, 3) := by decide +kernel
theorem dX11_passes_358 : decode cX11_passes 358 = .ok (.goto (-49), 3) := by decide +kernel
theorem dX11_passes_361 : decode cX11_passes 361 = .ok (.iconst 0, 1) := by decide +kernel
theorem dX11_passes_362 : decode cX11_passes 362 = .ok (.istore 4, 2) := by decide +kernel
theorem dX11_passes_364 : decode cX11_passes 364 = .ok (.iload 4, 2) := by decide +kernel
theorem dX11_passes_366 : decode cX11_passes 366 = .ok (.aload_n 0, 1) := by decide +kernel
theorem dX11_passes_367 : decode cX11_passes 367 = .ok (.getfield 9, 3) := by decide +kernel
theorem dX11_passes_370 : decode cX11_passes 370 = .ok (.iconst 3, 1) := by decide +kernel
theorem dX11_passes_371 : decode cX11_passes 371 = .ok (.iaload, 1) := by decide +kernel
theorem dX11_passes_372 : decode cX11_passes 372 = .ok (.if_icmp .ge 30, 3) := by decide +kernel
theorem dX11_passes_375 : decode cX11_passes 375 = .ok (.aload_n 0, 1) := by decide +kernel
theorem dX11_passes_376 : decode cX11_passes 376 = .ok (.iload 4, 2) := by decide +kernel
theorem dX11_passes_378 : decode cX11_passes 378 = .ok (.iconst 1, 1) := by decide +kernel
theorem dX11_passes_379 : decode cX11_passes 379 = .ok (.bipush 60, 2) := by decide +kernel
theorem dX11_passes_381 : decode cX11_passes 381 = .ok (.aload_n 0, 1) := by decide +kernel
theorem dX11_passes_382 : decode cX11_passes 382 = .ok (.iload 4, 2) := by decide +kernel
theorem dX11_passes_384 : decode cX11_passes 384 = .ok (.iconst 1, 1) := by decide +kernel
theorem dX11_passes_385 : decode cX11_passes 385 = .ok (.invokevirtual 98, 3) := by decide +kernel
theorem dX11_passes_388 : decode cX11_passes 388 = .ok (.iconst 1, 1) := by decide +kernel
theorem dX11_passes_389 : decode cX11_passes 389 = .ok (.iadd, 1) := by decide +kernel
theorem dX11_passes_390 : decode cX11_passes 390 = .ok (.invokestatic 72, 3) := by decide +kernel
theorem dX11_passes_393 : decode cX11_passes 393 = .ok (.invokevirtual 81, 3) := by decide +kernel
theorem dX11_passes_396 : decode cX11_passes 396 = .ok (.iinc 4 1, 3) := by decide +kernel
theorem dX11_passes_399 : decode cX11_passes 399 = .ok (.goto (-35), 3) := by decide +kernel
theorem dX11_passes_402 : decode cX11_passes 402 = .ok (.iload_n 3, 1) := by decide +kernel
theorem dX11_passes_403 : decode cX11_passes 403 = .ok (.ireturn, 1) := by decide +kernel
theorem dX11_days_0 : decode cX11_days 0 = .ok (.iload_n 1, 1) := by decide +kernel
theorem dX11_days_1 : decode cX11_days 1 = .ok (.iconst 1, 1) := by decide +kernel
theorem dX11_days_2 : decode cX11_days 2 = .ok (.bipush 30, 2) := by decide +kernel
theorem dX11_days_4 : decode cX11_days 4 = .ok (.invokestatic 58, 3) := by decide +kernel
theorem dX11_days_7 : decode cX11_days 7 = .ok (.ifCond .ne 6, 3) := by decide +kernel
theorem dX11_days_10 : decode cX11_days 10 = .ok (.bipush (-2), 2) := by decide +kernel
theorem dX11_days_12 : decode cX11_days 12 = .ok (.ireturn, 1) := by decide +kernel
theorem dX11_days_13 : decode cX11_days 13 = .ok (.iconst 0, 1) := by decide +kernel
theorem dX11_days_14 : decode cX11_days 14 = .ok (.istore_n 2, 1) := by decide +kernel
theorem dX11_days_15 : decode cX11_days 15 = .ok (.iconst 0, 1) := by decide +kernel
theorem dX11_days_16 : decode cX11_days 16 = .ok (.istore_n 3, 1) := by decide +kernel
theorem dX11_days_17 : decode cX11_days 17 = .ok (.iload_n 3, 1) := by decide +kernel
theorem dX11_days_18 : decode cX11_days 18 = .ok (.iload_n 1, 1) := by decide +kernel
theorem dX11_days_19 : decode cX11_days 19 = .ok (.if_icmp .ge 16, 3) := by decide +kernel
theorem dX11_days_22 : decode cX11_days 22 = .ok (.iload_n 2, 1) := by decide +kernel
theorem dX11_days_23 : decode cX11_days 23 = .ok (.aload_n 0, 1) := by decide +kernel
theorem dX11_days_24 : decode cX11_days 24 = .ok (.invokevirtual 154, 3) := by decide +kernel
theorem dX11_days_27 : decode cX11_days 27 = .ok (.iadd, 1) := by decide +kernel
theorem dX11_days_28 : decode cX11_days 28 = .ok (.istore_n 2, 1) := by decide +kernel
theorem dX11_days_29 : decode cX11_days 29 = .ok (.iinc 3 1, 3) := by decide +kernel
theorem dX11_days_32 : decode cX11_days 32 = .ok (.goto (-15), 3) := by decide +kernel
theorem dX11_days_35 : decode cX11_days 35 = .ok (.aload_n 0, 1) := by decide +kernel
theorem dX11_days_36 : decode cX11_days 36 = .ok (.iload_n 2, 1) := by decide +kernel
theorem dX11_days_37 : decode cX11_days 37 = .ok (.invokevirtual 85, 3) := by decide +kernel
theorem dX11_days_40 : decode cX11_days 40 = .ok (.ireturn, 1) := by decide +kernel
theorem dX11_day_0 : decode cX11_day 0 = .ok (.aload_n 0, 1) := by decide +kernel
theorem dX11_day_1 : decode cX11_day 1 = .ok (.invokevirtual 65, 3) := by decide +kernel
theorem dX11_day_4 : decode cX11_day 4 = .ok (.aload_n 0, 1) := by decide +kernel
theorem dX11_day_5 : decode cX11_day 5 = .ok (.aload_n 0, 1) := by decide +kernel
theorem dX11_day_6 : decode cX11_day 6 = .ok (.iload_n 1, 1) := by decide +kernel
theorem dX11_day_7 : decode cX11_day 7 = .ok (.invokevirtual 158, 3) := by decide +kernel
theorem dX11_day_10 : decode cX11_day 10 = .ok (.invokevirtual 92, 3) := by decide +kernel
theorem dX11_day_13 : decode cX11_day 13 = .ok (.ireturn, 1) := by decide +kernel
theorem dX11_isNext_0 : decode cX11_isNext 0 = .ok (.aload_n 0, 1) := by decide +kernel
theorem dX11_isNext_1 : decode cX11_isNext 1 = .ok (.getfield 161, 3) := by decide +kernel
theorem dX11_isNext_4 : decode cX11_isNext 4 = .ok (.aload_n 0, 1) := by decide +kernel
theorem dX11_isNext_5 : decode cX11_isNext 5 = .ok (.getfield 62, 3) := by decide +kernel
theorem dX11_isNext_8 : decode cX11_isNext 8 = .ok (.if_icmp .eq 16, 3) := by decide +kernel
theorem dX11_isNext_11 : decode cX11_isNext 11 = .ok (.aload_n 0, 1) := by decide +kernel
theorem dX11_isNext_12 : decode cX11_isNext 12 = .ok (.getfield 28, 3) := by decide +kernel
theorem dX11_isNext_15 : decode cX11_isNext 15 = .ok (.aload_n 0, 1) := by decide +kernel
theorem dX11_isNext_16 : decode cX11_isNext 16 = .ok (.getfield 161, 3) := by decide +kernel
theorem dX11_isNext_19 : decode cX11_isNext 19 = .ok (.caload, 1) := by decide +kernel
theorem dX11_isNext_20 : decode cX11_isNext 20 = .ok (.iload_n 1, 1) := by decide +kernel
theorem dX11_isNext_21 : decode cX11_isNext 21 = .ok (.if_icmp .eq 5, 3) := by decide +kernel
theorem dX11_isNext_24 : decode cX11_isNext 24 = .ok (.iconst 0, 1) := by decide +kernel
theorem dX11_isNext_25 : decode cX11_isNext 25 = .ok (.ireturn, 1) := by decide +kernel
theorem dX11_isNext_26 : decode cX11_isNext 26 = .ok (.aload_n 0, 1) := by decide +kernel
theorem dX11_isNext_27 : decode cX11_isNext 27 = .ok (.dup, 1) := by decide +kernel
theorem dX11_isNext_28 : decode cX11_isNext 28 = .ok (.getfield 161, 3) := by decide +kernel
theorem dX11_isNext_31 : decode cX11_isNext 31 = .ok (.iconst 1, 1) := by decide +kernel
theorem dX11_isNext_32 : decode cX11_isNext 32 = .ok (.iadd, 1) := by decide +kernel
theorem dX11_isNext_33 : decode cX11_isNext 33 = .ok (.putfield 161, 3) := by decide +kernel
theorem dX11_isNext_36 : decode cX11_isNext 36 = .ok (.iconst 1, 1) := by decide +kernel
theorem dX11_isNext_37 : decode cX11_isNext 37 = .ok (.ireturn, 1) := by decide +kernel
theorem dX11_digits_0 : decode cX11_digits 0 = .ok (.iconst 0, 1) := by decide +kernel
theorem dX11_digits_1 : decode cX11_digits 1 = .ok (.istore_n 3, 1) := by decide +kernel
theorem dX11_digits_2 : decode cX11_digits 2 = .ok (.aload_n 0, 1) := by decide +kernel
theorem dX11_digits_3 : decode cX11_digits 3 = .ok (.getfield 32, 3) := by decide +kernel
theorem dX11_digits_6 : decode cX11_digits 6 = .ok (.iload_n 1, 1) := by decide +kernel
theorem dX11_digits_7 : decode cX11_digits 7 = .ok (.iconst 0, 1) := by decide +kernel
theorem dX11_digits_8 : decode cX11_digits 8 = .ok (.iastore, 1) := by decide +kernel
theorem dX11_digits_9 : decode cX11_digits 9 = .ok (.iload_n 3, 1) := by decide +kernel
theorem dX11_digits_10 : decode cX11_digits 10 = .ok (.iload_n 2, 1) := by decide +kernel
theorem dX11_digits_11 : decode cX11_digits 11 = .ok (.if_icmp .ge 74, 3) := by decide +kernel
theorem dX11_digits_14 : decode cX11_digits 14 = .ok (.aload_n 0, 1) := by decide +kernel
theorem dX11_digits_15 : decode cX11_digits 15 = .ok (.getfield 161, 3) := by decide +kernel
theorem dX11_digits_18 : decode cX11_digits 18 = .ok (.aload_n 0, 1) := by decide +kernel
theorem dX11_digits_19 : decode cX11_digits 19 = .ok (.getfield 62, 3) := by decide +kernel
theorem dX11_digits_22 : decode cX11_digits 22 = .ok (.if_icmp .ge 63, 3) := by decide +kernel
theorem dX11_digits_25 : decode cX11_digits 25 = .ok (.aload_n 0, 1) := by decide +kernel
theorem dX11_digits_26 : decode cX11_digits 26 = .ok (.getfield 28, 3) := by decide +kernel
theorem dX11_digits_29 : decode cX11_digits 29 = .ok (.aload_n 0, 1) := by decide +kernel
theorem dX11_digits_30 : decode cX11_digits 30 = .ok (.getfield 161, 3) := by decide +kernel
theorem dX11_digits_33 : decode cX11_digits 33 = .ok (.caload, 1) := by decide +kernel
theorem dX11_digits_34 : decode cX11_digits 34 = .ok (.bipush 48, 2) := by decide +kernel
theorem dX11_digits_36 : decode cX11_digits 36 = .ok (.bipush 57, 2) := by decide +kernel
theorem dX11_digits_38 : decode cX11_digits 38 = .ok (.invokestatic 58, 3) := by decide +kernel
theorem dX11_digits_41 : decode cX11_digits 41 = .ok (.ifCond .eq 44, 3) := by decide +kernel
theorem dX11_digits_44 : decode cX11_digits 44 = .ok (.aload_n 0, 1) := by decide +kernel
theorem dX11_digits_45 : decode cX11_digits 45 = .ok (.getfield 32, 3) := by decide +kernel
theorem dX11_digits_48 : decode cX11_digits 48 = .ok (.iload_n 1, 1) := by decide +kernel
theorem dX11_digits_49 : decode cX11_digits 49 = .ok (.bipush 10, 2) := by decide +kernel
theorem dX11_digits_51 : decode cX11_digits 51 = .ok (.aload_n 0, 1) := by decide +kernel
theorem dX11_digits_52 : decode cX11_digits 52 = .ok (.getfield 32, 3) := by decide +kernel
theorem dX11_digits_55 : decode cX11_digits 55 = .ok (.iload_n 1, 1) := by decide +kernel
theorem dX11_digits_56 : decode cX11_digits 56 = .ok (.iaload, 1) := by decide +kernel
theorem dX11_digits_57 : decode cX11_digits 57 = .ok (.imul, 1) := by decide +kernel
theorem dX11_digits_58 : decode cX11_digits 58 = .ok (.aload_n 0, 1) := by decide +kernel
theorem dX11_digits_59 : decode cX11_digits 59 = .ok (.getfield 28, 3) := by decide +kernel
theorem dX11_digits_62 : decode cX11_digits 62 = .ok (.aload_n 0, 1) := by decide +kernel
theorem dX11_digits_63 : decode cX11_digits 63 = .ok (.dup, 1) := by decide +kernel
theorem dX11_digits_64 : decode cX11_digits 64 = .ok (.getfield 161, 3) := by decide +kernel
theorem dX11_digits_67 : decode cX11_digits 67 = .ok (.dup_x1, 1) := by decide +kernel
theorem dX11_digits_68 : decode cX11_digits 68 = .ok (.iconst 1, 1) := by decide +kernel
theorem dX11_digits_69 : decode cX11_digits 69 = .ok (.iadd, 1) := by decide +kernel
theorem dX11_digits_70 : decode cX11_digits 70 = .ok (.putfield 161, 3) := by decide +kernel
theorem dX11_digits_73 : decode cX11_digits 73 = .ok (.caload, 1) := by decide +kernel
theorem dX11_digits_74 : decode cX11_digits 74 = .ok (.iadd, 1) := by decide +kernel
theorem dX11_digits_75 : decode cX11_digits 75 = .ok (.bipush 48, 2) := by decide +kernel
theorem dX11_digits_77 : decode cX11_digits 77 = .ok (.isub, 1) := by decide +kernel
theorem dX11_digits_78 : decode cX11_digits 78 = .ok (.iastore, 1) := by decide +kernel
theorem dX11_digits_79 : decode cX11_digits 79 = .ok (.iinc 3 1, 3) := by decide +kernel
theorem dX11_digits_82 : decode cX11_digits 82 = .ok (.goto (-73), 3) := by decide +kernel
theorem dX11_digits_85 : decode cX11_digits 85 = .ok (.iload_n 3, 1) := by decide +kernel
theorem dX11_digits_86 : decode cX11_digits 86 = .ok (.ifCond .le 7, 3) := by decide +kernel
theorem dX11_digits_89 : decode cX11_digits 89 = .ok (.iconst 1, 1) := by decide +kernel
theorem dX11_digits_90 : decode cX11_digits 90 = .ok (.goto 4, 3) := by decide +kernel
theorem dX11_digits_93 : decode cX11_digits 93 = .ok (.iconst 0, 1) := by decide +kernel
theorem dX11_digits_94 : decode cX11_digits 94 = .ok (.ireturn, 1) := by decide +kernel
theorem dX11_isOrder_0 : decode cX11_isOrder 0 = .ok (.aload_n 0, 1) := by decide +kernel
theorem dX11_isOrder_1 : decode cX11_isOrder 1 = .ok (.getfield 161, 3) := by decide +kernel
theorem dX11_isOrder_4 : decode cX11_isOrder 4 = .ok (.aload_n 0, 1) := by decide +kernel
theorem dX11_isOrder_5 : decode cX11_isOrder 5 = .ok (.getfield 62, 3) := by decide +kernel
theorem dX11_isOrder_8 : decode cX11_isOrder 8 = .ok (.if_icmp .ne 5, 3) := by decide +kernel
theorem dX11_isOrder_11 : decode cX11_isOrder 11 = .ok (.iconst 0, 1) := by decide +kernel
theorem dX11_isOrder_12 : decode cX11_isOrder 12 = .ok (.ireturn, 1) := by decide +kernel
theorem dX11_isOrder_13 : decode cX11_isOrder 13 = .ok (.aload_n 0, 1) := by decide +kernel
theorem dX11_isOrder_14 : decode cX11_isOrder 14 = .ok (.aload_n 0, 1) := by decide +kernel
theorem dX11_isOrder_15 : decode cX11_isOrder 15 = .ok (.getfield 28, 3) := by decide +kernel
theorem dX11_isOrder_18 : decode cX11_isOrder 18 = .ok (.aload_n 0, 1) := by decide +kernel
theorem dX11_isOrder_19 : decode cX11_isOrder 19 = .ok (.getfield 161, 3) := by decide +kernel
theorem dX11_isOrder_22 : decode cX11_isOrder 22 = .ok (.caload, 1) := by decide +kernel
theorem dX11_isOrder_23 : decode cX11_isOrder 23 = .ok (.putfield 164, 3) := by decide +kernel
theorem dX11_isOrder_26 : decode cX11_isOrder 26 = .ok (.aload_n 0, 1) := by decide +kernel
theorem dX11_isOrder_27 : decode cX11_isOrder 27 = .ok (.getfield 164, 3) := by decide +kernel
theorem dX11_isOrder_30 : decode cX11_isOrder 30 = .ok (.tableswitch 275 98 117 #[94, 275, 155, 275, 275, 258, 275, 172, 275, 275, 215, 275, 258, 275, 275, 275, 275, 275, 155, 172], 94) := by decide +kernel
theorem dX11_isOrder_124 : decode cX11_isOrder 124 = .ok (.aload_n 0, 1) := by decide +kernel
theorem dX11_isOrder_125 : decode cX11_isOrder 125 = .ok (.dup, 1) := by decide +kernel
theorem dX11_isOrder_126 : decode cX11_isOrder 126 = .ok (.getfield 161, 3) := by decide +kernel
theorem dX11_isOrder_129 : decode cX11_isOrder 129 = .ok (.iconst 1, 1) := by decide +kernel
theorem dX11_isOrder_130 : decode cX11_isOrder 130 = .ok (.iadd, 1) := by decide +kernel
theorem dX11_isOrder_131 : decode cX11_isOrder 131 = .ok (.putfield 161, 3) := by decide +kernel
theorem dX11_isOrder_134 : decode cX11_isOrder 134 = .ok (.aload_n 0, 1) := by decide +kernel
theorem dX11_isOrder_135 : decode cX11_isOrder 135 = .ok (.iconst 0, 1) := by decide +kernel
theorem dX11_isOrder_136 : decode cX11_isOrder 136 = .ok (.iconst 1, 1) := by decide +kernel
theorem dX11_isOrder_137 : decode cX11_isOrder 137 = .ok (.invokevirtual 168, 3) := by decide +kernel
theorem dX11_isOrder_140 : decode cX11_isOrder 140 = .ok (.ifCond .eq 43, 3) := by decide +kernel
theorem dX11_isOrder_143 : decode cX11_isOrder 143 = .ok (.aload_n 0, 1) := by decide +kernel
theorem dX11_isOrder_144 : decode cX11_isOrder 144 = .ok (.bipush 42, 2) := by decide +kernel
theorem dX11_isOrder_146 : decode cX11_isOrder 146 = .ok (.invokevirtual 172, 3) := by decide +kernel
theorem dX11_isOrder_149 : decode cX11_isOrder 149 = .ok (.ifCond .eq 34, 3) := by decide +kernel
theorem dX11_isOrder_152 : decode cX11_isOrder 152 = .ok (.aload_n 0, 1) := by decide +kernel
theorem dX11_isOrder_153 : decode cX11_isOrder 153 = .ok (.iconst 1, 1) := by decide +kernel
theorem dX11_isOrder_154 : decode cX11_isOrder 154 = .ok (.iconst 1, 1) := by decide +kernel
theorem dX11_isOrder_155 : decode cX11_isOrder 155 = .ok (.invokevirtual 168, 3) := by decide +kernel
theorem dX11_isOrder_158 : decode cX11_isOrder 158 = .ok (.ifCond .eq 25, 3) := by decide +kernel
theorem dX11_isOrder_161 : decode cX11_isOrder 161 = .ok (.aload_n 0, 1) := by decide +kernel
theorem dX11_isOrder_162 : decode cX11_isOrder 162 = .ok (.bipush 58, 2) := by decide +kernel
theorem dX11_isOrder_164 : decode cX11_isOrder 164 = .ok (.invokevirtual 172, 3) := by decide +kernel
theorem dX11_isOrder_167 : decode cX11_isOrder 167 = .ok (.ifCond .eq 16, 3) := by decide +kernel
theorem dX11_isOrder_170 : decode cX11_isOrder 170 = .ok (.aload_n 0, 1) := by decide +kernel
theorem dX11_isOrder_171 : decode cX11_isOrder 171 = .ok (.iconst 2, 1) := by decide +kernel
theorem dX11_isOrder_172 : decode cX11_isOrder 172 = .ok (.iconst 2, 1) := by decide +kernel
theorem dX11_isOrder_173 : decode cX11_isOrder 173 = .ok (.invokevirtual 168, 3) := by decide +kernel
theorem dX11_isOrder_176 : decode cX11_isOrder 176 = .ok (.ifCond .eq 7, 3) := by decide +kernel
theorem dX11_isOrder_179 : decode cX11_isOrder 179 = .ok (.iconst 1, 1) := by decide +kernel
theorem dX11_isOrder_180 : decode cX11_isOrder 180 = .ok (.goto 4, 3) := by decide +kernel
theorem dX11_isOrder_183 : decode cX11_isOrder 183 = .ok (.iconst 0, 1) := by decide +kernel
theorem dX11_isOrder_184 : decode cX11_isOrder 184 = .ok (.ireturn, 1) := by decide +kernel
theorem dX11_isOrder_185 : decode cX11_isOrder 185 = .ok (.aload_n 0, 1) := by decide +kernel
theorem dX11_isOrder_186 : decode cX11_isOrder 186 = .ok (.dup, 1) := by decide +kernel
theorem dX11_isOrder_187 : decode cX11_isOrder 187 = .ok (.getfield 161, 3) := by decide +kernel
theorem dX11_isOrder_190 : decode cX11_isOrder 190 = .ok (.iconst 1, 1) := by decide +kernel
theorem dX11_isOrder_191 : decode cX11_isOrder 191 = .ok (.iadd, 1) := by decide +kernel
theorem dX11_isOrder_192 : decode cX11_isOrder 192 = .ok (.putfield 161, 3) := by decide +kernel
theorem dX11_isOrder_195 : decode cX11_isOrder 195 = .ok (.aload_n 0, 1) := by decide +kernel
theorem dX11_isOrder_196 : decode cX11_isOrder 196 = .ok (.iconst 0, 1) := by decide +kernel
theorem dX11_isOrder_197 : decode cX11_isOrder 197 = .ok (.iconst 1, 1) := by decide +kernel
theorem dX11_isOrder_198 : decode cX11_isOrder 198 = .ok (.invokevirtual 168, 3) := by decide +kernel
theorem dX11_isOrder_201 : decode cX11_isOrder 201 = .ok (.ireturn, 1) := by decide +kernel
theorem dX11_isOrder_202 : decode cX11_isOrder 202 = .ok (.aload_n 0, 1) := by decide +kernel
theorem dX11_isOrder_203 : decode cX11_isOrder 203 = .ok (.dup, 1) := by decide +kernel
theorem dX11_isOrder_204 : decode cX11_isOrder 204 = .ok (.getfield 161, 3) := by decide +kernel
theorem dX11_isOrder_207 : decode cX11_isOrder 207 = .ok (.iconst 1, 1) := by decide +kernel
theorem dX11_isOrder_208 : decode cX11_isOrder 208 = .ok (.iadd, 1) := by decide +kernel
theorem dX11_isOrder_209 : decode cX11_isOrder 209 = .ok (.putfield 161, 3) := by decide +kernel
theorem dX11_isOrder_212 : decode cX11_isOrder 212 = .ok (.aload_n 0, 1) := by decide +kernel
theorem dX11_isOrder_213 : decode cX11_isOrder 213 = .ok (.iconst 0, 1) := by decide +kernel
theorem dX11_isOrder_214 : decode cX11_isOrder 214 = .ok (.iconst 1, 1) := by decide +kernel
theorem dX11_isOrder_215 : decode cX11_isOrder 215 = .ok (.invokevirtual 168, 3) := by decide +kernel
theorem dX11_isOrder_218 : decode cX11_isOrder 218 = .ok (.ifCond .eq 25, 3) := by decide +kernel
theorem dX11_isOrder_221 : decode cX11_isOrder 221 = .ok (.aload_n 0, 1) := by decide +kernel
theorem dX11_isOrder_222 : decode cX11_isOrder 222 = .ok (.bipush 64, 2) := by decide +kernel
theorem dX11_isOrder_224 : decode cX11_isOrder 224 = .ok (.invokevirtual 172, 3) := by decide +kernel
theorem dX11_isOrder_227 : decode cX11_isOrder 227 = .ok (.ifCond .eq 16, 3) := by decide +kernel
theorem dX11_isOrder_230 : decode cX11_isOrder 230 = .ok (.aload_n 0, 1) := by decide +kernel
theorem dX11_isOrder_231 : decode cX11_isOrder 231 = .ok (.iconst 1, 1) := by decide +kernel
theorem dX11_isOrder_232 : decode cX11_isOrder 232 = .ok (.iconst 1, 1) := by decide +kernel
theorem dX11_isOrder_233 : decode cX11_isOrder 233 = .ok (.invokevirtual 168, 3) := by decide +kernel
theorem dX11_isOrder_236 : decode cX11_isOrder 236 = .ok (.ifCond .eq 7, 3) := by decide +kernel
theorem dX11_isOrder_239 : decode cX11_isOrder 239 = .ok (.iconst 1, 1) := by decide +kernel
theorem dX11_isOrder_240 : decode cX11_isOrder 240 = .ok (.goto 4, 3) := by decide +kernel
theorem dX11_isOrder_243 : decode cX11_isOrder 243 = .ok (.iconst 0, 1) := by decide +kernel
theorem dX11_isOrder_244 : decode cX11_isOrder 244 = .ok (.ireturn, 1) := by decide +kernel
theorem dX11_isOrder_245 : decode cX11_isOrder 245 = .ok (.aload_n 0, 1) := by decide +kernel
theorem dX11_isOrder_246 : decode cX11_isOrder 246 = .ok (.dup, 1) := by decide +kernel
theorem dX11_isOrder_247 : decode cX11_isOrder 247 = .ok (.getfield 161, 3) := by decide +kernel
theorem dX11_isOrder_250 : decode cX11_isOrder 250 = .ok (.iconst 1, 1) := by decide +kernel
theorem dX11_isOrder_251 : decode cX11_isOrder 251 = .ok (.iadd, 1) := by decide +kernel
theorem dX11_isOrder_252 : decode cX11_isOrder 252 = .ok (.putfield 161, 3) := by decide +kernel
theorem dX11_isOrder_255 : decode cX11_isOrder 255 = .ok (.aload_n 0, 1) := by decide +kernel
theorem dX11_isOrder_256 : decode cX11_isOrder 256 = .ok (.iconst 0, 1) := by decide +kernel
theorem dX11_isOrder_257 : decode cX11_isOrder 257 = .ok (.iconst 1, 1) := by decide +kernel
theorem dX11_isOrder_258 : decode cX11_isOrder 258 = .ok (.invokevirtual 168, 3) := by decide +kernel
theorem dX11_isOrder_261 : decode cX11_isOrder 261 = .ok (.ifCond .eq 25, 3) := by decide +kernel
theorem dX11_isOrder_264 : decode cX11_isOrder 264 = .ok (.aload_n 0, 1) := by decide +kernel
theorem dX11_isOrder_265 : decode cX11_isOrder 265 = .ok (.bipush 42, 2) := by decide +kernel
theorem dX11_isOrder_267 : decode cX11_isOrder 267 = .ok (.invokevirtual 172, 3) := by decide +kernel
theorem dX11_isOrder_270 : decode cX11_isOrder 270 = .ok (.ifCond .eq 16, 3) := by decide +kernel
theorem dX11_isOrder_273 : decode cX11_isOrder 273 = .ok (.aload_n 0, 1) := by decide +kernel
theorem dX11_isOrder_274 : decode cX11_isOrder 274 = .ok (.iconst 1, 1) := by decide +kernel
theorem dX11_isOrder_275 : decode cX11_isOrder 275 = .ok (.iconst 1, 1) := by decide +kernel
theorem dX11_isOrder_276 : decode cX11_isOrder 276 = .ok (.invokevirtual 168, 3) := by decide +kernel
theorem dX11_isOrder_279 : decode cX11_isOrder 279 = .ok (.ifCond .eq 7, 3) := by decide +kernel
theorem dX11_isOrder_282 : decode cX11_isOrder 282 = .ok (.iconst 1, 1) := by decide +kernel
theorem dX11_isOrder_283 : decode cX11_isOrder 283 = .ok (.goto 4, 3) := by decide +kernel
theorem dX11_isOrder_286 : decode cX11_isOrder 286 = .ok (.iconst 0, 1) := by decide +kernel
theorem dX11_isOrder_287 : decode cX11_isOrder 287 = .ok (.ireturn, 1) := by decide +kernel
theorem dX11_isOrder_288 : decode cX11_isOrder 288 = .ok (.aload_n 0, 1) := by decide +kernel
theorem dX11_isOrder_289 : decode cX11_isOrder 289 = .ok (.dup, 1) := by decide +kernel
theorem dX11_isOrder_290 : decode cX11_isOrder 290 = .ok (.getfield 161, 3) := by decide +kernel
theorem dX11_isOrder_293 : decode cX11_isOrder 293 = .ok (.iconst 1, 1) := by decide +kernel
theorem dX11_isOrder_294 : decode cX11_isOrder 294 = .ok (.iadd, 1) := by decide +kernel
theorem dX11_isOrder_295 : decode cX11_isOrder 295 = .ok (.putfield 161, 3) := by decide +kernel
theorem dX11_isOrder_298 : decode cX11_isOrder 298 = .ok (.aload_n 0, 1) := by decide +kernel
theorem dX11_isOrder_299 : decode cX11_isOrder 299 = .ok (.iconst 0, 1) := by decide +kernel
theorem dX11_isOrder_300 : decode cX11_isOrder 300 = .ok (.iconst 2, 1) := by decide +kernel
theorem dX11_isOrder_301 : decode cX11_isOrder 301 = .ok (.invokevirtual 168, 3) := by decide +kernel
theorem dX11_isOrder_304 : decode cX11_isOrder 304 = .ok (.ireturn, 1) := by decide +kernel
theorem dX11_isOrder_305 : decode cX11_isOrder 305 = .ok (.iconst 0, 1) := by decide +kernel
theorem dX11_isOrder_306 : decode cX11_isOrder 306 = .ok (.ireturn, 1) := by decide +kernel
theorem dX11_carries_0 : decode cX11_carries 0 = .ok (.aload_n 0, 1) := by decide +kernel
theorem dX11_carries_1 : decode cX11_carries 1 = .ok (.getfield 164, 3) := by decide +kernel
theorem dX11_carries_4 : decode cX11_carries 4 = .ok (.tableswitch 203 98 117 #[96, 203, 147, 203, 203, 175, 203, 186, 203, 203, 158, 203, 203, 203, 203, 203, 203, 203, 119, 130], 96) := by decide +kernel
theorem dX11_carries_100 : decode cX11_carries 100 = .ok (.aload_n 0, 1) := by decide +kernel
theorem dX11_carries_101 : decode cX11_carries 101 = .ok (.aload_n 0, 1) := by decide +kernel
theorem dX11_carries_102 : decode cX11_carries 102 = .ok (.getfield 32, 3) := by decide +kernel
theorem dX11_carries_105 : decode cX11_carries 105 = .ok (.iconst 0, 1) := by decide +kernel
theorem dX11_carries_106 : decode cX11_carries 106 = .ok (.iaload, 1) := by decide +kernel
theorem dX11_carries_107 : decode cX11_carries 107 = .ok (.aload_n 0, 1) := by decide +kernel
theorem dX11_carries_108 : decode cX11_carries 108 = .ok (.getfield 32, 3) := by decide +kernel
theorem dX11_carries_111 : decode cX11_carries 111 = .ok (.iconst 1, 1) := by decide +kernel
theorem dX11_carries_112 : decode cX11_carries 112 = .ok (.iaload, 1) := by decide +kernel
theorem dX11_carries_113 : decode cX11_carries 113 = .ok (.aload_n 0, 1) := by decide +kernel
theorem dX11_carries_114 : decode cX11_carries 114 = .ok (.getfield 32, 3) := by decide +kernel
theorem dX11_carries_117 : decode cX11_carries 117 = .ok (.iconst 2, 1) := by decide +kernel
theorem dX11_carries_118 : decode cX11_carries 118 = .ok (.iaload, 1) := by decide +kernel
theorem dX11_carries_119 : decode cX11_carries 119 = .ok (.invokevirtual 88, 3) := by decide +kernel
theorem dX11_carries_122 : decode cX11_carries 122 = .ok (.ireturn, 1) := by decide +kernel
theorem dX11_carries_123 : decode cX11_carries 123 = .ok (.aload_n 0, 1) := by decide +kernel
theorem dX11_carries_124 : decode cX11_carries 124 = .ok (.aload_n 0, 1) := by decide +kernel
theorem dX11_carries_125 : decode cX11_carries 125 = .ok (.getfield 32, 3) := by decide +kernel
theorem dX11_carries_128 : decode cX11_carries 128 = .ok (.iconst 0, 1) := by decide +kernel
theorem dX11_carries_129 : decode cX11_carries 129 = .ok (.iaload, 1) := by decide +kernel
theorem dX11_carries_130 : decode cX11_carries 130 = .ok (.invokevirtual 101, 3) := by decide +kernel
theorem dX11_carries_133 : decode cX11_carries 133 = .ok (.ireturn, 1) := by decide +kernel
theorem dX11_carries_134 : decode cX11_carries 134 = .ok (.aload_n 0, 1) := by decide +kernel
theorem dX11_carries_135 : decode cX11_carries 135 = .ok (.aload_n 0, 1) := by decide +kernel
theorem dX11_carries_136 : decode cX11_carries 136 = .ok (.getfield 32, 3) := by decide +kernel
theorem dX11_carries_139 : decode cX11_carries 139 = .ok (.iconst 0, 1) := by decide +kernel
theorem dX11_carries_140 : decode cX11_carries 140 = .ok (.iaload, 1) := by decide +kernel
theorem dX11_carries_141 : decode cX11_carries 141 = .ok (.aload_n 0, 1) := by decide +kernel
theorem dX11_carries_142 : decode cX11_carries 142 = .ok (.getfield 32, 3) := by decide +kernel
theorem dX11_carries_145 : decode cX11_carries 145 = .ok (.iconst 1, 1) := by decide +kernel
theorem dX11_carries_146 : decode cX11_carries 146 = .ok (.iaload, 1) := by decide +kernel
theorem dX11_carries_147 : decode cX11_carries 147 = .ok (.invokevirtual 124, 3) := by decide +kernel
theorem dX11_carries_150 : decode cX11_carries 150 = .ok (.ireturn, 1) := by decide +kernel
theorem dX11_carries_151 : decode cX11_carries 151 = .ok (.aload_n 0, 1) := by decide +kernel
theorem dX11_carries_152 : decode cX11_carries 152 = .ok (.aload_n 0, 1) := by decide +kernel
theorem dX11_carries_153 : decode cX11_carries 153 = .ok (.getfield 32, 3) := by decide +kernel
theorem dX11_carries_156 : decode cX11_carries 156 = .ok (.iconst 0, 1) := by decide +kernel
theorem dX11_carries_157 : decode cX11_carries 157 = .ok (.iaload, 1) := by decide +kernel
theorem dX11_carries_158 : decode cX11_carries 158 = .ok (.invokevirtual 127, 3) := by decide +kernel
theorem dX11_carries_161 : decode cX11_carries 161 = .ok (.ireturn, 1) := by decide +kernel
theorem dX11_carries_162 : decode cX11_carries 162 = .ok (.aload_n 0, 1) := by decide +kernel
theorem dX11_carries_163 : decode cX11_carries 163 = .ok (.aload_n 0, 1) := by decide +kernel
theorem dX11_carries_164 : decode cX11_carries 164 = .ok (.getfield 32, 3) := by decide +kernel
theorem dX11_carries_167 : decode cX11_carries 167 = .ok (.iconst 0, 1) := by decide +kernel
theorem dX11_carries_168 : decode cX11_carries 168 = .ok (.iaload, 1) := by decide +kernel
theorem dX11_carries_169 : decode cX11_carries 169 = .ok (.aload_n 0, 1) := by decide +kernel
theorem dX11_carries_170 : decode cX11_carries 170 = .ok (.getfield 32, 3) := by decide +kernel
theorem dX11_carries_173 : decode cX11_carries 173 = .ok (.iconst 1, 1) := by decide +kernel
theorem dX11_carries_174 : decode cX11_carries 174 = .ok (.iaload, 1) := by decide +kernel
theorem dX11_carries_175 : decode cX11_carries 175 = .ok (.invokevirtual 130, 3) := by decide +kernel
theorem dX11_carries_178 : decode cX11_carries 178 = .ok (.ireturn, 1) := by decide +kernel
theorem dX11_carries_179 : decode cX11_carries 179 = .ok (.aload_n 0, 1) := by decide +kernel
theorem dX11_carries_180 : decode cX11_carries 180 = .ok (.aload_n 0, 1) := by decide +kernel
theorem dX11_carries_181 : decode cX11_carries 181 = .ok (.getfield 32, 3) := by decide +kernel
theorem dX11_carries_184 : decode cX11_carries 184 = .ok (.iconst 0, 1) := by decide +kernel
theorem dX11_carries_185 : decode cX11_carries 185 = .ok (.iaload, 1) := by decide +kernel
theorem dX11_carries_186 : decode cX11_carries 186 = .ok (.invokevirtual 133, 3) := by decide +kernel
theorem dX11_carries_189 : decode cX11_carries 189 = .ok (.ireturn, 1) := by decide +kernel
theorem dX11_carries_190 : decode cX11_carries 190 = .ok (.aload_n 0, 1) := by decide +kernel
theorem dX11_carries_191 : decode cX11_carries 191 = .ok (.aload_n 0, 1) := by decide +kernel
theorem dX11_carries_192 : decode cX11_carries 192 = .ok (.getfield 32, 3) := by decide +kernel
theorem dX11_carries_195 : decode cX11_carries 195 = .ok (.iconst 0, 1) := by decide +kernel
theorem dX11_carries_196 : decode cX11_carries 196 = .ok (.iaload, 1) := by decide +kernel
theorem dX11_carries_197 : decode cX11_carries 197 = .ok (.aload_n 0, 1) := by decide +kernel
theorem dX11_carries_198 : decode cX11_carries 198 = .ok (.getfield 32, 3) := by decide +kernel
theorem dX11_carries_201 : decode cX11_carries 201 = .ok (.iconst 1, 1) := by decide +kernel
theorem dX11_carries_202 : decode cX11_carries 202 = .ok (.iaload, 1) := by decide +kernel
theorem dX11_carries_203 : decode cX11_carries 203 = .ok (.invokevirtual 139, 3) := by decide +kernel
theorem dX11_carries_206 : decode cX11_carries 206 = .ok (.ireturn, 1) := by decide +kernel
theorem dX11_carries_207 : decode cX11_carries 207 = .ok (.aload_n 0, 1) := by decide +kernel
theorem dX11_carries_208 : decode cX11_carries 208 = .ok (.aload_n 0, 1) := by decide +kernel
theorem dX11_carries_209 : decode cX11_carries 209 = .ok (.getfield 32, 3) := by decide +kernel
theorem dX11_carries_212 : decode cX11_carries 212 = .ok (.iconst 0, 1) := by decide +kernel
theorem dX11_carries_213 : decode cX11_carries 213 = .ok (.iaload, 1) := by decide +kernel
theorem dX11_carries_214 : decode cX11_carries 214 = .ok (.invokevirtual 158, 3) := by decide +kernel
theorem dX11_carries_217 : decode cX11_carries 217 = .ok (.ireturn, 1) := by decide +kernel
theorem dX11_script_0 : decode cX11_script 0 = .ok (.aload_n 0, 1) := by decide +kernel
theorem dX11_script_1 : decode cX11_script 1 = .ok (.invokevirtual 65, 3) := by decide +kernel
theorem dX11_script_4 : decode cX11_script 4 = .ok (.aload_n 0, 1) := by decide +kernel
theorem dX11_script_5 : decode cX11_script 5 = .ok (.iconst 0, 1) := by decide +kernel
theorem dX11_script_6 : decode cX11_script 6 = .ok (.putfield 161, 3) := by decide +kernel
theorem dX11_script_9 : decode cX11_script 9 = .ok (.aload_n 0, 1) := by decide +kernel
theorem dX11_script_10 : decode cX11_script 10 = .ok (.invokevirtual 176, 3) := by decide +kernel
theorem dX11_script_13 : decode cX11_script 13 = .ok (.istore_n 1, 1) := by decide +kernel
theorem dX11_script_14 : decode cX11_script 14 = .ok (.iload_n 1, 1) := by decide +kernel
theorem dX11_script_15 : decode cX11_script 15 = .ok (.ifCond .eq 39, 3) := by decide +kernel
theorem dX11_script_18 : decode cX11_script 18 = .ok (.aload_n 0, 1) := by decide +kernel
theorem dX11_script_19 : decode cX11_script 19 = .ok (.getfield 161, 3) := by decide +kernel
theorem dX11_script_22 : decode cX11_script 22 = .ok (.aload_n 0, 1) := by decide +kernel
theorem dX11_script_23 : decode cX11_script 23 = .ok (.getfield 62, 3) := by decide +kernel
theorem dX11_script_26 : decode cX11_script 26 = .ok (.if_icmp .ge 28, 3) := by decide +kernel
theorem dX11_script_29 : decode cX11_script 29 = .ok (.aload_n 0, 1) := by decide +kernel
theorem dX11_script_30 : decode cX11_script 30 = .ok (.bipush 59, 2) := by decide +kernel
theorem dX11_script_32 : decode cX11_script 32 = .ok (.invokevirtual 172, 3) := by decide +kernel
theorem dX11_script_35 : decode cX11_script 35 = .ok (.ifCond .eq 14, 3) := by decide +kernel
theorem dX11_script_38 : decode cX11_script 38 = .ok (.aload_n 0, 1) := by decide +kernel
theorem dX11_script_39 : decode cX11_script 39 = .ok (.invokevirtual 176, 3) := by decide +kernel
theorem dX11_script_42 : decode cX11_script 42 = .ok (.ifCond .eq 7, 3) := by decide +kernel
theorem dX11_script_45 : decode cX11_script 45 = .ok (.iconst 1, 1) := by decide +kernel
theorem dX11_script_46 : decode cX11_script 46 = .ok (.goto 4, 3) := by decide +kernel
theorem dX11_script_49 : decode cX11_script 49 = .ok (.iconst 0, 1) := by decide +kernel
theorem dX11_script_50 : decode cX11_script 50 = .ok (.istore_n 1, 1) := by decide +kernel
theorem dX11_script_51 : decode cX11_script 51 = .ok (.goto (-37), 3) := by decide +kernel
theorem dX11_script_54 : decode cX11_script 54 = .ok (.iload_n 1, 1) := by decide +kernel
theorem dX11_script_55 : decode cX11_script 55 = .ok (.ifCond .ne 19, 3) := by decide +kernel
theorem dX11_script_58 : decode cX11_script 58 = .ok (.aload_n 0, 1) := by decide +kernel
theorem dX11_script_59 : decode cX11_script 59 = .ok (.iconst 0, 1) := by decide +kernel
theorem dX11_script_60 : decode cX11_script 60 = .ok (.putfield 62, 3) := by decide +kernel
theorem dX11_script_63 : decode cX11_script 63 = .ok (.aload_n 0, 1) := by decide +kernel
theorem dX11_script_64 : decode cX11_script 64 = .ok (.aload_n 0, 1) := by decide +kernel
theorem dX11_script_65 : decode cX11_script 65 = .ok (.getfield 161, 3) := by decide +kernel
theorem dX11_script_68 : decode cX11_script 68 = .ok (.putfield 35, 3) := by decide +kernel
theorem dX11_script_71 : decode cX11_script 71 = .ok (.bipush (-2), 2) := by decide +kernel
theorem dX11_script_73 : decode cX11_script 73 = .ok (.ireturn, 1) := by decide +kernel
theorem dX11_script_74 : decode cX11_script 74 = .ok (.aload_n 0, 1) := by decide +kernel
theorem dX11_script_75 : decode cX11_script 75 = .ok (.iconst 0, 1) := by decide +kernel
theorem dX11_script_76 : decode cX11_script 76 = .ok (.putfield 161, 3) := by decide +kernel
theorem dX11_script_79 : decode cX11_script 79 = .ok (.iconst 0, 1) := by decide +kernel
theorem dX11_script_80 : decode cX11_script 80 = .ok (.istore_n 2, 1) := by decide +kernel
theorem dX11_script_81 : decode cX11_script 81 = .ok (.iconst 0, 1) := by decide +kernel
theorem dX11_script_82 : decode cX11_script 82 = .ok (.istore_n 3, 1) := by decide +kernel
theorem dX11_script_83 : decode cX11_script 83 = .ok (.iconst 1, 1) := by decide +kernel
theorem dX11_script_84 : decode cX11_script 84 = .ok (.istore 4, 2) := by decide +kernel
theorem dX11_script_86 : decode cX11_script 86 = .ok (.iload 4, 2) := by decide +kernel
theorem dX11_script_88 : decode cX11_script 88 = .ok (.ifCond .eq 43, 3) := by decide +kernel
theorem dX11_script_91 : decode cX11_script 91 = .ok (.aload_n 0, 1) := by decide +kernel
theorem dX11_script_92 : decode cX11_script 92 = .ok (.invokevirtual 176, 3) := by decide +kernel
theorem dX11_script_95 : decode cX11_script 95 = .ok (.istore_n 1, 1) := by decide +kernel
theorem dX11_script_96 : decode cX11_script 96 = .ok (.aload_n 0, 1) := by decide +kernel
theorem dX11_script_97 : decode cX11_script 97 = .ok (.invokevirtual 180, 3) := by decide +kernel
theorem dX11_script_100 : decode cX11_script 100 = .ok (.istore_n 3, 1) := by decide +kernel
theorem dX11_script_101 : decode cX11_script 101 = .ok (.iload_n 3, 1) := by decide +kernel
theorem dX11_script_102 : decode cX11_script 102 = .ok (.ifCond .ne 6, 3) := by decide +kernel
theorem dX11_script_105 : decode cX11_script 105 = .ok (.iinc 2 1, 3) := by decide +kernel
theorem dX11_script_108 : decode cX11_script 108 = .ok (.iload_n 3, 1) := by decide +kernel
theorem dX11_script_109 : decode cX11_script 109 = .ok (.ifCond .ne 16, 3) := by decide +kernel
theorem dX11_script_112 : decode cX11_script 112 = .ok (.aload_n 0, 1) := by decide +kernel
theorem dX11_script_113 : decode cX11_script 113 = .ok (.bipush 59, 2) := by decide +kernel
theorem dX11_script_115 : decode cX11_script 115 = .ok (.invokevirtual 172, 3) := by decide +kernel
theorem dX11_script_118 : decode cX11_script 118 = .ok (.ifCond .eq 7, 3) := by decide +kernel
theorem dX11_script_121 : decode cX11_script 121 = .ok (.iconst 1, 1) := by decide +kernel
theorem dX11_script_122 : decode cX11_script 122 = .ok (.goto 4, 3) := by decide +kernel
theorem dX11_script_125 : decode cX11_script 125 = .ok (.iconst 0, 1) := by decide +kernel
theorem dX11_script_126 : decode cX11_script 126 = .ok (.istore 4, 2) := by decide +kernel
theorem dX11_script_128 : decode cX11_script 128 = .ok (.goto (-42), 3) := by decide +kernel
theorem dX11_script_131 : decode cX11_script 131 = .ok (.aload_n 0, 1) := by decide +kernel
theorem dX11_script_132 : decode cX11_script 132 = .ok (.iconst 0, 1) := by decide +kernel
theorem dX11_script_133 : decode cX11_script 133 = .ok (.putfield 62, 3) := by decide +kernel
theorem dX11_script_136 : decode cX11_script 136 = .ok (.iload_n 3, 1) := by decide +kernel
theorem dX11_script_137 : decode cX11_script 137 = .ok (.ifCond .ne 9, 3) := by decide +kernel
theorem dX11_script_140 : decode cX11_script 140 = .ok (.aload_n 0, 1) := by decide +kernel
theorem dX11_script_141 : decode cX11_script 141 = .ok (.iload_n 2, 1) := by decide +kernel
theorem dX11_script_142 : decode cX11_script 142 = .ok (.invokevirtual 54, 3) := by decide +kernel
theorem dX11_script_145 : decode cX11_script 145 = .ok (.ireturn, 1) := by decide +kernel
theorem dX11_script_146 : decode cX11_script 146 = .ok (.aload_n 0, 1) := by decide +kernel
theorem dX11_script_147 : decode cX11_script 147 = .ok (.invokevirtual 183, 3) := by decide +kernel
theorem dX11_script_150 : decode cX11_script 150 = .ok (.iload_n 3, 1) := by decide +kernel
theorem dX11_script_151 : decode cX11_script 151 = .ok (.bipush (-3), 2) := by decide +kernel
theorem dX11_script_153 : decode cX11_script 153 = .ok (.if_icmp .ne 13, 3) := by decide +kernel
theorem dX11_script_156 : decode cX11_script 156 = .ok (.aload_n 0, 1) := by decide +kernel
theorem dX11_script_157 : decode cX11_script 157 = .ok (.bipush 12, 2) := by decide +kernel
theorem dX11_script_159 : decode cX11_script 159 = .ok (.iload_n 2, 1) := by decide +kernel
theorem dX11_script_160 : decode cX11_script 160 = .ok (.invokevirtual 113, 3) := by decide +kernel
theorem dX11_script_163 : decode cX11_script 163 = .ok (.goto 10, 3) := by decide +kernel
theorem dX11_script_166 : decode cX11_script 166 = .ok (.aload_n 0, 1) := by decide +kernel
theorem dX11_script_167 : decode cX11_script 167 = .ok (.bipush 12, 2) := by decide +kernel
theorem dX11_script_169 : decode cX11_script 169 = .ok (.iload_n 2, 1) := by decide +kernel
theorem dX11_script_170 : decode cX11_script 170 = .ok (.invokevirtual 68, 3) := by decide +kernel
theorem dX11_script_173 : decode cX11_script 173 = .ok (.ireturn, 1) := by decide +kernel
theorem dX11_fault_0 : decode cX11_fault 0 = .ok (.aload_n 0, 1) := by decide +kernel
theorem dX11_fault_1 : decode cX11_fault 1 = .ok (.getfield 35, 3) := by decide +kernel
theorem dX11_fault_4 : decode cX11_fault 4 = .ok (.ireturn, 1) := by decide +kernel
theorem dX11_reason_0 : decode cX11_reason 0 = .ok (.iload_n 1, 1) := by decide +kernel
theorem dX11_reason_1 : decode cX11_reason 1 = .ok (.ifCond .ge 6, 3) := by decide +kernel
theorem dX11_reason_4 : decode cX11_reason 4 = .ok (.bipush (-2), 2) := by decide +kernel
theorem dX11_reason_6 : decode cX11_reason 6 = .ok (.ireturn, 1) := by decide +kernel
theorem dX11_reason_7 : decode cX11_reason 7 = .ok (.iload_n 1, 1) := by decide +kernel
theorem dX11_reason_8 : decode cX11_reason 8 = .ok (.aload_n 0, 1) := by decide +kernel
theorem dX11_reason_9 : decode cX11_reason 9 = .ok (.getfield 48, 3) := by decide +kernel
theorem dX11_reason_12 : decode cX11_reason 12 = .ok (.if_icmp .ge 24, 3) := by decide +kernel
theorem dX11_reason_15 : decode cX11_reason 15 = .ok (.aload_n 0, 1) := by decide +kernel
theorem dX11_reason_16 : decode cX11_reason 16 = .ok (.getfield 39, 3) := by decide +kernel
theorem dX11_reason_19 : decode cX11_reason 19 = .ok (.iconst 2, 1) := by decide +kernel
theorem dX11_reason_20 : decode cX11_reason 20 = .ok (.iload_n 1, 1) := by decide +kernel
theorem dX11_reason_21 : decode cX11_reason 21 = .ok (.imul, 1) := by decide +kernel
theorem dX11_reason_22 : decode cX11_reason 22 = .ok (.iload_n 2, 1) := by decide +kernel
theorem dX11_reason_23 : decode cX11_reason 23 = .ok (.ifCond .eq 7, 3) := by decide +kernel
theorem dX11_reason_26 : decode cX11_reason 26 = .ok (.iconst 1, 1) := by decide +kernel
theorem dX11_reason_27 : decode cX11_reason 27 = .ok (.goto 4, 3) := by decide +kernel
theorem dX11_reason_30 : decode cX11_reason 30 = .ok (.iconst 0, 1) := by decide +kernel
theorem dX11_reason_31 : decode cX11_reason 31 = .ok (.iadd, 1) := by decide +kernel
theorem dX11_reason_32 : decode cX11_reason 32 = .ok (.iaload, 1) := by decide +kernel
theorem dX11_reason_33 : decode cX11_reason 33 = .ok (.goto 5, 3) := by decide +kernel
theorem dX11_reason_36 : decode cX11_reason 36 = .ok (.bipush (-4), 2) := by decide +kernel
theorem dX11_reason_38 : decode cX11_reason 38 = .ok (.ireturn, 1) := by decide +kernel
theorem dX11_bundleOf_0 : decode cX11_bundleOf 0 = .ok (.aload_n 0, 1) := by decide +kernel
theorem dX11_bundleOf_1 : decode cX11_bundleOf 1 = .ok (.iload_n 1, 1) := by decide +kernel
theorem dX11_bundleOf_2 : decode cX11_bundleOf 2 = .ok (.invokevirtual 77, 3) := by decide +kernel
theorem dX11_bundleOf_5 : decode cX11_bundleOf 5 = .ok (.ifCond .eq 27, 3) := by decide +kernel
theorem dX11_bundleOf_8 : decode cX11_bundleOf 8 = .ok (.aload_n 0, 1) := by decide +kernel
theorem dX11_bundleOf_9 : decode cX11_bundleOf 9 = .ok (.getfield 9, 3) := by decide +kernel
theorem dX11_bundleOf_12 : decode cX11_bundleOf 12 = .ok (.bipush 14, 2) := by decide +kernel
theorem dX11_bundleOf_14 : decode cX11_bundleOf 14 = .ok (.iconst 2, 1) := by decide +kernel
theorem dX11_bundleOf_15 : decode cX11_bundleOf 15 = .ok (.iload_n 1, 1) := by decide +kernel
theorem dX11_bundleOf_16 : decode cX11_bundleOf 16 = .ok (.imul, 1) := by decide +kernel
theorem dX11_bundleOf_17 : decode cX11_bundleOf 17 = .ok (.iadd, 1) := by decide +kernel
theorem dX11_bundleOf_18 : decode cX11_bundleOf 18 = .ok (.iload_n 2, 1) := by decide +kernel
theorem dX11_bundleOf_19 : decode cX11_bundleOf 19 = .ok (.ifCond .eq 7, 3) := by decide +kernel
theorem dX11_bundleOf_22 : decode cX11_bundleOf 22 = .ok (.iconst 1, 1) := by decide +kernel
theorem dX11_bundleOf_23 : decode cX11_bundleOf 23 = .ok (.goto 4, 3) := by decide +kernel
theorem dX11_bundleOf_26 : decode cX11_bundleOf 26 = .ok (.iconst 0, 1) := by decide +kernel
theorem dX11_bundleOf_27 : decode cX11_bundleOf 27 = .ok (.iadd, 1) := by decide +kernel
theorem dX11_bundleOf_28 : decode cX11_bundleOf 28 = .ok (.iaload, 1) := by decide +kernel
theorem dX11_bundleOf_29 : decode cX11_bundleOf 29 = .ok (.goto 4, 3) := by decide +kernel
theorem dX11_bundleOf_32 : decode cX11_bundleOf 32 = .ok (.iconst (-1), 1) := by decide +kernel
theorem dX11_bundleOf_33 : decode cX11_bundleOf 33 = .ok (.ireturn, 1) := by decide +kernel
theorem dX11_storeyOf_0 : decode cX11_storeyOf 0 = .ok (.aload_n 0, 1) := by decide +kernel
theorem dX11_storeyOf_1 : decode cX11_storeyOf 1 = .ok (.iload_n 1, 1) := by decide +kernel
theorem dX11_storeyOf_2 : decode cX11_storeyOf 2 = .ok (.invokevirtual 95, 3) := by decide +kernel
theorem dX11_storeyOf_5 : decode cX11_storeyOf 5 = .ok (.ifCond .ne 5, 3) := by decide +kernel
theorem dX11_storeyOf_8 : decode cX11_storeyOf 8 = .ok (.iconst (-1), 1) := by decide +kernel
theorem dX11_storeyOf_9 : decode cX11_storeyOf 9 = .ok (.ireturn, 1) := by decide +kernel
theorem dX11_storeyOf_10 : decode cX11_storeyOf 10 = .ok (.iload_n 2, 1) := by decide +kernel
theorem dX11_storeyOf_11 : decode cX11_storeyOf 11 = .ok (.tableswitch 69 0 6 #[41, 41, 41, 41, 41, 48, 63], 41) := by decide +kernel
theorem dX11_storeyOf_52 : decode cX11_storeyOf 52 = .ok (.aload_n 0, 1) := by decide +kernel
theorem dX11_storeyOf_53 : decode cX11_storeyOf 53 = .ok (.iload_n 1, 1) := by decide +kernel
theorem dX11_storeyOf_54 : decode cX11_storeyOf 54 = .ok (.iload_n 2, 1) := by decide +kernel
theorem dX11_storeyOf_55 : decode cX11_storeyOf 55 = .ok (.invokevirtual 98, 3) := by decide +kernel
theorem dX11_storeyOf_58 : decode cX11_storeyOf 58 = .ok (.ireturn, 1) := by decide +kernel
theorem dX11_storeyOf_59 : decode cX11_storeyOf 59 = .ok (.aload_n 0, 1) := by decide +kernel
theorem dX11_storeyOf_60 : decode cX11_storeyOf 60 = .ok (.iload_n 1, 1) := by decide +kernel
theorem dX11_storeyOf_61 : decode cX11_storeyOf 61 = .ok (.iconst 5, 1) := by decide +kernel
theorem dX11_storeyOf_62 : decode cX11_storeyOf 62 = .ok (.invokevirtual 98, 3) := by decide +kernel
theorem dX11_storeyOf_65 : decode cX11_storeyOf 65 = .ok (.ifCond .le 7, 3) := by decide +kernel
theorem dX11_storeyOf_68 : decode cX11_storeyOf 68 = .ok (.iconst 1, 1) := by decide +kernel
theorem dX11_storeyOf_69 : decode cX11_storeyOf 69 = .ok (.goto 4, 3) := by decide +kernel
theorem dX11_storeyOf_72 : decode cX11_storeyOf 72 = .ok (.iconst 0, 1) := by decide +kernel
theorem dX11_storeyOf_73 : decode cX11_storeyOf 73 = .ok (.ireturn, 1) := by decide +kernel
theorem dX11_storeyOf_74 : decode cX11_storeyOf 74 = .ok (.aload_n 0, 1) := by decide +kernel
theorem dX11_storeyOf_75 : decode cX11_storeyOf 75 = .ok (.iload_n 1, 1) := by decide +kernel
theorem dX11_storeyOf_76 : decode cX11_storeyOf 76 = .ok (.invokevirtual 116, 3) := by decide +kernel
theorem dX11_storeyOf_79 : decode cX11_storeyOf 79 = .ok (.ireturn, 1) := by decide +kernel
theorem dX11_storeyOf_80 : decode cX11_storeyOf 80 = .ok (.bipush (-2), 2) := by decide +kernel
theorem dX11_storeyOf_82 : decode cX11_storeyOf 82 = .ok (.ireturn, 1) := by decide +kernel
theorem dX11_strength_0 : decode cX11_strength 0 = .ok (.aload_n 0, 1) := by decide +kernel
theorem dX11_strength_1 : decode cX11_strength 1 = .ok (.iload_n 1, 1) := by decide +kernel
theorem dX11_strength_2 : decode cX11_strength 2 = .ok (.invokevirtual 95, 3) := by decide +kernel
theorem dX11_strength_5 : decode cX11_strength 5 = .ok (.ifCond .eq 11, 3) := by decide +kernel
theorem dX11_strength_8 : decode cX11_strength 8 = .ok (.aload_n 0, 1) := by decide +kernel
theorem dX11_strength_9 : decode cX11_strength 9 = .ok (.iload_n 1, 1) := by decide +kernel
theorem dX11_strength_10 : decode cX11_strength 10 = .ok (.invokevirtual 145, 3) := by decide +kernel
theorem dX11_strength_13 : decode cX11_strength 13 = .ok (.goto 4, 3) := by decide +kernel
theorem dX11_strength_16 : decode cX11_strength 16 = .ok (.iconst (-1), 1) := by decide +kernel
theorem dX11_strength_17 : decode cX11_strength 17 = .ok (.ireturn, 1) := by decide +kernel
theorem dX11_weakest_0 : decode cX11_weakest 0 = .ok (.bipush (-4), 2) := by decide +kernel
theorem dX11_weakest_2 : decode cX11_weakest 2 = .ok (.istore_n 1, 1) := by decide +kernel
theorem dX11_weakest_3 : decode cX11_weakest 3 = .ok (.iconst 0, 1) := by decide +kernel
theorem dX11_weakest_4 : decode cX11_weakest 4 = .ok (.istore_n 2, 1) := by decide +kernel
theorem dX11_weakest_5 : decode cX11_weakest 5 = .ok (.iload_n 2, 1) := by decide +kernel
theorem dX11_weakest_6 : decode cX11_weakest 6 = .ok (.aload_n 0, 1) := by decide +kernel
theorem dX11_weakest_7 : decode cX11_weakest 7 = .ok (.getfield 9, 3) := by decide +kernel
theorem dX11_weakest_10 : decode cX11_weakest 10 = .ok (.iconst 3, 1) := by decide +kernel
theorem dX11_weakest_11 : decode cX11_weakest 11 = .ok (.iaload, 1) := by decide +kernel
theorem dX11_weakest_12 : decode cX11_weakest 12 = .ok (.if_icmp .ge 28, 3) := by decide +kernel
theorem dX11_weakest_15 : decode cX11_weakest 15 = .ok (.iload_n 1, 1) := by decide +kernel
theorem dX11_weakest_16 : decode cX11_weakest 16 = .ok (.ifCond .lt 16, 3) := by decide +kernel
theorem dX11_weakest_19 : decode cX11_weakest 19 = .ok (.aload_n 0, 1) := by decide +kernel
theorem dX11_weakest_20 : decode cX11_weakest 20 = .ok (.iload_n 2, 1) := by decide +kernel
theorem dX11_weakest_21 : decode cX11_weakest 21 = .ok (.invokevirtual 145, 3) := by decide +kernel
theorem dX11_weakest_24 : decode cX11_weakest 24 = .ok (.aload_n 0, 1) := by decide +kernel
theorem dX11_weakest_25 : decode cX11_weakest 25 = .ok (.iload_n 1, 1) := by decide +kernel
theorem dX11_weakest_26 : decode cX11_weakest 26 = .ok (.invokevirtual 145, 3) := by decide +kernel
theorem dX11_weakest_29 : decode cX11_weakest 29 = .ok (.if_icmp .ge 5, 3) := by decide +kernel
theorem dX11_weakest_32 : decode cX11_weakest 32 = .ok (.iload_n 2, 1) := by decide +kernel
theorem dX11_weakest_33 : decode cX11_weakest 33 = .ok (.istore_n 1, 1) := by decide +kernel
theorem dX11_weakest_34 : decode cX11_weakest 34 = .ok (.iinc 2 1, 3) := by decide +kernel
theorem dX11_weakest_37 : decode cX11_weakest 37 = .ok (.goto (-32), 3) := by decide +kernel
theorem dX11_weakest_40 : decode cX11_weakest 40 = .ok (.iload_n 1, 1) := by decide +kernel
theorem dX11_weakest_41 : decode cX11_weakest 41 = .ok (.ireturn, 1) := by decide +kernel
theorem dX11_oldest_0 : decode cX11_oldest 0 = .ok (.iconst 0, 1) := by decide +kernel
theorem dX11_oldest_1 : decode cX11_oldest 1 = .ok (.istore_n 2, 1) := by decide +kernel
theorem dX11_oldest_2 : decode cX11_oldest 2 = .ok (.iload_n 2, 1) := by decide +kernel
theorem dX11_oldest_3 : decode cX11_oldest 3 = .ok (.aload_n 0, 1) := by decide +kernel
theorem dX11_oldest_4 : decode cX11_oldest 4 = .ok (.getfield 9, 3) := by decide +kernel
theorem dX11_oldest_7 : decode cX11_oldest 7 = .ok (.iconst 3, 1) := by decide +kernel
theorem dX11_oldest_8 : decode cX11_oldest 8 = .ok (.iaload, 1) := by decide +kernel
theorem dX11_oldest_9 : decode cX11_oldest 9 = .ok (.if_icmp .ge 79, 3) := by decide +kernel
theorem dX11_oldest_12 : decode cX11_oldest 12 = .ok (.iconst 0, 1) := by decide +kernel
theorem dX11_oldest_13 : decode cX11_oldest 13 = .ok (.istore_n 3, 1) := by decide +kernel
theorem dX11_oldest_14 : decode cX11_oldest 14 = .ok (.iconst 0, 1) := by decide +kernel
theorem dX11_oldest_15 : decode cX11_oldest 15 = .ok (.istore 4, 2) := by decide +kernel
theorem dX11_oldest_17 : decode cX11_oldest 17 = .ok (.iload 4, 2) := by decide +kernel
theorem dX11_oldest_19 : decode cX11_oldest 19 = .ok (.aload_n 0, 1) := by decide +kernel
theorem dX11_oldest_20 : decode cX11_oldest 20 = .ok (.getfield 9, 3) := by decide +kernel
theorem dX11_oldest_23 : decode cX11_oldest 23 = .ok (.iconst 3, 1) := by decide +kernel
theorem dX11_oldest_24 : decode cX11_oldest 24 = .ok (.iaload, 1) := by decide +kernel
theorem dX11_oldest_25 : decode cX11_oldest 25 = .ok (.if_icmp .ge 50, 3) := by decide +kernel
theorem dX11_oldest_28 : decode cX11_oldest 28 = .ok (.aload_n 0, 1) := by decide +kernel
theorem dX11_oldest_29 : decode cX11_oldest 29 = .ok (.iload 4, 2) := by decide +kernel
theorem dX11_oldest_31 : decode cX11_oldest 31 = .ok (.iconst 2, 1) := by decide +kernel
theorem dX11_oldest_32 : decode cX11_oldest 32 = .ok (.invokevirtual 98, 3) := by decide +kernel
theorem dX11_oldest_35 : decode cX11_oldest 35 = .ok (.aload_n 0, 1) := by decide +kernel
theorem dX11_oldest_36 : decode cX11_oldest 36 = .ok (.iload_n 2, 1) := by decide +kernel
theorem dX11_oldest_37 : decode cX11_oldest 37 = .ok (.iconst 2, 1) := by decide +kernel
theorem dX11_oldest_38 : decode cX11_oldest 38 = .ok (.invokevirtual 98, 3) := by decide +kernel
theorem dX11_oldest_41 : decode cX11_oldest 41 = .ok (.if_icmp .gt 25, 3) := by decide +kernel
theorem dX11_oldest_44 : decode cX11_oldest 44 = .ok (.iload 4, 2) := by decide +kernel
theorem dX11_oldest_46 : decode cX11_oldest 46 = .ok (.iload_n 2, 1) := by decide +kernel
theorem dX11_oldest_47 : decode cX11_oldest 47 = .ok (.if_icmp .le 22, 3) := by decide +kernel
theorem dX11_oldest_50 : decode cX11_oldest 50 = .ok (.aload_n 0, 1) := by decide +kernel
theorem dX11_oldest_51 : decode cX11_oldest 51 = .ok (.iload 4, 2) := by decide +kernel
theorem dX11_oldest_53 : decode cX11_oldest 53 = .ok (.iconst 2, 1) := by decide +kernel
theorem dX11_oldest_54 : decode cX11_oldest 54 = .ok (.invokevirtual 98, 3) := by decide +kernel
theorem dX11_oldest_57 : decode cX11_oldest 57 = .ok (.aload_n 0, 1) := by decide +kernel
theorem dX11_oldest_58 : decode cX11_oldest 58 = .ok (.iload_n 2, 1) := by decide +kernel
theorem dX11_oldest_59 : decode cX11_oldest 59 = .ok (.iconst 2, 1) := by decide +kernel
theorem dX11_oldest_60 : decode cX11_oldest 60 = .ok (.invokevirtual 98, 3) := by decide +kernel
theorem dX11_oldest_63 : decode cX11_oldest 63 = .ok (.if_icmp .ne 6, 3) := by decide +kernel
theorem dX11_oldest_66 : decode cX11_oldest 66 = .ok (.iinc 3 1, 3) := by decide +kernel
theorem dX11_oldest_69 : decode cX11_oldest 69 = .ok (.iinc 4 1, 3) := by decide +kernel
theorem dX11_oldest_72 : decode cX11_oldest 72 = .ok (.goto (-55), 3) := by decide +kernel
theorem dX11_oldest_75 : decode cX11_oldest 75 = .ok (.iload_n 3, 1) := by decide +kernel
theorem dX11_oldest_76 : decode cX11_oldest 76 = .ok (.iload_n 1, 1) := by decide +kernel
theorem dX11_oldest_77 : decode cX11_oldest 77 = .ok (.if_icmp .ne 5, 3) := by decide +kernel
theorem dX11_oldest_80 : decode cX11_oldest 80 = .ok (.iload_n 2, 1) := by decide +kernel
theorem dX11_oldest_81 : decode cX11_oldest 81 = .ok (.ireturn, 1) := by decide +kernel
theorem dX11_oldest_82 : decode cX11_oldest 82 = .ok (.iinc 2 1, 3) := by decide +kernel
theorem dX11_oldest_85 : decode cX11_oldest 85 = .ok (.goto (-83), 3) := by decide +kernel
theorem dX11_oldest_88 : decode cX11_oldest 88 = .ok (.iconst (-1), 1) := by decide +kernel
theorem dX11_oldest_89 : decode cX11_oldest 89 = .ok (.ireturn, 1) := by decide +kernel
theorem dX11_crewOf_0 : decode cX11_crewOf 0 = .ok (.aload_n 0, 1) := by decide +kernel
theorem dX11_crewOf_1 : decode cX11_crewOf 1 = .ok (.iload_n 1, 1) := by decide +kernel
theorem dX11_crewOf_2 : decode cX11_crewOf 2 = .ok (.invokevirtual 107, 3) := by decide +kernel
theorem dX11_crewOf_5 : decode cX11_crewOf 5 = .ok (.ifCond .ne 5, 3) := by decide +kernel
theorem dX11_crewOf_8 : decode cX11_crewOf 8 = .ok (.iconst (-1), 1) := by decide +kernel
theorem dX11_crewOf_9 : decode cX11_crewOf 9 = .ok (.ireturn, 1) := by decide +kernel
theorem dX11_crewOf_10 : decode cX11_crewOf 10 = .ok (.iload_n 2, 1) := by decide +kernel
theorem dX11_crewOf_11 : decode cX11_crewOf 11 = .ok (.tableswitch 88 0 3 #[29, 41, 60, 74], 29) := by decide +kernel
theorem dX11_crewOf_40 : decode cX11_crewOf 40 = .ok (.aload_n 0, 1) := by decide +kernel
theorem dX11_crewOf_41 : decode cX11_crewOf 41 = .ok (.getfield 9, 3) := by decide +kernel
theorem dX11_crewOf_44 : decode cX11_crewOf 44 = .ok (.bipush 90, 2) := by decide +kernel
theorem dX11_crewOf_46 : decode cX11_crewOf 46 = .ok (.iconst 3, 1) := by decide +kernel
theorem dX11_crewOf_47 : decode cX11_crewOf 47 = .ok (.iload_n 1, 1) := by decide +kernel
theorem dX11_crewOf_48 : decode cX11_crewOf 48 = .ok (.imul, 1) := by decide +kernel
theorem dX11_crewOf_49 : decode cX11_crewOf 49 = .ok (.iadd, 1) := by decide +kernel
theorem dX11_crewOf_50 : decode cX11_crewOf 50 = .ok (.iaload, 1) := by decide +kernel
theorem dX11_crewOf_51 : decode cX11_crewOf 51 = .ok (.ireturn, 1) := by decide +kernel
theorem dX11_crewOf_52 : decode cX11_crewOf 52 = .ok (.aload_n 0, 1) := by decide +kernel
theorem dX11_crewOf_53 : decode cX11_crewOf 53 = .ok (.iload_n 1, 1) := by decide +kernel
theorem dX11_crewOf_54 : decode cX11_crewOf 54 = .ok (.invokevirtual 104, 3) := by decide +kernel
theorem dX11_crewOf_57 : decode cX11_crewOf 57 = .ok (.ifCond .ge 8, 3) := by decide +kernel
theorem dX11_crewOf_60 : decode cX11_crewOf 60 = .ok (.bipush (-4), 2) := by decide +kernel
theorem dX11_crewOf_62 : decode cX11_crewOf 62 = .ok (.goto 8, 3) := by decide +kernel
theorem dX11_crewOf_65 : decode cX11_crewOf 65 = .ok (.aload_n 0, 1) := by decide +kernel
theorem dX11_crewOf_66 : decode cX11_crewOf 66 = .ok (.iload_n 1, 1) := by decide +kernel
theorem dX11_crewOf_67 : decode cX11_crewOf 67 = .ok (.invokevirtual 104, 3) := by decide +kernel
theorem dX11_crewOf_70 : decode cX11_crewOf 70 = .ok (.ireturn, 1) := by decide +kernel
theorem dX11_crewOf_71 : decode cX11_crewOf 71 = .ok (.aload_n 0, 1) := by decide +kernel
theorem dX11_crewOf_72 : decode cX11_crewOf 72 = .ok (.iload_n 1, 1) := by decide +kernel
theorem dX11_crewOf_73 : decode cX11_crewOf 73 = .ok (.invokevirtual 186, 3) := by decide +kernel
theorem dX11_crewOf_76 : decode cX11_crewOf 76 = .ok (.ifCond .eq 7, 3) := by decide +kernel
theorem dX11_crewOf_79 : decode cX11_crewOf 79 = .ok (.iconst 1, 1) := by decide +kernel
theorem dX11_crewOf_80 : decode cX11_crewOf 80 = .ok (.goto 4, 3) := by decide +kernel
theorem dX11_crewOf_83 : decode cX11_crewOf 83 = .ok (.iconst 0, 1) := by decide +kernel
theorem dX11_crewOf_84 : decode cX11_crewOf 84 = .ok (.ireturn, 1) := by decide +kernel
theorem dX11_crewOf_85 : decode cX11_crewOf 85 = .ok (.aload_n 0, 1) := by decide +kernel
theorem dX11_crewOf_86 : decode cX11_crewOf 86 = .ok (.getfield 9, 3) := by decide +kernel
theorem dX11_crewOf_89 : decode cX11_crewOf 89 = .ok (.bipush 90, 2) := by decide +kernel
theorem dX11_crewOf_91 : decode cX11_crewOf 91 = .ok (.iconst 3, 1) := by decide +kernel
theorem dX11_crewOf_92 : decode cX11_crewOf 92 = .ok (.iload_n 1, 1) := by decide +kernel
theorem dX11_crewOf_93 : decode cX11_crewOf 93 = .ok (.imul, 1) := by decide +kernel
theorem dX11_crewOf_94 : decode cX11_crewOf 94 = .ok (.iadd, 1) := by decide +kernel
theorem dX11_crewOf_95 : decode cX11_crewOf 95 = .ok (.iconst 2, 1) := by decide +kernel
theorem dX11_crewOf_96 : decode cX11_crewOf 96 = .ok (.iadd, 1) := by decide +kernel
theorem dX11_crewOf_97 : decode cX11_crewOf 97 = .ok (.iaload, 1) := by decide +kernel
theorem dX11_crewOf_98 : decode cX11_crewOf 98 = .ok (.ireturn, 1) := by decide +kernel
theorem dX11_crewOf_99 : decode cX11_crewOf 99 = .ok (.bipush (-2), 2) := by decide +kernel
theorem dX11_crewOf_101 : decode cX11_crewOf 101 = .ok (.ireturn, 1) := by decide +kernel
theorem dX11_wouldWork_0 : decode cX11_wouldWork 0 = .ok (.aload_n 0, 1) := by decide +kernel
theorem dX11_wouldWork_1 : decode cX11_wouldWork 1 = .ok (.iload_n 1, 1) := by decide +kernel
theorem dX11_wouldWork_2 : decode cX11_wouldWork 2 = .ok (.invokevirtual 148, 3) := by decide +kernel
theorem dX11_wouldWork_5 : decode cX11_wouldWork 5 = .ok (.ifCond .ne 5, 3) := by decide +kernel
theorem dX11_wouldWork_8 : decode cX11_wouldWork 8 = .ok (.iconst 0, 1) := by decide +kernel
theorem dX11_wouldWork_9 : decode cX11_wouldWork 9 = .ok (.ireturn, 1) := by decide +kernel
theorem dX11_wouldWork_10 : decode cX11_wouldWork 10 = .ok (.aload_n 0, 1) := by decide +kernel
theorem dX11_wouldWork_11 : decode cX11_wouldWork 11 = .ok (.iload_n 1, 1) := by decide +kernel
theorem dX11_wouldWork_12 : decode cX11_wouldWork 12 = .ok (.invokevirtual 104, 3) := by decide +kernel
theorem dX11_wouldWork_15 : decode cX11_wouldWork 15 = .ok (.istore_n 2, 1) := by decide +kernel
theorem dX11_wouldWork_16 : decode cX11_wouldWork 16 = .ok (.aload_n 0, 1) := by decide +kernel
theorem dX11_wouldWork_17 : decode cX11_wouldWork 17 = .ok (.iload_n 2, 1) := by decide +kernel
theorem dX11_wouldWork_18 : decode cX11_wouldWork 18 = .ok (.iconst 3, 1) := by decide +kernel
theorem dX11_wouldWork_19 : decode cX11_wouldWork 19 = .ok (.invokevirtual 98, 3) := by decide +kernel
theorem dX11_wouldWork_22 : decode cX11_wouldWork 22 = .ok (.istore_n 3, 1) := by decide +kernel
theorem dX11_wouldWork_23 : decode cX11_wouldWork 23 = .ok (.aload_n 0, 1) := by decide +kernel
theorem dX11_wouldWork_24 : decode cX11_wouldWork 24 = .ok (.iload_n 2, 1) := by decide +kernel
theorem dX11_wouldWork_25 : decode cX11_wouldWork 25 = .ok (.iconst 4, 1) := by decide +kernel
theorem dX11_wouldWork_26 : decode cX11_wouldWork 26 = .ok (.invokevirtual 98, 3) := by decide +kernel
theorem dX11_wouldWork_29 : decode cX11_wouldWork 29 = .ok (.istore 4, 2) := by decide +kernel
theorem dX11_wouldWork_31 : decode cX11_wouldWork 31 = .ok (.iconst 0, 1) := by decide +kernel
theorem dX11_wouldWork_32 : decode cX11_wouldWork 32 = .ok (.istore 5, 2) := by decide +kernel
theorem dX11_wouldWork_34 : decode cX11_wouldWork 34 = .ok (.iload 5, 2) := by decide +kernel
theorem dX11_wouldWork_36 : decode cX11_wouldWork 36 = .ok (.iload_n 1, 1) := by decide +kernel
theorem dX11_wouldWork_37 : decode cX11_wouldWork 37 = .ok (.if_icmp .ge 49, 3) := by decide +kernel
theorem dX11_wouldWork_40 : decode cX11_wouldWork 40 = .ok (.aload_n 0, 1) := by decide +kernel
theorem dX11_wouldWork_41 : decode cX11_wouldWork 41 = .ok (.iload 5, 2) := by decide +kernel
theorem dX11_wouldWork_43 : decode cX11_wouldWork 43 = .ok (.invokevirtual 104, 3) := by decide +kernel
theorem dX11_wouldWork_46 : decode cX11_wouldWork 46 = .ok (.iload_n 2, 1) := by decide +kernel
theorem dX11_wouldWork_47 : decode cX11_wouldWork 47 = .ok (.if_icmp .ne 33, 3) := by decide +kernel
theorem dX11_wouldWork_50 : decode cX11_wouldWork 50 = .ok (.iload_n 3, 1) := by decide +kernel
theorem dX11_wouldWork_51 : decode cX11_wouldWork 51 = .ok (.ifCond .le 29, 3) := by decide +kernel
theorem dX11_wouldWork_54 : decode cX11_wouldWork 54 = .ok (.iload 4, 2) := by decide +kernel
theorem dX11_wouldWork_56 : decode cX11_wouldWork 56 = .ok (.ifCond .ne 6, 3) := by decide +kernel
theorem dX11_wouldWork_59 : decode cX11_wouldWork 59 = .ok (.goto 21, 3) := by decide +kernel
theorem dX11_wouldWork_62 : decode cX11_wouldWork 62 = .ok (.iload_n 3, 1) := by decide +kernel
theorem dX11_wouldWork_63 : decode cX11_wouldWork 63 = .ok (.aload_n 0, 1) := by decide +kernel
theorem dX11_wouldWork_64 : decode cX11_wouldWork 64 = .ok (.getfield 9, 3) := by decide +kernel
theorem dX11_wouldWork_67 : decode cX11_wouldWork 67 = .ok (.bipush 90, 2) := by decide +kernel
theorem dX11_wouldWork_69 : decode cX11_wouldWork 69 = .ok (.iconst 3, 1) := by decide +kernel
theorem dX11_wouldWork_70 : decode cX11_wouldWork 70 = .ok (.iload 5, 2) := by decide +kernel
theorem dX11_wouldWork_72 : decode cX11_wouldWork 72 = .ok (.imul, 1) := by decide +kernel
theorem dX11_wouldWork_73 : decode cX11_wouldWork 73 = .ok (.iadd, 1) := by decide +kernel
theorem dX11_wouldWork_74 : decode cX11_wouldWork 74 = .ok (.iaload, 1) := by decide +kernel
theorem dX11_wouldWork_75 : decode cX11_wouldWork 75 = .ok (.isub, 1) := by decide +kernel
theorem dX11_wouldWork_76 : decode cX11_wouldWork 76 = .ok (.istore_n 3, 1) := by decide +kernel
theorem dX11_wouldWork_77 : decode cX11_wouldWork 77 = .ok (.iinc 4 (-1), 3) := by decide +kernel
theorem dX11_wouldWork_80 : decode cX11_wouldWork 80 = .ok (.iinc 5 1, 3) := by decide +kernel
theorem dX11_wouldWork_83 : decode cX11_wouldWork 83 = .ok (.goto (-49), 3) := by decide +kernel
theorem dX11_wouldWork_86 : decode cX11_wouldWork 86 = .ok (.iload_n 3, 1) := by decide +kernel
theorem dX11_wouldWork_87 : decode cX11_wouldWork 87 = .ok (.ifCond .le 12, 3) := by decide +kernel
theorem dX11_wouldWork_90 : decode cX11_wouldWork 90 = .ok (.iload 4, 2) := by decide +kernel
theorem dX11_wouldWork_92 : decode cX11_wouldWork 92 = .ok (.ifCond .le 7, 3) := by decide +kernel
theorem dX11_wouldWork_95 : decode cX11_wouldWork 95 = .ok (.iconst 1, 1) := by decide +kernel
theorem dX11_wouldWork_96 : decode cX11_wouldWork 96 = .ok (.goto 4, 3) := by decide +kernel
theorem dX11_wouldWork_99 : decode cX11_wouldWork 99 = .ok (.iconst 0, 1) := by decide +kernel
theorem dX11_wouldWork_100 : decode cX11_wouldWork 100 = .ok (.ireturn, 1) := by decide +kernel
theorem dX11_inspectorOf_0 : decode cX11_inspectorOf 0 = .ok (.aload_n 0, 1) := by decide +kernel
theorem dX11_inspectorOf_1 : decode cX11_inspectorOf 1 = .ok (.iload_n 1, 1) := by decide +kernel
theorem dX11_inspectorOf_2 : decode cX11_inspectorOf 2 = .ok (.invokevirtual 136, 3) := by decide +kernel
theorem dX11_inspectorOf_5 : decode cX11_inspectorOf 5 = .ok (.ifCond .ne 5, 3) := by decide +kernel
theorem dX11_inspectorOf_8 : decode cX11_inspectorOf 8 = .ok (.iconst (-1), 1) := by decide +kernel
theorem dX11_inspectorOf_9 : decode cX11_inspectorOf 9 = .ok (.ireturn, 1) := by decide +kernel
theorem dX11_inspectorOf_10 : decode cX11_inspectorOf 10 = .ok (.iconst 0, 1) := by decide +kernel
theorem dX11_inspectorOf_11 : decode cX11_inspectorOf 11 = .ok (.istore_n 3, 1) := by decide +kernel
theorem dX11_inspectorOf_12 : decode cX11_inspectorOf 12 = .ok (.iload_n 2, 1) := by decide +kernel
theorem dX11_inspectorOf_13 : decode cX11_inspectorOf 13 = .ok (.tableswitch 91 0 2 #[27, 39, 77], 27) := by decide +kernel
theorem dX11_inspectorOf_40 : decode cX11_inspectorOf 40 = .ok (.aload_n 0, 1) := by decide +kernel
theorem dX11_inspectorOf_41 : decode cX11_inspectorOf 41 = .ok (.getfield 9, 3) := by decide +kernel
theorem dX11_inspectorOf_44 : decode cX11_inspectorOf 44 = .ok (.bipush 105, 2) := by decide +kernel
theorem dX11_inspectorOf_46 : decode cX11_inspectorOf 46 = .ok (.iconst 2, 1) := by decide +kernel
theorem dX11_inspectorOf_47 : decode cX11_inspectorOf 47 = .ok (.iload_n 1, 1) := by decide +kernel
theorem dX11_inspectorOf_48 : decode cX11_inspectorOf 48 = .ok (.imul, 1) := by decide +kernel
theorem dX11_inspectorOf_49 : decode cX11_inspectorOf 49 = .ok (.iadd, 1) := by decide +kernel
theorem dX11_inspectorOf_50 : decode cX11_inspectorOf 50 = .ok (.iaload, 1) := by decide +kernel
theorem dX11_inspectorOf_51 : decode cX11_inspectorOf 51 = .ok (.ireturn, 1) := by decide +kernel
theorem dX11_inspectorOf_52 : decode cX11_inspectorOf 52 = .ok (.iconst 0, 1) := by decide +kernel
theorem dX11_inspectorOf_53 : decode cX11_inspectorOf 53 = .ok (.istore 4, 2) := by decide +kernel
theorem dX11_inspectorOf_55 : decode cX11_inspectorOf 55 = .ok (.iload 4, 2) := by decide +kernel
theorem dX11_inspectorOf_57 : decode cX11_inspectorOf 57 = .ok (.aload_n 0, 1) := by decide +kernel
theorem dX11_inspectorOf_58 : decode cX11_inspectorOf 58 = .ok (.getfield 9, 3) := by decide +kernel
theorem dX11_inspectorOf_61 : decode cX11_inspectorOf 61 = .ok (.iconst 3, 1) := by decide +kernel
theorem dX11_inspectorOf_62 : decode cX11_inspectorOf 62 = .ok (.iaload, 1) := by decide +kernel
theorem dX11_inspectorOf_63 : decode cX11_inspectorOf 63 = .ok (.if_icmp .ge 25, 3) := by decide +kernel
theorem dX11_inspectorOf_66 : decode cX11_inspectorOf 66 = .ok (.aload_n 0, 1) := by decide +kernel
theorem dX11_inspectorOf_67 : decode cX11_inspectorOf 67 = .ok (.iload 4, 2) := by decide +kernel
theorem dX11_inspectorOf_69 : decode cX11_inspectorOf 69 = .ok (.iconst 5, 1) := by decide +kernel
theorem dX11_inspectorOf_70 : decode cX11_inspectorOf 70 = .ok (.invokevirtual 98, 3) := by decide +kernel
theorem dX11_inspectorOf_73 : decode cX11_inspectorOf 73 = .ok (.iload_n 1, 1) := by decide +kernel
theorem dX11_inspectorOf_74 : decode cX11_inspectorOf 74 = .ok (.iconst 1, 1) := by decide +kernel
theorem dX11_inspectorOf_75 : decode cX11_inspectorOf 75 = .ok (.iadd, 1) := by decide +kernel
theorem dX11_inspectorOf_76 : decode cX11_inspectorOf 76 = .ok (.if_icmp .ne 6, 3) := by decide +kernel
theorem dX11_inspectorOf_79 : decode cX11_inspectorOf 79 = .ok (.iinc 3 1, 3) := by decide +kernel
theorem dX11_inspectorOf_82 : decode cX11_inspectorOf 82 = .ok (.iinc 4 1, 3) := by decide +kernel
theorem dX11_inspectorOf_85 : decode cX11_inspectorOf 85 = .ok (.goto (-30), 3) := by decide +kernel
theorem dX11_inspectorOf_88 : decode cX11_inspectorOf 88 = .ok (.iload_n 3, 1) := by decide +kernel
theorem dX11_inspectorOf_89 : decode cX11_inspectorOf 89 = .ok (.ireturn, 1) := by decide +kernel
theorem dX11_inspectorOf_90 : decode cX11_inspectorOf 90 = .ok (.aload_n 0, 1) := by decide +kernel
theorem dX11_inspectorOf_91 : decode cX11_inspectorOf 91 = .ok (.getfield 9, 3) := by decide +kernel
theorem dX11_inspectorOf_94 : decode cX11_inspectorOf 94 = .ok (.bipush 105, 2) := by decide +kernel
theorem dX11_inspectorOf_96 : decode cX11_inspectorOf 96 = .ok (.iconst 2, 1) := by decide +kernel
theorem dX11_inspectorOf_97 : decode cX11_inspectorOf 97 = .ok (.iload_n 1, 1) := by decide +kernel
theorem dX11_inspectorOf_98 : decode cX11_inspectorOf 98 = .ok (.imul, 1) := by decide +kernel
theorem dX11_inspectorOf_99 : decode cX11_inspectorOf 99 = .ok (.iadd, 1) := by decide +kernel
theorem dX11_inspectorOf_100 : decode cX11_inspectorOf 100 = .ok (.iconst 1, 1) := by decide +kernel
theorem dX11_inspectorOf_101 : decode cX11_inspectorOf 101 = .ok (.iadd, 1) := by decide +kernel
theorem dX11_inspectorOf_102 : decode cX11_inspectorOf 102 = .ok (.iaload, 1) := by decide +kernel
theorem dX11_inspectorOf_103 : decode cX11_inspectorOf 103 = .ok (.ireturn, 1) := by decide +kernel
theorem dX11_inspectorOf_104 : decode cX11_inspectorOf 104 = .ok (.bipush (-2), 2) := by decide +kernel
theorem dX11_inspectorOf_106 : decode cX11_inspectorOf 106 = .ok (.ireturn, 1) := by decide +kernel
theorem dX11_highest_0 : decode cX11_highest 0 = .ok (.bipush (-4), 2) := by decide +kernel
theorem dX11_highest_2 : decode cX11_highest 2 = .ok (.istore_n 1, 1) := by decide +kernel
theorem dX11_highest_3 : decode cX11_highest 3 = .ok (.iconst 0, 1) := by decide +kernel
theorem dX11_highest_4 : decode cX11_highest 4 = .ok (.istore_n 2, 1) := by decide +kernel
theorem dX11_highest_5 : decode cX11_highest 5 = .ok (.iload_n 2, 1) := by decide +kernel
theorem dX11_highest_6 : decode cX11_highest 6 = .ok (.aload_n 0, 1) := by decide +kernel
theorem dX11_highest_7 : decode cX11_highest 7 = .ok (.getfield 9, 3) := by decide +kernel
theorem dX11_highest_10 : decode cX11_highest 10 = .ok (.iconst 3, 1) := by decide +kernel
theorem dX11_highest_11 : decode cX11_highest 11 = .ok (.iaload, 1) := by decide +kernel
theorem dX11_highest_12 : decode cX11_highest 12 = .ok (.if_icmp .ge 38, 3) := by decide +kernel
theorem dX11_highest_15 : decode cX11_highest 15 = .ok (.aload_n 0, 1) := by decide +kernel
theorem dX11_highest_16 : decode cX11_highest 16 = .ok (.getfield 9, 3) := by decide +kernel
theorem dX11_highest_19 : decode cX11_highest 19 = .ok (.iconst 1, 1) := by decide +kernel
theorem dX11_highest_20 : decode cX11_highest 20 = .ok (.iaload, 1) := by decide +kernel
theorem dX11_highest_21 : decode cX11_highest 21 = .ok (.iconst 3, 1) := by decide +kernel
theorem dX11_highest_22 : decode cX11_highest 22 = .ok (.if_icmp .ge 28, 3) := by decide +kernel
theorem dX11_highest_25 : decode cX11_highest 25 = .ok (.aload_n 0, 1) := by decide +kernel
theorem dX11_highest_26 : decode cX11_highest 26 = .ok (.iload_n 2, 1) := by decide +kernel
theorem dX11_highest_27 : decode cX11_highest 27 = .ok (.invokevirtual 110, 3) := by decide +kernel
theorem dX11_highest_30 : decode cX11_highest 30 = .ok (.ifCond .ge 14, 3) := by decide +kernel
theorem dX11_highest_33 : decode cX11_highest 33 = .ok (.aload_n 0, 1) := by decide +kernel
theorem dX11_highest_34 : decode cX11_highest 34 = .ok (.iload_n 2, 1) := by decide +kernel
theorem dX11_highest_35 : decode cX11_highest 35 = .ok (.iconst 5, 1) := by decide +kernel
theorem dX11_highest_36 : decode cX11_highest 36 = .ok (.invokevirtual 98, 3) := by decide +kernel
theorem dX11_highest_39 : decode cX11_highest 39 = .ok (.ifCond .ne 5, 3) := by decide +kernel
theorem dX11_highest_42 : decode cX11_highest 42 = .ok (.iload_n 2, 1) := by decide +kernel
theorem dX11_highest_43 : decode cX11_highest 43 = .ok (.istore_n 1, 1) := by decide +kernel
theorem dX11_highest_44 : decode cX11_highest 44 = .ok (.iinc 2 1, 3) := by decide +kernel
theorem dX11_highest_47 : decode cX11_highest 47 = .ok (.goto (-42), 3) := by decide +kernel
theorem dX11_highest_50 : decode cX11_highest 50 = .ok (.iload_n 1, 1) := by decide +kernel
theorem dX11_highest_51 : decode cX11_highest 51 = .ok (.ireturn, 1) := by decide +kernel
theorem dX11_wouldFall_0 : decode cX11_wouldFall 0 = .ok (.iload_n 1, 1) := by decide +kernel
theorem dX11_wouldFall_1 : decode cX11_wouldFall 1 = .ok (.bipush 8, 2) := by decide +kernel
theorem dX11_wouldFall_3 : decode cX11_wouldFall 3 = .ok (.bipush 10, 2) := by decide +kernel
theorem dX11_wouldFall_5 : decode cX11_wouldFall 5 = .ok (.invokestatic 58, 3) := by decide +kernel
theorem dX11_wouldFall_8 : decode cX11_wouldFall 8 = .ok (.ifCond .eq 11, 3) := by decide +kernel
theorem dX11_wouldFall_11 : decode cX11_wouldFall 11 = .ok (.aload_n 0, 1) := by decide +kernel
theorem dX11_wouldFall_12 : decode cX11_wouldFall 12 = .ok (.iload_n 1, 1) := by decide +kernel
theorem dX11_wouldFall_13 : decode cX11_wouldFall 13 = .ok (.invokevirtual 151, 3) := by decide +kernel
theorem dX11_wouldFall_16 : decode cX11_wouldFall 16 = .ok (.goto 5, 3) := by decide +kernel
theorem dX11_wouldFall_19 : decode cX11_wouldFall 19 = .ok (.bipush (-2), 2) := by decide +kernel
theorem dX11_wouldFall_21 : decode cX11_wouldFall 21 = .ok (.ireturn, 1) := by decide +kernel
theorem dX11_oldIn_0 : decode cX11_oldIn 0 = .ok (.aload_n 0, 1) := by decide +kernel
theorem dX11_oldIn_1 : decode cX11_oldIn 1 = .ok (.iload_n 1, 1) := by decide +kernel
theorem dX11_oldIn_2 : decode cX11_oldIn 2 = .ok (.invokevirtual 95, 3) := by decide +kernel
theorem dX11_oldIn_5 : decode cX11_oldIn 5 = .ok (.ifCond .ne 5, 3) := by decide +kernel
theorem dX11_oldIn_8 : decode cX11_oldIn 8 = .ok (.iconst (-1), 1) := by decide +kernel
theorem dX11_oldIn_9 : decode cX11_oldIn 9 = .ok (.ireturn, 1) := by decide +kernel
theorem dX11_oldIn_10 : decode cX11_oldIn 10 = .ok (.aload_n 0, 1) := by decide +kernel
theorem dX11_oldIn_11 : decode cX11_oldIn 11 = .ok (.invokevirtual 189, 3) := by decide +kernel
theorem dX11_oldIn_14 : decode cX11_oldIn 14 = .ok (.iconst 0, 1) := by decide +kernel
theorem dX11_oldIn_15 : decode cX11_oldIn 15 = .ok (.istore_n 2, 1) := by decide +kernel
theorem dX11_oldIn_16 : decode cX11_oldIn 16 = .ok (.aload_n 0, 1) := by decide +kernel
theorem dX11_oldIn_17 : decode cX11_oldIn 17 = .ok (.iload_n 1, 1) := by decide +kernel
theorem dX11_oldIn_18 : decode cX11_oldIn 18 = .ok (.invokevirtual 95, 3) := by decide +kernel
theorem dX11_oldIn_21 : decode cX11_oldIn 21 = .ok (.ifCond .eq 25, 3) := by decide +kernel
theorem dX11_oldIn_24 : decode cX11_oldIn 24 = .ok (.aload_n 0, 1) := by decide +kernel
theorem dX11_oldIn_25 : decode cX11_oldIn 25 = .ok (.iload_n 1, 1) := by decide +kernel
theorem dX11_oldIn_26 : decode cX11_oldIn 26 = .ok (.iconst 2, 1) := by decide +kernel
theorem dX11_oldIn_27 : decode cX11_oldIn 27 = .ok (.invokevirtual 98, 3) := by decide +kernel
theorem dX11_oldIn_30 : decode cX11_oldIn 30 = .ok (.bipush 20, 2) := by decide +kernel
theorem dX11_oldIn_32 : decode cX11_oldIn 32 = .ok (.if_icmp .gt 14, 3) := by decide +kernel
theorem dX11_oldIn_35 : decode cX11_oldIn 35 = .ok (.aload_n 0, 1) := by decide +kernel
theorem dX11_oldIn_36 : decode cX11_oldIn 36 = .ok (.invokevirtual 154, 3) := by decide +kernel
theorem dX11_oldIn_39 : decode cX11_oldIn 39 = .ok (.istore_n 3, 1) := by decide +kernel
theorem dX11_oldIn_40 : decode cX11_oldIn 40 = .ok (.iinc 2 1, 3) := by decide +kernel
theorem dX11_oldIn_43 : decode cX11_oldIn 43 = .ok (.goto (-27), 3) := by decide +kernel
theorem dX11_oldIn_46 : decode cX11_oldIn 46 = .ok (.aload_n 0, 1) := by decide +kernel
theorem dX11_oldIn_47 : decode cX11_oldIn 47 = .ok (.iload_n 1, 1) := by decide +kernel
theorem dX11_oldIn_48 : decode cX11_oldIn 48 = .ok (.invokevirtual 95, 3) := by decide +kernel
theorem dX11_oldIn_51 : decode cX11_oldIn 51 = .ok (.istore_n 3, 1) := by decide +kernel
theorem dX11_oldIn_52 : decode cX11_oldIn 52 = .ok (.aload_n 0, 1) := by decide +kernel
theorem dX11_oldIn_53 : decode cX11_oldIn 53 = .ok (.invokevirtual 192, 3) := by decide +kernel
theorem dX11_oldIn_56 : decode cX11_oldIn 56 = .ok (.iload_n 3, 1) := by decide +kernel
theorem dX11_oldIn_57 : decode cX11_oldIn 57 = .ok (.ifCond .eq 7, 3) := by decide +kernel
theorem dX11_oldIn_60 : decode cX11_oldIn 60 = .ok (.iload_n 2, 1) := by decide +kernel
theorem dX11_oldIn_61 : decode cX11_oldIn 61 = .ok (.goto 5, 3) := by decide +kernel
theorem dX11_oldIn_64 : decode cX11_oldIn 64 = .ok (.bipush (-4), 2) := by decide +kernel
theorem dX11_oldIn_66 : decode cX11_oldIn 66 = .ok (.ireturn, 1) := by decide +kernel
theorem dX11_doneIn_0 : decode cX11_doneIn 0 = .ok (.aload_n 0, 1) := by decide +kernel
theorem dX11_doneIn_1 : decode cX11_doneIn 1 = .ok (.iload_n 1, 1) := by decide +kernel
theorem dX11_doneIn_2 : decode cX11_doneIn 2 = .ok (.invokevirtual 95, 3) := by decide +kernel
theorem dX11_doneIn_5 : decode cX11_doneIn 5 = .ok (.ifCond .ne 5, 3) := by decide +kernel
theorem dX11_doneIn_8 : decode cX11_doneIn 8 = .ok (.iconst (-1), 1) := by decide +kernel
theorem dX11_doneIn_9 : decode cX11_doneIn 9 = .ok (.ireturn, 1) := by decide +kernel
theorem dX11_doneIn_10 : decode cX11_doneIn 10 = .ok (.aload_n 0, 1) := by decide +kernel
theorem dX11_doneIn_11 : decode cX11_doneIn 11 = .ok (.invokevirtual 189, 3) := by decide +kernel
theorem dX11_doneIn_14 : decode cX11_doneIn 14 = .ok (.iconst 0, 1) := by decide +kernel
theorem dX11_doneIn_15 : decode cX11_doneIn 15 = .ok (.istore_n 2, 1) := by decide +kernel
theorem dX11_doneIn_16 : decode cX11_doneIn 16 = .ok (.iload_n 2, 1) := by decide +kernel
theorem dX11_doneIn_17 : decode cX11_doneIn 17 = .ok (.bipush 60, 2) := by decide +kernel
theorem dX11_doneIn_19 : decode cX11_doneIn 19 = .ok (.if_icmp .gt 31, 3) := by decide +kernel
theorem dX11_doneIn_22 : decode cX11_doneIn 22 = .ok (.aload_n 0, 1) := by decide +kernel
theorem dX11_doneIn_23 : decode cX11_doneIn 23 = .ok (.iload_n 1, 1) := by decide +kernel
theorem dX11_doneIn_24 : decode cX11_doneIn 24 = .ok (.invokevirtual 95, 3) := by decide +kernel
theorem dX11_doneIn_27 : decode cX11_doneIn 27 = .ok (.ifCond .eq 23, 3) := by decide +kernel
theorem dX11_doneIn_30 : decode cX11_doneIn 30 = .ok (.aload_n 0, 1) := by decide +kernel
theorem dX11_doneIn_31 : decode cX11_doneIn 31 = .ok (.iload_n 1, 1) := by decide +kernel
theorem dX11_doneIn_32 : decode cX11_doneIn 32 = .ok (.iconst 3, 1) := by decide +kernel
theorem dX11_doneIn_33 : decode cX11_doneIn 33 = .ok (.invokevirtual 98, 3) := by decide +kernel
theorem dX11_doneIn_36 : decode cX11_doneIn 36 = .ok (.ifCond .le 14, 3) := by decide +kernel
theorem dX11_doneIn_39 : decode cX11_doneIn 39 = .ok (.aload_n 0, 1) := by decide +kernel
theorem dX11_doneIn_40 : decode cX11_doneIn 40 = .ok (.invokevirtual 154, 3) := by decide +kernel
theorem dX11_doneIn_43 : decode cX11_doneIn 43 = .ok (.istore_n 3, 1) := by decide +kernel
theorem dX11_doneIn_44 : decode cX11_doneIn 44 = .ok (.iinc 2 1, 3) := by decide +kernel
theorem dX11_doneIn_47 : decode cX11_doneIn 47 = .ok (.goto (-31), 3) := by decide +kernel
theorem dX11_doneIn_50 : decode cX11_doneIn 50 = .ok (.iload_n 2, 1) := by decide +kernel
theorem dX11_doneIn_51 : decode cX11_doneIn 51 = .ok (.bipush 60, 2) := by decide +kernel
theorem dX11_doneIn_53 : decode cX11_doneIn 53 = .ok (.if_icmp .gt 15, 3) := by decide +kernel
theorem dX11_doneIn_56 : decode cX11_doneIn 56 = .ok (.aload_n 0, 1) := by decide +kernel
theorem dX11_doneIn_57 : decode cX11_doneIn 57 = .ok (.iload_n 1, 1) := by decide +kernel
theorem dX11_doneIn_58 : decode cX11_doneIn 58 = .ok (.invokevirtual 95, 3) := by decide +kernel
theorem dX11_doneIn_61 : decode cX11_doneIn 61 = .ok (.ifCond .eq 7, 3) := by decide +kernel
theorem dX11_doneIn_64 : decode cX11_doneIn 64 = .ok (.iconst 1, 1) := by decide +kernel
theorem dX11_doneIn_65 : decode cX11_doneIn 65 = .ok (.goto 4, 3) := by decide +kernel
theorem dX11_doneIn_68 : decode cX11_doneIn 68 = .ok (.iconst 0, 1) := by decide +kernel
theorem dX11_doneIn_69 : decode cX11_doneIn 69 = .ok (.istore_n 3, 1) := by decide +kernel
theorem dX11_doneIn_70 : decode cX11_doneIn 70 = .ok (.aload_n 0, 1) := by decide +kernel
theorem dX11_doneIn_71 : decode cX11_doneIn 71 = .ok (.invokevirtual 192, 3) := by decide +kernel
theorem dX11_doneIn_74 : decode cX11_doneIn 74 = .ok (.iload_n 3, 1) := by decide +kernel
theorem dX11_doneIn_75 : decode cX11_doneIn 75 = .ok (.ifCond .eq 7, 3) := by decide +kernel
theorem dX11_doneIn_78 : decode cX11_doneIn 78 = .ok (.iload_n 2, 1) := by decide +kernel
theorem dX11_doneIn_79 : decode cX11_doneIn 79 = .ok (.goto 5, 3) := by decide +kernel
theorem dX11_doneIn_82 : decode cX11_doneIn 82 = .ok (.bipush (-4), 2) := by decide +kernel
theorem dX11_doneIn_84 : decode cX11_doneIn 84 = .ok (.ireturn, 1) := by decide +kernel
theorem dX11_writes_0 : decode cX11_writes 0 = .ok (.aload_n 0, 1) := by decide +kernel
theorem dX11_writes_1 : decode cX11_writes 1 = .ok (.getfield 25, 3) := by decide +kernel
theorem dX11_writes_4 : decode cX11_writes 4 = .ok (.aload_n 0, 1) := by decide +kernel
theorem dX11_writes_5 : decode cX11_writes 5 = .ok (.dup, 1) := by decide +kernel
theorem dX11_writes_6 : decode cX11_writes 6 = .ok (.getfield 195, 3) := by decide +kernel
theorem dX11_writes_9 : decode cX11_writes 9 = .ok (.dup_x1, 1) := by decide +kernel
theorem dX11_writes_10 : decode cX11_writes 10 = .ok (.iconst 1, 1) := by decide +kernel
theorem dX11_writes_11 : decode cX11_writes 11 = .ok (.iadd, 1) := by decide +kernel
theorem dX11_writes_12 : decode cX11_writes 12 = .ok (.putfield 195, 3) := by decide +kernel
theorem dX11_writes_15 : decode cX11_writes 15 = .ok (.iload_n 1, 1) := by decide +kernel
theorem dX11_writes_16 : decode cX11_writes 16 = .ok (.iastore, 1) := by decide +kernel
theorem dX11_writes_17 : decode cX11_writes 17 = .ok (.return_, 1) := by decide +kernel
theorem dX11_writesNumber_0 : decode cX11_writesNumber 0 = .ok (.iload_n 1, 1) := by decide +kernel
theorem dX11_writesNumber_1 : decode cX11_writesNumber 1 = .ok (.bipush 9, 2) := by decide +kernel
theorem dX11_writesNumber_3 : decode cX11_writesNumber 3 = .ok (.if_icmp .le 11, 3) := by decide +kernel
theorem dX11_writesNumber_6 : decode cX11_writesNumber 6 = .ok (.aload_n 0, 1) := by decide +kernel
theorem dX11_writesNumber_7 : decode cX11_writesNumber 7 = .ok (.iload_n 1, 1) := by decide +kernel
theorem dX11_writesNumber_8 : decode cX11_writesNumber 8 = .ok (.bipush 10, 2) := by decide +kernel
theorem dX11_writesNumber_10 : decode cX11_writesNumber 10 = .ok (.idiv, 1) := by decide +kernel
theorem dX11_writesNumber_11 : decode cX11_writesNumber 11 = .ok (.invokevirtual 198, 3) := by decide +kernel
theorem dX11_writesNumber_14 : decode cX11_writesNumber 14 = .ok (.aload_n 0, 1) := by decide +kernel
theorem dX11_writesNumber_15 : decode cX11_writesNumber 15 = .ok (.getfield 25, 3) := by decide +kernel
theorem dX11_writesNumber_18 : decode cX11_writesNumber 18 = .ok (.aload_n 0, 1) := by decide +kernel
theorem dX11_writesNumber_19 : decode cX11_writesNumber 19 = .ok (.dup, 1) := by decide +kernel
theorem dX11_writesNumber_20 : decode cX11_writesNumber 20 = .ok (.getfield 195, 3) := by decide +kernel
theorem dX11_writesNumber_23 : decode cX11_writesNumber 23 = .ok (.dup_x1, 1) := by decide +kernel
theorem dX11_writesNumber_24 : decode cX11_writesNumber 24 = .ok (.iconst 1, 1) := by decide +kernel
theorem dX11_writesNumber_25 : decode cX11_writesNumber 25 = .ok (.iadd, 1) := by decide +kernel
theorem dX11_writesNumber_26 : decode cX11_writesNumber 26 = .ok (.putfield 195, 3) := by decide +kernel
theorem dX11_writesNumber_29 : decode cX11_writesNumber 29 = .ok (.bipush 48, 2) := by decide +kernel
theorem dX11_writesNumber_31 : decode cX11_writesNumber 31 = .ok (.iload_n 1, 1) := by decide +kernel
theorem dX11_writesNumber_32 : decode cX11_writesNumber 32 = .ok (.bipush 10, 2) := by decide +kernel
theorem dX11_writesNumber_34 : decode cX11_writesNumber 34 = .ok (.irem, 1) := by decide +kernel
theorem dX11_writesNumber_35 : decode cX11_writesNumber 35 = .ok (.iadd, 1) := by decide +kernel
theorem dX11_writesNumber_36 : decode cX11_writesNumber 36 = .ok (.iastore, 1) := by decide +kernel
theorem dX11_writesNumber_37 : decode cX11_writesNumber 37 = .ok (.return_, 1) := by decide +kernel
theorem dX11_describe_0 : decode cX11_describe 0 = .ok (.aload_n 0, 1) := by decide +kernel
theorem dX11_describe_1 : decode cX11_describe 1 = .ok (.iconst 0, 1) := by decide +kernel
theorem dX11_describe_2 : decode cX11_describe 2 = .ok (.putfield 195, 3) := by decide +kernel
theorem dX11_describe_5 : decode cX11_describe 5 = .ok (.aload_n 0, 1) := by decide +kernel
theorem dX11_describe_6 : decode cX11_describe 6 = .ok (.getfield 9, 3) := by decide +kernel
theorem dX11_describe_9 : decode cX11_describe 9 = .ok (.iconst 3, 1) := by decide +kernel
theorem dX11_describe_10 : decode cX11_describe 10 = .ok (.iaload, 1) := by decide +kernel
theorem dX11_describe_11 : decode cX11_describe 11 = .ok (.iconst 1, 1) := by decide +kernel
theorem dX11_describe_12 : decode cX11_describe 12 = .ok (.isub, 1) := by decide +kernel
theorem dX11_describe_13 : decode cX11_describe 13 = .ok (.istore_n 1, 1) := by decide +kernel
theorem dX11_describe_14 : decode cX11_describe 14 = .ok (.iload_n 1, 1) := by decide +kernel
theorem dX11_describe_15 : decode cX11_describe 15 = .ok (.ifCond .lt 121, 3) := by decide +kernel
theorem dX11_describe_18 : decode cX11_describe 18 = .ok (.aload_n 0, 1) := by decide +kernel
theorem dX11_describe_19 : decode cX11_describe 19 = .ok (.iload_n 1, 1) := by decide +kernel
theorem dX11_describe_20 : decode cX11_describe 20 = .ok (.invokevirtual 198, 3) := by decide +kernel
theorem dX11_describe_23 : decode cX11_describe 23 = .ok (.aload_n 0, 1) := by decide +kernel
theorem dX11_describe_24 : decode cX11_describe 24 = .ok (.bipush 58, 2) := by decide +kernel
theorem dX11_describe_26 : decode cX11_describe 26 = .ok (.invokevirtual 202, 3) := by decide +kernel
theorem dX11_describe_29 : decode cX11_describe 29 = .ok (.aload_n 0, 1) := by decide +kernel
theorem dX11_describe_30 : decode cX11_describe 30 = .ok (.aload_n 0, 1) := by decide +kernel
theorem dX11_describe_31 : decode cX11_describe 31 = .ok (.iload_n 1, 1) := by decide +kernel
theorem dX11_describe_32 : decode cX11_describe 32 = .ok (.iconst 0, 1) := by decide +kernel
theorem dX11_describe_33 : decode cX11_describe 33 = .ok (.invokevirtual 98, 3) := by decide +kernel
theorem dX11_describe_36 : decode cX11_describe 36 = .ok (.invokevirtual 198, 3) := by decide +kernel
theorem dX11_describe_39 : decode cX11_describe 39 = .ok (.aload_n 0, 1) := by decide +kernel
theorem dX11_describe_40 : decode cX11_describe 40 = .ok (.bipush 112, 2) := by decide +kernel
theorem dX11_describe_42 : decode cX11_describe 42 = .ok (.invokevirtual 202, 3) := by decide +kernel
theorem dX11_describe_45 : decode cX11_describe 45 = .ok (.aload_n 0, 1) := by decide +kernel
theorem dX11_describe_46 : decode cX11_describe 46 = .ok (.aload_n 0, 1) := by decide +kernel
theorem dX11_describe_47 : decode cX11_describe 47 = .ok (.iload_n 1, 1) := by decide +kernel
theorem dX11_describe_48 : decode cX11_describe 48 = .ok (.iconst 2, 1) := by decide +kernel
theorem dX11_describe_49 : decode cX11_describe 49 = .ok (.invokevirtual 98, 3) := by decide +kernel
theorem dX11_describe_52 : decode cX11_describe 52 = .ok (.invokevirtual 198, 3) := by decide +kernel
theorem dX11_describe_55 : decode cX11_describe 55 = .ok (.aload_n 0, 1) := by decide +kernel
theorem dX11_describe_56 : decode cX11_describe 56 = .ok (.iload_n 1, 1) := by decide +kernel
theorem dX11_describe_57 : decode cX11_describe 57 = .ok (.iconst 5, 1) := by decide +kernel
theorem dX11_describe_58 : decode cX11_describe 58 = .ok (.invokevirtual 98, 3) := by decide +kernel
theorem dX11_describe_61 : decode cX11_describe 61 = .ok (.ifCond .le 9, 3) := by decide +kernel
theorem dX11_describe_64 : decode cX11_describe 64 = .ok (.aload_n 0, 1) := by decide +kernel
theorem dX11_describe_65 : decode cX11_describe 65 = .ok (.bipush 35, 2) := by decide +kernel
theorem dX11_describe_67 : decode cX11_describe 67 = .ok (.invokevirtual 202, 3) := by decide +kernel
theorem dX11_describe_70 : decode cX11_describe 70 = .ok (.aload_n 0, 1) := by decide +kernel
theorem dX11_describe_71 : decode cX11_describe 71 = .ok (.iload_n 1, 1) := by decide +kernel
theorem dX11_describe_72 : decode cX11_describe 72 = .ok (.invokevirtual 116, 3) := by decide +kernel
theorem dX11_describe_75 : decode cX11_describe 75 = .ok (.invokestatic 119, 3) := by decide +kernel
theorem dX11_describe_78 : decode cX11_describe 78 = .ok (.istore_n 2, 1) := by decide +kernel
theorem dX11_describe_79 : decode cX11_describe 79 = .ok (.iload_n 2, 1) := by decide +kernel
theorem dX11_describe_80 : decode cX11_describe 80 = .ok (.ifCond .le 15, 3) := by decide +kernel
theorem dX11_describe_83 : decode cX11_describe 83 = .ok (.aload_n 0, 1) := by decide +kernel
theorem dX11_describe_84 : decode cX11_describe 84 = .ok (.bipush 42, 2) := by decide +kernel
theorem dX11_describe_86 : decode cX11_describe 86 = .ok (.invokevirtual 202, 3) := by decide +kernel
theorem dX11_describe_89 : decode cX11_describe 89 = .ok (.iinc 2 (-1), 3) := by decide +kernel
theorem dX11_describe_92 : decode cX11_describe 92 = .ok (.goto (-13), 3) := by decide +kernel
theorem dX11_describe_95 : decode cX11_describe 95 = .ok (.aload_n 0, 1) := by decide +kernel
theorem dX11_describe_96 : decode cX11_describe 96 = .ok (.iload_n 1, 1) := by decide +kernel
theorem dX11_describe_97 : decode cX11_describe 97 = .ok (.iconst 3, 1) := by decide +kernel
theorem dX11_describe_98 : decode cX11_describe 98 = .ok (.invokevirtual 98, 3) := by decide +kernel
theorem dX11_describe_101 : decode cX11_describe 101 = .ok (.ifCond .le 19, 3) := by decide +kernel
theorem dX11_describe_104 : decode cX11_describe 104 = .ok (.aload_n 0, 1) := by decide +kernel
theorem dX11_describe_105 : decode cX11_describe 105 = .ok (.bipush 119, 2) := by decide +kernel
theorem dX11_describe_107 : decode cX11_describe 107 = .ok (.invokevirtual 202, 3) := by decide +kernel
theorem dX11_describe_110 : decode cX11_describe 110 = .ok (.aload_n 0, 1) := by decide +kernel
theorem dX11_describe_111 : decode cX11_describe 111 = .ok (.aload_n 0, 1) := by decide +kernel
theorem dX11_describe_112 : decode cX11_describe 112 = .ok (.iload_n 1, 1) := by decide +kernel
theorem dX11_describe_113 : decode cX11_describe 113 = .ok (.iconst 3, 1) := by decide +kernel
theorem dX11_describe_114 : decode cX11_describe 114 = .ok (.invokevirtual 98, 3) := by decide +kernel
theorem dX11_describe_117 : decode cX11_describe 117 = .ok (.invokevirtual 198, 3) := by decide +kernel
theorem dX11_describe_120 : decode cX11_describe 120 = .ok (.iload_n 1, 1) := by decide +kernel
theorem dX11_describe_121 : decode cX11_describe 121 = .ok (.ifCond .le 9, 3) := by decide +kernel
theorem dX11_describe_124 : decode cX11_describe 124 = .ok (.aload_n 0, 1) := by decide +kernel
theorem dX11_describe_125 : decode cX11_describe 125 = .ok (.bipush 32, 2) := by decide +kernel
theorem dX11_describe_127 : decode cX11_describe 127 = .ok (.invokevirtual 202, 3) := by decide +kernel
theorem dX11_describe_130 : decode cX11_describe 130 = .ok (.iinc 1 (-1), 3) := by decide +kernel
theorem dX11_describe_133 : decode cX11_describe 133 = .ok (.goto (-119), 3) := by decide +kernel
theorem dX11_describe_136 : decode cX11_describe 136 = .ok (.iconst 0, 1) := by decide +kernel
theorem dX11_describe_137 : decode cX11_describe 137 = .ok (.istore_n 1, 1) := by decide +kernel
theorem dX11_describe_138 : decode cX11_describe 138 = .ok (.iload_n 1, 1) := by decide +kernel
theorem dX11_describe_139 : decode cX11_describe 139 = .ok (.iconst 4, 1) := by decide +kernel
theorem dX11_describe_140 : decode cX11_describe 140 = .ok (.if_icmp .ge 28, 3) := by decide +kernel
theorem dX11_describe_143 : decode cX11_describe 143 = .ok (.aload_n 0, 1) := by decide +kernel
theorem dX11_describe_144 : decode cX11_describe 144 = .ok (.getfield 9, 3) := by decide +kernel
theorem dX11_describe_147 : decode cX11_describe 147 = .ok (.iconst 3, 1) := by decide +kernel
theorem dX11_describe_148 : decode cX11_describe 148 = .ok (.iaload, 1) := by decide +kernel
theorem dX11_describe_149 : decode cX11_describe 149 = .ok (.ifCond .ne 19, 3) := by decide +kernel
theorem dX11_describe_152 : decode cX11_describe 152 = .ok (.aload_n 0, 1) := by decide +kernel
theorem dX11_describe_153 : decode cX11_describe 153 = .ok (.ldc 206, 2) := by decide +kernel
theorem dX11_describe_155 : decode cX11_describe 155 = .ok (.iload_n 1, 1) := by decide +kernel
theorem dX11_describe_156 : decode cX11_describe 156 = .ok (.invokevirtual 208, 3) := by decide +kernel
theorem dX11_describe_159 : decode cX11_describe 159 = .ok (.invokevirtual 202, 3) := by decide +kernel
theorem dX11_describe_162 : decode cX11_describe 162 = .ok (.iinc 1 1, 3) := by decide +kernel
theorem dX11_describe_165 : decode cX11_describe 165 = .ok (.goto (-27), 3) := by decide +kernel
theorem dX11_describe_168 : decode cX11_describe 168 = .ok (.aload_n 0, 1) := by decide +kernel
theorem dX11_describe_169 : decode cX11_describe 169 = .ok (.getfield 195, 3) := by decide +kernel
theorem dX11_describe_172 : decode cX11_describe 172 = .ok (.ireturn, 1) := by decide +kernel
theorem dX11_written_0 : decode cX11_written 0 = .ok (.iload_n 1, 1) := by decide +kernel
theorem dX11_written_1 : decode cX11_written 1 = .ok (.iconst 0, 1) := by decide +kernel
theorem dX11_written_2 : decode cX11_written 2 = .ok (.aload_n 0, 1) := by decide +kernel
theorem dX11_written_3 : decode cX11_written 3 = .ok (.getfield 195, 3) := by decide +kernel
theorem dX11_written_6 : decode cX11_written 6 = .ok (.iconst 1, 1) := by decide +kernel
theorem dX11_written_7 : decode cX11_written 7 = .ok (.isub, 1) := by decide +kernel
theorem dX11_written_8 : decode cX11_written 8 = .ok (.invokestatic 58, 3) := by decide +kernel
theorem dX11_written_11 : decode cX11_written 11 = .ok (.ifCond .eq 12, 3) := by decide +kernel
theorem dX11_written_14 : decode cX11_written 14 = .ok (.aload_n 0, 1) := by decide +kernel
theorem dX11_written_15 : decode cX11_written 15 = .ok (.getfield 25, 3) := by decide +kernel
theorem dX11_written_18 : decode cX11_written 18 = .ok (.iload_n 1, 1) := by decide +kernel
theorem dX11_written_19 : decode cX11_written 19 = .ok (.iaload, 1) := by decide +kernel
theorem dX11_written_20 : decode cX11_written 20 = .ok (.goto 4, 3) := by decide +kernel
theorem dX11_written_23 : decode cX11_written 23 = .ok (.iconst (-1), 1) := by decide +kernel
theorem dX11_written_24 : decode cX11_written 24 = .ok (.ireturn, 1) := by decide +kernel
theorem dX11_sum_0 : decode cX11_sum 0 = .ok (.iconst 0, 1) := by decide +kernel
theorem dX11_sum_1 : decode cX11_sum 1 = .ok (.istore_n 2, 1) := by decide +kernel
theorem dX11_sum_2 : decode cX11_sum 2 = .ok (.iconst 0, 1) := by decide +kernel
theorem dX11_sum_3 : decode cX11_sum 3 = .ok (.istore_n 3, 1) := by decide +kernel
theorem dX11_sum_4 : decode cX11_sum 4 = .ok (.iload_n 3, 1) := by decide +kernel
theorem dX11_sum_5 : decode cX11_sum 5 = .ok (.aload_n 0, 1) := by decide +kernel
theorem dX11_sum_6 : decode cX11_sum 6 = .ok (.getfield 9, 3) := by decide +kernel
theorem dX11_sum_9 : decode cX11_sum 9 = .ok (.iconst 3, 1) := by decide +kernel
theorem dX11_sum_10 : decode cX11_sum 10 = .ok (.iaload, 1) := by decide +kernel
theorem dX11_sum_11 : decode cX11_sum 11 = .ok (.if_icmp .ge 18, 3) := by decide +kernel
theorem dX11_sum_14 : decode cX11_sum 14 = .ok (.iload_n 2, 1) := by decide +kernel
theorem dX11_sum_15 : decode cX11_sum 15 = .ok (.aload_n 0, 1) := by decide +kernel
theorem dX11_sum_16 : decode cX11_sum 16 = .ok (.iload_n 3, 1) := by decide +kernel
theorem dX11_sum_17 : decode cX11_sum 17 = .ok (.iload_n 1, 1) := by decide +kernel
theorem dX11_sum_18 : decode cX11_sum 18 = .ok (.invokevirtual 98, 3) := by decide +kernel
theorem dX11_sum_21 : decode cX11_sum 21 = .ok (.iadd, 1) := by decide +kernel
theorem dX11_sum_22 : decode cX11_sum 22 = .ok (.istore_n 2, 1) := by decide +kernel
theorem dX11_sum_23 : decode cX11_sum 23 = .ok (.iinc 3 1, 3) := by decide +kernel
theorem dX11_sum_26 : decode cX11_sum 26 = .ok (.goto (-22), 3) := by decide +kernel
theorem dX11_sum_29 : decode cX11_sum 29 = .ok (.iload_n 2, 1) := by decide +kernel
theorem dX11_sum_30 : decode cX11_sum 30 = .ok (.ireturn, 1) := by decide +kernel
theorem dX11_work_0 : decode cX11_work 0 = .ok (.iload_n 1, 1) := by decide +kernel
theorem dX11_work_1 : decode cX11_work 1 = .ok (.ifCond .eq 29, 3) := by decide +kernel
theorem dX11_work_4 : decode cX11_work 4 = .ok (.aload_n 0, 1) := by decide +kernel
theorem dX11_work_5 : decode cX11_work 5 = .ok (.getfield 9, 3) := by decide +kernel
theorem dX11_work_8 : decode cX11_work 8 = .ok (.bipush 12, 2) := by decide +kernel
theorem dX11_work_10 : decode cX11_work 10 = .ok (.iaload, 1) := by decide +kernel
theorem dX11_work_11 : decode cX11_work 11 = .ok (.aload_n 0, 1) := by decide +kernel
theorem dX11_work_12 : decode cX11_work 12 = .ok (.getfield 9, 3) := by decide +kernel
theorem dX11_work_15 : decode cX11_work 15 = .ok (.bipush 9, 2) := by decide +kernel
theorem dX11_work_17 : decode cX11_work 17 = .ok (.iaload, 1) := by decide +kernel
theorem dX11_work_18 : decode cX11_work 18 = .ok (.isub, 1) := by decide +kernel
theorem dX11_work_19 : decode cX11_work 19 = .ok (.aload_n 0, 1) := by decide +kernel
theorem dX11_work_20 : decode cX11_work 20 = .ok (.getfield 9, 3) := by decide +kernel
theorem dX11_work_23 : decode cX11_work 23 = .ok (.bipush 13, 2) := by decide +kernel
theorem dX11_work_25 : decode cX11_work 25 = .ok (.iaload, 1) := by decide +kernel
theorem dX11_work_26 : decode cX11_work 26 = .ok (.isub, 1) := by decide +kernel
theorem dX11_work_27 : decode cX11_work 27 = .ok (.goto 8, 3) := by decide +kernel
theorem dX11_work_30 : decode cX11_work 30 = .ok (.aload_n 0, 1) := by decide +kernel
theorem dX11_work_31 : decode cX11_work 31 = .ok (.iconst 3, 1) := by decide +kernel
theorem dX11_work_32 : decode cX11_work 32 = .ok (.invokevirtual 214, 3) := by decide +kernel
theorem dX11_work_35 : decode cX11_work 35 = .ok (.ireturn, 1) := by decide +kernel
theorem dX11_meanStrength_0 : decode cX11_meanStrength 0 = .ok (.aload_n 0, 1) := by decide +kernel
theorem dX11_meanStrength_1 : decode cX11_meanStrength 1 = .ok (.getfield 9, 3) := by decide +kernel
theorem dX11_meanStrength_4 : decode cX11_meanStrength 4 = .ok (.iconst 3, 1) := by decide +kernel
theorem dX11_meanStrength_5 : decode cX11_meanStrength 5 = .ok (.iaload, 1) := by decide +kernel
theorem dX11_meanStrength_6 : decode cX11_meanStrength 6 = .ok (.istore_n 1, 1) := by decide +kernel
theorem dX11_meanStrength_7 : decode cX11_meanStrength 7 = .ok (.iload_n 1, 1) := by decide +kernel
theorem dX11_meanStrength_8 : decode cX11_meanStrength 8 = .ok (.ifCond .ne 5, 3) := by decide +kernel
theorem dX11_meanStrength_11 : decode cX11_meanStrength 11 = .ok (.fconst 0, 1) := by decide +kernel
theorem dX11_meanStrength_12 : decode cX11_meanStrength 12 = .ok (.freturn, 1) := by decide +kernel
theorem dX11_meanStrength_13 : decode cX11_meanStrength 13 = .ok (.iconst 0, 1) := by decide +kernel
theorem dX11_meanStrength_14 : decode cX11_meanStrength 14 = .ok (.istore_n 2, 1) := by decide +kernel
theorem dX11_meanStrength_15 : decode cX11_meanStrength 15 = .ok (.iconst 0, 1) := by decide +kernel
theorem dX11_meanStrength_16 : decode cX11_meanStrength 16 = .ok (.istore_n 3, 1) := by decide +kernel
theorem dX11_meanStrength_17 : decode cX11_meanStrength 17 = .ok (.iload_n 3, 1) := by decide +kernel
theorem dX11_meanStrength_18 : decode cX11_meanStrength 18 = .ok (.iload_n 1, 1) := by decide +kernel
theorem dX11_meanStrength_19 : decode cX11_meanStrength 19 = .ok (.if_icmp .ge 17, 3) := by decide +kernel
theorem dX11_meanStrength_22 : decode cX11_meanStrength 22 = .ok (.iload_n 2, 1) := by decide +kernel
theorem dX11_meanStrength_23 : decode cX11_meanStrength 23 = .ok (.aload_n 0, 1) := by decide +kernel
theorem dX11_meanStrength_24 : decode cX11_meanStrength 24 = .ok (.iload_n 3, 1) := by decide +kernel
theorem dX11_meanStrength_25 : decode cX11_meanStrength 25 = .ok (.invokevirtual 145, 3) := by decide +kernel
theorem dX11_meanStrength_28 : decode cX11_meanStrength 28 = .ok (.iadd, 1) := by decide +kernel
theorem dX11_meanStrength_29 : decode cX11_meanStrength 29 = .ok (.istore_n 2, 1) := by decide +kernel
theorem dX11_meanStrength_30 : decode cX11_meanStrength 30 = .ok (.iinc 3 1, 3) := by decide +kernel
theorem dX11_meanStrength_33 : decode cX11_meanStrength 33 = .ok (.goto (-16), 3) := by decide +kernel
theorem dX11_meanStrength_36 : decode cX11_meanStrength 36 = .ok (.iload_n 2, 1) := by decide +kernel
theorem dX11_meanStrength_37 : decode cX11_meanStrength 37 = .ok (.i2f, 1) := by decide +kernel
theorem dX11_meanStrength_38 : decode cX11_meanStrength 38 = .ok (.iload_n 1, 1) := by decide +kernel
theorem dX11_meanStrength_39 : decode cX11_meanStrength 39 = .ok (.i2f, 1) := by decide +kernel
theorem dX11_meanStrength_40 : decode cX11_meanStrength 40 = .ok (.fdiv, 1) := by decide +kernel
theorem dX11_meanStrength_41 : decode cX11_meanStrength 41 = .ok (.freturn, 1) := by decide +kernel
theorem dX11_doneShare_0 : decode cX11_doneShare 0 = .ok (.aload_n 0, 1) := by decide +kernel
theorem dX11_doneShare_1 : decode cX11_doneShare 1 = .ok (.getfield 9, 3) := by decide +kernel
theorem dX11_doneShare_4 : decode cX11_doneShare 4 = .ok (.bipush 12, 2) := by decide +kernel
theorem dX11_doneShare_6 : decode cX11_doneShare 6 = .ok (.iaload, 1) := by decide +kernel
theorem dX11_doneShare_7 : decode cX11_doneShare 7 = .ok (.ifCond .ne 7, 3) := by decide +kernel
theorem dX11_doneShare_10 : decode cX11_doneShare 10 = .ok (.dconst 0, 1) := by decide +kernel
theorem dX11_doneShare_11 : decode cX11_doneShare 11 = .ok (.goto 20, 3) := by decide +kernel
theorem dX11_doneShare_14 : decode cX11_doneShare 14 = .ok (.aload_n 0, 1) := by decide +kernel
theorem dX11_doneShare_15 : decode cX11_doneShare 15 = .ok (.getfield 9, 3) := by decide +kernel
theorem dX11_doneShare_18 : decode cX11_doneShare 18 = .ok (.bipush 9, 2) := by decide +kernel
theorem dX11_doneShare_20 : decode cX11_doneShare 20 = .ok (.iaload, 1) := by decide +kernel
theorem dX11_doneShare_21 : decode cX11_doneShare 21 = .ok (.i2d, 1) := by decide +kernel
theorem dX11_doneShare_22 : decode cX11_doneShare 22 = .ok (.aload_n 0, 1) := by decide +kernel
theorem dX11_doneShare_23 : decode cX11_doneShare 23 = .ok (.getfield 9, 3) := by decide +kernel
theorem dX11_doneShare_26 : decode cX11_doneShare 26 = .ok (.bipush 12, 2) := by decide +kernel
theorem dX11_doneShare_28 : decode cX11_doneShare 28 = .ok (.iaload, 1) := by decide +kernel
theorem dX11_doneShare_29 : decode cX11_doneShare 29 = .ok (.i2d, 1) := by decide +kernel
theorem dX11_doneShare_30 : decode cX11_doneShare 30 = .ok (.ddiv, 1) := by decide +kernel
theorem dX11_doneShare_31 : decode cX11_doneShare 31 = .ok (.dreturn, 1) := by decide +kernel
theorem dX11_account_0 : decode cX11_account 0 = .ok (.iconst 0, 1) := by decide +kernel
theorem dX11_account_1 : decode cX11_account 1 = .ok (.istore_n 2, 1) := by decide +kernel
theorem dX11_account_2 : decode cX11_account 2 = .ok (.iload_n 1, 1) := by decide +kernel
theorem dX11_account_3 : decode cX11_account 3 = .ok (.tableswitch 326 0 18 #[89, 96, 103, 110, 144, 151, 183, 217, 224, 255, 263, 271, 277, 284, 292, 300, 308, 316, 321], 89) := by decide +kernel
theorem dX11_account_92 : decode cX11_account 92 = .ok (.aload_n 0, 1) := by decide +kernel
theorem dX11_account_93 : decode cX11_account 93 = .ok (.getfield 9, 3) := by decide +kernel
theorem dX11_account_96 : decode cX11_account 96 = .ok (.iconst 0, 1) := by decide +kernel
theorem dX11_account_97 : decode cX11_account 97 = .ok (.iaload, 1) := by decide +kernel
theorem dX11_account_98 : decode cX11_account 98 = .ok (.ireturn, 1) := by decide +kernel
theorem dX11_account_99 : decode cX11_account 99 = .ok (.aload_n 0, 1) := by decide +kernel
theorem dX11_account_100 : decode cX11_account 100 = .ok (.getfield 9, 3) := by decide +kernel
theorem dX11_account_103 : decode cX11_account 103 = .ok (.iconst 1, 1) := by decide +kernel
theorem dX11_account_104 : decode cX11_account 104 = .ok (.iaload, 1) := by decide +kernel
theorem dX11_account_105 : decode cX11_account 105 = .ok (.ireturn, 1) := by decide +kernel
theorem dX11_account_106 : decode cX11_account 106 = .ok (.aload_n 0, 1) := by decide +kernel
theorem dX11_account_107 : decode cX11_account 107 = .ok (.getfield 9, 3) := by decide +kernel
theorem dX11_account_110 : decode cX11_account 110 = .ok (.iconst 2, 1) := by decide +kernel
theorem dX11_account_111 : decode cX11_account 111 = .ok (.iaload, 1) := by decide +kernel
theorem dX11_account_112 : decode cX11_account 112 = .ok (.ireturn, 1) := by decide +kernel
theorem dX11_account_113 : decode cX11_account 113 = .ok (.iconst 0, 1) := by decide +kernel
theorem dX11_account_114 : decode cX11_account 114 = .ok (.istore_n 3, 1) := by decide +kernel
theorem dX11_account_115 : decode cX11_account 115 = .ok (.iload_n 3, 1) := by decide +kernel
theorem dX11_account_116 : decode cX11_account 116 = .ok (.aload_n 0, 1) := by decide +kernel
theorem dX11_account_117 : decode cX11_account 117 = .ok (.getfield 9, 3) := by decide +kernel
theorem dX11_account_120 : decode cX11_account 120 = .ok (.iconst 2, 1) := by decide +kernel
theorem dX11_account_121 : decode cX11_account 121 = .ok (.iaload, 1) := by decide +kernel
theorem dX11_account_122 : decode cX11_account 122 = .ok (.if_icmp .ge 23, 3) := by decide +kernel
theorem dX11_account_125 : decode cX11_account 125 = .ok (.iload_n 2, 1) := by decide +kernel
theorem dX11_account_126 : decode cX11_account 126 = .ok (.aload_n 0, 1) := by decide +kernel
theorem dX11_account_127 : decode cX11_account 127 = .ok (.getfield 9, 3) := by decide +kernel
theorem dX11_account_130 : decode cX11_account 130 = .ok (.bipush 14, 2) := by decide +kernel
theorem dX11_account_132 : decode cX11_account 132 = .ok (.iconst 2, 1) := by decide +kernel
theorem dX11_account_133 : decode cX11_account 133 = .ok (.iload_n 3, 1) := by decide +kernel
theorem dX11_account_134 : decode cX11_account 134 = .ok (.imul, 1) := by decide +kernel
theorem dX11_account_135 : decode cX11_account 135 = .ok (.iadd, 1) := by decide +kernel
theorem dX11_account_136 : decode cX11_account 136 = .ok (.iaload, 1) := by decide +kernel
theorem dX11_account_137 : decode cX11_account 137 = .ok (.iadd, 1) := by decide +kernel
theorem dX11_account_138 : decode cX11_account 138 = .ok (.istore_n 2, 1) := by decide +kernel
theorem dX11_account_139 : decode cX11_account 139 = .ok (.iinc 3 1, 3) := by decide +kernel
theorem dX11_account_142 : decode cX11_account 142 = .ok (.goto (-27), 3) := by decide +kernel
theorem dX11_account_145 : decode cX11_account 145 = .ok (.iload_n 2, 1) := by decide +kernel
theorem dX11_account_146 : decode cX11_account 146 = .ok (.ireturn, 1) := by decide +kernel
theorem dX11_account_147 : decode cX11_account 147 = .ok (.aload_n 0, 1) := by decide +kernel
theorem dX11_account_148 : decode cX11_account 148 = .ok (.getfield 9, 3) := by decide +kernel
theorem dX11_account_151 : decode cX11_account 151 = .ok (.iconst 3, 1) := by decide +kernel
theorem dX11_account_152 : decode cX11_account 152 = .ok (.iaload, 1) := by decide +kernel
theorem dX11_account_153 : decode cX11_account 153 = .ok (.ireturn, 1) := by decide +kernel
theorem dX11_account_154 : decode cX11_account 154 = .ok (.iconst 0, 1) := by decide +kernel
theorem dX11_account_155 : decode cX11_account 155 = .ok (.istore_n 3, 1) := by decide +kernel
theorem dX11_account_156 : decode cX11_account 156 = .ok (.iload_n 3, 1) := by decide +kernel
theorem dX11_account_157 : decode cX11_account 157 = .ok (.aload_n 0, 1) := by decide +kernel
theorem dX11_account_158 : decode cX11_account 158 = .ok (.getfield 9, 3) := by decide +kernel
theorem dX11_account_161 : decode cX11_account 161 = .ok (.iconst 3, 1) := by decide +kernel
theorem dX11_account_162 : decode cX11_account 162 = .ok (.iaload, 1) := by decide +kernel
theorem dX11_account_163 : decode cX11_account 163 = .ok (.if_icmp .ge 21, 3) := by decide +kernel
theorem dX11_account_166 : decode cX11_account 166 = .ok (.aload_n 0, 1) := by decide +kernel
theorem dX11_account_167 : decode cX11_account 167 = .ok (.iload_n 3, 1) := by decide +kernel
theorem dX11_account_168 : decode cX11_account 168 = .ok (.iconst 5, 1) := by decide +kernel
theorem dX11_account_169 : decode cX11_account 169 = .ok (.invokevirtual 98, 3) := by decide +kernel
theorem dX11_account_172 : decode cX11_account 172 = .ok (.ifCond .le 6, 3) := by decide +kernel
theorem dX11_account_175 : decode cX11_account 175 = .ok (.iinc 2 1, 3) := by decide +kernel
theorem dX11_account_178 : decode cX11_account 178 = .ok (.iinc 3 1, 3) := by decide +kernel
theorem dX11_account_181 : decode cX11_account 181 = .ok (.goto (-25), 3) := by decide +kernel
theorem dX11_account_184 : decode cX11_account 184 = .ok (.iload_n 2, 1) := by decide +kernel
theorem dX11_account_185 : decode cX11_account 185 = .ok (.ireturn, 1) := by decide +kernel
theorem dX11_account_186 : decode cX11_account 186 = .ok (.iconst 0, 1) := by decide +kernel
theorem dX11_account_187 : decode cX11_account 187 = .ok (.istore_n 3, 1) := by decide +kernel
theorem dX11_account_188 : decode cX11_account 188 = .ok (.iload_n 3, 1) := by decide +kernel
theorem dX11_account_189 : decode cX11_account 189 = .ok (.aload_n 0, 1) := by decide +kernel
theorem dX11_account_190 : decode cX11_account 190 = .ok (.getfield 9, 3) := by decide +kernel
theorem dX11_account_193 : decode cX11_account 193 = .ok (.iconst 3, 1) := by decide +kernel
theorem dX11_account_194 : decode cX11_account 194 = .ok (.iaload, 1) := by decide +kernel
theorem dX11_account_195 : decode cX11_account 195 = .ok (.if_icmp .ge 23, 3) := by decide +kernel
theorem dX11_account_198 : decode cX11_account 198 = .ok (.aload_n 0, 1) := by decide +kernel
theorem dX11_account_199 : decode cX11_account 199 = .ok (.iload_n 3, 1) := by decide +kernel
theorem dX11_account_200 : decode cX11_account 200 = .ok (.iconst 2, 1) := by decide +kernel
theorem dX11_account_201 : decode cX11_account 201 = .ok (.invokevirtual 98, 3) := by decide +kernel
theorem dX11_account_204 : decode cX11_account 204 = .ok (.bipush 20, 2) := by decide +kernel
theorem dX11_account_206 : decode cX11_account 206 = .ok (.if_icmp .le 6, 3) := by decide +kernel
theorem dX11_account_209 : decode cX11_account 209 = .ok (.iinc 2 1, 3) := by decide +kernel
theorem dX11_account_212 : decode cX11_account 212 = .ok (.iinc 3 1, 3) := by decide +kernel
theorem dX11_account_215 : decode cX11_account 215 = .ok (.goto (-27), 3) := by decide +kernel
theorem dX11_account_218 : decode cX11_account 218 = .ok (.iload_n 2, 1) := by decide +kernel
theorem dX11_account_219 : decode cX11_account 219 = .ok (.ireturn, 1) := by decide +kernel
theorem dX11_account_220 : decode cX11_account 220 = .ok (.aload_n 0, 1) := by decide +kernel
theorem dX11_account_221 : decode cX11_account 221 = .ok (.getfield 9, 3) := by decide +kernel
theorem dX11_account_224 : decode cX11_account 224 = .ok (.iconst 4, 1) := by decide +kernel
theorem dX11_account_225 : decode cX11_account 225 = .ok (.iaload, 1) := by decide +kernel
theorem dX11_account_226 : decode cX11_account 226 = .ok (.ireturn, 1) := by decide +kernel
theorem dX11_account_227 : decode cX11_account 227 = .ok (.iconst 0, 1) := by decide +kernel
theorem dX11_account_228 : decode cX11_account 228 = .ok (.istore_n 3, 1) := by decide +kernel
theorem dX11_account_229 : decode cX11_account 229 = .ok (.iload_n 3, 1) := by decide +kernel
theorem dX11_account_230 : decode cX11_account 230 = .ok (.aload_n 0, 1) := by decide +kernel
theorem dX11_account_231 : decode cX11_account 231 = .ok (.getfield 9, 3) := by decide +kernel
theorem dX11_account_234 : decode cX11_account 234 = .ok (.iconst 4, 1) := by decide +kernel
theorem dX11_account_235 : decode cX11_account 235 = .ok (.iaload, 1) := by decide +kernel
theorem dX11_account_236 : decode cX11_account 236 = .ok (.if_icmp .ge 20, 3) := by decide +kernel
theorem dX11_account_239 : decode cX11_account 239 = .ok (.aload_n 0, 1) := by decide +kernel
theorem dX11_account_240 : decode cX11_account 240 = .ok (.iload_n 3, 1) := by decide +kernel
theorem dX11_account_241 : decode cX11_account 241 = .ok (.invokevirtual 104, 3) := by decide +kernel
theorem dX11_account_244 : decode cX11_account 244 = .ok (.ifCond .lt 6, 3) := by decide +kernel
theorem dX11_account_247 : decode cX11_account 247 = .ok (.iinc 2 1, 3) := by decide +kernel
theorem dX11_account_250 : decode cX11_account 250 = .ok (.iinc 3 1, 3) := by decide +kernel
theorem dX11_account_253 : decode cX11_account 253 = .ok (.goto (-24), 3) := by decide +kernel
theorem dX11_account_256 : decode cX11_account 256 = .ok (.iload_n 2, 1) := by decide +kernel
theorem dX11_account_257 : decode cX11_account 257 = .ok (.ireturn, 1) := by decide +kernel
theorem dX11_account_258 : decode cX11_account 258 = .ok (.aload_n 0, 1) := by decide +kernel
theorem dX11_account_259 : decode cX11_account 259 = .ok (.getfield 9, 3) := by decide +kernel
theorem dX11_account_262 : decode cX11_account 262 = .ok (.bipush 6, 2) := by decide +kernel
theorem dX11_account_264 : decode cX11_account 264 = .ok (.iaload, 1) := by decide +kernel
theorem dX11_account_265 : decode cX11_account 265 = .ok (.ireturn, 1) := by decide +kernel
theorem dX11_account_266 : decode cX11_account 266 = .ok (.aload_n 0, 1) := by decide +kernel
theorem dX11_account_267 : decode cX11_account 267 = .ok (.getfield 9, 3) := by decide +kernel
theorem dX11_account_270 : decode cX11_account 270 = .ok (.bipush 7, 2) := by decide +kernel
theorem dX11_account_272 : decode cX11_account 272 = .ok (.iaload, 1) := by decide +kernel
theorem dX11_account_273 : decode cX11_account 273 = .ok (.ireturn, 1) := by decide +kernel
theorem dX11_account_274 : decode cX11_account 274 = .ok (.aload_n 0, 1) := by decide +kernel
theorem dX11_account_275 : decode cX11_account 275 = .ok (.iconst 4, 1) := by decide +kernel
theorem dX11_account_276 : decode cX11_account 276 = .ok (.invokevirtual 214, 3) := by decide +kernel
theorem dX11_account_279 : decode cX11_account 279 = .ok (.ireturn, 1) := by decide +kernel
theorem dX11_account_280 : decode cX11_account 280 = .ok (.aload_n 0, 1) := by decide +kernel
theorem dX11_account_281 : decode cX11_account 281 = .ok (.getfield 9, 3) := by decide +kernel
theorem dX11_account_284 : decode cX11_account 284 = .ok (.iconst 5, 1) := by decide +kernel
theorem dX11_account_285 : decode cX11_account 285 = .ok (.iaload, 1) := by decide +kernel
theorem dX11_account_286 : decode cX11_account 286 = .ok (.ireturn, 1) := by decide +kernel
theorem dX11_account_287 : decode cX11_account 287 = .ok (.aload_n 0, 1) := by decide +kernel
theorem dX11_account_288 : decode cX11_account 288 = .ok (.getfield 9, 3) := by decide +kernel
theorem dX11_account_291 : decode cX11_account 291 = .ok (.bipush 8, 2) := by decide +kernel
theorem dX11_account_293 : decode cX11_account 293 = .ok (.iaload, 1) := by decide +kernel
theorem dX11_account_294 : decode cX11_account 294 = .ok (.ireturn, 1) := by decide +kernel
theorem dX11_account_295 : decode cX11_account 295 = .ok (.aload_n 0, 1) := by decide +kernel
theorem dX11_account_296 : decode cX11_account 296 = .ok (.getfield 9, 3) := by decide +kernel
theorem dX11_account_299 : decode cX11_account 299 = .ok (.bipush 9, 2) := by decide +kernel
theorem dX11_account_301 : decode cX11_account 301 = .ok (.iaload, 1) := by decide +kernel
theorem dX11_account_302 : decode cX11_account 302 = .ok (.ireturn, 1) := by decide +kernel
theorem dX11_account_303 : decode cX11_account 303 = .ok (.aload_n 0, 1) := by decide +kernel
theorem dX11_account_304 : decode cX11_account 304 = .ok (.getfield 9, 3) := by decide +kernel
theorem dX11_account_307 : decode cX11_account 307 = .ok (.bipush 10, 2) := by decide +kernel
theorem dX11_account_309 : decode cX11_account 309 = .ok (.iaload, 1) := by decide +kernel
theorem dX11_account_310 : decode cX11_account 310 = .ok (.ireturn, 1) := by decide +kernel
theorem dX11_account_311 : decode cX11_account 311 = .ok (.aload_n 0, 1) := by decide +kernel
theorem dX11_account_312 : decode cX11_account 312 = .ok (.getfield 9, 3) := by decide +kernel
theorem dX11_account_315 : decode cX11_account 315 = .ok (.bipush 11, 2) := by decide +kernel
theorem dX11_account_317 : decode cX11_account 317 = .ok (.iaload, 1) := by decide +kernel
theorem dX11_account_318 : decode cX11_account 318 = .ok (.ireturn, 1) := by decide +kernel
theorem dX11_account_319 : decode cX11_account 319 = .ok (.aload_n 0, 1) := by decide +kernel
theorem dX11_account_320 : decode cX11_account 320 = .ok (.getfield 62, 3) := by decide +kernel
theorem dX11_account_323 : decode cX11_account 323 = .ok (.ireturn, 1) := by decide +kernel
theorem dX11_account_324 : decode cX11_account 324 = .ok (.aload_n 0, 1) := by decide +kernel
theorem dX11_account_325 : decode cX11_account 325 = .ok (.getfield 45, 3) := by decide +kernel
theorem dX11_account_328 : decode cX11_account 328 = .ok (.ireturn, 1) := by decide +kernel
theorem dX11_account_329 : decode cX11_account 329 = .ok (.bipush (-2), 2) := by decide +kernel
theorem dX11_account_331 : decode cX11_account 331 = .ok (.ireturn, 1) := by decide +kernel
theorem dX11_undo_0 : decode cX11_undo 0 = .ok (.aload_n 0, 1) := by decide +kernel
theorem dX11_undo_1 : decode cX11_undo 1 = .ok (.getfield 45, 3) := by decide +kernel
theorem dX11_undo_4 : decode cX11_undo 4 = .ok (.ifCond .ne 6, 3) := by decide +kernel
theorem dX11_undo_7 : decode cX11_undo 7 = .ok (.bipush (-4), 2) := by decide +kernel
theorem dX11_undo_9 : decode cX11_undo 9 = .ok (.ireturn, 1) := by decide +kernel
theorem dX11_undo_10 : decode cX11_undo 10 = .ok (.aload_n 0, 1) := by decide +kernel
theorem dX11_undo_11 : decode cX11_undo 11 = .ok (.dup, 1) := by decide +kernel
theorem dX11_undo_12 : decode cX11_undo 12 = .ok (.getfield 45, 3) := by decide +kernel
theorem dX11_undo_15 : decode cX11_undo 15 = .ok (.iconst 1, 1) := by decide +kernel
theorem dX11_undo_16 : decode cX11_undo 16 = .ok (.isub, 1) := by decide +kernel
theorem dX11_undo_17 : decode cX11_undo 17 = .ok (.putfield 45, 3) := by decide +kernel
theorem dX11_undo_20 : decode cX11_undo 20 = .ok (.iconst 0, 1) := by decide +kernel
theorem dX11_undo_21 : decode cX11_undo 21 = .ok (.istore_n 1, 1) := by decide +kernel
theorem dX11_undo_22 : decode cX11_undo 22 = .ok (.iload_n 1, 1) := by decide +kernel
theorem dX11_undo_23 : decode cX11_undo 23 = .ok (.bipush 111, 2) := by decide +kernel
theorem dX11_undo_25 : decode cX11_undo 25 = .ok (.if_icmp .ge 29, 3) := by decide +kernel
theorem dX11_undo_28 : decode cX11_undo 28 = .ok (.aload_n 0, 1) := by decide +kernel
theorem dX11_undo_29 : decode cX11_undo 29 = .ok (.getfield 9, 3) := by decide +kernel
theorem dX11_undo_32 : decode cX11_undo 32 = .ok (.iload_n 1, 1) := by decide +kernel
theorem dX11_undo_33 : decode cX11_undo 33 = .ok (.aload_n 0, 1) := by decide +kernel
theorem dX11_undo_34 : decode cX11_undo 34 = .ok (.getfield 19, 3) := by decide +kernel
theorem dX11_undo_37 : decode cX11_undo 37 = .ok (.bipush 111, 2) := by decide +kernel
theorem dX11_undo_39 : decode cX11_undo 39 = .ok (.aload_n 0, 1) := by decide +kernel
theorem dX11_undo_40 : decode cX11_undo 40 = .ok (.getfield 45, 3) := by decide +kernel
theorem dX11_undo_43 : decode cX11_undo 43 = .ok (.imul, 1) := by decide +kernel
theorem dX11_undo_44 : decode cX11_undo 44 = .ok (.iload_n 1, 1) := by decide +kernel
theorem dX11_undo_45 : decode cX11_undo 45 = .ok (.iadd, 1) := by decide +kernel
theorem dX11_undo_46 : decode cX11_undo 46 = .ok (.iaload, 1) := by decide +kernel
theorem dX11_undo_47 : decode cX11_undo 47 = .ok (.iastore, 1) := by decide +kernel
theorem dX11_undo_48 : decode cX11_undo 48 = .ok (.iinc 1 1, 3) := by decide +kernel
theorem dX11_undo_51 : decode cX11_undo 51 = .ok (.goto (-29), 3) := by decide +kernel
theorem dX11_undo_54 : decode cX11_undo 54 = .ok (.aload_n 0, 1) := by decide +kernel
theorem dX11_undo_55 : decode cX11_undo 55 = .ok (.getfield 45, 3) := by decide +kernel
theorem dX11_undo_58 : decode cX11_undo 58 = .ok (.ireturn, 1) := by decide +kernel
theorem dX11_save_0 : decode cX11_save 0 = .ok (.aload_n 0, 1) := by decide +kernel
theorem dX11_save_1 : decode cX11_save 1 = .ok (.iconst 1, 1) := by decide +kernel
theorem dX11_save_2 : decode cX11_save 2 = .ok (.putfield 217, 3) := by decide +kernel
theorem dX11_save_5 : decode cX11_save 5 = .ok (.iconst 0, 1) := by decide +kernel
theorem dX11_save_6 : decode cX11_save 6 = .ok (.istore_n 1, 1) := by decide +kernel
theorem dX11_save_7 : decode cX11_save 7 = .ok (.iload_n 1, 1) := by decide +kernel
theorem dX11_save_8 : decode cX11_save 8 = .ok (.bipush 111, 2) := by decide +kernel
theorem dX11_save_10 : decode cX11_save 10 = .ok (.if_icmp .ge 21, 3) := by decide +kernel
theorem dX11_save_13 : decode cX11_save 13 = .ok (.aload_n 0, 1) := by decide +kernel
theorem dX11_save_14 : decode cX11_save 14 = .ok (.getfield 22, 3) := by decide +kernel
theorem dX11_save_17 : decode cX11_save 17 = .ok (.iload_n 1, 1) := by decide +kernel
theorem dX11_save_18 : decode cX11_save 18 = .ok (.aload_n 0, 1) := by decide +kernel
theorem dX11_save_19 : decode cX11_save 19 = .ok (.getfield 9, 3) := by decide +kernel
theorem dX11_save_22 : decode cX11_save 22 = .ok (.iload_n 1, 1) := by decide +kernel
theorem dX11_save_23 : decode cX11_save 23 = .ok (.iaload, 1) := by decide +kernel
theorem dX11_save_24 : decode cX11_save 24 = .ok (.iastore, 1) := by decide +kernel
theorem dX11_save_25 : decode cX11_save 25 = .ok (.iinc 1 1, 3) := by decide +kernel
theorem dX11_save_28 : decode cX11_save 28 = .ok (.goto (-21), 3) := by decide +kernel
theorem dX11_save_31 : decode cX11_save 31 = .ok (.aload_n 0, 1) := by decide +kernel
theorem dX11_save_32 : decode cX11_save 32 = .ok (.getfield 9, 3) := by decide +kernel
theorem dX11_save_35 : decode cX11_save 35 = .ok (.iconst 0, 1) := by decide +kernel
theorem dX11_save_36 : decode cX11_save 36 = .ok (.iaload, 1) := by decide +kernel
theorem dX11_save_37 : decode cX11_save 37 = .ok (.ireturn, 1) := by decide +kernel
theorem dX11_restore_0 : decode cX11_restore 0 = .ok (.aload_n 0, 1) := by decide +kernel
theorem dX11_restore_1 : decode cX11_restore 1 = .ok (.getfield 217, 3) := by decide +kernel
theorem dX11_restore_4 : decode cX11_restore 4 = .ok (.ifCond .ne 6, 3) := by decide +kernel
theorem dX11_restore_7 : decode cX11_restore 7 = .ok (.bipush (-4), 2) := by decide +kernel
theorem dX11_restore_9 : decode cX11_restore 9 = .ok (.ireturn, 1) := by decide +kernel
theorem dX11_restore_10 : decode cX11_restore 10 = .ok (.iconst 0, 1) := by decide +kernel
theorem dX11_restore_11 : decode cX11_restore 11 = .ok (.istore_n 1, 1) := by decide +kernel
theorem dX11_restore_12 : decode cX11_restore 12 = .ok (.iload_n 1, 1) := by decide +kernel
theorem dX11_restore_13 : decode cX11_restore 13 = .ok (.bipush 111, 2) := by decide +kernel
theorem dX11_restore_15 : decode cX11_restore 15 = .ok (.if_icmp .ge 21, 3) := by decide +kernel
theorem dX11_restore_18 : decode cX11_restore 18 = .ok (.aload_n 0, 1) := by decide +kernel
theorem dX11_restore_19 : decode cX11_restore 19 = .ok (.getfield 9, 3) := by decide +kernel
theorem dX11_restore_22 : decode cX11_restore 22 = .ok (.iload_n 1, 1) := by decide +kernel
theorem dX11_restore_23 : decode cX11_restore 23 = .ok (.aload_n 0, 1) := by decide +kernel
theorem dX11_restore_24 : decode cX11_restore 24 = .ok (.getfield 22, 3) := by decide +kernel
theorem dX11_restore_27 : decode cX11_restore 27 = .ok (.iload_n 1, 1) := by decide +kernel
theorem dX11_restore_28 : decode cX11_restore 28 = .ok (.iaload, 1) := by decide +kernel
theorem dX11_restore_29 : decode cX11_restore 29 = .ok (.iastore, 1) := by decide +kernel
theorem dX11_restore_30 : decode cX11_restore 30 = .ok (.iinc 1 1, 3) := by decide +kernel
theorem dX11_restore_33 : decode cX11_restore 33 = .ok (.goto (-21), 3) := by decide +kernel
theorem dX11_restore_36 : decode cX11_restore 36 = .ok (.aload_n 0, 1) := by decide +kernel
theorem dX11_restore_37 : decode cX11_restore 37 = .ok (.iconst 0, 1) := by decide +kernel
theorem dX11_restore_38 : decode cX11_restore 38 = .ok (.putfield 45, 3) := by decide +kernel
theorem dX11_restore_41 : decode cX11_restore 41 = .ok (.aload_n 0, 1) := by decide +kernel
theorem dX11_restore_42 : decode cX11_restore 42 = .ok (.getfield 9, 3) := by decide +kernel
theorem dX11_restore_45 : decode cX11_restore 45 = .ok (.iconst 0, 1) := by decide +kernel
theorem dX11_restore_46 : decode cX11_restore 46 = .ok (.iaload, 1) := by decide +kernel
theorem dX11_restore_47 : decode cX11_restore 47 = .ok (.ireturn, 1) := by decide +kernel
end
section
set_option maxRecDepth 20000 in
theorem lw_good : (lw_tbl.filter (fun w => !(goodWord w))).length = 1 := by decide +kernel
set_option maxRecDepth 20000 in
theorem inX0 : ∀ w ∈ wsX00, w ∈ lw_tbl := by decide +kernel
set_option maxRecDepth 20000 in
theorem inX1 : ∀ w ∈ wsX10, w ∈ lw_tbl := by decide +kernel
set_option maxRecDepth 20000 in
theorem inX2 : ∀ w ∈ wsX20, w ∈ lw_tbl := by decide +kernel
set_option maxRecDepth 20000 in
theorem inX3 : ∀ w ∈ wsX30, w ∈ lw_tbl := by decide +kernel
set_option maxRecDepth 20000 in
theorem inX4 : ∀ w ∈ wsX40, w ∈ lw_tbl := by decide +kernel
set_option maxRecDepth 20000 in
theorem inX5 : ∀ w ∈ wsX50, w ∈ lw_tbl := by decide +kernel
set_option maxRecDepth 20000 in
theorem inX6 : ∀ w ∈ wsX60, w ∈ lw_tbl := by decide +kernel
set_option maxRecDepth 20000 in
theorem inX7 : ∀ w ∈ wsX70, w ∈ lw_tbl := by decide +kernel
set_option maxRecDepth 20000 in
theorem inX8 : ∀ w ∈ wsX80, w ∈ lw_tbl := by decide +kernel
set_option maxRecDepth 20000 in
theorem inX9 : ∀ w ∈ wsX90, w ∈ lw_tbl := by decide +kernel
set_option maxRecDepth 20000 in
theorem inX10 : ∀ w ∈ wsX100, w ∈ lw_tbl := by decide +kernel
set_option maxRecDepth 20000 in
theorem inX11 : ∀ w ∈ wsX110, w ∈ lw_tbl := by decide +kernel
theorem mw0 : Cond.selects RX6 yX6_putBehind yX6_putBehind ∈ lw_tbl := List.mem_of_getElem? (i := 0) (by decide +kernel)
theorem mw1 : Cond.selects RX10 yX10_kept yX10_kept ∈ lw_tbl := List.mem_of_getElem? (i := 1) (by decide +kernel)
theorem mw2 : Cond.selects RX7 yX7_letFallFrom yX7_letFallFrom ∈ lw_tbl := List.mem_of_getElem? (i := 2) (by decide +kernel)
theorem mw3 : Cond.selects RX5 yX5_readOrder yX5_readOrder ∈ lw_tbl := List.mem_of_getElem? (i := 3) (by decide +kernel)
theorem mw4 : Cond.selects RX5 yX5_readSign yX5_readSign ∈ lw_tbl := List.mem_of_getElem? (i := 4) (by decide +kernel)
theorem mw5 : Cond.selects RX5 yX5_readNumber yX5_readNumber ∈ lw_tbl := List.mem_of_getElem? (i := 5) (by decide +kernel)
theorem mw6 : Cond.selects RX10 yX10_obey yX10_obey ∈ lw_tbl := List.mem_of_getElem? (i := 6) (by decide +kernel)
theorem mw7 : Cond.selects RX9 yX9_placeByTieOf yX9_placeByTieOf ∈ lw_tbl := List.mem_of_getElem? (i := 7) (by decide +kernel)
theorem mw8 : Cond.selects RX10 yX10_worksToday yX10_worksToday ∈ lw_tbl := List.mem_of_getElem? (i := 8) (by decide +kernel)
theorem mw9 : Cond.selects RX10 yX10_writeStorey yX10_writeStorey ∈ lw_tbl := List.mem_of_getElem? (i := 9) (by decide +kernel)
theorem mw10 : Cond.selects RX10 yX10_writeBare yX10_writeBare ∈ lw_tbl := List.mem_of_getElem? (i := 10) (by decide +kernel)
theorem mw11 : Cond.selects RX11 yX11_begins yX11_begins ∈ lw_tbl := List.mem_of_getElem? (i := 11) (by decide +kernel)
theorem mw12 : Cond.selects RX11 yX11_tries yX11_tries ∈ lw_tbl := List.mem_of_getElem? (i := 12) (by decide +kernel)
theorem mw13 : Cond.selects RX11 yX11_refuses yX11_refuses ∈ lw_tbl := List.mem_of_getElem? (i := 13) (by decide +kernel)
theorem mw14 : Cond.selects RX11 yX11_keeps yX11_keeps ∈ lw_tbl := List.mem_of_getElem? (i := 14) (by decide +kernel)
theorem mw15 : Cond.selects RX11 yX11_builds yX11_builds ∈ lw_tbl := List.mem_of_getElem? (i := 15) (by decide +kernel)
theorem mw16 : Cond.selects RX11 yX11_isBundle yX11_isBundle ∈ lw_tbl := List.mem_of_getElem? (i := 16) (by decide +kernel)
theorem mw17 : Cond.selects RX11 yX11_sets yX11_sets ∈ lw_tbl := List.mem_of_getElem? (i := 17) (by decide +kernel)
theorem mw18 : Cond.selects RX11 yX11_does yX11_does ∈ lw_tbl := List.mem_of_getElem? (i := 18) (by decide +kernel)
theorem mw19 : Cond.selects RX11 yX11_ends yX11_ends ∈ lw_tbl := List.mem_of_getElem? (i := 19) (by decide +kernel)
theorem mw20 : Cond.selects RX11 yX11_ties yX11_ties ∈ lw_tbl := List.mem_of_getElem? (i := 20) (by decide +kernel)
theorem mw21 : Cond.selects RX11 yX11_isStorey yX11_isStorey ∈ lw_tbl := List.mem_of_getElem? (i := 21) (by decide +kernel)
theorem mw22 : Cond.selects RX11 yX11_of yX11_of ∈ lw_tbl := List.mem_of_getElem? (i := 22) (by decide +kernel)
theorem mw23 : Cond.selects RX11 yX11_goesUp yX11_goesUp ∈ lw_tbl := List.mem_of_getElem? (i := 23) (by decide +kernel)
theorem mw24 : Cond.selects RX11 yX11_isCrew yX11_isCrew ∈ lw_tbl := List.mem_of_getElem? (i := 24) (by decide +kernel)
theorem mw25 : Cond.selects RX11 yX11_where yX11_where ∈ lw_tbl := List.mem_of_getElem? (i := 25) (by decide +kernel)
theorem mw26 : Cond.selects RX11 yX11_oldUpTo yX11_oldUpTo ∈ lw_tbl := List.mem_of_getElem? (i := 26) (by decide +kernel)
theorem mw27 : Cond.selects RX11 yX11_refusesBy yX11_refusesBy ∈ lw_tbl := List.mem_of_getElem? (i := 27) (by decide +kernel)
theorem mw28 : Cond.selects RX11 yX11_crewsOn yX11_crewsOn ∈ lw_tbl := List.mem_of_getElem? (i := 28) (by decide +kernel)
theorem mw29 : Cond.selects RX11 yX11_comesDown yX11_comesDown ∈ lw_tbl := List.mem_of_getElem? (i := 29) (by decide +kernel)
theorem mw30 : Cond.selects RX11 yX11_lifts yX11_lifts ∈ lw_tbl := List.mem_of_getElem? (i := 30) (by decide +kernel)
theorem mw31 : Cond.selects RX11 yX11_signals yX11_signals ∈ lw_tbl := List.mem_of_getElem? (i := 31) (by decide +kernel)
theorem mw32 : Cond.selects RX11 yX11_inspects yX11_inspects ∈ lw_tbl := List.mem_of_getElem? (i := 32) (by decide +kernel)
theorem mw33 : Cond.selects RX11 yX11_isInspector yX11_isInspector ∈ lw_tbl := List.mem_of_getElem? (i := 33) (by decide +kernel)
theorem mw34 : Cond.selects RX11 yX11_days yX11_days ∈ lw_tbl := List.mem_of_getElem? (i := 34) (by decide +kernel)
theorem mw35 : Cond.selects RX11 yX11_passes yX11_passes ∈ lw_tbl := List.mem_of_getElem? (i := 35) (by decide +kernel)
theorem mw36 : Cond.selects RX11 yX11_works yX11_works ∈ lw_tbl := List.mem_of_getElem? (i := 36) (by decide +kernel)
theorem mw37 : Cond.selects RX11 yX11_fallsBy yX11_fallsBy ∈ lw_tbl := List.mem_of_getElem? (i := 37) (by decide +kernel)
theorem mw38 : Cond.selects RX11 yX11_strong yX11_strong ∈ lw_tbl := List.mem_of_getElem? (i := 38) (by decide +kernel)
theorem mw39 : Cond.selects RX11 yX11_isOrder yX11_isOrder ∈ lw_tbl := List.mem_of_getElem? (i := 39) (by decide +kernel)
theorem mw40 : Cond.selects RX11 yX11_digits yX11_digits ∈ lw_tbl := List.mem_of_getElem? (i := 40) (by decide +kernel)
theorem mw41 : Cond.selects RX11 yX11_isNext yX11_isNext ∈ lw_tbl := List.mem_of_getElem? (i := 41) (by decide +kernel)
theorem mw42 : Cond.selects RX11 yX11_carries yX11_carries ∈ lw_tbl := List.mem_of_getElem? (i := 42) (by decide +kernel)
theorem mw43 : Cond.selects RX11 yX11_comesBack yX11_comesBack ∈ lw_tbl := List.mem_of_getElem? (i := 43) (by decide +kernel)
theorem mw44 : Cond.selects RX11 yX11_wouldWork yX11_wouldWork ∈ lw_tbl := List.mem_of_getElem? (i := 44) (by decide +kernel)
theorem mw45 : Cond.selects RX11 yX11_thinks yX11_thinks ∈ lw_tbl := List.mem_of_getElem? (i := 45) (by decide +kernel)
theorem mw46 : Cond.selects RX11 yX11_thinksNoMore yX11_thinksNoMore ∈ lw_tbl := List.mem_of_getElem? (i := 46) (by decide +kernel)
theorem mw47 : Cond.selects RX11 yX11_writesNumber yX11_writesNumber ∈ lw_tbl := List.mem_of_getElem? (i := 47) (by decide +kernel)
theorem mw48 : Cond.selects RX11 yX11_writes yX11_writes ∈ lw_tbl := List.mem_of_getElem? (i := 48) (by decide +kernel)
theorem mw49 : Cond.selects RX11 yX11_sum yX11_sum ∈ lw_tbl := List.mem_of_getElem? (i := 49) (by decide +kernel)
theorem mw50 : Cond.initialized RL ∈ lw_tbl := List.mem_of_getElem? (i := 50) (by decide +kernel)
theorem mw51 : Cond.initialized RX10 ∈ lw_tbl := List.mem_of_getElem? (i := 51) (by decide +kernel)
theorem mw52 : Cond.initialized RX8 ∈ lw_tbl := List.mem_of_getElem? (i := 52) (by decide +kernel)
theorem mw53 : Cond.initialized RX6 ∈ lw_tbl := List.mem_of_getElem? (i := 53) (by decide +kernel)
theorem mw54 : Cond.initialized RX7 ∈ lw_tbl := List.mem_of_getElem? (i := 54) (by decide +kernel)
theorem mw55 : Cond.initialized RX0 ∈ lw_tbl := List.mem_of_getElem? (i := 55) (by decide +kernel)
theorem mw56 : Cond.initialized RX9 ∈ lw_tbl := List.mem_of_getElem? (i := 56) (by decide +kernel)
theorem mw57 : Cond.initialized RX1 ∈ lw_tbl := List.mem_of_getElem? (i := 57) (by decide +kernel)
theorem mw58 : Cond.initialized RX3 ∈ lw_tbl := List.mem_of_getElem? (i := 58) (by decide +kernel)
theorem mw59 : Cond.initialized RX2 ∈ lw_tbl := List.mem_of_getElem? (i := 59) (by decide +kernel)
theorem mw60 : Cond.initialized RX4 ∈ lw_tbl := List.mem_of_getElem? (i := 60) (by decide +kernel)
theorem mw61 : Cond.initialized RX5 ∈ lw_tbl := List.mem_of_getElem? (i := 61) (by decide +kernel)
theorem mw62 : Cond.initialized RX11 ∈ lw_tbl := List.mem_of_getElem? (i := 62) (by decide +kernel)
theorem mw63 : Cond.initialized RJ9 ∈ lw_tbl := List.mem_of_getElem? (i := 63) (by decide +kernel)
theorem mw64 : Cond.initialized RJ10 ∈ lw_tbl := List.mem_of_getElem? (i := 64) (by decide +kernel)
theorem mw65 : Cond.initialized RJ6 ∈ lw_tbl := List.mem_of_getElem? (i := 65) (by decide +kernel)
theorem mw66 : Cond.initialized RJ0 ∈ lw_tbl := List.mem_of_getElem? (i := 66) (by decide +kernel)
theorem mw67 : Cond.initialized RJ1 ∈ lw_tbl := List.mem_of_getElem? (i := 67) (by decide +kernel)
theorem mw68 : Cond.initialized RJ3 ∈ lw_tbl := List.mem_of_getElem? (i := 68) (by decide +kernel)
theorem mw69 : Cond.initialized RJ2 ∈ lw_tbl := List.mem_of_getElem? (i := 69) (by decide +kernel)
theorem mw70 : Cond.classLink RL 7 RX10 ∈ lw_tbl := List.mem_of_getElem? (i := 70) (by decide +kernel)
theorem mw71 : Cond.instantiable RX10 10 ∈ lw_tbl := List.mem_of_getElem? (i := 71) (by decide +kernel)
theorem mw72 : Cond.methodLink RL 9 yX10_init ∈ lw_tbl := List.mem_of_getElem? (i := 72) (by decide +kernel)
theorem mw73 : Cond.instanceMethod yX10_init ∈ lw_tbl := List.mem_of_getElem? (i := 73) (by decide +kernel)
theorem mw74 : Cond.code yX10_init cX10_init 1 none ∈ lw_tbl := List.mem_of_getElem? (i := 74) (by decide +kernel)
theorem mw75 : Cond.methodLink RX10 1 objectInit ∈ lw_tbl := List.mem_of_getElem? (i := 75) (by decide +kernel)
theorem mw76 : Cond.instanceMethod objectInit ∈ lw_tbl := List.mem_of_getElem? (i := 76) (by decide +kernel)
theorem mw77 : Cond.code objectInit ⟨#[0xb1]⟩ 1 none ∈ lw_tbl := List.mem_of_getElem? (i := 77) (by decide +kernel)
theorem mw78 : Cond.classLink RX10 7 RX8 ∈ lw_tbl := List.mem_of_getElem? (i := 78) (by decide +kernel)
theorem mw79 : Cond.instantiable RX8 2 ∈ lw_tbl := List.mem_of_getElem? (i := 79) (by decide +kernel)
theorem mw80 : Cond.methodLinkNest RX10 9 yX8_init "BambooTower" ∈ lw_tbl := List.mem_of_getElem? (i := 80) (by decide +kernel)
theorem mw81 : Cond.instanceMethod yX8_init ∈ lw_tbl := List.mem_of_getElem? (i := 81) (by decide +kernel)
theorem mw82 : Cond.code yX8_init cX8_init 1 none ∈ lw_tbl := List.mem_of_getElem? (i := 82) (by decide +kernel)
theorem mw83 : Cond.methodLink RX8 3 objectInit ∈ lw_tbl := List.mem_of_getElem? (i := 83) (by decide +kernel)
theorem mw84 : Cond.classLink RX8 9 RX6 ∈ lw_tbl := List.mem_of_getElem? (i := 84) (by decide +kernel)
theorem mw85 : Cond.instantiable RX6 3 ∈ lw_tbl := List.mem_of_getElem? (i := 85) (by decide +kernel)
theorem mw86 : Cond.methodLinkNest RX8 11 yX6_init "BambooTower" ∈ lw_tbl := List.mem_of_getElem? (i := 86) (by decide +kernel)
theorem mw87 : Cond.instanceMethod yX6_init ∈ lw_tbl := List.mem_of_getElem? (i := 87) (by decide +kernel)
theorem mw88 : Cond.code yX6_init cX6_init 1 none ∈ lw_tbl := List.mem_of_getElem? (i := 88) (by decide +kernel)
theorem mw89 : Cond.methodLink RX6 3 objectInit ∈ lw_tbl := List.mem_of_getElem? (i := 89) (by decide +kernel)
theorem mw90 : Cond.fieldLink RX6 11 "BambooTower$Reasons" "kinds" "[I" ∈ lw_tbl := List.mem_of_getElem? (i := 90) (by decide +kernel)
theorem mw91 : Cond.fieldLink RX6 15 "BambooTower$Reasons" "details" "[I" ∈ lw_tbl := List.mem_of_getElem? (i := 91) (by decide +kernel)
theorem mw92 : Cond.fieldLink RX6 18 "BambooTower$Reasons" "count" "I" ∈ lw_tbl := List.mem_of_getElem? (i := 92) (by decide +kernel)
theorem mw100 : Cond.arrayClass .int ∈ lw_tbl := List.mem_of_getElem? (i := 100) (by decide +kernel)
theorem mw101 : Cond.classLink RX8 18 RX7 ∈ lw_tbl := List.mem_of_getElem? (i := 101) (by decide +kernel)
theorem mw102 : Cond.instantiable RX7 14 ∈ lw_tbl := List.mem_of_getElem? (i := 102) (by decide +kernel)
theorem mw103 : Cond.methodLinkNest RX8 20 yX7_init "BambooTower" ∈ lw_tbl := List.mem_of_getElem? (i := 103) (by decide +kernel)
theorem mw104 : Cond.instanceMethod yX7_init ∈ lw_tbl := List.mem_of_getElem? (i := 104) (by decide +kernel)
theorem mw105 : Cond.code yX7_init cX7_init 1 none ∈ lw_tbl := List.mem_of_getElem? (i := 105) (by decide +kernel)
theorem mw106 : Cond.methodLink RX7 3 objectInit ∈ lw_tbl := List.mem_of_getElem? (i := 106) (by decide +kernel)
theorem mw107 : Cond.classLink RX7 9 RX0 ∈ lw_tbl := List.mem_of_getElem? (i := 107) (by decide +kernel)
theorem mw108 : Cond.instantiable RX0 3 ∈ lw_tbl := List.mem_of_getElem? (i := 108) (by decide +kernel)
theorem mw109 : Cond.methodLinkNest RX7 11 yX0_init "BambooTower" ∈ lw_tbl := List.mem_of_getElem? (i := 109) (by decide +kernel)
theorem mw110 : Cond.instanceMethod yX0_init ∈ lw_tbl := List.mem_of_getElem? (i := 110) (by decide +kernel)
theorem mw111 : Cond.code yX0_init cX0_init 1 none ∈ lw_tbl := List.mem_of_getElem? (i := 111) (by decide +kernel)
theorem mw112 : Cond.methodLink RX0 3 objectInit ∈ lw_tbl := List.mem_of_getElem? (i := 112) (by decide +kernel)
theorem mw113 : Cond.fieldLink RX0 9 "BambooTower$Bundles" "poles" "[I" ∈ lw_tbl := List.mem_of_getElem? (i := 113) (by decide +kernel)
theorem mw114 : Cond.fieldLink RX0 15 "BambooTower$Bundles" "weeks" "[I" ∈ lw_tbl := List.mem_of_getElem? (i := 114) (by decide +kernel)
theorem mw115 : Cond.fieldLink RX0 18 "BambooTower$Bundles" "count" "I" ∈ lw_tbl := List.mem_of_getElem? (i := 115) (by decide +kernel)
theorem mw116 : Cond.fieldLinkNest RX8 33 "BambooTower$Bundles" "count" "I" "BambooTower" ∈ lw_tbl := List.mem_of_getElem? (i := 116) (by decide +kernel)
theorem mw117 : Cond.fieldLinkNest RX10 296 "BambooTower$Bundles" "count" "I" "BambooTower" ∈ lw_tbl := List.mem_of_getElem? (i := 117) (by decide +kernel)
theorem mw125 : Cond.classLink RX7 18 RX9 ∈ lw_tbl := List.mem_of_getElem? (i := 125) (by decide +kernel)
theorem mw126 : Cond.instantiable RX9 7 ∈ lw_tbl := List.mem_of_getElem? (i := 126) (by decide +kernel)
theorem mw127 : Cond.methodLinkNest RX7 20 yX9_init "BambooTower" ∈ lw_tbl := List.mem_of_getElem? (i := 127) (by decide +kernel)
theorem mw128 : Cond.instanceMethod yX9_init ∈ lw_tbl := List.mem_of_getElem? (i := 128) (by decide +kernel)
theorem mw129 : Cond.code yX9_init cX9_init 1 none ∈ lw_tbl := List.mem_of_getElem? (i := 129) (by decide +kernel)
theorem mw130 : Cond.methodLink RX9 3 objectInit ∈ lw_tbl := List.mem_of_getElem? (i := 130) (by decide +kernel)
theorem mw131 : Cond.fieldLink RX9 9 "BambooTower$Storeys" "poles" "[I" ∈ lw_tbl := List.mem_of_getElem? (i := 131) (by decide +kernel)
theorem mw132 : Cond.fieldLink RX9 15 "BambooTower$Storeys" "weeks" "[I" ∈ lw_tbl := List.mem_of_getElem? (i := 132) (by decide +kernel)
theorem mw133 : Cond.fieldLink RX9 18 "BambooTower$Storeys" "ties" "[I" ∈ lw_tbl := List.mem_of_getElem? (i := 133) (by decide +kernel)
theorem mw134 : Cond.fieldLink RX9 21 "BambooTower$Storeys" "hours" "[I" ∈ lw_tbl := List.mem_of_getElem? (i := 134) (by decide +kernel)
theorem mw135 : Cond.fieldLink RX9 24 "BambooTower$Storeys" "loads" "[I" ∈ lw_tbl := List.mem_of_getElem? (i := 135) (by decide +kernel)
theorem mw136 : Cond.fieldLink RX9 27 "BambooTower$Storeys" "shutters" "[I" ∈ lw_tbl := List.mem_of_getElem? (i := 136) (by decide +kernel)
theorem mw137 : Cond.fieldLink RX9 30 "BambooTower$Storeys" "count" "I" ∈ lw_tbl := List.mem_of_getElem? (i := 137) (by decide +kernel)
theorem mw138 : Cond.fieldLinkNest RX8 62 "BambooTower$Storeys" "count" "I" "BambooTower" ∈ lw_tbl := List.mem_of_getElem? (i := 138) (by decide +kernel)
theorem mw139 : Cond.fieldLinkNest RX7 128 "BambooTower$Storeys" "count" "I" "BambooTower" ∈ lw_tbl := List.mem_of_getElem? (i := 139) (by decide +kernel)
theorem mw140 : Cond.fieldLinkNest RX10 267 "BambooTower$Storeys" "count" "I" "BambooTower" ∈ lw_tbl := List.mem_of_getElem? (i := 140) (by decide +kernel)
theorem mw156 : Cond.classLink RX7 25 RX1 ∈ lw_tbl := List.mem_of_getElem? (i := 156) (by decide +kernel)
theorem mw157 : Cond.instantiable RX1 4 ∈ lw_tbl := List.mem_of_getElem? (i := 157) (by decide +kernel)
theorem mw158 : Cond.methodLinkNest RX7 27 yX1_init "BambooTower" ∈ lw_tbl := List.mem_of_getElem? (i := 158) (by decide +kernel)
theorem mw159 : Cond.instanceMethod yX1_init ∈ lw_tbl := List.mem_of_getElem? (i := 159) (by decide +kernel)
theorem mw160 : Cond.code yX1_init cX1_init 1 none ∈ lw_tbl := List.mem_of_getElem? (i := 160) (by decide +kernel)
theorem mw161 : Cond.methodLink RX1 3 objectInit ∈ lw_tbl := List.mem_of_getElem? (i := 161) (by decide +kernel)
theorem mw162 : Cond.fieldLink RX1 9 "BambooTower$Crews" "skills" "[I" ∈ lw_tbl := List.mem_of_getElem? (i := 162) (by decide +kernel)
theorem mw163 : Cond.fieldLink RX1 15 "BambooTower$Crews" "places" "[I" ∈ lw_tbl := List.mem_of_getElem? (i := 163) (by decide +kernel)
theorem mw164 : Cond.fieldLink RX1 18 "BambooTower$Crews" "hours" "[I" ∈ lw_tbl := List.mem_of_getElem? (i := 164) (by decide +kernel)
theorem mw165 : Cond.fieldLink RX1 21 "BambooTower$Crews" "count" "I" ∈ lw_tbl := List.mem_of_getElem? (i := 165) (by decide +kernel)
theorem mw166 : Cond.fieldLinkNest RX7 70 "BambooTower$Crews" "count" "I" "BambooTower" ∈ lw_tbl := List.mem_of_getElem? (i := 166) (by decide +kernel)
theorem mw167 : Cond.fieldLinkNest RX8 104 "BambooTower$Crews" "count" "I" "BambooTower" ∈ lw_tbl := List.mem_of_getElem? (i := 167) (by decide +kernel)
theorem mw168 : Cond.fieldLinkNest RX10 306 "BambooTower$Crews" "count" "I" "BambooTower" ∈ lw_tbl := List.mem_of_getElem? (i := 168) (by decide +kernel)
theorem mw178 : Cond.classLink RX7 32 RX3 ∈ lw_tbl := List.mem_of_getElem? (i := 178) (by decide +kernel)
theorem mw179 : Cond.instantiable RX3 3 ∈ lw_tbl := List.mem_of_getElem? (i := 179) (by decide +kernel)
theorem mw180 : Cond.methodLinkNest RX7 34 yX3_init "BambooTower" ∈ lw_tbl := List.mem_of_getElem? (i := 180) (by decide +kernel)
theorem mw181 : Cond.instanceMethod yX3_init ∈ lw_tbl := List.mem_of_getElem? (i := 181) (by decide +kernel)
theorem mw182 : Cond.code yX3_init cX3_init 1 none ∈ lw_tbl := List.mem_of_getElem? (i := 182) (by decide +kernel)
theorem mw183 : Cond.methodLink RX3 3 objectInit ∈ lw_tbl := List.mem_of_getElem? (i := 183) (by decide +kernel)
theorem mw184 : Cond.fieldLink RX3 9 "BambooTower$Inspectors" "noses" "[I" ∈ lw_tbl := List.mem_of_getElem? (i := 184) (by decide +kernel)
theorem mw185 : Cond.fieldLink RX3 15 "BambooTower$Inspectors" "finds" "[I" ∈ lw_tbl := List.mem_of_getElem? (i := 185) (by decide +kernel)
theorem mw186 : Cond.fieldLink RX3 18 "BambooTower$Inspectors" "count" "I" ∈ lw_tbl := List.mem_of_getElem? (i := 186) (by decide +kernel)
theorem mw187 : Cond.fieldLinkNest RX8 150 "BambooTower$Inspectors" "count" "I" "BambooTower" ∈ lw_tbl := List.mem_of_getElem? (i := 187) (by decide +kernel)
theorem mw188 : Cond.fieldLinkNest RX10 319 "BambooTower$Inspectors" "count" "I" "BambooTower" ∈ lw_tbl := List.mem_of_getElem? (i := 188) (by decide +kernel)
theorem mw196 : Cond.fieldLink RX7 12 "BambooTower$Scaffold" "bundles" "LBambooTower$Bundles;" ∈ lw_tbl := List.mem_of_getElem? (i := 196) (by decide +kernel)
theorem mw197 : Cond.fieldLinkNest RX8 29 "BambooTower$Scaffold" "bundles" "LBambooTower$Bundles;" "BambooTower" ∈ lw_tbl := List.mem_of_getElem? (i := 197) (by decide +kernel)
theorem mw198 : Cond.fieldLinkNest RX10 165 "BambooTower$Scaffold" "bundles" "LBambooTower$Bundles;" "BambooTower" ∈ lw_tbl := List.mem_of_getElem? (i := 198) (by decide +kernel)
theorem mw199 : Cond.fieldLink RX7 21 "BambooTower$Scaffold" "storeys" "LBambooTower$Storeys;" ∈ lw_tbl := List.mem_of_getElem? (i := 199) (by decide +kernel)
theorem mw200 : Cond.fieldLinkNest RX8 58 "BambooTower$Scaffold" "storeys" "LBambooTower$Storeys;" "BambooTower" ∈ lw_tbl := List.mem_of_getElem? (i := 200) (by decide +kernel)
theorem mw201 : Cond.fieldLinkNest RX10 181 "BambooTower$Scaffold" "storeys" "LBambooTower$Storeys;" "BambooTower" ∈ lw_tbl := List.mem_of_getElem? (i := 201) (by decide +kernel)
theorem mw202 : Cond.fieldLink RX7 28 "BambooTower$Scaffold" "crews" "LBambooTower$Crews;" ∈ lw_tbl := List.mem_of_getElem? (i := 202) (by decide +kernel)
theorem mw203 : Cond.fieldLinkNest RX8 100 "BambooTower$Scaffold" "crews" "LBambooTower$Crews;" "BambooTower" ∈ lw_tbl := List.mem_of_getElem? (i := 203) (by decide +kernel)
theorem mw204 : Cond.fieldLinkNest RX10 202 "BambooTower$Scaffold" "crews" "LBambooTower$Crews;" "BambooTower" ∈ lw_tbl := List.mem_of_getElem? (i := 204) (by decide +kernel)
theorem mw205 : Cond.fieldLink RX7 35 "BambooTower$Scaffold" "inspectors" "LBambooTower$Inspectors;" ∈ lw_tbl := List.mem_of_getElem? (i := 205) (by decide +kernel)
theorem mw206 : Cond.fieldLinkNest RX8 146 "BambooTower$Scaffold" "inspectors" "LBambooTower$Inspectors;" "BambooTower" ∈ lw_tbl := List.mem_of_getElem? (i := 206) (by decide +kernel)
theorem mw207 : Cond.fieldLinkNest RX10 235 "BambooTower$Scaffold" "inspectors" "LBambooTower$Inspectors;" "BambooTower" ∈ lw_tbl := List.mem_of_getElem? (i := 207) (by decide +kernel)
theorem mw208 : Cond.fieldLink RX7 39 "BambooTower$Scaffold" "day" "I" ∈ lw_tbl := List.mem_of_getElem? (i := 208) (by decide +kernel)
theorem mw209 : Cond.fieldLinkNest RX10 66 "BambooTower$Scaffold" "day" "I" "BambooTower" ∈ lw_tbl := List.mem_of_getElem? (i := 209) (by decide +kernel)
theorem mw210 : Cond.fieldLink RX7 43 "BambooTower$Scaffold" "signal" "I" ∈ lw_tbl := List.mem_of_getElem? (i := 210) (by decide +kernel)
theorem mw211 : Cond.fieldLinkNest RX8 69 "BambooTower$Scaffold" "signal" "I" "BambooTower" ∈ lw_tbl := List.mem_of_getElem? (i := 211) (by decide +kernel)
theorem mw212 : Cond.fieldLinkNest RX10 293 "BambooTower$Scaffold" "signal" "I" "BambooTower" ∈ lw_tbl := List.mem_of_getElem? (i := 212) (by decide +kernel)
theorem mw213 : Cond.fieldLink RX7 46 "BambooTower$Scaffold" "strips" "I" ∈ lw_tbl := List.mem_of_getElem? (i := 213) (by decide +kernel)
theorem mw214 : Cond.fieldLinkNest RX8 46 "BambooTower$Scaffold" "strips" "I" "BambooTower" ∈ lw_tbl := List.mem_of_getElem? (i := 214) (by decide +kernel)
theorem mw215 : Cond.fieldLinkNest RX10 310 "BambooTower$Scaffold" "strips" "I" "BambooTower" ∈ lw_tbl := List.mem_of_getElem? (i := 215) (by decide +kernel)
theorem mw216 : Cond.fieldLink RX7 49 "BambooTower$Scaffold" "turns" "I" ∈ lw_tbl := List.mem_of_getElem? (i := 216) (by decide +kernel)
theorem mw217 : Cond.fieldLinkNest RX8 137 "BambooTower$Scaffold" "turns" "I" "BambooTower" ∈ lw_tbl := List.mem_of_getElem? (i := 217) (by decide +kernel)
theorem mw218 : Cond.fieldLinkNest RX10 313 "BambooTower$Scaffold" "turns" "I" "BambooTower" ∈ lw_tbl := List.mem_of_getElem? (i := 218) (by decide +kernel)
theorem mw219 : Cond.fieldLink RX7 52 "BambooTower$Scaffold" "fines" "I" ∈ lw_tbl := List.mem_of_getElem? (i := 219) (by decide +kernel)
theorem mw220 : Cond.fieldLinkNest RX8 167 "BambooTower$Scaffold" "fines" "I" "BambooTower" ∈ lw_tbl := List.mem_of_getElem? (i := 220) (by decide +kernel)
theorem mw221 : Cond.fieldLinkNest RX10 320 "BambooTower$Scaffold" "fines" "I" "BambooTower" ∈ lw_tbl := List.mem_of_getElem? (i := 221) (by decide +kernel)
theorem mw222 : Cond.fieldLink RX7 55 "BambooTower$Scaffold" "toldHours" "I" ∈ lw_tbl := List.mem_of_getElem? (i := 222) (by decide +kernel)
theorem mw223 : Cond.fieldLinkNest RX8 80 "BambooTower$Scaffold" "toldHours" "I" "BambooTower" ∈ lw_tbl := List.mem_of_getElem? (i := 223) (by decide +kernel)
theorem mw224 : Cond.fieldLinkNest RX10 278 "BambooTower$Scaffold" "toldHours" "I" "BambooTower" ∈ lw_tbl := List.mem_of_getElem? (i := 224) (by decide +kernel)
theorem mw225 : Cond.fieldLink RX7 58 "BambooTower$Scaffold" "doneHours" "I" ∈ lw_tbl := List.mem_of_getElem? (i := 225) (by decide +kernel)
theorem mw226 : Cond.fieldLinkNest RX10 281 "BambooTower$Scaffold" "doneHours" "I" "BambooTower" ∈ lw_tbl := List.mem_of_getElem? (i := 226) (by decide +kernel)
theorem mw227 : Cond.fieldLink RX7 61 "BambooTower$Scaffold" "lostHours" "I" ∈ lw_tbl := List.mem_of_getElem? (i := 227) (by decide +kernel)
theorem mw228 : Cond.fieldLinkNest RX10 284 "BambooTower$Scaffold" "lostHours" "I" "BambooTower" ∈ lw_tbl := List.mem_of_getElem? (i := 228) (by decide +kernel)
theorem mw229 : Cond.fieldLink RX7 64 "BambooTower$Scaffold" "fallenStoreys" "I" ∈ lw_tbl := List.mem_of_getElem? (i := 229) (by decide +kernel)
theorem mw230 : Cond.fieldLinkNest RX8 170 "BambooTower$Scaffold" "fallenStoreys" "I" "BambooTower" ∈ lw_tbl := List.mem_of_getElem? (i := 230) (by decide +kernel)
theorem mw231 : Cond.fieldLinkNest RX10 323 "BambooTower$Scaffold" "fallenStoreys" "I" "BambooTower" ∈ lw_tbl := List.mem_of_getElem? (i := 231) (by decide +kernel)
theorem mw232 : Cond.fieldLink RX7 67 "BambooTower$Scaffold" "lostPoles" "I" ∈ lw_tbl := List.mem_of_getElem? (i := 232) (by decide +kernel)
theorem mw233 : Cond.fieldLinkNest RX10 326 "BambooTower$Scaffold" "lostPoles" "I" "BambooTower" ∈ lw_tbl := List.mem_of_getElem? (i := 233) (by decide +kernel)
theorem mw263 : Cond.fieldLink RX8 12 "BambooTower$Site" "reasons" "LBambooTower$Reasons;" ∈ lw_tbl := List.mem_of_getElem? (i := 263) (by decide +kernel)
theorem mw264 : Cond.fieldLinkNest RX10 152 "BambooTower$Site" "reasons" "LBambooTower$Reasons;" "BambooTower" ∈ lw_tbl := List.mem_of_getElem? (i := 264) (by decide +kernel)
theorem mw265 : Cond.fieldLinkNest RX10 16 "BambooTower$Site" "scaffold" "LBambooTower$Scaffold;" "BambooTower" ∈ lw_tbl := List.mem_of_getElem? (i := 265) (by decide +kernel)
theorem mw266 : Cond.fieldLink RX8 21 "BambooTower$Site" "scaffold" "LBambooTower$Scaffold;" ∈ lw_tbl := List.mem_of_getElem? (i := 266) (by decide +kernel)
theorem mw272 : Cond.classLink RX10 23 RX7 ∈ lw_tbl := List.mem_of_getElem? (i := 272) (by decide +kernel)
theorem mw273 : Cond.methodLinkNest RX10 25 yX7_init "BambooTower" ∈ lw_tbl := List.mem_of_getElem? (i := 273) (by decide +kernel)
theorem mw274 : Cond.classLink RX10 32 RX2 ∈ lw_tbl := List.mem_of_getElem? (i := 274) (by decide +kernel)
theorem mw275 : Cond.instantiable RX2 4 ∈ lw_tbl := List.mem_of_getElem? (i := 275) (by decide +kernel)
theorem mw276 : Cond.methodLink RX10 34 yX2_init ∈ lw_tbl := List.mem_of_getElem? (i := 276) (by decide +kernel)
theorem mw277 : Cond.instanceMethod yX2_init ∈ lw_tbl := List.mem_of_getElem? (i := 277) (by decide +kernel)
theorem mw278 : Cond.code yX2_init cX2_init 2 none ∈ lw_tbl := List.mem_of_getElem? (i := 278) (by decide +kernel)
theorem mw279 : Cond.methodLink RX2 3 objectInit ∈ lw_tbl := List.mem_of_getElem? (i := 279) (by decide +kernel)
theorem mw280 : Cond.classLink RX2 11 RX7 ∈ lw_tbl := List.mem_of_getElem? (i := 280) (by decide +kernel)
theorem mw282 : Cond.methodLinkNest RX2 17 yX7_init "BambooTower" ∈ lw_tbl := List.mem_of_getElem? (i := 282) (by decide +kernel)
theorem mw283 : Cond.fieldLink RX2 13 "BambooTower$History" "places" "[LBambooTower$Scaffold;" ∈ lw_tbl := List.mem_of_getElem? (i := 283) (by decide +kernel)
theorem mw284 : Cond.fieldLink RX2 18 "BambooTower$History" "spare" "LBambooTower$Scaffold;" ∈ lw_tbl := List.mem_of_getElem? (i := 284) (by decide +kernel)
theorem mw285 : Cond.fieldLink RX2 22 "BambooTower$History" "next" "I" ∈ lw_tbl := List.mem_of_getElem? (i := 285) (by decide +kernel)
theorem mw286 : Cond.fieldLink RX2 26 "BambooTower$History" "count" "I" ∈ lw_tbl := List.mem_of_getElem? (i := 286) (by decide +kernel)
theorem mw287 : Cond.fieldLinkNest RX10 329 "BambooTower$History" "count" "I" "BambooTower" ∈ lw_tbl := List.mem_of_getElem? (i := 287) (by decide +kernel)
theorem mw297 : Cond.classLink RX10 39 RX4 ∈ lw_tbl := List.mem_of_getElem? (i := 297) (by decide +kernel)
theorem mw298 : Cond.instantiable RX4 2 ∈ lw_tbl := List.mem_of_getElem? (i := 298) (by decide +kernel)
theorem mw299 : Cond.methodLink RX10 41 yX4_init ∈ lw_tbl := List.mem_of_getElem? (i := 299) (by decide +kernel)
theorem mw300 : Cond.instanceMethod yX4_init ∈ lw_tbl := List.mem_of_getElem? (i := 300) (by decide +kernel)
theorem mw301 : Cond.code yX4_init cX4_init 2 none ∈ lw_tbl := List.mem_of_getElem? (i := 301) (by decide +kernel)
theorem mw302 : Cond.methodLink RX4 1 objectInit ∈ lw_tbl := List.mem_of_getElem? (i := 302) (by decide +kernel)
theorem mw303 : Cond.fieldLink RX4 13 "BambooTower$Line" "signs" "[C" ∈ lw_tbl := List.mem_of_getElem? (i := 303) (by decide +kernel)
theorem mw304 : Cond.fieldLink RX4 7 "BambooTower$Line" "length" "I" ∈ lw_tbl := List.mem_of_getElem? (i := 304) (by decide +kernel)
theorem mw305 : Cond.fieldLinkNest RX5 29 "BambooTower$Line" "length" "I" "BambooTower" ∈ lw_tbl := List.mem_of_getElem? (i := 305) (by decide +kernel)
theorem mw306 : Cond.fieldLinkNest RX10 79 "BambooTower$Line" "length" "I" "BambooTower" ∈ lw_tbl := List.mem_of_getElem? (i := 306) (by decide +kernel)
theorem mw312 : Cond.arrayClass .char ∈ lw_tbl := List.mem_of_getElem? (i := 312) (by decide +kernel)
theorem mw313 : Cond.classLink RX10 51 RX5 ∈ lw_tbl := List.mem_of_getElem? (i := 313) (by decide +kernel)
theorem mw314 : Cond.instantiable RX5 4 ∈ lw_tbl := List.mem_of_getElem? (i := 314) (by decide +kernel)
theorem mw315 : Cond.methodLinkNest RX10 53 yX5_init "BambooTower" ∈ lw_tbl := List.mem_of_getElem? (i := 315) (by decide +kernel)
theorem mw316 : Cond.instanceMethod yX5_init ∈ lw_tbl := List.mem_of_getElem? (i := 316) (by decide +kernel)
theorem mw317 : Cond.code yX5_init cX5_init 1 none ∈ lw_tbl := List.mem_of_getElem? (i := 317) (by decide +kernel)
theorem mw318 : Cond.methodLink RX5 3 objectInit ∈ lw_tbl := List.mem_of_getElem? (i := 318) (by decide +kernel)
theorem mw319 : Cond.fieldLink RX5 9 "BambooTower$Orders" "letters" "[I" ∈ lw_tbl := List.mem_of_getElem? (i := 319) (by decide +kernel)
theorem mw320 : Cond.fieldLink RX5 15 "BambooTower$Orders" "numbers" "[I" ∈ lw_tbl := List.mem_of_getElem? (i := 320) (by decide +kernel)
theorem mw321 : Cond.fieldLink RX5 18 "BambooTower$Orders" "count" "I" ∈ lw_tbl := List.mem_of_getElem? (i := 321) (by decide +kernel)
theorem mw322 : Cond.fieldLinkNest RX10 139 "BambooTower$Orders" "count" "I" "BambooTower" ∈ lw_tbl := List.mem_of_getElem? (i := 322) (by decide +kernel)
theorem mw323 : Cond.fieldLink RX5 22 "BambooTower$Orders" "place" "I" ∈ lw_tbl := List.mem_of_getElem? (i := 323) (by decide +kernel)
theorem mw333 : Cond.fieldLink RX10 10 "BambooTower" "site" "LBambooTower$Site;" ∈ lw_tbl := List.mem_of_getElem? (i := 333) (by decide +kernel)
theorem mw334 : Cond.fieldLink RX10 20 "BambooTower" "now" "LBambooTower$Scaffold;" ∈ lw_tbl := List.mem_of_getElem? (i := 334) (by decide +kernel)
theorem mw335 : Cond.fieldLink RX10 26 "BambooTower" "ahead" "LBambooTower$Scaffold;" ∈ lw_tbl := List.mem_of_getElem? (i := 335) (by decide +kernel)
theorem mw336 : Cond.fieldLink RX10 29 "BambooTower" "saved" "LBambooTower$Scaffold;" ∈ lw_tbl := List.mem_of_getElem? (i := 336) (by decide +kernel)
theorem mw337 : Cond.fieldLink RX10 35 "BambooTower" "history" "LBambooTower$History;" ∈ lw_tbl := List.mem_of_getElem? (i := 337) (by decide +kernel)
theorem mw338 : Cond.fieldLink RX10 44 "BambooTower" "input" "LBambooTower$Line;" ∈ lw_tbl := List.mem_of_getElem? (i := 338) (by decide +kernel)
theorem mw339 : Cond.fieldLink RX10 48 "BambooTower" "line" "LBambooTower$Line;" ∈ lw_tbl := List.mem_of_getElem? (i := 339) (by decide +kernel)
theorem mw340 : Cond.fieldLink RX10 54 "BambooTower" "orders" "LBambooTower$Orders;" ∈ lw_tbl := List.mem_of_getElem? (i := 340) (by decide +kernel)
theorem mw341 : Cond.fieldLink RX10 58 "BambooTower" "isSaved" "Z" ∈ lw_tbl := List.mem_of_getElem? (i := 341) (by decide +kernel)
theorem mw342 : Cond.fieldLink RX10 62 "BambooTower" "faultPlace" "I" ∈ lw_tbl := List.mem_of_getElem? (i := 342) (by decide +kernel)
theorem mw364 : Cond.methodLink RL 13 yX10_clear ∈ lw_tbl := List.mem_of_getElem? (i := 364) (by decide +kernel)
theorem mw365 : Cond.instanceMethod yX10_clear ∈ lw_tbl := List.mem_of_getElem? (i := 365) (by decide +kernel)
theorem mw366 : Cond.selects RX10 yX10_clear yX10_clear ∈ lw_tbl := List.mem_of_getElem? (i := 366) (by decide +kernel)
theorem mw367 : Cond.code yX10_clear cX10_clear 2 (some .int) ∈ lw_tbl := List.mem_of_getElem? (i := 367) (by decide +kernel)
theorem mw368 : Cond.methodLink RX10 69 yX7_makeBare ∈ lw_tbl := List.mem_of_getElem? (i := 368) (by decide +kernel)
theorem mw369 : Cond.instanceMethod yX7_makeBare ∈ lw_tbl := List.mem_of_getElem? (i := 369) (by decide +kernel)
theorem mw370 : Cond.selects RX7 yX7_makeBare yX7_makeBare ∈ lw_tbl := List.mem_of_getElem? (i := 370) (by decide +kernel)
theorem mw371 : Cond.code yX7_makeBare cX7_makeBare 1 none ∈ lw_tbl := List.mem_of_getElem? (i := 371) (by decide +kernel)
theorem mw372 : Cond.methodLink RX7 135 yX0_makeNone ∈ lw_tbl := List.mem_of_getElem? (i := 372) (by decide +kernel)
theorem mw373 : Cond.instanceMethod yX0_makeNone ∈ lw_tbl := List.mem_of_getElem? (i := 373) (by decide +kernel)
theorem mw374 : Cond.selects RX0 yX0_makeNone yX0_makeNone ∈ lw_tbl := List.mem_of_getElem? (i := 374) (by decide +kernel)
theorem mw375 : Cond.code yX0_makeNone cX0_makeNone 1 none ∈ lw_tbl := List.mem_of_getElem? (i := 375) (by decide +kernel)
theorem mw376 : Cond.methodLink RX7 132 yX9_cutTo ∈ lw_tbl := List.mem_of_getElem? (i := 376) (by decide +kernel)
theorem mw377 : Cond.instanceMethod yX9_cutTo ∈ lw_tbl := List.mem_of_getElem? (i := 377) (by decide +kernel)
theorem mw378 : Cond.selects RX9 yX9_cutTo yX9_cutTo ∈ lw_tbl := List.mem_of_getElem? (i := 378) (by decide +kernel)
theorem mw379 : Cond.code yX9_cutTo cX9_cutTo 2 none ∈ lw_tbl := List.mem_of_getElem? (i := 379) (by decide +kernel)
theorem mw380 : Cond.methodLink RX9 88 yJ9_min_7cf53 ∈ lw_tbl := List.mem_of_getElem? (i := 380) (by decide +kernel)
theorem mw381 : Cond.static yJ9_min_7cf53 ∈ lw_tbl := List.mem_of_getElem? (i := 381) (by decide +kernel)
theorem mw382 : Cond.code yJ9_min_7cf53 cJ9_min_7cf53 2 (some .int) ∈ lw_tbl := List.mem_of_getElem? (i := 382) (by decide +kernel)
theorem mw383 : Cond.methodLink RX9 45 yJ9_max_7cf53 ∈ lw_tbl := List.mem_of_getElem? (i := 383) (by decide +kernel)
theorem mw384 : Cond.static yJ9_max_7cf53 ∈ lw_tbl := List.mem_of_getElem? (i := 384) (by decide +kernel)
theorem mw385 : Cond.code yJ9_max_7cf53 cJ9_max_7cf53 2 (some .int) ∈ lw_tbl := List.mem_of_getElem? (i := 385) (by decide +kernel)
theorem mw386 : Cond.methodLink RX7 138 yX1_makeNone ∈ lw_tbl := List.mem_of_getElem? (i := 386) (by decide +kernel)
theorem mw387 : Cond.instanceMethod yX1_makeNone ∈ lw_tbl := List.mem_of_getElem? (i := 387) (by decide +kernel)
theorem mw388 : Cond.selects RX1 yX1_makeNone yX1_makeNone ∈ lw_tbl := List.mem_of_getElem? (i := 388) (by decide +kernel)
theorem mw389 : Cond.code yX1_makeNone cX1_makeNone 1 none ∈ lw_tbl := List.mem_of_getElem? (i := 389) (by decide +kernel)
theorem mw390 : Cond.methodLink RX7 139 yX3_makeNone ∈ lw_tbl := List.mem_of_getElem? (i := 390) (by decide +kernel)
theorem mw391 : Cond.instanceMethod yX3_makeNone ∈ lw_tbl := List.mem_of_getElem? (i := 391) (by decide +kernel)
theorem mw392 : Cond.selects RX3 yX3_makeNone yX3_makeNone ∈ lw_tbl := List.mem_of_getElem? (i := 392) (by decide +kernel)
theorem mw393 : Cond.code yX3_makeNone cX3_makeNone 1 none ∈ lw_tbl := List.mem_of_getElem? (i := 393) (by decide +kernel)
theorem mw394 : Cond.methodLink RX10 72 yX2_forget ∈ lw_tbl := List.mem_of_getElem? (i := 394) (by decide +kernel)
theorem mw395 : Cond.instanceMethod yX2_forget ∈ lw_tbl := List.mem_of_getElem? (i := 395) (by decide +kernel)
theorem mw396 : Cond.selects RX2 yX2_forget yX2_forget ∈ lw_tbl := List.mem_of_getElem? (i := 396) (by decide +kernel)
theorem mw397 : Cond.code yX2_forget cX2_forget 1 none ∈ lw_tbl := List.mem_of_getElem? (i := 397) (by decide +kernel)
theorem mw398 : Cond.methodLink RL 18 yX10_append ∈ lw_tbl := List.mem_of_getElem? (i := 398) (by decide +kernel)
theorem mw399 : Cond.instanceMethod yX10_append ∈ lw_tbl := List.mem_of_getElem? (i := 399) (by decide +kernel)
theorem mw400 : Cond.selects RX10 yX10_append yX10_append ∈ lw_tbl := List.mem_of_getElem? (i := 400) (by decide +kernel)
theorem mw401 : Cond.code yX10_append cX10_append 2 (some .int) ∈ lw_tbl := List.mem_of_getElem? (i := 401) (by decide +kernel)
theorem mw402 : Cond.methodLink RX10 75 yX10_isWithin ∈ lw_tbl := List.mem_of_getElem? (i := 402) (by decide +kernel)
theorem mw403 : Cond.static yX10_isWithin ∈ lw_tbl := List.mem_of_getElem? (i := 403) (by decide +kernel)
theorem mw404 : Cond.code yX10_isWithin cX10_isWithin 3 (some .boolean) ∈ lw_tbl := List.mem_of_getElem? (i := 404) (by decide +kernel)
theorem mw405 : Cond.methodLink RX10 82 yX4_put ∈ lw_tbl := List.mem_of_getElem? (i := 405) (by decide +kernel)
theorem mw406 : Cond.instanceMethod yX4_put ∈ lw_tbl := List.mem_of_getElem? (i := 406) (by decide +kernel)
theorem mw407 : Cond.selects RX4 yX4_put yX4_put ∈ lw_tbl := List.mem_of_getElem? (i := 407) (by decide +kernel)
theorem mw408 : Cond.code yX4_put cX4_put 2 none ∈ lw_tbl := List.mem_of_getElem? (i := 408) (by decide +kernel)
theorem mw409 : Cond.methodLink RL 23 yX10_bundle ∈ lw_tbl := List.mem_of_getElem? (i := 409) (by decide +kernel)
theorem mw410 : Cond.instanceMethod yX10_bundle ∈ lw_tbl := List.mem_of_getElem? (i := 410) (by decide +kernel)
theorem mw411 : Cond.selects RX10 yX10_bundle yX10_bundle ∈ lw_tbl := List.mem_of_getElem? (i := 411) (by decide +kernel)
theorem mw412 : Cond.code yX10_bundle cX10_bundle 3 (some .int) ∈ lw_tbl := List.mem_of_getElem? (i := 412) (by decide +kernel)
theorem mw413 : Cond.methodLink RX10 86 yX2_note ∈ lw_tbl := List.mem_of_getElem? (i := 413) (by decide +kernel)
theorem mw414 : Cond.instanceMethod yX2_note ∈ lw_tbl := List.mem_of_getElem? (i := 414) (by decide +kernel)
theorem mw415 : Cond.selects RX2 yX2_note yX2_note ∈ lw_tbl := List.mem_of_getElem? (i := 415) (by decide +kernel)
theorem mw416 : Cond.code yX2_note cX2_note 2 none ∈ lw_tbl := List.mem_of_getElem? (i := 416) (by decide +kernel)
theorem mw417 : Cond.methodLink RX2 29 yX2_noted ∈ lw_tbl := List.mem_of_getElem? (i := 417) (by decide +kernel)
theorem mw418 : Cond.instanceMethod yX2_noted ∈ lw_tbl := List.mem_of_getElem? (i := 418) (by decide +kernel)
theorem mw419 : Cond.selects RX2 yX2_noted yX2_noted ∈ lw_tbl := List.mem_of_getElem? (i := 419) (by decide +kernel)
theorem mw420 : Cond.code yX2_noted cX2_noted 2 (some (.object "BambooTower$Scaffold")) ∈ lw_tbl := List.mem_of_getElem? (i := 420) (by decide +kernel)
theorem mw421 : Cond.methodLink RX2 33 yX7_take ∈ lw_tbl := List.mem_of_getElem? (i := 421) (by decide +kernel)
theorem mw422 : Cond.instanceMethod yX7_take ∈ lw_tbl := List.mem_of_getElem? (i := 422) (by decide +kernel)
theorem mw423 : Cond.selects RX7 yX7_take yX7_take ∈ lw_tbl := List.mem_of_getElem? (i := 423) (by decide +kernel)
theorem mw424 : Cond.code yX7_take cX7_take 2 none ∈ lw_tbl := List.mem_of_getElem? (i := 424) (by decide +kernel)
theorem mw425 : Cond.methodLink RX7 140 yX0_take ∈ lw_tbl := List.mem_of_getElem? (i := 425) (by decide +kernel)
theorem mw426 : Cond.instanceMethod yX0_take ∈ lw_tbl := List.mem_of_getElem? (i := 426) (by decide +kernel)
theorem mw427 : Cond.selects RX0 yX0_take yX0_take ∈ lw_tbl := List.mem_of_getElem? (i := 427) (by decide +kernel)
theorem mw428 : Cond.code yX0_take cX0_take 2 none ∈ lw_tbl := List.mem_of_getElem? (i := 428) (by decide +kernel)
theorem mw429 : Cond.methodLinkNest RX0 41 yX10_copy "BambooTower" ∈ lw_tbl := List.mem_of_getElem? (i := 429) (by decide +kernel)
theorem mw430 : Cond.static yX10_copy ∈ lw_tbl := List.mem_of_getElem? (i := 430) (by decide +kernel)
theorem mw431 : Cond.code yX10_copy cX10_copy 2 none ∈ lw_tbl := List.mem_of_getElem? (i := 431) (by decide +kernel)
theorem mw432 : Cond.methodLink RX10 358 yJ9_min_7cf53 ∈ lw_tbl := List.mem_of_getElem? (i := 432) (by decide +kernel)
theorem mw433 : Cond.methodLink RX10 363 arraycopyName ∈ lw_tbl := List.mem_of_getElem? (i := 433) (by decide +kernel)
theorem mw434 : Cond.static arraycopyName ∈ lw_tbl := List.mem_of_getElem? (i := 434) (by decide +kernel)
theorem mw435 : Cond.native arraycopyName ∈ lw_tbl := List.mem_of_getElem? (i := 435) (by decide +kernel)
theorem mw436 : Cond.methodLink RX7 144 yX9_take ∈ lw_tbl := List.mem_of_getElem? (i := 436) (by decide +kernel)
theorem mw437 : Cond.instanceMethod yX9_take ∈ lw_tbl := List.mem_of_getElem? (i := 437) (by decide +kernel)
theorem mw438 : Cond.selects RX9 yX9_take yX9_take ∈ lw_tbl := List.mem_of_getElem? (i := 438) (by decide +kernel)
theorem mw439 : Cond.code yX9_take cX9_take 2 none ∈ lw_tbl := List.mem_of_getElem? (i := 439) (by decide +kernel)
theorem mw440 : Cond.methodLinkNest RX9 91 yX10_copy "BambooTower" ∈ lw_tbl := List.mem_of_getElem? (i := 440) (by decide +kernel)
theorem mw441 : Cond.methodLink RX7 147 yX1_take ∈ lw_tbl := List.mem_of_getElem? (i := 441) (by decide +kernel)
theorem mw442 : Cond.instanceMethod yX1_take ∈ lw_tbl := List.mem_of_getElem? (i := 442) (by decide +kernel)
theorem mw443 : Cond.selects RX1 yX1_take yX1_take ∈ lw_tbl := List.mem_of_getElem? (i := 443) (by decide +kernel)
theorem mw444 : Cond.code yX1_take cX1_take 2 none ∈ lw_tbl := List.mem_of_getElem? (i := 444) (by decide +kernel)
theorem mw445 : Cond.methodLinkNest RX1 53 yX10_copy "BambooTower" ∈ lw_tbl := List.mem_of_getElem? (i := 445) (by decide +kernel)
theorem mw446 : Cond.methodLink RX7 150 yX3_take ∈ lw_tbl := List.mem_of_getElem? (i := 446) (by decide +kernel)
theorem mw447 : Cond.instanceMethod yX3_take ∈ lw_tbl := List.mem_of_getElem? (i := 447) (by decide +kernel)
theorem mw448 : Cond.selects RX3 yX3_take yX3_take ∈ lw_tbl := List.mem_of_getElem? (i := 448) (by decide +kernel)
theorem mw449 : Cond.code yX3_take cX3_take 2 none ∈ lw_tbl := List.mem_of_getElem? (i := 449) (by decide +kernel)
theorem mw450 : Cond.methodLinkNest RX3 34 yX10_copy "BambooTower" ∈ lw_tbl := List.mem_of_getElem? (i := 450) (by decide +kernel)
theorem mw451 : Cond.methodLink RX10 90 yX8_addBundle ∈ lw_tbl := List.mem_of_getElem? (i := 451) (by decide +kernel)
theorem mw452 : Cond.instanceMethod yX8_addBundle ∈ lw_tbl := List.mem_of_getElem? (i := 452) (by decide +kernel)
theorem mw453 : Cond.selects RX8 yX8_addBundle yX8_addBundle ∈ lw_tbl := List.mem_of_getElem? (i := 453) (by decide +kernel)
theorem mw454 : Cond.code yX8_addBundle cX8_addBundle 3 (some .int) ∈ lw_tbl := List.mem_of_getElem? (i := 454) (by decide +kernel)
theorem mw455 : Cond.methodLinkNest RX8 25 yX10_isWithin "BambooTower" ∈ lw_tbl := List.mem_of_getElem? (i := 455) (by decide +kernel)
theorem mw456 : Cond.methodLink RX8 39 yX6_refuse ∈ lw_tbl := List.mem_of_getElem? (i := 456) (by decide +kernel)
theorem mw457 : Cond.instanceMethod yX6_refuse ∈ lw_tbl := List.mem_of_getElem? (i := 457) (by decide +kernel)
theorem mw458 : Cond.selects RX6 yX6_refuse yX6_refuse ∈ lw_tbl := List.mem_of_getElem? (i := 458) (by decide +kernel)
theorem mw459 : Cond.code yX6_refuse cX6_refuse 3 (some .int) ∈ lw_tbl := List.mem_of_getElem? (i := 459) (by decide +kernel)
theorem mw460 : Cond.methodLink RX6 22 yX6_putBehind ∈ lw_tbl := List.mem_of_getElem? (i := 460) (by decide +kernel)
theorem mw462 : Cond.instanceMethod yX6_putBehind ∈ lw_tbl := List.mem_of_getElem? (i := 462) (by decide +kernel)
theorem mw463 : Cond.code yX6_putBehind cX6_putBehind 3 none ∈ lw_tbl := List.mem_of_getElem? (i := 463) (by decide +kernel)
theorem mw464 : Cond.methodLinkNest RX6 34 yX10_put "BambooTower" ∈ lw_tbl := List.mem_of_getElem? (i := 464) (by decide +kernel)
theorem mw465 : Cond.static yX10_put ∈ lw_tbl := List.mem_of_getElem? (i := 465) (by decide +kernel)
theorem mw466 : Cond.code yX10_put cX10_put 3 none ∈ lw_tbl := List.mem_of_getElem? (i := 466) (by decide +kernel)
theorem mw467 : Cond.methodLink RX8 43 yX0_add ∈ lw_tbl := List.mem_of_getElem? (i := 467) (by decide +kernel)
theorem mw468 : Cond.instanceMethod yX0_add ∈ lw_tbl := List.mem_of_getElem? (i := 468) (by decide +kernel)
theorem mw469 : Cond.selects RX0 yX0_add yX0_add ∈ lw_tbl := List.mem_of_getElem? (i := 469) (by decide +kernel)
theorem mw470 : Cond.code yX0_add cX0_add 3 (some .int) ∈ lw_tbl := List.mem_of_getElem? (i := 470) (by decide +kernel)
theorem mw471 : Cond.methodLinkNest RX0 29 yX10_put "BambooTower" ∈ lw_tbl := List.mem_of_getElem? (i := 471) (by decide +kernel)
theorem mw472 : Cond.methodLink RX10 94 yX10_kept ∈ lw_tbl := List.mem_of_getElem? (i := 472) (by decide +kernel)
theorem mw474 : Cond.instanceMethod yX10_kept ∈ lw_tbl := List.mem_of_getElem? (i := 474) (by decide +kernel)
theorem mw475 : Cond.code yX10_kept cX10_kept 2 (some .int) ∈ lw_tbl := List.mem_of_getElem? (i := 475) (by decide +kernel)
theorem mw476 : Cond.methodLink RX10 333 yX2_keepNoted ∈ lw_tbl := List.mem_of_getElem? (i := 476) (by decide +kernel)
theorem mw477 : Cond.instanceMethod yX2_keepNoted ∈ lw_tbl := List.mem_of_getElem? (i := 477) (by decide +kernel)
theorem mw478 : Cond.selects RX2 yX2_keepNoted yX2_keepNoted ∈ lw_tbl := List.mem_of_getElem? (i := 478) (by decide +kernel)
theorem mw479 : Cond.code yX2_keepNoted cX2_keepNoted 1 none ∈ lw_tbl := List.mem_of_getElem? (i := 479) (by decide +kernel)
theorem mw480 : Cond.methodLink RX2 37 yJ9_min_7cf53 ∈ lw_tbl := List.mem_of_getElem? (i := 480) (by decide +kernel)
theorem mw481 : Cond.methodLink RL 28 yX10_strips ∈ lw_tbl := List.mem_of_getElem? (i := 481) (by decide +kernel)
theorem mw482 : Cond.instanceMethod yX10_strips ∈ lw_tbl := List.mem_of_getElem? (i := 482) (by decide +kernel)
theorem mw483 : Cond.selects RX10 yX10_strips yX10_strips ∈ lw_tbl := List.mem_of_getElem? (i := 483) (by decide +kernel)
theorem mw484 : Cond.code yX10_strips cX10_strips 2 (some .int) ∈ lw_tbl := List.mem_of_getElem? (i := 484) (by decide +kernel)
theorem mw485 : Cond.methodLink RX10 98 yX8_addStrips ∈ lw_tbl := List.mem_of_getElem? (i := 485) (by decide +kernel)
theorem mw486 : Cond.instanceMethod yX8_addStrips ∈ lw_tbl := List.mem_of_getElem? (i := 486) (by decide +kernel)
theorem mw487 : Cond.selects RX8 yX8_addStrips yX8_addStrips ∈ lw_tbl := List.mem_of_getElem? (i := 487) (by decide +kernel)
theorem mw488 : Cond.code yX8_addStrips cX8_addStrips 2 (some .int) ∈ lw_tbl := List.mem_of_getElem? (i := 488) (by decide +kernel)
theorem mw489 : Cond.methodLink RX8 49 yJ9_min_7cf53 ∈ lw_tbl := List.mem_of_getElem? (i := 489) (by decide +kernel)
theorem mw490 : Cond.methodLink RL 33 yX10_build ∈ lw_tbl := List.mem_of_getElem? (i := 490) (by decide +kernel)
theorem mw491 : Cond.instanceMethod yX10_build ∈ lw_tbl := List.mem_of_getElem? (i := 491) (by decide +kernel)
theorem mw492 : Cond.selects RX10 yX10_build yX10_build ∈ lw_tbl := List.mem_of_getElem? (i := 492) (by decide +kernel)
theorem mw493 : Cond.code yX10_build cX10_build 4 (some .int) ∈ lw_tbl := List.mem_of_getElem? (i := 493) (by decide +kernel)
theorem mw494 : Cond.methodLink RX10 101 yX8_addStorey ∈ lw_tbl := List.mem_of_getElem? (i := 494) (by decide +kernel)
theorem mw495 : Cond.instanceMethod yX8_addStorey ∈ lw_tbl := List.mem_of_getElem? (i := 495) (by decide +kernel)
theorem mw496 : Cond.selects RX8 yX8_addStorey yX8_addStorey ∈ lw_tbl := List.mem_of_getElem? (i := 496) (by decide +kernel)
theorem mw497 : Cond.code yX8_addStorey cX8_addStorey 5 (some .int) ∈ lw_tbl := List.mem_of_getElem? (i := 497) (by decide +kernel)
theorem mw498 : Cond.methodLink RX8 54 yX0_has ∈ lw_tbl := List.mem_of_getElem? (i := 498) (by decide +kernel)
theorem mw499 : Cond.instanceMethod yX0_has ∈ lw_tbl := List.mem_of_getElem? (i := 499) (by decide +kernel)
theorem mw500 : Cond.selects RX0 yX0_has yX0_has ∈ lw_tbl := List.mem_of_getElem? (i := 500) (by decide +kernel)
theorem mw501 : Cond.code yX0_has cX0_has 2 (some .boolean) ∈ lw_tbl := List.mem_of_getElem? (i := 501) (by decide +kernel)
theorem mw502 : Cond.methodLink RX8 65 yX7_isWarned ∈ lw_tbl := List.mem_of_getElem? (i := 502) (by decide +kernel)
theorem mw503 : Cond.instanceMethod yX7_isWarned ∈ lw_tbl := List.mem_of_getElem? (i := 503) (by decide +kernel)
theorem mw504 : Cond.selects RX7 yX7_isWarned yX7_isWarned ∈ lw_tbl := List.mem_of_getElem? (i := 504) (by decide +kernel)
theorem mw505 : Cond.code yX7_isWarned cX7_isWarned 1 (some .boolean) ∈ lw_tbl := List.mem_of_getElem? (i := 505) (by decide +kernel)
theorem mw506 : Cond.methodLink RX8 72 yX0_polesOf ∈ lw_tbl := List.mem_of_getElem? (i := 506) (by decide +kernel)
theorem mw507 : Cond.instanceMethod yX0_polesOf ∈ lw_tbl := List.mem_of_getElem? (i := 507) (by decide +kernel)
theorem mw508 : Cond.selects RX0 yX0_polesOf yX0_polesOf ∈ lw_tbl := List.mem_of_getElem? (i := 508) (by decide +kernel)
theorem mw509 : Cond.code yX0_polesOf cX0_polesOf 2 (some .int) ∈ lw_tbl := List.mem_of_getElem? (i := 509) (by decide +kernel)
theorem mw510 : Cond.methodLinkNest RX0 22 yX10_at "BambooTower" ∈ lw_tbl := List.mem_of_getElem? (i := 510) (by decide +kernel)
theorem mw511 : Cond.static yX10_at ∈ lw_tbl := List.mem_of_getElem? (i := 511) (by decide +kernel)
theorem mw512 : Cond.code yX10_at cX10_at 2 (some .int) ∈ lw_tbl := List.mem_of_getElem? (i := 512) (by decide +kernel)
theorem mw513 : Cond.methodLink RX8 76 yX0_takeOut ∈ lw_tbl := List.mem_of_getElem? (i := 513) (by decide +kernel)
theorem mw514 : Cond.instanceMethod yX0_takeOut ∈ lw_tbl := List.mem_of_getElem? (i := 514) (by decide +kernel)
theorem mw515 : Cond.selects RX0 yX0_takeOut yX0_takeOut ∈ lw_tbl := List.mem_of_getElem? (i := 515) (by decide +kernel)
theorem mw516 : Cond.code yX0_takeOut cX0_takeOut 3 none ∈ lw_tbl := List.mem_of_getElem? (i := 516) (by decide +kernel)
theorem mw517 : Cond.methodLink RX0 33 yX0_polesOf ∈ lw_tbl := List.mem_of_getElem? (i := 517) (by decide +kernel)
theorem mw518 : Cond.methodLink RX8 83 yX0_weeksOf ∈ lw_tbl := List.mem_of_getElem? (i := 518) (by decide +kernel)
theorem mw519 : Cond.instanceMethod yX0_weeksOf ∈ lw_tbl := List.mem_of_getElem? (i := 519) (by decide +kernel)
theorem mw520 : Cond.selects RX0 yX0_weeksOf yX0_weeksOf ∈ lw_tbl := List.mem_of_getElem? (i := 520) (by decide +kernel)
theorem mw521 : Cond.code yX0_weeksOf cX0_weeksOf 2 (some .int) ∈ lw_tbl := List.mem_of_getElem? (i := 521) (by decide +kernel)
theorem mw522 : Cond.methodLink RX8 86 yX9_add ∈ lw_tbl := List.mem_of_getElem? (i := 522) (by decide +kernel)
theorem mw523 : Cond.instanceMethod yX9_add ∈ lw_tbl := List.mem_of_getElem? (i := 523) (by decide +kernel)
theorem mw524 : Cond.selects RX9 yX9_add yX9_add ∈ lw_tbl := List.mem_of_getElem? (i := 524) (by decide +kernel)
theorem mw525 : Cond.code yX9_add cX9_add 4 (some .int) ∈ lw_tbl := List.mem_of_getElem? (i := 525) (by decide +kernel)
theorem mw526 : Cond.methodLinkNest RX9 73 yX10_put "BambooTower" ∈ lw_tbl := List.mem_of_getElem? (i := 526) (by decide +kernel)
theorem mw527 : Cond.methodLink RX9 77 yX9_bind ∈ lw_tbl := List.mem_of_getElem? (i := 527) (by decide +kernel)
theorem mw528 : Cond.instanceMethod yX9_bind ∈ lw_tbl := List.mem_of_getElem? (i := 528) (by decide +kernel)
theorem mw529 : Cond.selects RX9 yX9_bind yX9_bind ∈ lw_tbl := List.mem_of_getElem? (i := 529) (by decide +kernel)
theorem mw530 : Cond.code yX9_bind cX9_bind 2 none ∈ lw_tbl := List.mem_of_getElem? (i := 530) (by decide +kernel)
theorem mw531 : Cond.methodLink RL 38 yX10_tie ∈ lw_tbl := List.mem_of_getElem? (i := 531) (by decide +kernel)
theorem mw532 : Cond.instanceMethod yX10_tie ∈ lw_tbl := List.mem_of_getElem? (i := 532) (by decide +kernel)
theorem mw533 : Cond.selects RX10 yX10_tie yX10_tie ∈ lw_tbl := List.mem_of_getElem? (i := 533) (by decide +kernel)
theorem mw534 : Cond.code yX10_tie cX10_tie 2 (some .int) ∈ lw_tbl := List.mem_of_getElem? (i := 534) (by decide +kernel)
theorem mw535 : Cond.methodLink RX10 105 yX8_tieAnew ∈ lw_tbl := List.mem_of_getElem? (i := 535) (by decide +kernel)
theorem mw536 : Cond.instanceMethod yX8_tieAnew ∈ lw_tbl := List.mem_of_getElem? (i := 536) (by decide +kernel)
theorem mw537 : Cond.selects RX8 yX8_tieAnew yX8_tieAnew ∈ lw_tbl := List.mem_of_getElem? (i := 537) (by decide +kernel)
theorem mw538 : Cond.code yX8_tieAnew cX8_tieAnew 4 (some .int) ∈ lw_tbl := List.mem_of_getElem? (i := 538) (by decide +kernel)
theorem mw539 : Cond.methodLink RX8 89 yX9_has ∈ lw_tbl := List.mem_of_getElem? (i := 539) (by decide +kernel)
theorem mw540 : Cond.instanceMethod yX9_has ∈ lw_tbl := List.mem_of_getElem? (i := 540) (by decide +kernel)
theorem mw541 : Cond.selects RX9 yX9_has yX9_has ∈ lw_tbl := List.mem_of_getElem? (i := 541) (by decide +kernel)
theorem mw542 : Cond.code yX9_has cX9_has 2 (some .boolean) ∈ lw_tbl := List.mem_of_getElem? (i := 542) (by decide +kernel)
theorem mw543 : Cond.methodLink RX8 90 yX9_tieOf ∈ lw_tbl := List.mem_of_getElem? (i := 543) (by decide +kernel)
theorem mw544 : Cond.instanceMethod yX9_tieOf ∈ lw_tbl := List.mem_of_getElem? (i := 544) (by decide +kernel)
theorem mw545 : Cond.selects RX9 yX9_tieOf yX9_tieOf ∈ lw_tbl := List.mem_of_getElem? (i := 545) (by decide +kernel)
theorem mw546 : Cond.code yX9_tieOf cX9_tieOf 2 (some .int) ∈ lw_tbl := List.mem_of_getElem? (i := 546) (by decide +kernel)
theorem mw547 : Cond.methodLinkNest RX9 34 yX10_at "BambooTower" ∈ lw_tbl := List.mem_of_getElem? (i := 547) (by decide +kernel)
theorem mw548 : Cond.methodLink RX8 93 yX9_stripsFor ∈ lw_tbl := List.mem_of_getElem? (i := 548) (by decide +kernel)
theorem mw549 : Cond.instanceMethod yX9_stripsFor ∈ lw_tbl := List.mem_of_getElem? (i := 549) (by decide +kernel)
theorem mw550 : Cond.selects RX9 yX9_stripsFor yX9_stripsFor ∈ lw_tbl := List.mem_of_getElem? (i := 550) (by decide +kernel)
theorem mw551 : Cond.code yX9_stripsFor cX9_stripsFor 2 (some .int) ∈ lw_tbl := List.mem_of_getElem? (i := 551) (by decide +kernel)
theorem mw552 : Cond.methodLink RX9 42 yX9_polesOf ∈ lw_tbl := List.mem_of_getElem? (i := 552) (by decide +kernel)
theorem mw553 : Cond.instanceMethod yX9_polesOf ∈ lw_tbl := List.mem_of_getElem? (i := 553) (by decide +kernel)
theorem mw554 : Cond.selects RX9 yX9_polesOf yX9_polesOf ∈ lw_tbl := List.mem_of_getElem? (i := 554) (by decide +kernel)
theorem mw555 : Cond.code yX9_polesOf cX9_polesOf 2 (some .int) ∈ lw_tbl := List.mem_of_getElem? (i := 555) (by decide +kernel)
theorem mw556 : Cond.methodLink RX8 96 yX9_bind ∈ lw_tbl := List.mem_of_getElem? (i := 556) (by decide +kernel)
theorem mw557 : Cond.methodLink RL 42 yX10_crew ∈ lw_tbl := List.mem_of_getElem? (i := 557) (by decide +kernel)
theorem mw558 : Cond.instanceMethod yX10_crew ∈ lw_tbl := List.mem_of_getElem? (i := 558) (by decide +kernel)
theorem mw559 : Cond.selects RX10 yX10_crew yX10_crew ∈ lw_tbl := List.mem_of_getElem? (i := 559) (by decide +kernel)
theorem mw560 : Cond.code yX10_crew cX10_crew 2 (some .int) ∈ lw_tbl := List.mem_of_getElem? (i := 560) (by decide +kernel)
theorem mw561 : Cond.methodLink RX10 108 yX8_addCrew ∈ lw_tbl := List.mem_of_getElem? (i := 561) (by decide +kernel)
theorem mw562 : Cond.instanceMethod yX8_addCrew ∈ lw_tbl := List.mem_of_getElem? (i := 562) (by decide +kernel)
theorem mw563 : Cond.selects RX8 yX8_addCrew yX8_addCrew ∈ lw_tbl := List.mem_of_getElem? (i := 563) (by decide +kernel)
theorem mw564 : Cond.code yX8_addCrew cX8_addCrew 2 (some .int) ∈ lw_tbl := List.mem_of_getElem? (i := 564) (by decide +kernel)
theorem mw565 : Cond.methodLink RX8 107 yX1_add ∈ lw_tbl := List.mem_of_getElem? (i := 565) (by decide +kernel)
theorem mw566 : Cond.instanceMethod yX1_add ∈ lw_tbl := List.mem_of_getElem? (i := 566) (by decide +kernel)
theorem mw567 : Cond.selects RX1 yX1_add yX1_add ∈ lw_tbl := List.mem_of_getElem? (i := 567) (by decide +kernel)
theorem mw568 : Cond.code yX1_add cX1_add 2 (some .int) ∈ lw_tbl := List.mem_of_getElem? (i := 568) (by decide +kernel)
theorem mw569 : Cond.methodLinkNest RX1 45 yX10_put "BambooTower" ∈ lw_tbl := List.mem_of_getElem? (i := 569) (by decide +kernel)
theorem mw570 : Cond.methodLink RL 46 yX10_up ∈ lw_tbl := List.mem_of_getElem? (i := 570) (by decide +kernel)
theorem mw571 : Cond.instanceMethod yX10_up ∈ lw_tbl := List.mem_of_getElem? (i := 571) (by decide +kernel)
theorem mw572 : Cond.selects RX10 yX10_up yX10_up ∈ lw_tbl := List.mem_of_getElem? (i := 572) (by decide +kernel)
theorem mw573 : Cond.code yX10_up cX10_up 3 (some .int) ∈ lw_tbl := List.mem_of_getElem? (i := 573) (by decide +kernel)
theorem mw574 : Cond.methodLink RX10 111 yX8_sendUp ∈ lw_tbl := List.mem_of_getElem? (i := 574) (by decide +kernel)
theorem mw575 : Cond.instanceMethod yX8_sendUp ∈ lw_tbl := List.mem_of_getElem? (i := 575) (by decide +kernel)
theorem mw576 : Cond.selects RX8 yX8_sendUp yX8_sendUp ∈ lw_tbl := List.mem_of_getElem? (i := 576) (by decide +kernel)
theorem mw577 : Cond.code yX8_sendUp cX8_sendUp 4 (some .int) ∈ lw_tbl := List.mem_of_getElem? (i := 577) (by decide +kernel)
theorem mw578 : Cond.methodLink RX8 109 yX1_has ∈ lw_tbl := List.mem_of_getElem? (i := 578) (by decide +kernel)
theorem mw579 : Cond.instanceMethod yX1_has ∈ lw_tbl := List.mem_of_getElem? (i := 579) (by decide +kernel)
theorem mw580 : Cond.selects RX1 yX1_has yX1_has ∈ lw_tbl := List.mem_of_getElem? (i := 580) (by decide +kernel)
theorem mw581 : Cond.code yX1_has cX1_has 2 (some .boolean) ∈ lw_tbl := List.mem_of_getElem? (i := 581) (by decide +kernel)
theorem mw582 : Cond.methodLink RX8 110 yX1_placeOf ∈ lw_tbl := List.mem_of_getElem? (i := 582) (by decide +kernel)
theorem mw583 : Cond.instanceMethod yX1_placeOf ∈ lw_tbl := List.mem_of_getElem? (i := 583) (by decide +kernel)
theorem mw584 : Cond.selects RX1 yX1_placeOf yX1_placeOf ∈ lw_tbl := List.mem_of_getElem? (i := 584) (by decide +kernel)
theorem mw585 : Cond.code yX1_placeOf cX1_placeOf 2 (some .int) ∈ lw_tbl := List.mem_of_getElem? (i := 585) (by decide +kernel)
theorem mw586 : Cond.methodLinkNest RX1 25 yX10_at "BambooTower" ∈ lw_tbl := List.mem_of_getElem? (i := 586) (by decide +kernel)
theorem mw587 : Cond.methodLink RX8 113 yX9_lowestOldUpTo ∈ lw_tbl := List.mem_of_getElem? (i := 587) (by decide +kernel)
theorem mw588 : Cond.instanceMethod yX9_lowestOldUpTo ∈ lw_tbl := List.mem_of_getElem? (i := 588) (by decide +kernel)
theorem mw589 : Cond.selects RX9 yX9_lowestOldUpTo yX9_lowestOldUpTo ∈ lw_tbl := List.mem_of_getElem? (i := 589) (by decide +kernel)
theorem mw590 : Cond.code yX9_lowestOldUpTo cX9_lowestOldUpTo 3 (some .int) ∈ lw_tbl := List.mem_of_getElem? (i := 590) (by decide +kernel)
theorem mw591 : Cond.methodLink RX8 116 yX9_isShut ∈ lw_tbl := List.mem_of_getElem? (i := 591) (by decide +kernel)
theorem mw592 : Cond.instanceMethod yX9_isShut ∈ lw_tbl := List.mem_of_getElem? (i := 592) (by decide +kernel)
theorem mw593 : Cond.selects RX9 yX9_isShut yX9_isShut ∈ lw_tbl := List.mem_of_getElem? (i := 593) (by decide +kernel)
theorem mw594 : Cond.code yX9_isShut cX9_isShut 2 (some .boolean) ∈ lw_tbl := List.mem_of_getElem? (i := 594) (by decide +kernel)
theorem mw595 : Cond.methodLink RX9 38 yX9_shutterOf ∈ lw_tbl := List.mem_of_getElem? (i := 595) (by decide +kernel)
theorem mw596 : Cond.instanceMethod yX9_shutterOf ∈ lw_tbl := List.mem_of_getElem? (i := 596) (by decide +kernel)
theorem mw597 : Cond.selects RX9 yX9_shutterOf yX9_shutterOf ∈ lw_tbl := List.mem_of_getElem? (i := 597) (by decide +kernel)
theorem mw598 : Cond.code yX9_shutterOf cX9_shutterOf 2 (some .int) ∈ lw_tbl := List.mem_of_getElem? (i := 598) (by decide +kernel)
theorem mw599 : Cond.methodLink RX8 119 yX9_shutterOf ∈ lw_tbl := List.mem_of_getElem? (i := 599) (by decide +kernel)
theorem mw600 : Cond.methodLink RX8 122 yX6_refuseShut ∈ lw_tbl := List.mem_of_getElem? (i := 600) (by decide +kernel)
theorem mw601 : Cond.instanceMethod yX6_refuseShut ∈ lw_tbl := List.mem_of_getElem? (i := 601) (by decide +kernel)
theorem mw602 : Cond.selects RX6 yX6_refuseShut yX6_refuseShut ∈ lw_tbl := List.mem_of_getElem? (i := 602) (by decide +kernel)
theorem mw603 : Cond.code yX6_refuseShut cX6_refuseShut 3 (some .int) ∈ lw_tbl := List.mem_of_getElem? (i := 603) (by decide +kernel)
theorem mw604 : Cond.methodLink RX6 26 yX6_refuse ∈ lw_tbl := List.mem_of_getElem? (i := 604) (by decide +kernel)
theorem mw605 : Cond.methodLink RX8 125 yX1_moveTo ∈ lw_tbl := List.mem_of_getElem? (i := 605) (by decide +kernel)
theorem mw606 : Cond.instanceMethod yX1_moveTo ∈ lw_tbl := List.mem_of_getElem? (i := 606) (by decide +kernel)
theorem mw607 : Cond.selects RX1 yX1_moveTo yX1_moveTo ∈ lw_tbl := List.mem_of_getElem? (i := 607) (by decide +kernel)
theorem mw608 : Cond.code yX1_moveTo cX1_moveTo 3 none ∈ lw_tbl := List.mem_of_getElem? (i := 608) (by decide +kernel)
theorem mw609 : Cond.methodLink RX8 128 yX1_howManyOn ∈ lw_tbl := List.mem_of_getElem? (i := 609) (by decide +kernel)
theorem mw610 : Cond.instanceMethod yX1_howManyOn ∈ lw_tbl := List.mem_of_getElem? (i := 610) (by decide +kernel)
theorem mw611 : Cond.selects RX1 yX1_howManyOn yX1_howManyOn ∈ lw_tbl := List.mem_of_getElem? (i := 611) (by decide +kernel)
theorem mw612 : Cond.code yX1_howManyOn cX1_howManyOn 2 (some .int) ∈ lw_tbl := List.mem_of_getElem? (i := 612) (by decide +kernel)
theorem mw613 : Cond.methodLink RX1 33 yX1_bitsOn ∈ lw_tbl := List.mem_of_getElem? (i := 613) (by decide +kernel)
theorem mw614 : Cond.instanceMethod yX1_bitsOn ∈ lw_tbl := List.mem_of_getElem? (i := 614) (by decide +kernel)
theorem mw615 : Cond.selects RX1 yX1_bitsOn yX1_bitsOn ∈ lw_tbl := List.mem_of_getElem? (i := 615) (by decide +kernel)
theorem mw616 : Cond.code yX1_bitsOn cX1_bitsOn 4 (some .int) ∈ lw_tbl := List.mem_of_getElem? (i := 616) (by decide +kernel)
theorem mw617 : Cond.methodLink RX1 29 yX1_placeOf ∈ lw_tbl := List.mem_of_getElem? (i := 617) (by decide +kernel)
theorem mw618 : Cond.methodLink RX1 36 yJ6_bitCount_0f7a4 ∈ lw_tbl := List.mem_of_getElem? (i := 618) (by decide +kernel)
theorem mw619 : Cond.static yJ6_bitCount_0f7a4 ∈ lw_tbl := List.mem_of_getElem? (i := 619) (by decide +kernel)
theorem mw620 : Cond.code yJ6_bitCount_0f7a4 cJ6_bitCount_0f7a4 1 (some .int) ∈ lw_tbl := List.mem_of_getElem? (i := 620) (by decide +kernel)
theorem mw621 : Cond.constant RJ6 265 1431655765 ∈ lw_tbl := List.mem_of_getElem? (i := 621) (by decide +kernel)
theorem mw622 : Cond.constant RJ6 266 858993459 ∈ lw_tbl := List.mem_of_getElem? (i := 622) (by decide +kernel)
theorem mw623 : Cond.constant RJ6 267 252645135 ∈ lw_tbl := List.mem_of_getElem? (i := 623) (by decide +kernel)
theorem mw624 : Cond.methodLink RL 50 yX10_down ∈ lw_tbl := List.mem_of_getElem? (i := 624) (by decide +kernel)
theorem mw625 : Cond.instanceMethod yX10_down ∈ lw_tbl := List.mem_of_getElem? (i := 625) (by decide +kernel)
theorem mw626 : Cond.selects RX10 yX10_down yX10_down ∈ lw_tbl := List.mem_of_getElem? (i := 626) (by decide +kernel)
theorem mw627 : Cond.code yX10_down cX10_down 2 (some .int) ∈ lw_tbl := List.mem_of_getElem? (i := 627) (by decide +kernel)
theorem mw628 : Cond.methodLink RX10 114 yX8_callDown ∈ lw_tbl := List.mem_of_getElem? (i := 628) (by decide +kernel)
theorem mw629 : Cond.instanceMethod yX8_callDown ∈ lw_tbl := List.mem_of_getElem? (i := 629) (by decide +kernel)
theorem mw630 : Cond.selects RX8 yX8_callDown yX8_callDown ∈ lw_tbl := List.mem_of_getElem? (i := 630) (by decide +kernel)
theorem mw631 : Cond.code yX8_callDown cX8_callDown 3 (some .int) ∈ lw_tbl := List.mem_of_getElem? (i := 631) (by decide +kernel)
theorem mw632 : Cond.methodLink RX8 131 yX1_isUp ∈ lw_tbl := List.mem_of_getElem? (i := 632) (by decide +kernel)
theorem mw633 : Cond.instanceMethod yX1_isUp ∈ lw_tbl := List.mem_of_getElem? (i := 633) (by decide +kernel)
theorem mw634 : Cond.selects RX1 yX1_isUp yX1_isUp ∈ lw_tbl := List.mem_of_getElem? (i := 634) (by decide +kernel)
theorem mw635 : Cond.code yX1_isUp cX1_isUp 2 (some .boolean) ∈ lw_tbl := List.mem_of_getElem? (i := 635) (by decide +kernel)
theorem mw636 : Cond.methodLink RL 54 yX10_lift ∈ lw_tbl := List.mem_of_getElem? (i := 636) (by decide +kernel)
theorem mw637 : Cond.instanceMethod yX10_lift ∈ lw_tbl := List.mem_of_getElem? (i := 637) (by decide +kernel)
theorem mw638 : Cond.selects RX10 yX10_lift yX10_lift ∈ lw_tbl := List.mem_of_getElem? (i := 638) (by decide +kernel)
theorem mw639 : Cond.code yX10_lift cX10_lift 3 (some .int) ∈ lw_tbl := List.mem_of_getElem? (i := 639) (by decide +kernel)
theorem mw640 : Cond.methodLink RX10 117 yX8_bringLoads ∈ lw_tbl := List.mem_of_getElem? (i := 640) (by decide +kernel)
theorem mw641 : Cond.instanceMethod yX8_bringLoads ∈ lw_tbl := List.mem_of_getElem? (i := 641) (by decide +kernel)
theorem mw642 : Cond.selects RX8 yX8_bringLoads yX8_bringLoads ∈ lw_tbl := List.mem_of_getElem? (i := 642) (by decide +kernel)
theorem mw643 : Cond.code yX8_bringLoads cX8_bringLoads 4 (some .int) ∈ lw_tbl := List.mem_of_getElem? (i := 643) (by decide +kernel)
theorem mw644 : Cond.methodLink RX8 134 yX9_loadsOf ∈ lw_tbl := List.mem_of_getElem? (i := 644) (by decide +kernel)
theorem mw645 : Cond.instanceMethod yX9_loadsOf ∈ lw_tbl := List.mem_of_getElem? (i := 645) (by decide +kernel)
theorem mw646 : Cond.selects RX9 yX9_loadsOf yX9_loadsOf ∈ lw_tbl := List.mem_of_getElem? (i := 646) (by decide +kernel)
theorem mw647 : Cond.code yX9_loadsOf cX9_loadsOf 2 (some .int) ∈ lw_tbl := List.mem_of_getElem? (i := 647) (by decide +kernel)
theorem mw648 : Cond.methodLink RX8 140 yX9_addLoads ∈ lw_tbl := List.mem_of_getElem? (i := 648) (by decide +kernel)
theorem mw649 : Cond.instanceMethod yX9_addLoads ∈ lw_tbl := List.mem_of_getElem? (i := 649) (by decide +kernel)
theorem mw650 : Cond.selects RX9 yX9_addLoads yX9_addLoads ∈ lw_tbl := List.mem_of_getElem? (i := 650) (by decide +kernel)
theorem mw651 : Cond.code yX9_addLoads cX9_addLoads 3 none ∈ lw_tbl := List.mem_of_getElem? (i := 651) (by decide +kernel)
theorem mw652 : Cond.methodLink RX9 81 yX9_loadsOf ∈ lw_tbl := List.mem_of_getElem? (i := 652) (by decide +kernel)
theorem mw653 : Cond.methodLink RL 58 yX10_signal ∈ lw_tbl := List.mem_of_getElem? (i := 653) (by decide +kernel)
theorem mw654 : Cond.instanceMethod yX10_signal ∈ lw_tbl := List.mem_of_getElem? (i := 654) (by decide +kernel)
theorem mw655 : Cond.selects RX10 yX10_signal yX10_signal ∈ lw_tbl := List.mem_of_getElem? (i := 655) (by decide +kernel)
theorem mw656 : Cond.code yX10_signal cX10_signal 2 (some .int) ∈ lw_tbl := List.mem_of_getElem? (i := 656) (by decide +kernel)
theorem mw657 : Cond.methodLink RX10 120 yX8_changeSignal ∈ lw_tbl := List.mem_of_getElem? (i := 657) (by decide +kernel)
theorem mw658 : Cond.instanceMethod yX8_changeSignal ∈ lw_tbl := List.mem_of_getElem? (i := 658) (by decide +kernel)
theorem mw659 : Cond.selects RX8 yX8_changeSignal yX8_changeSignal ∈ lw_tbl := List.mem_of_getElem? (i := 659) (by decide +kernel)
theorem mw660 : Cond.code yX8_changeSignal cX8_changeSignal 3 (some .int) ∈ lw_tbl := List.mem_of_getElem? (i := 660) (by decide +kernel)
theorem mw661 : Cond.methodLink RX8 143 yX1_allComeDown ∈ lw_tbl := List.mem_of_getElem? (i := 661) (by decide +kernel)
theorem mw662 : Cond.instanceMethod yX1_allComeDown ∈ lw_tbl := List.mem_of_getElem? (i := 662) (by decide +kernel)
theorem mw663 : Cond.selects RX1 yX1_allComeDown yX1_allComeDown ∈ lw_tbl := List.mem_of_getElem? (i := 663) (by decide +kernel)
theorem mw664 : Cond.code yX1_allComeDown cX1_allComeDown 2 none ∈ lw_tbl := List.mem_of_getElem? (i := 664) (by decide +kernel)
theorem mw665 : Cond.methodLink RX1 49 yX1_moveTo ∈ lw_tbl := List.mem_of_getElem? (i := 665) (by decide +kernel)
theorem mw666 : Cond.methodLink RL 62 yX10_inspector ∈ lw_tbl := List.mem_of_getElem? (i := 666) (by decide +kernel)
theorem mw667 : Cond.instanceMethod yX10_inspector ∈ lw_tbl := List.mem_of_getElem? (i := 667) (by decide +kernel)
theorem mw668 : Cond.selects RX10 yX10_inspector yX10_inspector ∈ lw_tbl := List.mem_of_getElem? (i := 668) (by decide +kernel)
theorem mw669 : Cond.code yX10_inspector cX10_inspector 2 (some .int) ∈ lw_tbl := List.mem_of_getElem? (i := 669) (by decide +kernel)
theorem mw670 : Cond.methodLink RX10 123 yX8_addInspector ∈ lw_tbl := List.mem_of_getElem? (i := 670) (by decide +kernel)
theorem mw671 : Cond.instanceMethod yX8_addInspector ∈ lw_tbl := List.mem_of_getElem? (i := 671) (by decide +kernel)
theorem mw672 : Cond.selects RX8 yX8_addInspector yX8_addInspector ∈ lw_tbl := List.mem_of_getElem? (i := 672) (by decide +kernel)
theorem mw673 : Cond.code yX8_addInspector cX8_addInspector 2 (some .int) ∈ lw_tbl := List.mem_of_getElem? (i := 673) (by decide +kernel)
theorem mw674 : Cond.methodLink RX8 153 yX3_add ∈ lw_tbl := List.mem_of_getElem? (i := 674) (by decide +kernel)
theorem mw675 : Cond.instanceMethod yX3_add ∈ lw_tbl := List.mem_of_getElem? (i := 675) (by decide +kernel)
theorem mw676 : Cond.selects RX3 yX3_add yX3_add ∈ lw_tbl := List.mem_of_getElem? (i := 676) (by decide +kernel)
theorem mw677 : Cond.code yX3_add cX3_add 2 (some .int) ∈ lw_tbl := List.mem_of_getElem? (i := 677) (by decide +kernel)
theorem mw678 : Cond.methodLinkNest RX3 26 yX10_put "BambooTower" ∈ lw_tbl := List.mem_of_getElem? (i := 678) (by decide +kernel)
theorem mw679 : Cond.methodLink RL 66 yX10_inspect ∈ lw_tbl := List.mem_of_getElem? (i := 679) (by decide +kernel)
theorem mw680 : Cond.instanceMethod yX10_inspect ∈ lw_tbl := List.mem_of_getElem? (i := 680) (by decide +kernel)
theorem mw681 : Cond.selects RX10 yX10_inspect yX10_inspect ∈ lw_tbl := List.mem_of_getElem? (i := 681) (by decide +kernel)
theorem mw682 : Cond.code yX10_inspect cX10_inspect 3 (some .int) ∈ lw_tbl := List.mem_of_getElem? (i := 682) (by decide +kernel)
theorem mw683 : Cond.methodLink RX10 126 yX8_lookAt ∈ lw_tbl := List.mem_of_getElem? (i := 683) (by decide +kernel)
theorem mw684 : Cond.instanceMethod yX8_lookAt ∈ lw_tbl := List.mem_of_getElem? (i := 684) (by decide +kernel)
theorem mw685 : Cond.selects RX8 yX8_lookAt yX8_lookAt ∈ lw_tbl := List.mem_of_getElem? (i := 685) (by decide +kernel)
theorem mw686 : Cond.code yX8_lookAt cX8_lookAt 4 (some .int) ∈ lw_tbl := List.mem_of_getElem? (i := 686) (by decide +kernel)
theorem mw687 : Cond.methodLink RX8 154 yX3_has ∈ lw_tbl := List.mem_of_getElem? (i := 687) (by decide +kernel)
theorem mw688 : Cond.instanceMethod yX3_has ∈ lw_tbl := List.mem_of_getElem? (i := 688) (by decide +kernel)
theorem mw689 : Cond.selects RX3 yX3_has yX3_has ∈ lw_tbl := List.mem_of_getElem? (i := 689) (by decide +kernel)
theorem mw690 : Cond.code yX3_has cX3_has 2 (some .boolean) ∈ lw_tbl := List.mem_of_getElem? (i := 690) (by decide +kernel)
theorem mw691 : Cond.methodLink RX8 155 yX3_noseOf ∈ lw_tbl := List.mem_of_getElem? (i := 691) (by decide +kernel)
theorem mw692 : Cond.instanceMethod yX3_noseOf ∈ lw_tbl := List.mem_of_getElem? (i := 692) (by decide +kernel)
theorem mw693 : Cond.selects RX3 yX3_noseOf yX3_noseOf ∈ lw_tbl := List.mem_of_getElem? (i := 693) (by decide +kernel)
theorem mw694 : Cond.code yX3_noseOf cX3_noseOf 2 (some .int) ∈ lw_tbl := List.mem_of_getElem? (i := 694) (by decide +kernel)
theorem mw695 : Cond.methodLinkNest RX3 22 yX10_at "BambooTower" ∈ lw_tbl := List.mem_of_getElem? (i := 695) (by decide +kernel)
theorem mw696 : Cond.methodLink RX8 158 yX9_shut ∈ lw_tbl := List.mem_of_getElem? (i := 696) (by decide +kernel)
theorem mw697 : Cond.instanceMethod yX9_shut ∈ lw_tbl := List.mem_of_getElem? (i := 697) (by decide +kernel)
theorem mw698 : Cond.selects RX9 yX9_shut yX9_shut ∈ lw_tbl := List.mem_of_getElem? (i := 698) (by decide +kernel)
theorem mw699 : Cond.code yX9_shut cX9_shut 3 none ∈ lw_tbl := List.mem_of_getElem? (i := 699) (by decide +kernel)
theorem mw700 : Cond.methodLink RX8 161 yX1_comeDownFrom ∈ lw_tbl := List.mem_of_getElem? (i := 700) (by decide +kernel)
theorem mw701 : Cond.instanceMethod yX1_comeDownFrom ∈ lw_tbl := List.mem_of_getElem? (i := 701) (by decide +kernel)
theorem mw702 : Cond.selects RX1 yX1_comeDownFrom yX1_comeDownFrom ∈ lw_tbl := List.mem_of_getElem? (i := 702) (by decide +kernel)
theorem mw703 : Cond.code yX1_comeDownFrom cX1_comeDownFrom 3 none ∈ lw_tbl := List.mem_of_getElem? (i := 703) (by decide +kernel)
theorem mw704 : Cond.methodLink RX8 164 yX3_addFind ∈ lw_tbl := List.mem_of_getElem? (i := 704) (by decide +kernel)
theorem mw705 : Cond.instanceMethod yX3_addFind ∈ lw_tbl := List.mem_of_getElem? (i := 705) (by decide +kernel)
theorem mw706 : Cond.selects RX3 yX3_addFind yX3_addFind ∈ lw_tbl := List.mem_of_getElem? (i := 706) (by decide +kernel)
theorem mw707 : Cond.code yX3_addFind cX3_addFind 2 none ∈ lw_tbl := List.mem_of_getElem? (i := 707) (by decide +kernel)
theorem mw708 : Cond.methodLink RX3 30 yX3_findsOf ∈ lw_tbl := List.mem_of_getElem? (i := 708) (by decide +kernel)
theorem mw709 : Cond.instanceMethod yX3_findsOf ∈ lw_tbl := List.mem_of_getElem? (i := 709) (by decide +kernel)
theorem mw710 : Cond.selects RX3 yX3_findsOf yX3_findsOf ∈ lw_tbl := List.mem_of_getElem? (i := 710) (by decide +kernel)
theorem mw711 : Cond.code yX3_findsOf cX3_findsOf 2 (some .int) ∈ lw_tbl := List.mem_of_getElem? (i := 711) (by decide +kernel)
theorem mw712 : Cond.methodLink RL 70 yX10_day ∈ lw_tbl := List.mem_of_getElem? (i := 712) (by decide +kernel)
theorem mw713 : Cond.instanceMethod yX10_day ∈ lw_tbl := List.mem_of_getElem? (i := 713) (by decide +kernel)
theorem mw714 : Cond.selects RX10 yX10_day yX10_day ∈ lw_tbl := List.mem_of_getElem? (i := 714) (by decide +kernel)
theorem mw715 : Cond.code yX10_day cX10_day 2 (some .int) ∈ lw_tbl := List.mem_of_getElem? (i := 715) (by decide +kernel)
theorem mw716 : Cond.methodLink RX10 129 yX8_passDays ∈ lw_tbl := List.mem_of_getElem? (i := 716) (by decide +kernel)
theorem mw717 : Cond.instanceMethod yX8_passDays ∈ lw_tbl := List.mem_of_getElem? (i := 717) (by decide +kernel)
theorem mw718 : Cond.selects RX8 yX8_passDays yX8_passDays ∈ lw_tbl := List.mem_of_getElem? (i := 718) (by decide +kernel)
theorem mw719 : Cond.code yX8_passDays cX8_passDays 4 (some .int) ∈ lw_tbl := List.mem_of_getElem? (i := 719) (by decide +kernel)
theorem mw720 : Cond.methodLink RX8 173 yX7_passDay ∈ lw_tbl := List.mem_of_getElem? (i := 720) (by decide +kernel)
theorem mw721 : Cond.instanceMethod yX7_passDay ∈ lw_tbl := List.mem_of_getElem? (i := 721) (by decide +kernel)
theorem mw722 : Cond.selects RX7 yX7_passDay yX7_passDay ∈ lw_tbl := List.mem_of_getElem? (i := 722) (by decide +kernel)
theorem mw723 : Cond.code yX7_passDay cX7_passDay 2 none ∈ lw_tbl := List.mem_of_getElem? (i := 723) (by decide +kernel)
theorem mw724 : Cond.methodLink RX7 73 yX7_wouldWork ∈ lw_tbl := List.mem_of_getElem? (i := 724) (by decide +kernel)
theorem mw725 : Cond.instanceMethod yX7_wouldWork ∈ lw_tbl := List.mem_of_getElem? (i := 725) (by decide +kernel)
theorem mw726 : Cond.selects RX7 yX7_wouldWork yX7_wouldWork ∈ lw_tbl := List.mem_of_getElem? (i := 726) (by decide +kernel)
theorem mw727 : Cond.code yX7_wouldWork cX7_wouldWork 3 (some .boolean) ∈ lw_tbl := List.mem_of_getElem? (i := 727) (by decide +kernel)
theorem mw728 : Cond.methodLink RX7 97 yX1_isUp ∈ lw_tbl := List.mem_of_getElem? (i := 728) (by decide +kernel)
theorem mw729 : Cond.methodLink RX7 100 yX1_placeOf ∈ lw_tbl := List.mem_of_getElem? (i := 729) (by decide +kernel)
theorem mw730 : Cond.methodLink RX7 103 yX9_lowestOldUpTo ∈ lw_tbl := List.mem_of_getElem? (i := 730) (by decide +kernel)
theorem mw731 : Cond.methodLink RX7 106 yX9_hoursOf ∈ lw_tbl := List.mem_of_getElem? (i := 731) (by decide +kernel)
theorem mw732 : Cond.instanceMethod yX9_hoursOf ∈ lw_tbl := List.mem_of_getElem? (i := 732) (by decide +kernel)
theorem mw733 : Cond.selects RX9 yX9_hoursOf yX9_hoursOf ∈ lw_tbl := List.mem_of_getElem? (i := 733) (by decide +kernel)
theorem mw734 : Cond.code yX9_hoursOf cX9_hoursOf 2 (some .int) ∈ lw_tbl := List.mem_of_getElem? (i := 734) (by decide +kernel)
theorem mw735 : Cond.methodLink RX7 109 yX9_loadsOf ∈ lw_tbl := List.mem_of_getElem? (i := 735) (by decide +kernel)
theorem mw736 : Cond.methodLink RX7 77 yX7_letWork ∈ lw_tbl := List.mem_of_getElem? (i := 736) (by decide +kernel)
theorem mw737 : Cond.instanceMethod yX7_letWork ∈ lw_tbl := List.mem_of_getElem? (i := 737) (by decide +kernel)
theorem mw738 : Cond.selects RX7 yX7_letWork yX7_letWork ∈ lw_tbl := List.mem_of_getElem? (i := 738) (by decide +kernel)
theorem mw739 : Cond.code yX7_letWork cX7_letWork 4 none ∈ lw_tbl := List.mem_of_getElem? (i := 739) (by decide +kernel)
theorem mw740 : Cond.methodLink RX7 112 yX1_skillOf ∈ lw_tbl := List.mem_of_getElem? (i := 740) (by decide +kernel)
theorem mw741 : Cond.instanceMethod yX1_skillOf ∈ lw_tbl := List.mem_of_getElem? (i := 741) (by decide +kernel)
theorem mw742 : Cond.selects RX1 yX1_skillOf yX1_skillOf ∈ lw_tbl := List.mem_of_getElem? (i := 742) (by decide +kernel)
theorem mw743 : Cond.code yX1_skillOf cX1_skillOf 2 (some .int) ∈ lw_tbl := List.mem_of_getElem? (i := 743) (by decide +kernel)
theorem mw744 : Cond.methodLink RX7 115 yJ9_min_7cf53 ∈ lw_tbl := List.mem_of_getElem? (i := 744) (by decide +kernel)
theorem mw745 : Cond.methodLink RX7 121 yX9_workOff ∈ lw_tbl := List.mem_of_getElem? (i := 745) (by decide +kernel)
theorem mw746 : Cond.instanceMethod yX9_workOff ∈ lw_tbl := List.mem_of_getElem? (i := 746) (by decide +kernel)
theorem mw747 : Cond.selects RX9 yX9_workOff yX9_workOff ∈ lw_tbl := List.mem_of_getElem? (i := 747) (by decide +kernel)
theorem mw748 : Cond.code yX9_workOff cX9_workOff 3 none ∈ lw_tbl := List.mem_of_getElem? (i := 748) (by decide +kernel)
theorem mw749 : Cond.methodLink RX7 125 yX1_addHours ∈ lw_tbl := List.mem_of_getElem? (i := 749) (by decide +kernel)
theorem mw750 : Cond.instanceMethod yX1_addHours ∈ lw_tbl := List.mem_of_getElem? (i := 750) (by decide +kernel)
theorem mw751 : Cond.selects RX1 yX1_addHours yX1_addHours ∈ lw_tbl := List.mem_of_getElem? (i := 751) (by decide +kernel)
theorem mw752 : Cond.code yX1_addHours cX1_addHours 3 none ∈ lw_tbl := List.mem_of_getElem? (i := 752) (by decide +kernel)
theorem mw753 : Cond.methodLink RX7 81 yX9_makeTiesOlder ∈ lw_tbl := List.mem_of_getElem? (i := 753) (by decide +kernel)
theorem mw754 : Cond.instanceMethod yX9_makeTiesOlder ∈ lw_tbl := List.mem_of_getElem? (i := 754) (by decide +kernel)
theorem mw755 : Cond.selects RX9 yX9_makeTiesOlder yX9_makeTiesOlder ∈ lw_tbl := List.mem_of_getElem? (i := 755) (by decide +kernel)
theorem mw756 : Cond.code yX9_makeTiesOlder cX9_makeTiesOlder 2 none ∈ lw_tbl := List.mem_of_getElem? (i := 756) (by decide +kernel)
theorem mw757 : Cond.methodLinkNest RX9 84 yX10_makeOlder "BambooTower" ∈ lw_tbl := List.mem_of_getElem? (i := 757) (by decide +kernel)
theorem mw758 : Cond.static yX10_makeOlder ∈ lw_tbl := List.mem_of_getElem? (i := 758) (by decide +kernel)
theorem mw759 : Cond.code yX10_makeOlder cX10_makeOlder 5 none ∈ lw_tbl := List.mem_of_getElem? (i := 759) (by decide +kernel)
theorem mw760 : Cond.methodLink RX10 354 yX10_at ∈ lw_tbl := List.mem_of_getElem? (i := 760) (by decide +kernel)
theorem mw761 : Cond.methodLink RX10 369 yX10_put ∈ lw_tbl := List.mem_of_getElem? (i := 761) (by decide +kernel)
theorem mw762 : Cond.methodLink RX7 84 yX9_lowestWeakerThan ∈ lw_tbl := List.mem_of_getElem? (i := 762) (by decide +kernel)
theorem mw763 : Cond.instanceMethod yX9_lowestWeakerThan ∈ lw_tbl := List.mem_of_getElem? (i := 763) (by decide +kernel)
theorem mw764 : Cond.selects RX9 yX9_lowestWeakerThan yX9_lowestWeakerThan ∈ lw_tbl := List.mem_of_getElem? (i := 764) (by decide +kernel)
theorem mw765 : Cond.code yX9_lowestWeakerThan cX9_lowestWeakerThan 3 (some .int) ∈ lw_tbl := List.mem_of_getElem? (i := 765) (by decide +kernel)
theorem mw766 : Cond.methodLink RX9 57 yX9_strengthOf ∈ lw_tbl := List.mem_of_getElem? (i := 766) (by decide +kernel)
theorem mw767 : Cond.instanceMethod yX9_strengthOf ∈ lw_tbl := List.mem_of_getElem? (i := 767) (by decide +kernel)
theorem mw768 : Cond.selects RX9 yX9_strengthOf yX9_strengthOf ∈ lw_tbl := List.mem_of_getElem? (i := 768) (by decide +kernel)
theorem mw769 : Cond.code yX9_strengthOf cX9_strengthOf 3 (some .int) ∈ lw_tbl := List.mem_of_getElem? (i := 769) (by decide +kernel)
theorem mw770 : Cond.methodLink RX7 88 yX7_letFallFrom ∈ lw_tbl := List.mem_of_getElem? (i := 770) (by decide +kernel)
theorem mw772 : Cond.instanceMethod yX7_letFallFrom ∈ lw_tbl := List.mem_of_getElem? (i := 772) (by decide +kernel)
theorem mw773 : Cond.code yX7_letFallFrom cX7_letFallFrom 3 none ∈ lw_tbl := List.mem_of_getElem? (i := 773) (by decide +kernel)
theorem mw774 : Cond.methodLink RX7 129 yX9_polesOf ∈ lw_tbl := List.mem_of_getElem? (i := 774) (by decide +kernel)
theorem mw775 : Cond.methodLink RX7 91 yX0_getOlder ∈ lw_tbl := List.mem_of_getElem? (i := 775) (by decide +kernel)
theorem mw776 : Cond.instanceMethod yX0_getOlder ∈ lw_tbl := List.mem_of_getElem? (i := 776) (by decide +kernel)
theorem mw777 : Cond.selects RX0 yX0_getOlder yX0_getOlder ∈ lw_tbl := List.mem_of_getElem? (i := 777) (by decide +kernel)
theorem mw778 : Cond.code yX0_getOlder cX0_getOlder 1 none ∈ lw_tbl := List.mem_of_getElem? (i := 778) (by decide +kernel)
theorem mw779 : Cond.methodLinkNest RX0 37 yX10_makeOlder "BambooTower" ∈ lw_tbl := List.mem_of_getElem? (i := 779) (by decide +kernel)
theorem mw780 : Cond.methodLink RX7 94 yX9_makePolesOlder ∈ lw_tbl := List.mem_of_getElem? (i := 780) (by decide +kernel)
theorem mw781 : Cond.instanceMethod yX9_makePolesOlder ∈ lw_tbl := List.mem_of_getElem? (i := 781) (by decide +kernel)
theorem mw782 : Cond.selects RX9 yX9_makePolesOlder yX9_makePolesOlder ∈ lw_tbl := List.mem_of_getElem? (i := 782) (by decide +kernel)
theorem mw783 : Cond.code yX9_makePolesOlder cX9_makePolesOlder 1 none ∈ lw_tbl := List.mem_of_getElem? (i := 783) (by decide +kernel)
theorem mw784 : Cond.methodLink RL 74 yX10_script ∈ lw_tbl := List.mem_of_getElem? (i := 784) (by decide +kernel)
theorem mw785 : Cond.instanceMethod yX10_script ∈ lw_tbl := List.mem_of_getElem? (i := 785) (by decide +kernel)
theorem mw786 : Cond.selects RX10 yX10_script yX10_script ∈ lw_tbl := List.mem_of_getElem? (i := 786) (by decide +kernel)
theorem mw787 : Cond.code yX10_script cX10_script 4 (some .int) ∈ lw_tbl := List.mem_of_getElem? (i := 787) (by decide +kernel)
theorem mw788 : Cond.methodLink RX10 132 yX5_read ∈ lw_tbl := List.mem_of_getElem? (i := 788) (by decide +kernel)
theorem mw789 : Cond.instanceMethod yX5_read ∈ lw_tbl := List.mem_of_getElem? (i := 789) (by decide +kernel)
theorem mw790 : Cond.selects RX5 yX5_read yX5_read ∈ lw_tbl := List.mem_of_getElem? (i := 790) (by decide +kernel)
theorem mw791 : Cond.code yX5_read cX5_read 3 (some .int) ∈ lw_tbl := List.mem_of_getElem? (i := 791) (by decide +kernel)
theorem mw792 : Cond.methodLink RX5 25 yX5_readOrder ∈ lw_tbl := List.mem_of_getElem? (i := 792) (by decide +kernel)
theorem mw794 : Cond.instanceMethod yX5_readOrder ∈ lw_tbl := List.mem_of_getElem? (i := 794) (by decide +kernel)
theorem mw795 : Cond.code yX5_readOrder cX5_readOrder 8 (some .boolean) ∈ lw_tbl := List.mem_of_getElem? (i := 795) (by decide +kernel)
theorem mw796 : Cond.methodLink RX5 42 yX4_signAt ∈ lw_tbl := List.mem_of_getElem? (i := 796) (by decide +kernel)
theorem mw797 : Cond.instanceMethod yX4_signAt ∈ lw_tbl := List.mem_of_getElem? (i := 797) (by decide +kernel)
theorem mw798 : Cond.selects RX4 yX4_signAt yX4_signAt ∈ lw_tbl := List.mem_of_getElem? (i := 798) (by decide +kernel)
theorem mw799 : Cond.code yX4_signAt cX4_signAt 2 (some .char) ∈ lw_tbl := List.mem_of_getElem? (i := 799) (by decide +kernel)
theorem mw800 : Cond.methodLink RX5 46 yX5_formOf ∈ lw_tbl := List.mem_of_getElem? (i := 800) (by decide +kernel)
theorem mw801 : Cond.static yX5_formOf ∈ lw_tbl := List.mem_of_getElem? (i := 801) (by decide +kernel)
theorem mw802 : Cond.code yX5_formOf cX5_formOf 1 (some (.object "java/lang/String")) ∈ lw_tbl := List.mem_of_getElem? (i := 802) (by decide +kernel)
theorem mw809 : Cond.methodLink RX5 50 yJ0_isEmpty_aae02 ∈ lw_tbl := List.mem_of_getElem? (i := 809) (by decide +kernel)
theorem mw810 : Cond.instanceMethod yJ0_isEmpty_aae02 ∈ lw_tbl := List.mem_of_getElem? (i := 810) (by decide +kernel)
theorem mw811 : Cond.selects RJ0 yJ0_isEmpty_aae02 yJ0_isEmpty_aae02 ∈ lw_tbl := List.mem_of_getElem? (i := 811) (by decide +kernel)
theorem mw812 : Cond.code yJ0_isEmpty_aae02 cJ0_isEmpty_aae02 1 (some .boolean) ∈ lw_tbl := List.mem_of_getElem? (i := 812) (by decide +kernel)
theorem mw813 : Cond.methodLinkNest RX5 56 yX10_put "BambooTower" ∈ lw_tbl := List.mem_of_getElem? (i := 813) (by decide +kernel)
theorem mw814 : Cond.methodLink RX5 60 yJ0_length_8abf5 ∈ lw_tbl := List.mem_of_getElem? (i := 814) (by decide +kernel)
theorem mw815 : Cond.instanceMethod yJ0_length_8abf5 ∈ lw_tbl := List.mem_of_getElem? (i := 815) (by decide +kernel)
theorem mw816 : Cond.selects RJ0 yJ0_length_8abf5 yJ0_length_8abf5 ∈ lw_tbl := List.mem_of_getElem? (i := 816) (by decide +kernel)
theorem mw817 : Cond.code yJ0_length_8abf5 cJ0_length_8abf5 1 (some .int) ∈ lw_tbl := List.mem_of_getElem? (i := 817) (by decide +kernel)
theorem mw818 : Cond.methodLink RJ0 335 yJ0_coder_7d493 ∈ lw_tbl := List.mem_of_getElem? (i := 818) (by decide +kernel)
theorem mw819 : Cond.instanceMethod yJ0_coder_7d493 ∈ lw_tbl := List.mem_of_getElem? (i := 819) (by decide +kernel)
theorem mw820 : Cond.selects RJ0 yJ0_coder_7d493 yJ0_coder_7d493 ∈ lw_tbl := List.mem_of_getElem? (i := 820) (by decide +kernel)
theorem mw821 : Cond.code yJ0_coder_7d493 cJ0_coder_7d493 1 (some .byte) ∈ lw_tbl := List.mem_of_getElem? (i := 821) (by decide +kernel)
theorem mw822 : Cond.fieldLink RJ0 38 "java/lang/String" "COMPACT_STRINGS" "Z" ∈ lw_tbl := List.mem_of_getElem? (i := 822) (by decide +kernel)
theorem mw824 : Cond.methodLink RX5 63 yJ0_charAt_5068e ∈ lw_tbl := List.mem_of_getElem? (i := 824) (by decide +kernel)
theorem mw825 : Cond.instanceMethod yJ0_charAt_5068e ∈ lw_tbl := List.mem_of_getElem? (i := 825) (by decide +kernel)
theorem mw826 : Cond.selects RJ0 yJ0_charAt_5068e yJ0_charAt_5068e ∈ lw_tbl := List.mem_of_getElem? (i := 826) (by decide +kernel)
theorem mw827 : Cond.code yJ0_charAt_5068e cJ0_charAt_5068e 2 (some .char) ∈ lw_tbl := List.mem_of_getElem? (i := 827) (by decide +kernel)
theorem mw828 : Cond.methodLink RJ0 492 yJ0_isLatin1_aae02 ∈ lw_tbl := List.mem_of_getElem? (i := 828) (by decide +kernel)
theorem mw829 : Cond.instanceMethod yJ0_isLatin1_aae02 ∈ lw_tbl := List.mem_of_getElem? (i := 829) (by decide +kernel)
theorem mw830 : Cond.selects RJ0 yJ0_isLatin1_aae02 yJ0_isLatin1_aae02 ∈ lw_tbl := List.mem_of_getElem? (i := 830) (by decide +kernel)
theorem mw831 : Cond.code yJ0_isLatin1_aae02 cJ0_isLatin1_aae02 1 (some .boolean) ∈ lw_tbl := List.mem_of_getElem? (i := 831) (by decide +kernel)
theorem mw832 : Cond.methodLink RJ0 495 yJ1_charAt_3b067 ∈ lw_tbl := List.mem_of_getElem? (i := 832) (by decide +kernel)
theorem mw833 : Cond.static yJ1_charAt_3b067 ∈ lw_tbl := List.mem_of_getElem? (i := 833) (by decide +kernel)
theorem mw834 : Cond.code yJ1_charAt_3b067 cJ1_charAt_3b067 2 (some .char) ∈ lw_tbl := List.mem_of_getElem? (i := 834) (by decide +kernel)
theorem mw835 : Cond.methodLink RJ1 9 yJ0_checkIndex_df160 ∈ lw_tbl := List.mem_of_getElem? (i := 835) (by decide +kernel)
theorem mw836 : Cond.static yJ0_checkIndex_df160 ∈ lw_tbl := List.mem_of_getElem? (i := 836) (by decide +kernel)
theorem mw837 : Cond.code yJ0_checkIndex_df160 cJ0_checkIndex_df160 2 none ∈ lw_tbl := List.mem_of_getElem? (i := 837) (by decide +kernel)
theorem mw838 : Cond.fieldLink RJ0 1053 "jdk/internal/util/Preconditions" "SIOOBE_FORMATTER" "Ljava/util/function/BiFunction;" ∈ lw_tbl := List.mem_of_getElem? (i := 838) (by decide +kernel)
theorem mw840 : Cond.methodLink RJ0 1059 yJ3_checkIndex_8e157 ∈ lw_tbl := List.mem_of_getElem? (i := 840) (by decide +kernel)
theorem mw841 : Cond.static yJ3_checkIndex_8e157 ∈ lw_tbl := List.mem_of_getElem? (i := 841) (by decide +kernel)
theorem mw842 : Cond.code yJ3_checkIndex_8e157 cJ3_checkIndex_8e157 3 (some .int) ∈ lw_tbl := List.mem_of_getElem? (i := 842) (by decide +kernel)
theorem mw843 : Cond.methodLink RJ0 498 yJ2_charAt_3b067 ∈ lw_tbl := List.mem_of_getElem? (i := 843) (by decide +kernel)
theorem mw844 : Cond.static yJ2_charAt_3b067 ∈ lw_tbl := List.mem_of_getElem? (i := 844) (by decide +kernel)
theorem mw845 : Cond.code yJ2_charAt_3b067 cJ2_charAt_3b067 2 (some .char) ∈ lw_tbl := List.mem_of_getElem? (i := 845) (by decide +kernel)
theorem mw846 : Cond.methodLink RJ2 67 yJ2_checkIndex_2214a ∈ lw_tbl := List.mem_of_getElem? (i := 846) (by decide +kernel)
theorem mw847 : Cond.static yJ2_checkIndex_2214a ∈ lw_tbl := List.mem_of_getElem? (i := 847) (by decide +kernel)
theorem mw848 : Cond.code yJ2_checkIndex_2214a cJ2_checkIndex_2214a 2 none ∈ lw_tbl := List.mem_of_getElem? (i := 848) (by decide +kernel)
theorem mw849 : Cond.methodLink RJ2 48 yJ2_length_9d52b ∈ lw_tbl := List.mem_of_getElem? (i := 849) (by decide +kernel)
theorem mw850 : Cond.static yJ2_length_9d52b ∈ lw_tbl := List.mem_of_getElem? (i := 850) (by decide +kernel)
theorem mw851 : Cond.code yJ2_length_9d52b cJ2_length_9d52b 1 (some .int) ∈ lw_tbl := List.mem_of_getElem? (i := 851) (by decide +kernel)
theorem mw852 : Cond.methodLink RJ2 414 yJ0_checkIndex_df160 ∈ lw_tbl := List.mem_of_getElem? (i := 852) (by decide +kernel)
theorem mw853 : Cond.methodLink RJ2 71 yJ2_getChar_3b067 ∈ lw_tbl := List.mem_of_getElem? (i := 853) (by decide +kernel)
theorem mw854 : Cond.static yJ2_getChar_3b067 ∈ lw_tbl := List.mem_of_getElem? (i := 854) (by decide +kernel)
theorem mw855 : Cond.code yJ2_getChar_3b067 cJ2_getChar_3b067 2 (some .char) ∈ lw_tbl := List.mem_of_getElem? (i := 855) (by decide +kernel)
theorem mw856 : Cond.fieldLink RJ2 44 "java/lang/StringUTF16" "$assertionsDisabled" "Z" ∈ lw_tbl := List.mem_of_getElem? (i := 856) (by decide +kernel)
theorem mw858 : Cond.fieldLink RJ2 59 "java/lang/StringUTF16" "HI_BYTE_SHIFT" "I" ∈ lw_tbl := List.mem_of_getElem? (i := 858) (by decide +kernel)
theorem mw860 : Cond.fieldLink RJ2 63 "java/lang/StringUTF16" "LO_BYTE_SHIFT" "I" ∈ lw_tbl := List.mem_of_getElem? (i := 860) (by decide +kernel)
theorem mw862 : Cond.methodLink RX5 34 yX5_readSign ∈ lw_tbl := List.mem_of_getElem? (i := 862) (by decide +kernel)
theorem mw864 : Cond.instanceMethod yX5_readSign ∈ lw_tbl := List.mem_of_getElem? (i := 864) (by decide +kernel)
theorem mw865 : Cond.code yX5_readSign cX5_readSign 3 (some .boolean) ∈ lw_tbl := List.mem_of_getElem? (i := 865) (by decide +kernel)
theorem mw866 : Cond.methodLink RX5 66 yX5_readNumber ∈ lw_tbl := List.mem_of_getElem? (i := 866) (by decide +kernel)
theorem mw868 : Cond.instanceMethod yX5_readNumber ∈ lw_tbl := List.mem_of_getElem? (i := 868) (by decide +kernel)
theorem mw869 : Cond.code yX5_readNumber cX5_readNumber 5 (some .boolean) ∈ lw_tbl := List.mem_of_getElem? (i := 869) (by decide +kernel)
theorem mw870 : Cond.methodLink RX5 82 yX5_isDigit ∈ lw_tbl := List.mem_of_getElem? (i := 870) (by decide +kernel)
theorem mw871 : Cond.static yX5_isDigit ∈ lw_tbl := List.mem_of_getElem? (i := 871) (by decide +kernel)
theorem mw872 : Cond.code yX5_isDigit cX5_isDigit 1 (some .boolean) ∈ lw_tbl := List.mem_of_getElem? (i := 872) (by decide +kernel)
theorem mw873 : Cond.methodLink RX10 136 yX4_makeEmpty ∈ lw_tbl := List.mem_of_getElem? (i := 873) (by decide +kernel)
theorem mw874 : Cond.instanceMethod yX4_makeEmpty ∈ lw_tbl := List.mem_of_getElem? (i := 874) (by decide +kernel)
theorem mw875 : Cond.selects RX4 yX4_makeEmpty yX4_makeEmpty ∈ lw_tbl := List.mem_of_getElem? (i := 875) (by decide +kernel)
theorem mw876 : Cond.code yX4_makeEmpty cX4_makeEmpty 1 none ∈ lw_tbl := List.mem_of_getElem? (i := 876) (by decide +kernel)
theorem mw877 : Cond.methodLink RX10 142 yX10_obey ∈ lw_tbl := List.mem_of_getElem? (i := 877) (by decide +kernel)
theorem mw879 : Cond.instanceMethod yX10_obey ∈ lw_tbl := List.mem_of_getElem? (i := 879) (by decide +kernel)
theorem mw880 : Cond.code yX10_obey cX10_obey 4 (some .int) ∈ lw_tbl := List.mem_of_getElem? (i := 880) (by decide +kernel)
theorem mw881 : Cond.methodLink RX10 336 yX5_numberOf ∈ lw_tbl := List.mem_of_getElem? (i := 881) (by decide +kernel)
theorem mw882 : Cond.instanceMethod yX5_numberOf ∈ lw_tbl := List.mem_of_getElem? (i := 882) (by decide +kernel)
theorem mw883 : Cond.selects RX5 yX5_numberOf yX5_numberOf ∈ lw_tbl := List.mem_of_getElem? (i := 883) (by decide +kernel)
theorem mw884 : Cond.code yX5_numberOf cX5_numberOf 3 (some .int) ∈ lw_tbl := List.mem_of_getElem? (i := 884) (by decide +kernel)
theorem mw885 : Cond.methodLinkNest RX5 38 yX10_at "BambooTower" ∈ lw_tbl := List.mem_of_getElem? (i := 885) (by decide +kernel)
theorem mw886 : Cond.methodLink RX10 339 yX5_letterOf ∈ lw_tbl := List.mem_of_getElem? (i := 886) (by decide +kernel)
theorem mw887 : Cond.instanceMethod yX5_letterOf ∈ lw_tbl := List.mem_of_getElem? (i := 887) (by decide +kernel)
theorem mw888 : Cond.selects RX5 yX5_letterOf yX5_letterOf ∈ lw_tbl := List.mem_of_getElem? (i := 888) (by decide +kernel)
theorem mw889 : Cond.code yX5_letterOf cX5_letterOf 2 (some .int) ∈ lw_tbl := List.mem_of_getElem? (i := 889) (by decide +kernel)
theorem mw890 : Cond.methodLink RX10 145 yX2_noted ∈ lw_tbl := List.mem_of_getElem? (i := 890) (by decide +kernel)
theorem mw891 : Cond.methodLink RX10 149 yX7_take ∈ lw_tbl := List.mem_of_getElem? (i := 891) (by decide +kernel)
theorem mw892 : Cond.methodLink RX10 156 yX6_refuseOrder ∈ lw_tbl := List.mem_of_getElem? (i := 892) (by decide +kernel)
theorem mw893 : Cond.instanceMethod yX6_refuseOrder ∈ lw_tbl := List.mem_of_getElem? (i := 893) (by decide +kernel)
theorem mw894 : Cond.selects RX6 yX6_refuseOrder yX6_refuseOrder ∈ lw_tbl := List.mem_of_getElem? (i := 894) (by decide +kernel)
theorem mw895 : Cond.code yX6_refuseOrder cX6_refuseOrder 5 (some .int) ∈ lw_tbl := List.mem_of_getElem? (i := 895) (by decide +kernel)
theorem mw896 : Cond.methodLinkNest RX6 30 yX10_at "BambooTower" ∈ lw_tbl := List.mem_of_getElem? (i := 896) (by decide +kernel)
theorem mw897 : Cond.methodLink RX6 38 yJ9_min_7cf53 ∈ lw_tbl := List.mem_of_getElem? (i := 897) (by decide +kernel)
theorem mw898 : Cond.arrayClass .byte ∈ lw_tbl := List.mem_of_getElem? (i := 898) (by decide +kernel)
theorem mw899 : Cond.methodLink RL 78 yX10_fault ∈ lw_tbl := List.mem_of_getElem? (i := 899) (by decide +kernel)
theorem mw900 : Cond.instanceMethod yX10_fault ∈ lw_tbl := List.mem_of_getElem? (i := 900) (by decide +kernel)
theorem mw901 : Cond.selects RX10 yX10_fault yX10_fault ∈ lw_tbl := List.mem_of_getElem? (i := 901) (by decide +kernel)
theorem mw902 : Cond.code yX10_fault cX10_fault 1 (some .int) ∈ lw_tbl := List.mem_of_getElem? (i := 902) (by decide +kernel)
theorem mw903 : Cond.methodLink RL 82 yX10_reason ∈ lw_tbl := List.mem_of_getElem? (i := 903) (by decide +kernel)
theorem mw904 : Cond.instanceMethod yX10_reason ∈ lw_tbl := List.mem_of_getElem? (i := 904) (by decide +kernel)
theorem mw905 : Cond.selects RX10 yX10_reason yX10_reason ∈ lw_tbl := List.mem_of_getElem? (i := 905) (by decide +kernel)
theorem mw906 : Cond.code yX10_reason cX10_reason 3 (some .int) ∈ lw_tbl := List.mem_of_getElem? (i := 906) (by decide +kernel)
theorem mw907 : Cond.methodLink RX10 162 yX6_tell ∈ lw_tbl := List.mem_of_getElem? (i := 907) (by decide +kernel)
theorem mw908 : Cond.instanceMethod yX6_tell ∈ lw_tbl := List.mem_of_getElem? (i := 908) (by decide +kernel)
theorem mw909 : Cond.selects RX6 yX6_tell yX6_tell ∈ lw_tbl := List.mem_of_getElem? (i := 909) (by decide +kernel)
theorem mw910 : Cond.code yX6_tell cX6_tell 3 (some .int) ∈ lw_tbl := List.mem_of_getElem? (i := 910) (by decide +kernel)
theorem mw911 : Cond.methodLink RL 87 yX10_bundleOf ∈ lw_tbl := List.mem_of_getElem? (i := 911) (by decide +kernel)
theorem mw912 : Cond.instanceMethod yX10_bundleOf ∈ lw_tbl := List.mem_of_getElem? (i := 912) (by decide +kernel)
theorem mw913 : Cond.selects RX10 yX10_bundleOf yX10_bundleOf ∈ lw_tbl := List.mem_of_getElem? (i := 913) (by decide +kernel)
theorem mw914 : Cond.code yX10_bundleOf cX10_bundleOf 3 (some .int) ∈ lw_tbl := List.mem_of_getElem? (i := 914) (by decide +kernel)
theorem mw915 : Cond.methodLink RX10 169 yX0_has ∈ lw_tbl := List.mem_of_getElem? (i := 915) (by decide +kernel)
theorem mw916 : Cond.methodLink RX10 175 yX0_weeksOf ∈ lw_tbl := List.mem_of_getElem? (i := 916) (by decide +kernel)
theorem mw917 : Cond.methodLink RX10 178 yX0_polesOf ∈ lw_tbl := List.mem_of_getElem? (i := 917) (by decide +kernel)
theorem mw918 : Cond.methodLink RL 91 yX10_storeyOf ∈ lw_tbl := List.mem_of_getElem? (i := 918) (by decide +kernel)
theorem mw919 : Cond.instanceMethod yX10_storeyOf ∈ lw_tbl := List.mem_of_getElem? (i := 919) (by decide +kernel)
theorem mw920 : Cond.selects RX10 yX10_storeyOf yX10_storeyOf ∈ lw_tbl := List.mem_of_getElem? (i := 920) (by decide +kernel)
theorem mw921 : Cond.code yX10_storeyOf cX10_storeyOf 4 (some .int) ∈ lw_tbl := List.mem_of_getElem? (i := 921) (by decide +kernel)
theorem mw922 : Cond.methodLink RX10 185 yX9_has ∈ lw_tbl := List.mem_of_getElem? (i := 922) (by decide +kernel)
theorem mw923 : Cond.methodLink RX10 188 yX9_polesOf ∈ lw_tbl := List.mem_of_getElem? (i := 923) (by decide +kernel)
theorem mw924 : Cond.methodLink RX10 189 yX9_weeksOf ∈ lw_tbl := List.mem_of_getElem? (i := 924) (by decide +kernel)
theorem mw925 : Cond.instanceMethod yX9_weeksOf ∈ lw_tbl := List.mem_of_getElem? (i := 925) (by decide +kernel)
theorem mw926 : Cond.selects RX9 yX9_weeksOf yX9_weeksOf ∈ lw_tbl := List.mem_of_getElem? (i := 926) (by decide +kernel)
theorem mw927 : Cond.code yX9_weeksOf cX9_weeksOf 2 (some .int) ∈ lw_tbl := List.mem_of_getElem? (i := 927) (by decide +kernel)
theorem mw928 : Cond.methodLink RX10 190 yX9_tieOf ∈ lw_tbl := List.mem_of_getElem? (i := 928) (by decide +kernel)
theorem mw929 : Cond.methodLink RX10 193 yX9_hoursOf ∈ lw_tbl := List.mem_of_getElem? (i := 929) (by decide +kernel)
theorem mw930 : Cond.methodLink RX10 196 yX9_loadsOf ∈ lw_tbl := List.mem_of_getElem? (i := 930) (by decide +kernel)
theorem mw931 : Cond.methodLink RX10 199 yX9_isShut ∈ lw_tbl := List.mem_of_getElem? (i := 931) (by decide +kernel)
theorem mw932 : Cond.methodLink RX10 206 yX1_bitsOn ∈ lw_tbl := List.mem_of_getElem? (i := 932) (by decide +kernel)
theorem mw933 : Cond.methodLink RL 95 yX10_strength ∈ lw_tbl := List.mem_of_getElem? (i := 933) (by decide +kernel)
theorem mw934 : Cond.instanceMethod yX10_strength ∈ lw_tbl := List.mem_of_getElem? (i := 934) (by decide +kernel)
theorem mw935 : Cond.selects RX10 yX10_strength yX10_strength ∈ lw_tbl := List.mem_of_getElem? (i := 935) (by decide +kernel)
theorem mw936 : Cond.code yX10_strength cX10_strength 3 (some .int) ∈ lw_tbl := List.mem_of_getElem? (i := 936) (by decide +kernel)
theorem mw937 : Cond.methodLink RX10 211 yX9_strengthByStepsOf ∈ lw_tbl := List.mem_of_getElem? (i := 937) (by decide +kernel)
theorem mw938 : Cond.instanceMethod yX9_strengthByStepsOf ∈ lw_tbl := List.mem_of_getElem? (i := 938) (by decide +kernel)
theorem mw939 : Cond.selects RX9 yX9_strengthByStepsOf yX9_strengthByStepsOf ∈ lw_tbl := List.mem_of_getElem? (i := 939) (by decide +kernel)
theorem mw940 : Cond.code yX9_strengthByStepsOf cX9_strengthByStepsOf 4 (some .int) ∈ lw_tbl := List.mem_of_getElem? (i := 940) (by decide +kernel)
theorem mw941 : Cond.methodLink RX9 51 yX9_weeksOf ∈ lw_tbl := List.mem_of_getElem? (i := 941) (by decide +kernel)
theorem mw942 : Cond.methodLink RX9 54 yX9_tieOf ∈ lw_tbl := List.mem_of_getElem? (i := 942) (by decide +kernel)
theorem mw943 : Cond.methodLink RX10 214 yX9_strengthOf ∈ lw_tbl := List.mem_of_getElem? (i := 943) (by decide +kernel)
theorem mw944 : Cond.methodLink RL 99 yX10_weakest ∈ lw_tbl := List.mem_of_getElem? (i := 944) (by decide +kernel)
theorem mw945 : Cond.instanceMethod yX10_weakest ∈ lw_tbl := List.mem_of_getElem? (i := 945) (by decide +kernel)
theorem mw946 : Cond.selects RX10 yX10_weakest yX10_weakest ∈ lw_tbl := List.mem_of_getElem? (i := 946) (by decide +kernel)
theorem mw947 : Cond.code yX10_weakest cX10_weakest 1 (some .int) ∈ lw_tbl := List.mem_of_getElem? (i := 947) (by decide +kernel)
theorem mw948 : Cond.methodLink RX10 217 yX9_leastStrong ∈ lw_tbl := List.mem_of_getElem? (i := 948) (by decide +kernel)
theorem mw949 : Cond.instanceMethod yX9_leastStrong ∈ lw_tbl := List.mem_of_getElem? (i := 949) (by decide +kernel)
theorem mw950 : Cond.selects RX9 yX9_leastStrong yX9_leastStrong ∈ lw_tbl := List.mem_of_getElem? (i := 950) (by decide +kernel)
theorem mw951 : Cond.code yX9_leastStrong cX9_leastStrong 3 (some .int) ∈ lw_tbl := List.mem_of_getElem? (i := 951) (by decide +kernel)
theorem mw952 : Cond.methodLink RL 103 yX10_oldest ∈ lw_tbl := List.mem_of_getElem? (i := 952) (by decide +kernel)
theorem mw953 : Cond.instanceMethod yX10_oldest ∈ lw_tbl := List.mem_of_getElem? (i := 953) (by decide +kernel)
theorem mw954 : Cond.selects RX10 yX10_oldest yX10_oldest ∈ lw_tbl := List.mem_of_getElem? (i := 954) (by decide +kernel)
theorem mw955 : Cond.code yX10_oldest cX10_oldest 2 (some .int) ∈ lw_tbl := List.mem_of_getElem? (i := 955) (by decide +kernel)
theorem mw956 : Cond.methodLink RX10 221 yX9_atPlaceByTie ∈ lw_tbl := List.mem_of_getElem? (i := 956) (by decide +kernel)
theorem mw957 : Cond.instanceMethod yX9_atPlaceByTie ∈ lw_tbl := List.mem_of_getElem? (i := 957) (by decide +kernel)
theorem mw958 : Cond.selects RX9 yX9_atPlaceByTie yX9_atPlaceByTie ∈ lw_tbl := List.mem_of_getElem? (i := 958) (by decide +kernel)
theorem mw959 : Cond.code yX9_atPlaceByTie cX9_atPlaceByTie 3 (some .int) ∈ lw_tbl := List.mem_of_getElem? (i := 959) (by decide +kernel)
theorem mw960 : Cond.methodLink RX9 70 yX9_placeByTieOf ∈ lw_tbl := List.mem_of_getElem? (i := 960) (by decide +kernel)
theorem mw962 : Cond.instanceMethod yX9_placeByTieOf ∈ lw_tbl := List.mem_of_getElem? (i := 962) (by decide +kernel)
theorem mw963 : Cond.code yX9_placeByTieOf cX9_placeByTieOf 5 (some .int) ∈ lw_tbl := List.mem_of_getElem? (i := 963) (by decide +kernel)
theorem mw964 : Cond.methodLink RL 107 yX10_crewOf ∈ lw_tbl := List.mem_of_getElem? (i := 964) (by decide +kernel)
theorem mw965 : Cond.instanceMethod yX10_crewOf ∈ lw_tbl := List.mem_of_getElem? (i := 965) (by decide +kernel)
theorem mw966 : Cond.selects RX10 yX10_crewOf yX10_crewOf ∈ lw_tbl := List.mem_of_getElem? (i := 966) (by decide +kernel)
theorem mw967 : Cond.code yX10_crewOf cX10_crewOf 4 (some .int) ∈ lw_tbl := List.mem_of_getElem? (i := 967) (by decide +kernel)
theorem mw968 : Cond.methodLink RX10 224 yX1_has ∈ lw_tbl := List.mem_of_getElem? (i := 968) (by decide +kernel)
theorem mw969 : Cond.methodLink RX10 225 yX1_skillOf ∈ lw_tbl := List.mem_of_getElem? (i := 969) (by decide +kernel)
theorem mw970 : Cond.methodLink RX10 228 yX1_placeOf ∈ lw_tbl := List.mem_of_getElem? (i := 970) (by decide +kernel)
theorem mw971 : Cond.methodLink RX10 231 yX10_worksToday ∈ lw_tbl := List.mem_of_getElem? (i := 971) (by decide +kernel)
theorem mw973 : Cond.instanceMethod yX10_worksToday ∈ lw_tbl := List.mem_of_getElem? (i := 973) (by decide +kernel)
theorem mw974 : Cond.code yX10_worksToday cX10_worksToday 3 (some .boolean) ∈ lw_tbl := List.mem_of_getElem? (i := 974) (by decide +kernel)
theorem mw975 : Cond.methodLink RX10 342 yX7_wouldWork ∈ lw_tbl := List.mem_of_getElem? (i := 975) (by decide +kernel)
theorem mw976 : Cond.methodLink RX10 345 yX7_letWork ∈ lw_tbl := List.mem_of_getElem? (i := 976) (by decide +kernel)
theorem mw977 : Cond.methodLink RX10 234 yX1_hoursOf ∈ lw_tbl := List.mem_of_getElem? (i := 977) (by decide +kernel)
theorem mw978 : Cond.instanceMethod yX1_hoursOf ∈ lw_tbl := List.mem_of_getElem? (i := 978) (by decide +kernel)
theorem mw979 : Cond.selects RX1 yX1_hoursOf yX1_hoursOf ∈ lw_tbl := List.mem_of_getElem? (i := 979) (by decide +kernel)
theorem mw980 : Cond.code yX1_hoursOf cX1_hoursOf 2 (some .int) ∈ lw_tbl := List.mem_of_getElem? (i := 980) (by decide +kernel)
theorem mw981 : Cond.methodLink RL 111 yX10_inspectorOf ∈ lw_tbl := List.mem_of_getElem? (i := 981) (by decide +kernel)
theorem mw982 : Cond.instanceMethod yX10_inspectorOf ∈ lw_tbl := List.mem_of_getElem? (i := 982) (by decide +kernel)
theorem mw983 : Cond.selects RX10 yX10_inspectorOf yX10_inspectorOf ∈ lw_tbl := List.mem_of_getElem? (i := 983) (by decide +kernel)
theorem mw984 : Cond.code yX10_inspectorOf cX10_inspectorOf 4 (some .int) ∈ lw_tbl := List.mem_of_getElem? (i := 984) (by decide +kernel)
theorem mw985 : Cond.methodLink RX10 239 yX3_has ∈ lw_tbl := List.mem_of_getElem? (i := 985) (by decide +kernel)
theorem mw986 : Cond.methodLink RX10 242 yX3_noseOf ∈ lw_tbl := List.mem_of_getElem? (i := 986) (by decide +kernel)
theorem mw987 : Cond.methodLink RX10 245 yX9_howManyShutBy ∈ lw_tbl := List.mem_of_getElem? (i := 987) (by decide +kernel)
theorem mw988 : Cond.instanceMethod yX9_howManyShutBy ∈ lw_tbl := List.mem_of_getElem? (i := 988) (by decide +kernel)
theorem mw989 : Cond.selects RX9 yX9_howManyShutBy yX9_howManyShutBy ∈ lw_tbl := List.mem_of_getElem? (i := 989) (by decide +kernel)
theorem mw990 : Cond.code yX9_howManyShutBy cX9_howManyShutBy 4 (some .int) ∈ lw_tbl := List.mem_of_getElem? (i := 990) (by decide +kernel)
theorem mw991 : Cond.methodLink RX10 248 yX3_findsOf ∈ lw_tbl := List.mem_of_getElem? (i := 991) (by decide +kernel)
theorem mw992 : Cond.methodLink RL 115 yX10_highest ∈ lw_tbl := List.mem_of_getElem? (i := 992) (by decide +kernel)
theorem mw993 : Cond.instanceMethod yX10_highest ∈ lw_tbl := List.mem_of_getElem? (i := 993) (by decide +kernel)
theorem mw994 : Cond.selects RX10 yX10_highest yX10_highest ∈ lw_tbl := List.mem_of_getElem? (i := 994) (by decide +kernel)
theorem mw995 : Cond.code yX10_highest cX10_highest 1 (some .int) ∈ lw_tbl := List.mem_of_getElem? (i := 995) (by decide +kernel)
theorem mw996 : Cond.methodLink RX10 251 yX7_isWarned ∈ lw_tbl := List.mem_of_getElem? (i := 996) (by decide +kernel)
theorem mw997 : Cond.methodLink RX10 255 yX9_highestOpen ∈ lw_tbl := List.mem_of_getElem? (i := 997) (by decide +kernel)
theorem mw998 : Cond.instanceMethod yX9_highestOpen ∈ lw_tbl := List.mem_of_getElem? (i := 998) (by decide +kernel)
theorem mw999 : Cond.selects RX9 yX9_highestOpen yX9_highestOpen ∈ lw_tbl := List.mem_of_getElem? (i := 999) (by decide +kernel)
theorem mw1000 : Cond.code yX9_highestOpen cX9_highestOpen 3 (some .int) ∈ lw_tbl := List.mem_of_getElem? (i := 1000) (by decide +kernel)
theorem mw1001 : Cond.methodLink RX9 67 yX9_isOld ∈ lw_tbl := List.mem_of_getElem? (i := 1001) (by decide +kernel)
theorem mw1002 : Cond.instanceMethod yX9_isOld ∈ lw_tbl := List.mem_of_getElem? (i := 1002) (by decide +kernel)
theorem mw1003 : Cond.selects RX9 yX9_isOld yX9_isOld ∈ lw_tbl := List.mem_of_getElem? (i := 1003) (by decide +kernel)
theorem mw1004 : Cond.code yX9_isOld cX9_isOld 2 (some .boolean) ∈ lw_tbl := List.mem_of_getElem? (i := 1004) (by decide +kernel)
theorem mw1005 : Cond.methodLink RX9 63 yX9_isShut ∈ lw_tbl := List.mem_of_getElem? (i := 1005) (by decide +kernel)
theorem mw1006 : Cond.methodLink RL 119 yX10_wouldFall ∈ lw_tbl := List.mem_of_getElem? (i := 1006) (by decide +kernel)
theorem mw1007 : Cond.instanceMethod yX10_wouldFall ∈ lw_tbl := List.mem_of_getElem? (i := 1007) (by decide +kernel)
theorem mw1008 : Cond.selects RX10 yX10_wouldFall yX10_wouldFall ∈ lw_tbl := List.mem_of_getElem? (i := 1008) (by decide +kernel)
theorem mw1009 : Cond.code yX10_wouldFall cX10_wouldFall 2 (some .int) ∈ lw_tbl := List.mem_of_getElem? (i := 1009) (by decide +kernel)
theorem mw1010 : Cond.methodLink RX10 258 yX9_lowestWeakerThan ∈ lw_tbl := List.mem_of_getElem? (i := 1010) (by decide +kernel)
theorem mw1011 : Cond.methodLink RL 123 yX10_oldIn ∈ lw_tbl := List.mem_of_getElem? (i := 1011) (by decide +kernel)
theorem mw1012 : Cond.instanceMethod yX10_oldIn ∈ lw_tbl := List.mem_of_getElem? (i := 1012) (by decide +kernel)
theorem mw1013 : Cond.selects RX10 yX10_oldIn yX10_oldIn ∈ lw_tbl := List.mem_of_getElem? (i := 1013) (by decide +kernel)
theorem mw1014 : Cond.code yX10_oldIn cX10_oldIn 3 (some .int) ∈ lw_tbl := List.mem_of_getElem? (i := 1014) (by decide +kernel)
theorem mw1015 : Cond.methodLink RX10 261 yX9_isOld ∈ lw_tbl := List.mem_of_getElem? (i := 1015) (by decide +kernel)
theorem mw1016 : Cond.methodLink RX10 264 yX7_passDay ∈ lw_tbl := List.mem_of_getElem? (i := 1016) (by decide +kernel)
theorem mw1017 : Cond.methodLink RL 127 yX10_doneIn ∈ lw_tbl := List.mem_of_getElem? (i := 1017) (by decide +kernel)
theorem mw1018 : Cond.instanceMethod yX10_doneIn ∈ lw_tbl := List.mem_of_getElem? (i := 1018) (by decide +kernel)
theorem mw1019 : Cond.selects RX10 yX10_doneIn yX10_doneIn ∈ lw_tbl := List.mem_of_getElem? (i := 1019) (by decide +kernel)
theorem mw1020 : Cond.code yX10_doneIn cX10_doneIn 3 (some .int) ∈ lw_tbl := List.mem_of_getElem? (i := 1020) (by decide +kernel)
theorem mw1021 : Cond.methodLink RL 131 yX10_describe ∈ lw_tbl := List.mem_of_getElem? (i := 1021) (by decide +kernel)
theorem mw1022 : Cond.instanceMethod yX10_describe ∈ lw_tbl := List.mem_of_getElem? (i := 1022) (by decide +kernel)
theorem mw1023 : Cond.selects RX10 yX10_describe yX10_describe ∈ lw_tbl := List.mem_of_getElem? (i := 1023) (by decide +kernel)
theorem mw1024 : Cond.code yX10_describe cX10_describe 2 (some .int) ∈ lw_tbl := List.mem_of_getElem? (i := 1024) (by decide +kernel)
theorem mw1025 : Cond.methodLink RX10 268 yX10_writeStorey ∈ lw_tbl := List.mem_of_getElem? (i := 1025) (by decide +kernel)
theorem mw1027 : Cond.instanceMethod yX10_writeStorey ∈ lw_tbl := List.mem_of_getElem? (i := 1027) (by decide +kernel)
theorem mw1028 : Cond.code yX10_writeStorey cX10_writeStorey 5 none ∈ lw_tbl := List.mem_of_getElem? (i := 1028) (by decide +kernel)
theorem mw1029 : Cond.methodLink RX10 348 yX4_putNumber ∈ lw_tbl := List.mem_of_getElem? (i := 1029) (by decide +kernel)
theorem mw1030 : Cond.instanceMethod yX4_putNumber ∈ lw_tbl := List.mem_of_getElem? (i := 1030) (by decide +kernel)
theorem mw1031 : Cond.selects RX4 yX4_putNumber yX4_putNumber ∈ lw_tbl := List.mem_of_getElem? (i := 1031) (by decide +kernel)
theorem mw1032 : Cond.code yX4_putNumber cX4_putNumber 2 none ∈ lw_tbl := List.mem_of_getElem? (i := 1032) (by decide +kernel)
theorem mw1033 : Cond.methodLink RX4 17 yX4_put ∈ lw_tbl := List.mem_of_getElem? (i := 1033) (by decide +kernel)
theorem mw1034 : Cond.methodLink RX10 351 yX1_howManyOn ∈ lw_tbl := List.mem_of_getElem? (i := 1034) (by decide +kernel)
theorem mw1035 : Cond.methodLink RX10 271 yX10_writeBare ∈ lw_tbl := List.mem_of_getElem? (i := 1035) (by decide +kernel)
theorem mw1037 : Cond.instanceMethod yX10_writeBare ∈ lw_tbl := List.mem_of_getElem? (i := 1037) (by decide +kernel)
theorem mw1038 : Cond.code yX10_writeBare cX10_writeBare 1 none ∈ lw_tbl := List.mem_of_getElem? (i := 1038) (by decide +kernel)
theorem mw1039 : Cond.methodLink RL 135 yX10_written ∈ lw_tbl := List.mem_of_getElem? (i := 1039) (by decide +kernel)
theorem mw1040 : Cond.instanceMethod yX10_written ∈ lw_tbl := List.mem_of_getElem? (i := 1040) (by decide +kernel)
theorem mw1041 : Cond.selects RX10 yX10_written yX10_written ∈ lw_tbl := List.mem_of_getElem? (i := 1041) (by decide +kernel)
theorem mw1042 : Cond.code yX10_written cX10_written 2 (some .int) ∈ lw_tbl := List.mem_of_getElem? (i := 1042) (by decide +kernel)
theorem mw1043 : Cond.methodLink RX10 274 yX4_signAt ∈ lw_tbl := List.mem_of_getElem? (i := 1043) (by decide +kernel)
theorem mw1044 : Cond.methodLink RL 139 yX10_work ∈ lw_tbl := List.mem_of_getElem? (i := 1044) (by decide +kernel)
theorem mw1045 : Cond.instanceMethod yX10_work ∈ lw_tbl := List.mem_of_getElem? (i := 1045) (by decide +kernel)
theorem mw1046 : Cond.selects RX10 yX10_work yX10_work ∈ lw_tbl := List.mem_of_getElem? (i := 1046) (by decide +kernel)
theorem mw1047 : Cond.code yX10_work cX10_work 2 (some .int) ∈ lw_tbl := List.mem_of_getElem? (i := 1047) (by decide +kernel)
theorem mw1048 : Cond.methodLink RX10 287 yX9_allHours ∈ lw_tbl := List.mem_of_getElem? (i := 1048) (by decide +kernel)
theorem mw1049 : Cond.instanceMethod yX9_allHours ∈ lw_tbl := List.mem_of_getElem? (i := 1049) (by decide +kernel)
theorem mw1050 : Cond.selects RX9 yX9_allHours yX9_allHours ∈ lw_tbl := List.mem_of_getElem? (i := 1050) (by decide +kernel)
theorem mw1051 : Cond.code yX9_allHours cX9_allHours 1 (some .int) ∈ lw_tbl := List.mem_of_getElem? (i := 1051) (by decide +kernel)
theorem mw1052 : Cond.methodLinkNest RX9 60 yX10_sum "BambooTower" ∈ lw_tbl := List.mem_of_getElem? (i := 1052) (by decide +kernel)
theorem mw1053 : Cond.static yX10_sum ∈ lw_tbl := List.mem_of_getElem? (i := 1053) (by decide +kernel)
theorem mw1054 : Cond.code yX10_sum cX10_sum 4 (some .int) ∈ lw_tbl := List.mem_of_getElem? (i := 1054) (by decide +kernel)
theorem mw1055 : Cond.methodLink RL 144 yX10_meanStrength ∈ lw_tbl := List.mem_of_getElem? (i := 1055) (by decide +kernel)
theorem mw1056 : Cond.instanceMethod yX10_meanStrength ∈ lw_tbl := List.mem_of_getElem? (i := 1056) (by decide +kernel)
theorem mw1057 : Cond.selects RX10 yX10_meanStrength yX10_meanStrength ∈ lw_tbl := List.mem_of_getElem? (i := 1057) (by decide +kernel)
theorem mw1058 : Cond.code yX10_meanStrength cX10_meanStrength 2 (some .float) ∈ lw_tbl := List.mem_of_getElem? (i := 1058) (by decide +kernel)
theorem mw1059 : Cond.methodLink RX10 290 yX9_allStrength ∈ lw_tbl := List.mem_of_getElem? (i := 1059) (by decide +kernel)
theorem mw1060 : Cond.instanceMethod yX9_allStrength ∈ lw_tbl := List.mem_of_getElem? (i := 1060) (by decide +kernel)
theorem mw1061 : Cond.selects RX9 yX9_allStrength yX9_allStrength ∈ lw_tbl := List.mem_of_getElem? (i := 1061) (by decide +kernel)
theorem mw1062 : Cond.code yX9_allStrength cX9_allStrength 3 (some .int) ∈ lw_tbl := List.mem_of_getElem? (i := 1062) (by decide +kernel)
theorem mw1063 : Cond.methodLink RL 149 yX10_doneShare ∈ lw_tbl := List.mem_of_getElem? (i := 1063) (by decide +kernel)
theorem mw1064 : Cond.instanceMethod yX10_doneShare ∈ lw_tbl := List.mem_of_getElem? (i := 1064) (by decide +kernel)
theorem mw1065 : Cond.selects RX10 yX10_doneShare yX10_doneShare ∈ lw_tbl := List.mem_of_getElem? (i := 1065) (by decide +kernel)
theorem mw1066 : Cond.code yX10_doneShare cX10_doneShare 1 (some .double) ∈ lw_tbl := List.mem_of_getElem? (i := 1066) (by decide +kernel)
theorem mw1067 : Cond.methodLink RL 154 yX10_account ∈ lw_tbl := List.mem_of_getElem? (i := 1067) (by decide +kernel)
theorem mw1068 : Cond.instanceMethod yX10_account ∈ lw_tbl := List.mem_of_getElem? (i := 1068) (by decide +kernel)
theorem mw1069 : Cond.selects RX10 yX10_account yX10_account ∈ lw_tbl := List.mem_of_getElem? (i := 1069) (by decide +kernel)
theorem mw1070 : Cond.code yX10_account cX10_account 2 (some .int) ∈ lw_tbl := List.mem_of_getElem? (i := 1070) (by decide +kernel)
theorem mw1071 : Cond.methodLink RX10 297 yX0_allPoles ∈ lw_tbl := List.mem_of_getElem? (i := 1071) (by decide +kernel)
theorem mw1072 : Cond.instanceMethod yX0_allPoles ∈ lw_tbl := List.mem_of_getElem? (i := 1072) (by decide +kernel)
theorem mw1073 : Cond.selects RX0 yX0_allPoles yX0_allPoles ∈ lw_tbl := List.mem_of_getElem? (i := 1073) (by decide +kernel)
theorem mw1074 : Cond.code yX0_allPoles cX0_allPoles 1 (some .int) ∈ lw_tbl := List.mem_of_getElem? (i := 1074) (by decide +kernel)
theorem mw1075 : Cond.methodLinkNest RX0 26 yX10_sum "BambooTower" ∈ lw_tbl := List.mem_of_getElem? (i := 1075) (by decide +kernel)
theorem mw1076 : Cond.methodLink RX10 300 yX9_howManyShut ∈ lw_tbl := List.mem_of_getElem? (i := 1076) (by decide +kernel)
theorem mw1077 : Cond.instanceMethod yX9_howManyShut ∈ lw_tbl := List.mem_of_getElem? (i := 1077) (by decide +kernel)
theorem mw1078 : Cond.selects RX9 yX9_howManyShut yX9_howManyShut ∈ lw_tbl := List.mem_of_getElem? (i := 1078) (by decide +kernel)
theorem mw1079 : Cond.code yX9_howManyShut cX9_howManyShut 3 (some .int) ∈ lw_tbl := List.mem_of_getElem? (i := 1079) (by decide +kernel)
theorem mw1080 : Cond.methodLink RX10 303 yX9_howManyOld ∈ lw_tbl := List.mem_of_getElem? (i := 1080) (by decide +kernel)
theorem mw1081 : Cond.instanceMethod yX9_howManyOld ∈ lw_tbl := List.mem_of_getElem? (i := 1081) (by decide +kernel)
theorem mw1082 : Cond.selects RX9 yX9_howManyOld yX9_howManyOld ∈ lw_tbl := List.mem_of_getElem? (i := 1082) (by decide +kernel)
theorem mw1083 : Cond.code yX9_howManyOld cX9_howManyOld 3 (some .int) ∈ lw_tbl := List.mem_of_getElem? (i := 1083) (by decide +kernel)
theorem mw1084 : Cond.methodLink RX10 307 yX1_howManyUp ∈ lw_tbl := List.mem_of_getElem? (i := 1084) (by decide +kernel)
theorem mw1085 : Cond.instanceMethod yX1_howManyUp ∈ lw_tbl := List.mem_of_getElem? (i := 1085) (by decide +kernel)
theorem mw1086 : Cond.selects RX1 yX1_howManyUp yX1_howManyUp ∈ lw_tbl := List.mem_of_getElem? (i := 1086) (by decide +kernel)
theorem mw1087 : Cond.code yX1_howManyUp cX1_howManyUp 3 (some .int) ∈ lw_tbl := List.mem_of_getElem? (i := 1087) (by decide +kernel)
theorem mw1088 : Cond.methodLink RX1 41 yX1_isUp ∈ lw_tbl := List.mem_of_getElem? (i := 1088) (by decide +kernel)
theorem mw1089 : Cond.methodLink RX10 316 yX9_allLoads ∈ lw_tbl := List.mem_of_getElem? (i := 1089) (by decide +kernel)
theorem mw1090 : Cond.instanceMethod yX9_allLoads ∈ lw_tbl := List.mem_of_getElem? (i := 1090) (by decide +kernel)
theorem mw1091 : Cond.selects RX9 yX9_allLoads yX9_allLoads ∈ lw_tbl := List.mem_of_getElem? (i := 1091) (by decide +kernel)
theorem mw1092 : Cond.code yX9_allLoads cX9_allLoads 1 (some .int) ∈ lw_tbl := List.mem_of_getElem? (i := 1092) (by decide +kernel)
theorem mw1093 : Cond.methodLink RL 158 yX10_undo ∈ lw_tbl := List.mem_of_getElem? (i := 1093) (by decide +kernel)
theorem mw1094 : Cond.instanceMethod yX10_undo ∈ lw_tbl := List.mem_of_getElem? (i := 1094) (by decide +kernel)
theorem mw1095 : Cond.selects RX10 yX10_undo yX10_undo ∈ lw_tbl := List.mem_of_getElem? (i := 1095) (by decide +kernel)
theorem mw1096 : Cond.code yX10_undo cX10_undo 1 (some .int) ∈ lw_tbl := List.mem_of_getElem? (i := 1096) (by decide +kernel)
theorem mw1097 : Cond.methodLink RX10 330 yX2_stepBack ∈ lw_tbl := List.mem_of_getElem? (i := 1097) (by decide +kernel)
theorem mw1098 : Cond.instanceMethod yX2_stepBack ∈ lw_tbl := List.mem_of_getElem? (i := 1098) (by decide +kernel)
theorem mw1099 : Cond.selects RX2 yX2_stepBack yX2_stepBack ∈ lw_tbl := List.mem_of_getElem? (i := 1099) (by decide +kernel)
theorem mw1100 : Cond.code yX2_stepBack cX2_stepBack 1 (some (.object "BambooTower$Scaffold")) ∈ lw_tbl := List.mem_of_getElem? (i := 1100) (by decide +kernel)
theorem mw1101 : Cond.methodLink RL 162 yX10_save ∈ lw_tbl := List.mem_of_getElem? (i := 1101) (by decide +kernel)
theorem mw1102 : Cond.instanceMethod yX10_save ∈ lw_tbl := List.mem_of_getElem? (i := 1102) (by decide +kernel)
theorem mw1103 : Cond.selects RX10 yX10_save yX10_save ∈ lw_tbl := List.mem_of_getElem? (i := 1103) (by decide +kernel)
theorem mw1104 : Cond.code yX10_save cX10_save 1 (some .int) ∈ lw_tbl := List.mem_of_getElem? (i := 1104) (by decide +kernel)
theorem mw1105 : Cond.methodLink RL 166 yX10_restore ∈ lw_tbl := List.mem_of_getElem? (i := 1105) (by decide +kernel)
theorem mw1106 : Cond.instanceMethod yX10_restore ∈ lw_tbl := List.mem_of_getElem? (i := 1106) (by decide +kernel)
theorem mw1107 : Cond.selects RX10 yX10_restore yX10_restore ∈ lw_tbl := List.mem_of_getElem? (i := 1107) (by decide +kernel)
theorem mw1108 : Cond.code yX10_restore cX10_restore 1 (some .int) ∈ lw_tbl := List.mem_of_getElem? (i := 1108) (by decide +kernel)
theorem mw1109 : Cond.classLink RL 10 RX11 ∈ lw_tbl := List.mem_of_getElem? (i := 1109) (by decide +kernel)
theorem mw1110 : Cond.instantiable RX11 18 ∈ lw_tbl := List.mem_of_getElem? (i := 1110) (by decide +kernel)
theorem mw1111 : Cond.methodLink RL 12 yX11_init ∈ lw_tbl := List.mem_of_getElem? (i := 1111) (by decide +kernel)
theorem mw1112 : Cond.instanceMethod yX11_init ∈ lw_tbl := List.mem_of_getElem? (i := 1112) (by decide +kernel)
theorem mw1113 : Cond.code yX11_init cX11_init 1 none ∈ lw_tbl := List.mem_of_getElem? (i := 1113) (by decide +kernel)
theorem mw1114 : Cond.methodLink RX11 3 objectInit ∈ lw_tbl := List.mem_of_getElem? (i := 1114) (by decide +kernel)
theorem mw1115 : Cond.methodLink RX11 42 yX11_begins ∈ lw_tbl := List.mem_of_getElem? (i := 1115) (by decide +kernel)
theorem mw1117 : Cond.instanceMethod yX11_begins ∈ lw_tbl := List.mem_of_getElem? (i := 1117) (by decide +kernel)
theorem mw1118 : Cond.code yX11_begins cX11_begins 2 none ∈ lw_tbl := List.mem_of_getElem? (i := 1118) (by decide +kernel)
theorem mw1119 : Cond.fieldLink RX11 9 "BambooTowerModel" "now" "[I" ∈ lw_tbl := List.mem_of_getElem? (i := 1119) (by decide +kernel)
theorem mw1120 : Cond.fieldLink RX11 13 "BambooTowerModel" "tried" "[I" ∈ lw_tbl := List.mem_of_getElem? (i := 1120) (by decide +kernel)
theorem mw1121 : Cond.fieldLink RX11 16 "BambooTowerModel" "thought" "[I" ∈ lw_tbl := List.mem_of_getElem? (i := 1121) (by decide +kernel)
theorem mw1122 : Cond.fieldLink RX11 19 "BambooTowerModel" "kept" "[I" ∈ lw_tbl := List.mem_of_getElem? (i := 1122) (by decide +kernel)
theorem mw1123 : Cond.fieldLink RX11 45 "BambooTowerModel" "undos" "I" ∈ lw_tbl := List.mem_of_getElem? (i := 1123) (by decide +kernel)
theorem mw1124 : Cond.fieldLink RX11 22 "BambooTowerModel" "saved" "[I" ∈ lw_tbl := List.mem_of_getElem? (i := 1124) (by decide +kernel)
theorem mw1125 : Cond.fieldLink RX11 217 "BambooTowerModel" "isSaved" "Z" ∈ lw_tbl := List.mem_of_getElem? (i := 1125) (by decide +kernel)
theorem mw1126 : Cond.fieldLink RX11 25 "BambooTowerModel" "line" "[I" ∈ lw_tbl := List.mem_of_getElem? (i := 1126) (by decide +kernel)
theorem mw1127 : Cond.fieldLink RX11 195 "BambooTowerModel" "lined" "I" ∈ lw_tbl := List.mem_of_getElem? (i := 1127) (by decide +kernel)
theorem mw1128 : Cond.fieldLink RX11 28 "BambooTowerModel" "text" "[C" ∈ lw_tbl := List.mem_of_getElem? (i := 1128) (by decide +kernel)
theorem mw1129 : Cond.fieldLink RX11 62 "BambooTowerModel" "length" "I" ∈ lw_tbl := List.mem_of_getElem? (i := 1129) (by decide +kernel)
theorem mw1130 : Cond.fieldLink RX11 161 "BambooTowerModel" "at" "I" ∈ lw_tbl := List.mem_of_getElem? (i := 1130) (by decide +kernel)
theorem mw1131 : Cond.fieldLink RX11 164 "BambooTowerModel" "order" "C" ∈ lw_tbl := List.mem_of_getElem? (i := 1131) (by decide +kernel)
theorem mw1132 : Cond.fieldLink RX11 32 "BambooTowerModel" "told" "[I" ∈ lw_tbl := List.mem_of_getElem? (i := 1132) (by decide +kernel)
theorem mw1133 : Cond.fieldLink RX11 35 "BambooTowerModel" "fault" "I" ∈ lw_tbl := List.mem_of_getElem? (i := 1133) (by decide +kernel)
theorem mw1134 : Cond.fieldLink RX11 39 "BambooTowerModel" "reasons" "[I" ∈ lw_tbl := List.mem_of_getElem? (i := 1134) (by decide +kernel)
theorem mw1135 : Cond.fieldLink RX11 48 "BambooTowerModel" "depth" "I" ∈ lw_tbl := List.mem_of_getElem? (i := 1135) (by decide +kernel)
theorem mw1136 : Cond.fieldLink RX11 51 "BambooTowerModel" "answer" "I" ∈ lw_tbl := List.mem_of_getElem? (i := 1136) (by decide +kernel)
theorem mw1174 : Cond.methodLink RL 17 yX11_clear ∈ lw_tbl := List.mem_of_getElem? (i := 1174) (by decide +kernel)
theorem mw1175 : Cond.instanceMethod yX11_clear ∈ lw_tbl := List.mem_of_getElem? (i := 1175) (by decide +kernel)
theorem mw1176 : Cond.selects RX11 yX11_clear yX11_clear ∈ lw_tbl := List.mem_of_getElem? (i := 1176) (by decide +kernel)
theorem mw1177 : Cond.code yX11_clear cX11_clear 2 (some .int) ∈ lw_tbl := List.mem_of_getElem? (i := 1177) (by decide +kernel)
theorem mw1178 : Cond.methodLink RL 22 yX11_append ∈ lw_tbl := List.mem_of_getElem? (i := 1178) (by decide +kernel)
theorem mw1179 : Cond.instanceMethod yX11_append ∈ lw_tbl := List.mem_of_getElem? (i := 1179) (by decide +kernel)
theorem mw1180 : Cond.selects RX11 yX11_append yX11_append ∈ lw_tbl := List.mem_of_getElem? (i := 1180) (by decide +kernel)
theorem mw1181 : Cond.code yX11_append cX11_append 2 (some .int) ∈ lw_tbl := List.mem_of_getElem? (i := 1181) (by decide +kernel)
theorem mw1182 : Cond.methodLink RX11 58 yX11_in ∈ lw_tbl := List.mem_of_getElem? (i := 1182) (by decide +kernel)
theorem mw1183 : Cond.static yX11_in ∈ lw_tbl := List.mem_of_getElem? (i := 1183) (by decide +kernel)
theorem mw1184 : Cond.code yX11_in cX11_in 3 (some .boolean) ∈ lw_tbl := List.mem_of_getElem? (i := 1184) (by decide +kernel)
theorem mw1185 : Cond.methodLink RL 27 yX11_bundle ∈ lw_tbl := List.mem_of_getElem? (i := 1185) (by decide +kernel)
theorem mw1186 : Cond.instanceMethod yX11_bundle ∈ lw_tbl := List.mem_of_getElem? (i := 1186) (by decide +kernel)
theorem mw1187 : Cond.selects RX11 yX11_bundle yX11_bundle ∈ lw_tbl := List.mem_of_getElem? (i := 1187) (by decide +kernel)
theorem mw1188 : Cond.code yX11_bundle cX11_bundle 4 (some .int) ∈ lw_tbl := List.mem_of_getElem? (i := 1188) (by decide +kernel)
theorem mw1189 : Cond.methodLink RX11 65 yX11_tries ∈ lw_tbl := List.mem_of_getElem? (i := 1189) (by decide +kernel)
theorem mw1191 : Cond.instanceMethod yX11_tries ∈ lw_tbl := List.mem_of_getElem? (i := 1191) (by decide +kernel)
theorem mw1192 : Cond.code yX11_tries cX11_tries 2 none ∈ lw_tbl := List.mem_of_getElem? (i := 1192) (by decide +kernel)
theorem mw1193 : Cond.methodLink RX11 68 yX11_refuses ∈ lw_tbl := List.mem_of_getElem? (i := 1193) (by decide +kernel)
theorem mw1195 : Cond.instanceMethod yX11_refuses ∈ lw_tbl := List.mem_of_getElem? (i := 1195) (by decide +kernel)
theorem mw1196 : Cond.code yX11_refuses cX11_refuses 3 (some .int) ∈ lw_tbl := List.mem_of_getElem? (i := 1196) (by decide +kernel)
theorem mw1197 : Cond.methodLink RX11 54 yX11_keeps ∈ lw_tbl := List.mem_of_getElem? (i := 1197) (by decide +kernel)
theorem mw1199 : Cond.instanceMethod yX11_keeps ∈ lw_tbl := List.mem_of_getElem? (i := 1199) (by decide +kernel)
theorem mw1200 : Cond.code yX11_keeps cX11_keeps 3 (some .int) ∈ lw_tbl := List.mem_of_getElem? (i := 1200) (by decide +kernel)
theorem mw1201 : Cond.methodLink RL 32 yX11_strips ∈ lw_tbl := List.mem_of_getElem? (i := 1201) (by decide +kernel)
theorem mw1202 : Cond.instanceMethod yX11_strips ∈ lw_tbl := List.mem_of_getElem? (i := 1202) (by decide +kernel)
theorem mw1203 : Cond.selects RX11 yX11_strips yX11_strips ∈ lw_tbl := List.mem_of_getElem? (i := 1203) (by decide +kernel)
theorem mw1204 : Cond.code yX11_strips cX11_strips 2 (some .int) ∈ lw_tbl := List.mem_of_getElem? (i := 1204) (by decide +kernel)
theorem mw1205 : Cond.methodLink RX11 72 yJ9_min_7cf53 ∈ lw_tbl := List.mem_of_getElem? (i := 1205) (by decide +kernel)
theorem mw1206 : Cond.methodLink RL 37 yX11_build ∈ lw_tbl := List.mem_of_getElem? (i := 1206) (by decide +kernel)
theorem mw1207 : Cond.instanceMethod yX11_build ∈ lw_tbl := List.mem_of_getElem? (i := 1207) (by decide +kernel)
theorem mw1208 : Cond.selects RX11 yX11_build yX11_build ∈ lw_tbl := List.mem_of_getElem? (i := 1208) (by decide +kernel)
theorem mw1209 : Cond.code yX11_build cX11_build 4 (some .int) ∈ lw_tbl := List.mem_of_getElem? (i := 1209) (by decide +kernel)
theorem mw1210 : Cond.methodLink RX11 88 yX11_builds ∈ lw_tbl := List.mem_of_getElem? (i := 1210) (by decide +kernel)
theorem mw1212 : Cond.instanceMethod yX11_builds ∈ lw_tbl := List.mem_of_getElem? (i := 1212) (by decide +kernel)
theorem mw1213 : Cond.code yX11_builds cX11_builds 6 (some .int) ∈ lw_tbl := List.mem_of_getElem? (i := 1213) (by decide +kernel)
theorem mw1214 : Cond.methodLink RX11 77 yX11_isBundle ∈ lw_tbl := List.mem_of_getElem? (i := 1214) (by decide +kernel)
theorem mw1216 : Cond.instanceMethod yX11_isBundle ∈ lw_tbl := List.mem_of_getElem? (i := 1216) (by decide +kernel)
theorem mw1217 : Cond.code yX11_isBundle cX11_isBundle 2 (some .boolean) ∈ lw_tbl := List.mem_of_getElem? (i := 1217) (by decide +kernel)
theorem mw1218 : Cond.methodLink RX11 81 yX11_sets ∈ lw_tbl := List.mem_of_getElem? (i := 1218) (by decide +kernel)
theorem mw1220 : Cond.instanceMethod yX11_sets ∈ lw_tbl := List.mem_of_getElem? (i := 1220) (by decide +kernel)
theorem mw1221 : Cond.code yX11_sets cX11_sets 4 none ∈ lw_tbl := List.mem_of_getElem? (i := 1221) (by decide +kernel)
theorem mw1222 : Cond.methodLink RX11 85 yX11_does ∈ lw_tbl := List.mem_of_getElem? (i := 1222) (by decide +kernel)
theorem mw1224 : Cond.instanceMethod yX11_does ∈ lw_tbl := List.mem_of_getElem? (i := 1224) (by decide +kernel)
theorem mw1225 : Cond.code yX11_does cX11_does 2 (some .int) ∈ lw_tbl := List.mem_of_getElem? (i := 1225) (by decide +kernel)
theorem mw1226 : Cond.methodLink RX11 92 yX11_ends ∈ lw_tbl := List.mem_of_getElem? (i := 1226) (by decide +kernel)
theorem mw1228 : Cond.instanceMethod yX11_ends ∈ lw_tbl := List.mem_of_getElem? (i := 1228) (by decide +kernel)
theorem mw1229 : Cond.code yX11_ends cX11_ends 2 (some .int) ∈ lw_tbl := List.mem_of_getElem? (i := 1229) (by decide +kernel)
theorem mw1230 : Cond.methodLink RL 41 yX11_tie ∈ lw_tbl := List.mem_of_getElem? (i := 1230) (by decide +kernel)
theorem mw1231 : Cond.instanceMethod yX11_tie ∈ lw_tbl := List.mem_of_getElem? (i := 1231) (by decide +kernel)
theorem mw1232 : Cond.selects RX11 yX11_tie yX11_tie ∈ lw_tbl := List.mem_of_getElem? (i := 1232) (by decide +kernel)
theorem mw1233 : Cond.code yX11_tie cX11_tie 2 (some .int) ∈ lw_tbl := List.mem_of_getElem? (i := 1233) (by decide +kernel)
theorem mw1234 : Cond.methodLink RX11 101 yX11_ties ∈ lw_tbl := List.mem_of_getElem? (i := 1234) (by decide +kernel)
theorem mw1236 : Cond.instanceMethod yX11_ties ∈ lw_tbl := List.mem_of_getElem? (i := 1236) (by decide +kernel)
theorem mw1237 : Cond.code yX11_ties cX11_ties 4 (some .int) ∈ lw_tbl := List.mem_of_getElem? (i := 1237) (by decide +kernel)
theorem mw1238 : Cond.methodLink RX11 95 yX11_isStorey ∈ lw_tbl := List.mem_of_getElem? (i := 1238) (by decide +kernel)
theorem mw1240 : Cond.instanceMethod yX11_isStorey ∈ lw_tbl := List.mem_of_getElem? (i := 1240) (by decide +kernel)
theorem mw1241 : Cond.code yX11_isStorey cX11_isStorey 2 (some .boolean) ∈ lw_tbl := List.mem_of_getElem? (i := 1241) (by decide +kernel)
theorem mw1242 : Cond.methodLink RX11 98 yX11_of ∈ lw_tbl := List.mem_of_getElem? (i := 1242) (by decide +kernel)
theorem mw1244 : Cond.instanceMethod yX11_of ∈ lw_tbl := List.mem_of_getElem? (i := 1244) (by decide +kernel)
theorem mw1245 : Cond.code yX11_of cX11_of 3 (some .int) ∈ lw_tbl := List.mem_of_getElem? (i := 1245) (by decide +kernel)
theorem mw1246 : Cond.methodLink RL 45 yX11_crew ∈ lw_tbl := List.mem_of_getElem? (i := 1246) (by decide +kernel)
theorem mw1247 : Cond.instanceMethod yX11_crew ∈ lw_tbl := List.mem_of_getElem? (i := 1247) (by decide +kernel)
theorem mw1248 : Cond.selects RX11 yX11_crew yX11_crew ∈ lw_tbl := List.mem_of_getElem? (i := 1248) (by decide +kernel)
theorem mw1249 : Cond.code yX11_crew cX11_crew 3 (some .int) ∈ lw_tbl := List.mem_of_getElem? (i := 1249) (by decide +kernel)
theorem mw1250 : Cond.methodLink RL 49 yX11_up ∈ lw_tbl := List.mem_of_getElem? (i := 1250) (by decide +kernel)
theorem mw1251 : Cond.instanceMethod yX11_up ∈ lw_tbl := List.mem_of_getElem? (i := 1251) (by decide +kernel)
theorem mw1252 : Cond.selects RX11 yX11_up yX11_up ∈ lw_tbl := List.mem_of_getElem? (i := 1252) (by decide +kernel)
theorem mw1253 : Cond.code yX11_up cX11_up 3 (some .int) ∈ lw_tbl := List.mem_of_getElem? (i := 1253) (by decide +kernel)
theorem mw1254 : Cond.methodLink RX11 124 yX11_goesUp ∈ lw_tbl := List.mem_of_getElem? (i := 1254) (by decide +kernel)
theorem mw1256 : Cond.instanceMethod yX11_goesUp ∈ lw_tbl := List.mem_of_getElem? (i := 1256) (by decide +kernel)
theorem mw1257 : Cond.code yX11_goesUp cX11_goesUp 5 (some .int) ∈ lw_tbl := List.mem_of_getElem? (i := 1257) (by decide +kernel)
theorem mw1258 : Cond.methodLink RX11 107 yX11_isCrew ∈ lw_tbl := List.mem_of_getElem? (i := 1258) (by decide +kernel)
theorem mw1260 : Cond.instanceMethod yX11_isCrew ∈ lw_tbl := List.mem_of_getElem? (i := 1260) (by decide +kernel)
theorem mw1261 : Cond.code yX11_isCrew cX11_isCrew 2 (some .boolean) ∈ lw_tbl := List.mem_of_getElem? (i := 1261) (by decide +kernel)
theorem mw1262 : Cond.methodLink RX11 104 yX11_where ∈ lw_tbl := List.mem_of_getElem? (i := 1262) (by decide +kernel)
theorem mw1264 : Cond.instanceMethod yX11_where ∈ lw_tbl := List.mem_of_getElem? (i := 1264) (by decide +kernel)
theorem mw1265 : Cond.code yX11_where cX11_where 2 (some .int) ∈ lw_tbl := List.mem_of_getElem? (i := 1265) (by decide +kernel)
theorem mw1266 : Cond.methodLink RX11 110 yX11_oldUpTo ∈ lw_tbl := List.mem_of_getElem? (i := 1266) (by decide +kernel)
theorem mw1268 : Cond.instanceMethod yX11_oldUpTo ∈ lw_tbl := List.mem_of_getElem? (i := 1268) (by decide +kernel)
theorem mw1269 : Cond.code yX11_oldUpTo cX11_oldUpTo 3 (some .int) ∈ lw_tbl := List.mem_of_getElem? (i := 1269) (by decide +kernel)
theorem mw1270 : Cond.methodLink RX11 113 yX11_refusesBy ∈ lw_tbl := List.mem_of_getElem? (i := 1270) (by decide +kernel)
theorem mw1272 : Cond.instanceMethod yX11_refusesBy ∈ lw_tbl := List.mem_of_getElem? (i := 1272) (by decide +kernel)
theorem mw1273 : Cond.code yX11_refusesBy cX11_refusesBy 4 (some .int) ∈ lw_tbl := List.mem_of_getElem? (i := 1273) (by decide +kernel)
theorem mw1274 : Cond.methodLink RX11 116 yX11_crewsOn ∈ lw_tbl := List.mem_of_getElem? (i := 1274) (by decide +kernel)
theorem mw1276 : Cond.instanceMethod yX11_crewsOn ∈ lw_tbl := List.mem_of_getElem? (i := 1276) (by decide +kernel)
theorem mw1277 : Cond.code yX11_crewsOn cX11_crewsOn 4 (some .int) ∈ lw_tbl := List.mem_of_getElem? (i := 1277) (by decide +kernel)
theorem mw1278 : Cond.methodLink RX11 119 yJ6_bitCount_0f7a4 ∈ lw_tbl := List.mem_of_getElem? (i := 1278) (by decide +kernel)
theorem mw1279 : Cond.methodLink RL 53 yX11_down ∈ lw_tbl := List.mem_of_getElem? (i := 1279) (by decide +kernel)
theorem mw1280 : Cond.instanceMethod yX11_down ∈ lw_tbl := List.mem_of_getElem? (i := 1280) (by decide +kernel)
theorem mw1281 : Cond.selects RX11 yX11_down yX11_down ∈ lw_tbl := List.mem_of_getElem? (i := 1281) (by decide +kernel)
theorem mw1282 : Cond.code yX11_down cX11_down 2 (some .int) ∈ lw_tbl := List.mem_of_getElem? (i := 1282) (by decide +kernel)
theorem mw1283 : Cond.methodLink RX11 127 yX11_comesDown ∈ lw_tbl := List.mem_of_getElem? (i := 1283) (by decide +kernel)
theorem mw1285 : Cond.instanceMethod yX11_comesDown ∈ lw_tbl := List.mem_of_getElem? (i := 1285) (by decide +kernel)
theorem mw1286 : Cond.code yX11_comesDown cX11_comesDown 3 (some .int) ∈ lw_tbl := List.mem_of_getElem? (i := 1286) (by decide +kernel)
theorem mw1287 : Cond.methodLink RL 57 yX11_lift ∈ lw_tbl := List.mem_of_getElem? (i := 1287) (by decide +kernel)
theorem mw1288 : Cond.instanceMethod yX11_lift ∈ lw_tbl := List.mem_of_getElem? (i := 1288) (by decide +kernel)
theorem mw1289 : Cond.selects RX11 yX11_lift yX11_lift ∈ lw_tbl := List.mem_of_getElem? (i := 1289) (by decide +kernel)
theorem mw1290 : Cond.code yX11_lift cX11_lift 3 (some .int) ∈ lw_tbl := List.mem_of_getElem? (i := 1290) (by decide +kernel)
theorem mw1291 : Cond.methodLink RX11 130 yX11_lifts ∈ lw_tbl := List.mem_of_getElem? (i := 1291) (by decide +kernel)
theorem mw1293 : Cond.instanceMethod yX11_lifts ∈ lw_tbl := List.mem_of_getElem? (i := 1293) (by decide +kernel)
theorem mw1294 : Cond.code yX11_lifts cX11_lifts 4 (some .int) ∈ lw_tbl := List.mem_of_getElem? (i := 1294) (by decide +kernel)
theorem mw1295 : Cond.methodLink RL 61 yX11_signal ∈ lw_tbl := List.mem_of_getElem? (i := 1295) (by decide +kernel)
theorem mw1296 : Cond.instanceMethod yX11_signal ∈ lw_tbl := List.mem_of_getElem? (i := 1296) (by decide +kernel)
theorem mw1297 : Cond.selects RX11 yX11_signal yX11_signal ∈ lw_tbl := List.mem_of_getElem? (i := 1297) (by decide +kernel)
theorem mw1298 : Cond.code yX11_signal cX11_signal 2 (some .int) ∈ lw_tbl := List.mem_of_getElem? (i := 1298) (by decide +kernel)
theorem mw1299 : Cond.methodLink RX11 133 yX11_signals ∈ lw_tbl := List.mem_of_getElem? (i := 1299) (by decide +kernel)
theorem mw1301 : Cond.instanceMethod yX11_signals ∈ lw_tbl := List.mem_of_getElem? (i := 1301) (by decide +kernel)
theorem mw1302 : Cond.code yX11_signals cX11_signals 4 (some .int) ∈ lw_tbl := List.mem_of_getElem? (i := 1302) (by decide +kernel)
theorem mw1303 : Cond.methodLink RL 65 yX11_inspector ∈ lw_tbl := List.mem_of_getElem? (i := 1303) (by decide +kernel)
theorem mw1304 : Cond.instanceMethod yX11_inspector ∈ lw_tbl := List.mem_of_getElem? (i := 1304) (by decide +kernel)
theorem mw1305 : Cond.selects RX11 yX11_inspector yX11_inspector ∈ lw_tbl := List.mem_of_getElem? (i := 1305) (by decide +kernel)
theorem mw1306 : Cond.code yX11_inspector cX11_inspector 3 (some .int) ∈ lw_tbl := List.mem_of_getElem? (i := 1306) (by decide +kernel)
theorem mw1307 : Cond.methodLink RL 69 yX11_inspect ∈ lw_tbl := List.mem_of_getElem? (i := 1307) (by decide +kernel)
theorem mw1308 : Cond.instanceMethod yX11_inspect ∈ lw_tbl := List.mem_of_getElem? (i := 1308) (by decide +kernel)
theorem mw1309 : Cond.selects RX11 yX11_inspect yX11_inspect ∈ lw_tbl := List.mem_of_getElem? (i := 1309) (by decide +kernel)
theorem mw1310 : Cond.code yX11_inspect cX11_inspect 3 (some .int) ∈ lw_tbl := List.mem_of_getElem? (i := 1310) (by decide +kernel)
theorem mw1311 : Cond.methodLink RX11 139 yX11_inspects ∈ lw_tbl := List.mem_of_getElem? (i := 1311) (by decide +kernel)
theorem mw1313 : Cond.instanceMethod yX11_inspects ∈ lw_tbl := List.mem_of_getElem? (i := 1313) (by decide +kernel)
theorem mw1314 : Cond.code yX11_inspects cX11_inspects 5 (some .int) ∈ lw_tbl := List.mem_of_getElem? (i := 1314) (by decide +kernel)
theorem mw1315 : Cond.methodLink RX11 136 yX11_isInspector ∈ lw_tbl := List.mem_of_getElem? (i := 1315) (by decide +kernel)
theorem mw1317 : Cond.instanceMethod yX11_isInspector ∈ lw_tbl := List.mem_of_getElem? (i := 1317) (by decide +kernel)
theorem mw1318 : Cond.code yX11_isInspector cX11_isInspector 2 (some .boolean) ∈ lw_tbl := List.mem_of_getElem? (i := 1318) (by decide +kernel)
theorem mw1319 : Cond.methodLink RL 73 yX11_day ∈ lw_tbl := List.mem_of_getElem? (i := 1319) (by decide +kernel)
theorem mw1320 : Cond.instanceMethod yX11_day ∈ lw_tbl := List.mem_of_getElem? (i := 1320) (by decide +kernel)
theorem mw1321 : Cond.selects RX11 yX11_day yX11_day ∈ lw_tbl := List.mem_of_getElem? (i := 1321) (by decide +kernel)
theorem mw1322 : Cond.code yX11_day cX11_day 2 (some .int) ∈ lw_tbl := List.mem_of_getElem? (i := 1322) (by decide +kernel)
theorem mw1323 : Cond.methodLink RX11 158 yX11_days ∈ lw_tbl := List.mem_of_getElem? (i := 1323) (by decide +kernel)
theorem mw1325 : Cond.instanceMethod yX11_days ∈ lw_tbl := List.mem_of_getElem? (i := 1325) (by decide +kernel)
theorem mw1326 : Cond.code yX11_days cX11_days 4 (some .int) ∈ lw_tbl := List.mem_of_getElem? (i := 1326) (by decide +kernel)
theorem mw1327 : Cond.methodLink RX11 154 yX11_passes ∈ lw_tbl := List.mem_of_getElem? (i := 1327) (by decide +kernel)
theorem mw1329 : Cond.instanceMethod yX11_passes ∈ lw_tbl := List.mem_of_getElem? (i := 1329) (by decide +kernel)
theorem mw1330 : Cond.code yX11_passes cX11_passes 5 (some .int) ∈ lw_tbl := List.mem_of_getElem? (i := 1330) (by decide +kernel)
theorem mw1331 : Cond.methodLink RX11 148 yX11_works ∈ lw_tbl := List.mem_of_getElem? (i := 1331) (by decide +kernel)
theorem mw1333 : Cond.instanceMethod yX11_works ∈ lw_tbl := List.mem_of_getElem? (i := 1333) (by decide +kernel)
theorem mw1334 : Cond.code yX11_works cX11_works 3 (some .boolean) ∈ lw_tbl := List.mem_of_getElem? (i := 1334) (by decide +kernel)
theorem mw1335 : Cond.methodLink RX11 151 yX11_fallsBy ∈ lw_tbl := List.mem_of_getElem? (i := 1335) (by decide +kernel)
theorem mw1337 : Cond.instanceMethod yX11_fallsBy ∈ lw_tbl := List.mem_of_getElem? (i := 1337) (by decide +kernel)
theorem mw1338 : Cond.code yX11_fallsBy cX11_fallsBy 3 (some .int) ∈ lw_tbl := List.mem_of_getElem? (i := 1338) (by decide +kernel)
theorem mw1339 : Cond.methodLink RX11 145 yX11_strong ∈ lw_tbl := List.mem_of_getElem? (i := 1339) (by decide +kernel)
theorem mw1341 : Cond.instanceMethod yX11_strong ∈ lw_tbl := List.mem_of_getElem? (i := 1341) (by decide +kernel)
theorem mw1342 : Cond.code yX11_strong cX11_strong 2 (some .int) ∈ lw_tbl := List.mem_of_getElem? (i := 1342) (by decide +kernel)
theorem mw1343 : Cond.methodLink RX11 142 yJ9_max_7cf53 ∈ lw_tbl := List.mem_of_getElem? (i := 1343) (by decide +kernel)
theorem mw1344 : Cond.methodLink RL 77 yX11_script ∈ lw_tbl := List.mem_of_getElem? (i := 1344) (by decide +kernel)
theorem mw1345 : Cond.instanceMethod yX11_script ∈ lw_tbl := List.mem_of_getElem? (i := 1345) (by decide +kernel)
theorem mw1346 : Cond.selects RX11 yX11_script yX11_script ∈ lw_tbl := List.mem_of_getElem? (i := 1346) (by decide +kernel)
theorem mw1347 : Cond.code yX11_script cX11_script 5 (some .int) ∈ lw_tbl := List.mem_of_getElem? (i := 1347) (by decide +kernel)
theorem mw1348 : Cond.methodLink RX11 176 yX11_isOrder ∈ lw_tbl := List.mem_of_getElem? (i := 1348) (by decide +kernel)
theorem mw1350 : Cond.instanceMethod yX11_isOrder ∈ lw_tbl := List.mem_of_getElem? (i := 1350) (by decide +kernel)
theorem mw1351 : Cond.code yX11_isOrder cX11_isOrder 1 (some .boolean) ∈ lw_tbl := List.mem_of_getElem? (i := 1351) (by decide +kernel)
theorem mw1352 : Cond.methodLink RX11 168 yX11_digits ∈ lw_tbl := List.mem_of_getElem? (i := 1352) (by decide +kernel)
theorem mw1354 : Cond.instanceMethod yX11_digits ∈ lw_tbl := List.mem_of_getElem? (i := 1354) (by decide +kernel)
theorem mw1355 : Cond.code yX11_digits cX11_digits 4 (some .boolean) ∈ lw_tbl := List.mem_of_getElem? (i := 1355) (by decide +kernel)
theorem mw1356 : Cond.methodLink RX11 172 yX11_isNext ∈ lw_tbl := List.mem_of_getElem? (i := 1356) (by decide +kernel)
theorem mw1358 : Cond.instanceMethod yX11_isNext ∈ lw_tbl := List.mem_of_getElem? (i := 1358) (by decide +kernel)
theorem mw1359 : Cond.code yX11_isNext cX11_isNext 2 (some .boolean) ∈ lw_tbl := List.mem_of_getElem? (i := 1359) (by decide +kernel)
theorem mw1360 : Cond.methodLink RX11 180 yX11_carries ∈ lw_tbl := List.mem_of_getElem? (i := 1360) (by decide +kernel)
theorem mw1362 : Cond.instanceMethod yX11_carries ∈ lw_tbl := List.mem_of_getElem? (i := 1362) (by decide +kernel)
theorem mw1363 : Cond.code yX11_carries cX11_carries 1 (some .int) ∈ lw_tbl := List.mem_of_getElem? (i := 1363) (by decide +kernel)
theorem mw1364 : Cond.methodLink RX11 183 yX11_comesBack ∈ lw_tbl := List.mem_of_getElem? (i := 1364) (by decide +kernel)
theorem mw1366 : Cond.instanceMethod yX11_comesBack ∈ lw_tbl := List.mem_of_getElem? (i := 1366) (by decide +kernel)
theorem mw1367 : Cond.code yX11_comesBack cX11_comesBack 2 none ∈ lw_tbl := List.mem_of_getElem? (i := 1367) (by decide +kernel)
theorem mw1368 : Cond.methodLink RL 81 yX11_fault ∈ lw_tbl := List.mem_of_getElem? (i := 1368) (by decide +kernel)
theorem mw1369 : Cond.instanceMethod yX11_fault ∈ lw_tbl := List.mem_of_getElem? (i := 1369) (by decide +kernel)
theorem mw1370 : Cond.selects RX11 yX11_fault yX11_fault ∈ lw_tbl := List.mem_of_getElem? (i := 1370) (by decide +kernel)
theorem mw1371 : Cond.code yX11_fault cX11_fault 1 (some .int) ∈ lw_tbl := List.mem_of_getElem? (i := 1371) (by decide +kernel)
theorem mw1372 : Cond.methodLink RL 86 yX11_reason ∈ lw_tbl := List.mem_of_getElem? (i := 1372) (by decide +kernel)
theorem mw1373 : Cond.instanceMethod yX11_reason ∈ lw_tbl := List.mem_of_getElem? (i := 1373) (by decide +kernel)
theorem mw1374 : Cond.selects RX11 yX11_reason yX11_reason ∈ lw_tbl := List.mem_of_getElem? (i := 1374) (by decide +kernel)
theorem mw1375 : Cond.code yX11_reason cX11_reason 3 (some .int) ∈ lw_tbl := List.mem_of_getElem? (i := 1375) (by decide +kernel)
theorem mw1376 : Cond.methodLink RL 90 yX11_bundleOf ∈ lw_tbl := List.mem_of_getElem? (i := 1376) (by decide +kernel)
theorem mw1377 : Cond.instanceMethod yX11_bundleOf ∈ lw_tbl := List.mem_of_getElem? (i := 1377) (by decide +kernel)
theorem mw1378 : Cond.selects RX11 yX11_bundleOf yX11_bundleOf ∈ lw_tbl := List.mem_of_getElem? (i := 1378) (by decide +kernel)
theorem mw1379 : Cond.code yX11_bundleOf cX11_bundleOf 3 (some .int) ∈ lw_tbl := List.mem_of_getElem? (i := 1379) (by decide +kernel)
theorem mw1380 : Cond.methodLink RL 94 yX11_storeyOf ∈ lw_tbl := List.mem_of_getElem? (i := 1380) (by decide +kernel)
theorem mw1381 : Cond.instanceMethod yX11_storeyOf ∈ lw_tbl := List.mem_of_getElem? (i := 1381) (by decide +kernel)
theorem mw1382 : Cond.selects RX11 yX11_storeyOf yX11_storeyOf ∈ lw_tbl := List.mem_of_getElem? (i := 1382) (by decide +kernel)
theorem mw1383 : Cond.code yX11_storeyOf cX11_storeyOf 3 (some .int) ∈ lw_tbl := List.mem_of_getElem? (i := 1383) (by decide +kernel)
theorem mw1384 : Cond.methodLink RL 98 yX11_strength ∈ lw_tbl := List.mem_of_getElem? (i := 1384) (by decide +kernel)
theorem mw1385 : Cond.instanceMethod yX11_strength ∈ lw_tbl := List.mem_of_getElem? (i := 1385) (by decide +kernel)
theorem mw1386 : Cond.selects RX11 yX11_strength yX11_strength ∈ lw_tbl := List.mem_of_getElem? (i := 1386) (by decide +kernel)
theorem mw1387 : Cond.code yX11_strength cX11_strength 3 (some .int) ∈ lw_tbl := List.mem_of_getElem? (i := 1387) (by decide +kernel)
theorem mw1388 : Cond.methodLink RL 102 yX11_weakest ∈ lw_tbl := List.mem_of_getElem? (i := 1388) (by decide +kernel)
theorem mw1389 : Cond.instanceMethod yX11_weakest ∈ lw_tbl := List.mem_of_getElem? (i := 1389) (by decide +kernel)
theorem mw1390 : Cond.selects RX11 yX11_weakest yX11_weakest ∈ lw_tbl := List.mem_of_getElem? (i := 1390) (by decide +kernel)
theorem mw1391 : Cond.code yX11_weakest cX11_weakest 3 (some .int) ∈ lw_tbl := List.mem_of_getElem? (i := 1391) (by decide +kernel)
theorem mw1392 : Cond.methodLink RL 106 yX11_oldest ∈ lw_tbl := List.mem_of_getElem? (i := 1392) (by decide +kernel)
theorem mw1393 : Cond.instanceMethod yX11_oldest ∈ lw_tbl := List.mem_of_getElem? (i := 1393) (by decide +kernel)
theorem mw1394 : Cond.selects RX11 yX11_oldest yX11_oldest ∈ lw_tbl := List.mem_of_getElem? (i := 1394) (by decide +kernel)
theorem mw1395 : Cond.code yX11_oldest cX11_oldest 5 (some .int) ∈ lw_tbl := List.mem_of_getElem? (i := 1395) (by decide +kernel)
theorem mw1396 : Cond.methodLink RL 110 yX11_crewOf ∈ lw_tbl := List.mem_of_getElem? (i := 1396) (by decide +kernel)
theorem mw1397 : Cond.instanceMethod yX11_crewOf ∈ lw_tbl := List.mem_of_getElem? (i := 1397) (by decide +kernel)
theorem mw1398 : Cond.selects RX11 yX11_crewOf yX11_crewOf ∈ lw_tbl := List.mem_of_getElem? (i := 1398) (by decide +kernel)
theorem mw1399 : Cond.code yX11_crewOf cX11_crewOf 3 (some .int) ∈ lw_tbl := List.mem_of_getElem? (i := 1399) (by decide +kernel)
theorem mw1400 : Cond.methodLink RX11 186 yX11_wouldWork ∈ lw_tbl := List.mem_of_getElem? (i := 1400) (by decide +kernel)
theorem mw1402 : Cond.instanceMethod yX11_wouldWork ∈ lw_tbl := List.mem_of_getElem? (i := 1402) (by decide +kernel)
theorem mw1403 : Cond.code yX11_wouldWork cX11_wouldWork 6 (some .boolean) ∈ lw_tbl := List.mem_of_getElem? (i := 1403) (by decide +kernel)
theorem mw1404 : Cond.methodLink RL 114 yX11_inspectorOf ∈ lw_tbl := List.mem_of_getElem? (i := 1404) (by decide +kernel)
theorem mw1405 : Cond.instanceMethod yX11_inspectorOf ∈ lw_tbl := List.mem_of_getElem? (i := 1405) (by decide +kernel)
theorem mw1406 : Cond.selects RX11 yX11_inspectorOf yX11_inspectorOf ∈ lw_tbl := List.mem_of_getElem? (i := 1406) (by decide +kernel)
theorem mw1407 : Cond.code yX11_inspectorOf cX11_inspectorOf 5 (some .int) ∈ lw_tbl := List.mem_of_getElem? (i := 1407) (by decide +kernel)
theorem mw1408 : Cond.methodLink RL 118 yX11_highest ∈ lw_tbl := List.mem_of_getElem? (i := 1408) (by decide +kernel)
theorem mw1409 : Cond.instanceMethod yX11_highest ∈ lw_tbl := List.mem_of_getElem? (i := 1409) (by decide +kernel)
theorem mw1410 : Cond.selects RX11 yX11_highest yX11_highest ∈ lw_tbl := List.mem_of_getElem? (i := 1410) (by decide +kernel)
theorem mw1411 : Cond.code yX11_highest cX11_highest 3 (some .int) ∈ lw_tbl := List.mem_of_getElem? (i := 1411) (by decide +kernel)
theorem mw1412 : Cond.methodLink RL 122 yX11_wouldFall ∈ lw_tbl := List.mem_of_getElem? (i := 1412) (by decide +kernel)
theorem mw1413 : Cond.instanceMethod yX11_wouldFall ∈ lw_tbl := List.mem_of_getElem? (i := 1413) (by decide +kernel)
theorem mw1414 : Cond.selects RX11 yX11_wouldFall yX11_wouldFall ∈ lw_tbl := List.mem_of_getElem? (i := 1414) (by decide +kernel)
theorem mw1415 : Cond.code yX11_wouldFall cX11_wouldFall 2 (some .int) ∈ lw_tbl := List.mem_of_getElem? (i := 1415) (by decide +kernel)
theorem mw1416 : Cond.methodLink RL 126 yX11_oldIn ∈ lw_tbl := List.mem_of_getElem? (i := 1416) (by decide +kernel)
theorem mw1417 : Cond.instanceMethod yX11_oldIn ∈ lw_tbl := List.mem_of_getElem? (i := 1417) (by decide +kernel)
theorem mw1418 : Cond.selects RX11 yX11_oldIn yX11_oldIn ∈ lw_tbl := List.mem_of_getElem? (i := 1418) (by decide +kernel)
theorem mw1419 : Cond.code yX11_oldIn cX11_oldIn 4 (some .int) ∈ lw_tbl := List.mem_of_getElem? (i := 1419) (by decide +kernel)
theorem mw1420 : Cond.methodLink RX11 189 yX11_thinks ∈ lw_tbl := List.mem_of_getElem? (i := 1420) (by decide +kernel)
theorem mw1422 : Cond.instanceMethod yX11_thinks ∈ lw_tbl := List.mem_of_getElem? (i := 1422) (by decide +kernel)
theorem mw1423 : Cond.code yX11_thinks cX11_thinks 2 none ∈ lw_tbl := List.mem_of_getElem? (i := 1423) (by decide +kernel)
theorem mw1424 : Cond.methodLink RX11 192 yX11_thinksNoMore ∈ lw_tbl := List.mem_of_getElem? (i := 1424) (by decide +kernel)
theorem mw1426 : Cond.instanceMethod yX11_thinksNoMore ∈ lw_tbl := List.mem_of_getElem? (i := 1426) (by decide +kernel)
theorem mw1427 : Cond.code yX11_thinksNoMore cX11_thinksNoMore 2 none ∈ lw_tbl := List.mem_of_getElem? (i := 1427) (by decide +kernel)
theorem mw1428 : Cond.methodLink RL 130 yX11_doneIn ∈ lw_tbl := List.mem_of_getElem? (i := 1428) (by decide +kernel)
theorem mw1429 : Cond.instanceMethod yX11_doneIn ∈ lw_tbl := List.mem_of_getElem? (i := 1429) (by decide +kernel)
theorem mw1430 : Cond.selects RX11 yX11_doneIn yX11_doneIn ∈ lw_tbl := List.mem_of_getElem? (i := 1430) (by decide +kernel)
theorem mw1431 : Cond.code yX11_doneIn cX11_doneIn 4 (some .int) ∈ lw_tbl := List.mem_of_getElem? (i := 1431) (by decide +kernel)
theorem mw1432 : Cond.methodLink RL 134 yX11_describe ∈ lw_tbl := List.mem_of_getElem? (i := 1432) (by decide +kernel)
theorem mw1433 : Cond.instanceMethod yX11_describe ∈ lw_tbl := List.mem_of_getElem? (i := 1433) (by decide +kernel)
theorem mw1434 : Cond.selects RX11 yX11_describe yX11_describe ∈ lw_tbl := List.mem_of_getElem? (i := 1434) (by decide +kernel)
theorem mw1435 : Cond.code yX11_describe cX11_describe 3 (some .int) ∈ lw_tbl := List.mem_of_getElem? (i := 1435) (by decide +kernel)
theorem mw1436 : Cond.methodLink RX11 198 yX11_writesNumber ∈ lw_tbl := List.mem_of_getElem? (i := 1436) (by decide +kernel)
theorem mw1438 : Cond.instanceMethod yX11_writesNumber ∈ lw_tbl := List.mem_of_getElem? (i := 1438) (by decide +kernel)
theorem mw1439 : Cond.code yX11_writesNumber cX11_writesNumber 2 none ∈ lw_tbl := List.mem_of_getElem? (i := 1439) (by decide +kernel)
theorem mw1440 : Cond.methodLink RX11 202 yX11_writes ∈ lw_tbl := List.mem_of_getElem? (i := 1440) (by decide +kernel)
theorem mw1442 : Cond.instanceMethod yX11_writes ∈ lw_tbl := List.mem_of_getElem? (i := 1442) (by decide +kernel)
theorem mw1443 : Cond.code yX11_writes cX11_writes 2 none ∈ lw_tbl := List.mem_of_getElem? (i := 1443) (by decide +kernel)
theorem mw1445 : Cond.methodLink RX11 208 yJ0_charAt_5068e ∈ lw_tbl := List.mem_of_getElem? (i := 1445) (by decide +kernel)
theorem mw1446 : Cond.methodLink RL 138 yX11_written ∈ lw_tbl := List.mem_of_getElem? (i := 1446) (by decide +kernel)
theorem mw1447 : Cond.instanceMethod yX11_written ∈ lw_tbl := List.mem_of_getElem? (i := 1447) (by decide +kernel)
theorem mw1448 : Cond.selects RX11 yX11_written yX11_written ∈ lw_tbl := List.mem_of_getElem? (i := 1448) (by decide +kernel)
theorem mw1449 : Cond.code yX11_written cX11_written 2 (some .int) ∈ lw_tbl := List.mem_of_getElem? (i := 1449) (by decide +kernel)
theorem mw1450 : Cond.methodLink RL 143 yX11_work ∈ lw_tbl := List.mem_of_getElem? (i := 1450) (by decide +kernel)
theorem mw1451 : Cond.instanceMethod yX11_work ∈ lw_tbl := List.mem_of_getElem? (i := 1451) (by decide +kernel)
theorem mw1452 : Cond.selects RX11 yX11_work yX11_work ∈ lw_tbl := List.mem_of_getElem? (i := 1452) (by decide +kernel)
theorem mw1453 : Cond.code yX11_work cX11_work 2 (some .int) ∈ lw_tbl := List.mem_of_getElem? (i := 1453) (by decide +kernel)
theorem mw1454 : Cond.methodLink RX11 214 yX11_sum ∈ lw_tbl := List.mem_of_getElem? (i := 1454) (by decide +kernel)
theorem mw1456 : Cond.instanceMethod yX11_sum ∈ lw_tbl := List.mem_of_getElem? (i := 1456) (by decide +kernel)
theorem mw1457 : Cond.code yX11_sum cX11_sum 4 (some .int) ∈ lw_tbl := List.mem_of_getElem? (i := 1457) (by decide +kernel)
theorem mw1458 : Cond.methodLink RL 148 yX11_meanStrength ∈ lw_tbl := List.mem_of_getElem? (i := 1458) (by decide +kernel)
theorem mw1459 : Cond.instanceMethod yX11_meanStrength ∈ lw_tbl := List.mem_of_getElem? (i := 1459) (by decide +kernel)
theorem mw1460 : Cond.selects RX11 yX11_meanStrength yX11_meanStrength ∈ lw_tbl := List.mem_of_getElem? (i := 1460) (by decide +kernel)
theorem mw1461 : Cond.code yX11_meanStrength cX11_meanStrength 4 (some .float) ∈ lw_tbl := List.mem_of_getElem? (i := 1461) (by decide +kernel)
theorem mw1462 : Cond.methodLink RL 153 yX11_doneShare ∈ lw_tbl := List.mem_of_getElem? (i := 1462) (by decide +kernel)
theorem mw1463 : Cond.instanceMethod yX11_doneShare ∈ lw_tbl := List.mem_of_getElem? (i := 1463) (by decide +kernel)
theorem mw1464 : Cond.selects RX11 yX11_doneShare yX11_doneShare ∈ lw_tbl := List.mem_of_getElem? (i := 1464) (by decide +kernel)
theorem mw1465 : Cond.code yX11_doneShare cX11_doneShare 1 (some .double) ∈ lw_tbl := List.mem_of_getElem? (i := 1465) (by decide +kernel)
theorem mw1466 : Cond.methodLink RL 157 yX11_account ∈ lw_tbl := List.mem_of_getElem? (i := 1466) (by decide +kernel)
theorem mw1467 : Cond.instanceMethod yX11_account ∈ lw_tbl := List.mem_of_getElem? (i := 1467) (by decide +kernel)
theorem mw1468 : Cond.selects RX11 yX11_account yX11_account ∈ lw_tbl := List.mem_of_getElem? (i := 1468) (by decide +kernel)
theorem mw1469 : Cond.code yX11_account cX11_account 4 (some .int) ∈ lw_tbl := List.mem_of_getElem? (i := 1469) (by decide +kernel)
theorem mw1470 : Cond.methodLink RL 161 yX11_undo ∈ lw_tbl := List.mem_of_getElem? (i := 1470) (by decide +kernel)
theorem mw1471 : Cond.instanceMethod yX11_undo ∈ lw_tbl := List.mem_of_getElem? (i := 1471) (by decide +kernel)
theorem mw1472 : Cond.selects RX11 yX11_undo yX11_undo ∈ lw_tbl := List.mem_of_getElem? (i := 1472) (by decide +kernel)
theorem mw1473 : Cond.code yX11_undo cX11_undo 2 (some .int) ∈ lw_tbl := List.mem_of_getElem? (i := 1473) (by decide +kernel)
theorem mw1474 : Cond.methodLink RL 165 yX11_save ∈ lw_tbl := List.mem_of_getElem? (i := 1474) (by decide +kernel)
theorem mw1475 : Cond.instanceMethod yX11_save ∈ lw_tbl := List.mem_of_getElem? (i := 1475) (by decide +kernel)
theorem mw1476 : Cond.selects RX11 yX11_save yX11_save ∈ lw_tbl := List.mem_of_getElem? (i := 1476) (by decide +kernel)
theorem mw1477 : Cond.code yX11_save cX11_save 2 (some .int) ∈ lw_tbl := List.mem_of_getElem? (i := 1477) (by decide +kernel)
theorem mw1478 : Cond.methodLink RL 169 yX11_restore ∈ lw_tbl := List.mem_of_getElem? (i := 1478) (by decide +kernel)
theorem mw1479 : Cond.instanceMethod yX11_restore ∈ lw_tbl := List.mem_of_getElem? (i := 1479) (by decide +kernel)
theorem mw1480 : Cond.selects RX11 yX11_restore yX11_restore ∈ lw_tbl := List.mem_of_getElem? (i := 1480) (by decide +kernel)
theorem mw1481 : Cond.code yX11_restore cX11_restore 2 (some .int) ∈ lw_tbl := List.mem_of_getElem? (i := 1481) (by decide +kernel)
theorem mw1482 : Cond.fieldLink RJ0 9 "java/lang/String" "value" "[B" ∈ lw_tbl := List.mem_of_getElem? (i := 1482) (by decide +kernel)
theorem mw1483 : Cond.fieldLink RJ0 15 "java/lang/String" "coder" "B" ∈ lw_tbl := List.mem_of_getElem? (i := 1483) (by decide +kernel)
end
section
/-! the world: 248 cells of the class, 10 of the reference, by index; E.1 gives the address of an index -/
abbrev St : Type := Nat → Nat → Int32
abbrev Ev : Type := (Nat → Nat) × (va_G × (ClassId × (ClassId × ClassId)))
def kdL : List Nat := [10, 8, 6, 13, 13, 7, 0, 13, 13, 9, 13, 13, 13, 13, 13, 13, 1, 13, 13, 13, 3, 13, 13, 7, 0, 13, 13, 9, 13, 13, 13, 13, 13, 13, 1, 13, 13, 13, 3, 13, 13, 7, 0, 13, 13, 9, 13, 13, 13, 13, 13, 13, 1, 13, 13, 13, 3, 13, 13, 2, 14, 7, 0, 13, 13, 9, 13, 13, 13, 13, 13, 13, 1, 13, 13, 13, 3, 13, 13, 7, 0, 13, 13, 9, 13, 13, 13, 13, 13, 13, 1, 13, 13, 13, 3, 13, 13, 7, 0, 13, 13, 9, 13, 13, 13, 13, 13, 13, 1, 13, 13, 13, 3, 13, 13, 7, 0, 13, 13, 9, 13, 13, 13, 13, 13, 13, 1, 13, 13, 13, 3, 13, 13, 7, 0, 13, 13, 9, 13, 13, 13, 13, 13, 13, 1, 13, 13, 13, 3, 13, 13, 7, 0, 13, 13, 9, 13, 13, 13, 13, 13, 13, 1, 13, 13, 13, 3, 13, 13, 7, 0, 13, 13, 9, 13, 13, 13, 13, 13, 13, 1, 13, 13, 13, 3, 13, 13, 7, 0, 13, 13, 9, 13, 13, 13, 13, 13, 13, 1, 13, 13, 13, 3, 13, 13, 7, 0, 13, 13, 9, 13, 13, 13, 13, 13, 13, 1, 13, 13, 13, 3, 13, 13, 7, 0, 13, 13, 9, 13, 13, 13, 13, 13, 13, 1, 13, 13, 13, 3, 13, 13, 4, 12, 4, 12, 5, 13, 13, 11, 13, 13, 13, 13, 13, 13, 12, 13, 13]
def lnL : List Nat := [0, 0, 0, 3, 3, 0, 0, 8, 8, 0, 10, 10, 10, 10, 10, 10, 0, 5, 5, 5, 0, 3, 3, 0, 0, 8, 8, 0, 10, 10, 10, 10, 10, 10, 0, 5, 5, 5, 0, 3, 3, 0, 0, 8, 8, 0, 10, 10, 10, 10, 10, 10, 0, 5, 5, 5, 0, 3, 3, 0, 9, 0, 0, 8, 8, 0, 10, 10, 10, 10, 10, 10, 0, 5, 5, 5, 0, 3, 3, 0, 0, 8, 8, 0, 10, 10, 10, 10, 10, 10, 0, 5, 5, 5, 0, 3, 3, 0, 0, 8, 8, 0, 10, 10, 10, 10, 10, 10, 0, 5, 5, 5, 0, 3, 3, 0, 0, 8, 8, 0, 10, 10, 10, 10, 10, 10, 0, 5, 5, 5, 0, 3, 3, 0, 0, 8, 8, 0, 10, 10, 10, 10, 10, 10, 0, 5, 5, 5, 0, 3, 3, 0, 0, 8, 8, 0, 10, 10, 10, 10, 10, 10, 0, 5, 5, 5, 0, 3, 3, 0, 0, 8, 8, 0, 10, 10, 10, 10, 10, 10, 0, 5, 5, 5, 0, 3, 3, 0, 0, 8, 8, 0, 10, 10, 10, 10, 10, 10, 0, 5, 5, 5, 0, 3, 3, 0, 0, 8, 8, 0, 10, 10, 10, 10, 10, 10, 0, 5, 5, 5, 0, 3, 3, 0, 0, 8, 8, 0, 10, 10, 10, 10, 10, 10, 0, 5, 5, 5, 0, 3, 3, 0, 60, 0, 200, 0, 20, 60, 0, 111, 111, 111, 888, 111, 180, 60, 3, 8]
def kd (k : Nat) : Nat := kdL.getD k 99
def ln (k : Nat) : Nat := lnL.getD k 0
def szc (ci : Nat) : Nat := ([3, 4, 182, 3, 2, 3, 3, 18, 22, 7, 248, 10] : List Nat).getD ci 0
def repc (ci : Nat) : Nat := ([6, 16, 59, 20, 241, 245, 2, 5, 1, 9, 0, 248] : List Nat).getD ci 0
def flds (ad : Nat → Nat) (k : Nat) (f : Nat → Int32) (ci : Nat) : List Value := match ci with
  | 0 => [.ref (ad (k + 1)), .ref (ad (k + 2)), .int (f 2)]
  | 1 => [.ref (ad (k + 1)), .ref (ad (k + 2)), .ref (ad (k + 3)), .int (f 3)]
  | 2 => [.ref (ad (k + 1)), .ref (ad (k + 2)), .int (f 2), .int (f 3)]
  | 3 => [.ref (ad (k + 1)), .ref (ad (k + 2)), .int (f 2)]
  | 4 => [.ref (ad (k + 1)), .int (f 1)]
  | 5 => [.ref (ad (k + 1)), .ref (ad (k + 2)), .int (f 2), .int (f 3)]
  | 6 => [.ref (ad (k + 1)), .ref (ad (k + 2)), .int (f 2)]
  | 7 => [.ref (ad (k + 1)), .ref (ad (k + 4)), .ref (ad (k + 11)), .ref (ad (k + 15)), .int (f 4), .int (f 5), .int (f 6), .int (f 7), .int (f 8), .int (f 9), .int (f 10), .int (f 11), .int (f 12), .int (f 13)]
  | 8 => [.ref (ad (k + 1)), .ref (ad (k + 4))]
  | 9 => [.ref (ad (k + 1)), .ref (ad (k + 2)), .ref (ad (k + 3)), .ref (ad (k + 4)), .ref (ad (k + 5)), .ref (ad (k + 6)), .int (f 6)]
  | 10 => [.ref (ad (k + 1)), .ref (ad (k + 5)), .ref (ad (k + 23)), .ref (ad (k + 41)), .ref (ad (k + 59)), .ref (ad (k + 241)), .ref (ad (k + 243)), .ref (ad (k + 245)), .int (f 8), .int (f 9)]
  | _ => [.ref (ad (k + 1)), .ref (ad (k + 2)), .ref (ad (k + 3)), .ref (ad (k + 4)), .int (f 4), .ref (ad (k + 5)), .int (f 6), .ref (ad (k + 6)), .int (f 8), .ref (ad (k + 7)), .int (f 10), .int (f 11), .int (f 12), .ref (ad (k + 8)), .int (f 14), .ref (ad (k + 9)), .int (f 16), .int (f 17)]
def cellW (E : Ev) (k : Nat) (f : Nat → Int32) : va_E := if kd k < 12 then .inr (kd k, flds E.1 k f (kd k)) else if kd k = 12 then .inl (E.2.2.1, ln k, .inl f) else if kd k = 13 then .inl (E.2.2.2.1, ln k, .inl f) else .inl (E.2.2.2.2, ln k, .inr (.inr (.inr (.inr (fun i => some (E.1 (k + 19 + 18 * i)))))))
def gW (E : Ev) (σ : St) : va_W := (List.range 258).map (fun k => (E.1 k, cellW E k (σ k)))
def AE (E : Ev) : Nat → Prop := fun q => ∃ k, k < 258 ∧ q = E.1 k
def tysE (E : Ev) : List (ClassId × FieldType) := [(E.2.2.1, .char), (E.2.2.2.1, .int), (E.2.2.2.2, .object "BambooTower$Scaffold")]
def u2 (σ : St) (k j : Nat) (v : Int32) : St := va_up σ k (upd (σ k) j v)
def lay (ci k : Nat) : Prop := ci < 12 ∧ k + szc ci ≤ 258 ∧ ∀ r, r < szc ci → kd (k + r) = kd (repc ci + r)
def arr (t k : Nat) : Prop := k < 258 ∧ kd k = t
set_option maxRecDepth 20000 in
theorem rep_ok : ∀ ci, ci < 12 → kd (repc ci) = ci ∧ 0 < szc ci := by decide +kernel
theorem lay_kd {ci k : Nat} (h : lay ci k) : kd k = ci := by
  have h1 := h.2.2 0 (rep_ok ci h.1).2
  rw [Nat.add_zero, Nat.add_zero] at h1
  rw [h1]; exact (rep_ok ci h.1).1
theorem lay_lt {ci k : Nat} (h : lay ci k) : k < 258 := by
  have h1 := (rep_ok ci h.1).2
  have h2 := h.2.1
  omega
theorem lay_arr {ci k : Nat} (h : lay ci k) (r t : Nat) (hr : r < szc ci) (ht : kd (repc ci + r) = t) : arr t (k + r) := ⟨by have := h.2.1; omega, by rw [h.2.2 r hr]; exact ht⟩
theorem lay_sub {ci k : Nat} (h : lay ci k) (r cj : Nat) (hj : cj < 12) (hr : r + szc cj ≤ szc ci) (hs : ∀ q, q < szc cj → kd (repc ci + (r + q)) = kd (repc cj + q)) : lay cj (k + r) :=
  ⟨hj, by have := h.2.1; omega, fun q hq => by rw [Nat.add_assoc, h.2.2 (r + q) (by omega)]; exact hs q hq⟩
theorem cell_ob {E : Ev} {ci k : Nat} {f : Nat → Int32} (h : lay ci k) : cellW E k f = .inr (ci, flds E.1 k f ci) := by
  unfold cellW; rw [lay_kd h, if_pos h.1]
theorem cell_ob2 {E : Ev} {ci k : Nat} {f : Nat → Int32} (h : kd k = ci) (h2 : ci < 12) : cellW E k f = .inr (ci, flds E.1 k f ci) := by
  unfold cellW; rw [h, if_pos h2]
theorem cell_ch {E : Ev} {k : Nat} {f : Nat → Int32} (h : kd k = 12) : cellW E k f = .inl (E.2.2.1, ln k, .inl f) := by
  unfold cellW; rw [h]; rfl
theorem cell_in {E : Ev} {k : Nat} {f : Nat → Int32} (h : kd k = 13) : cellW E k f = .inl (E.2.2.2.1, ln k, .inl f) := by
  unfold cellW; rw [h]; rfl
theorem cell_sc {E : Ev} {k : Nat} {f : Nat → Int32} (h : kd k = 14) : cellW E k f = .inl (E.2.2.2.2, ln k, .inr (.inr (.inr (.inr (fun i => some (E.1 (k + 19 + 18 * i))))))) := by
  unfold cellW; rw [h]; rfl
theorem gW_at (E : Ev) (σ : St) {k : Nat} (h : k < 258) : (gW E σ)[k]? = some (E.1 k, cellW E k (σ k)) := by
  unfold gW; rw [List.getElem?_map, List.getElem?_range h]; rfl
theorem gW_len (E : Ev) (σ : St) : (gW E σ).length = 258 := by unfold gW; rw [List.length_map, List.length_range]
theorem gW_out (E : Ev) (σ : St) {k : Nat} (h : 258 ≤ k) : (gW E σ)[k]? = none := List.getElem?_eq_none (by rw [gW_len]; exact h)
theorem gW_set {E : Ev} {σ : St} {k : Nat} (h : k < 258) (f : Nat → Int32) {e : va_E} (he : e = cellW E k f) : (gW E σ).set k (E.1 k, e) = gW E (va_up σ k f) := by
  subst he
  apply List.ext_getElem?
  intro j
  by_cases hj : j < 258
  · by_cases hk : j = k
    · subst hk
      rw [List.getElem?_set_self (by rw [gW_len]; exact h), gW_at E _ h, va_up_self]
    · rw [List.getElem?_set_ne (Ne.symm hk), gW_at E _ hj, gW_at E _ hj, va_up_ne _ _ hk]
  · rw [gW_out E _ (by omega)]
    exact List.getElem?_eq_none (by rw [List.length_set, gW_len]; omega)
def bput {α : Type} (σ : St) (k j : Nat) (v : Int32) (K : St → Option α) : Option α := K (u2 σ k j v)
def blet {α : Type} (v : Int32) (K : Int32 → Option α) : Option α := K v
def bald {α : Type} (σ : St) (k : Nat) (i : Int32) (K : Int32 → Option α) : Option α := if 0 ≤ i.toInt ∧ i.toInt < ln k then K (σ k i.toNatClampNeg) else none
def bast {α : Type} (σ : St) (k : Nat) (i x : Int32) (K : St → Option α) : Option α := if 0 ≤ i.toInt ∧ i.toInt < ln k then K (u2 σ k i.toNatClampNeg x) else none
def bcast {α : Type} (σ : St) (k : Nat) (i x : Int32) (K : St → Option α) : Option α := if 0 ≤ i.toInt ∧ i.toInt < ln k then K (u2 σ k i.toNatClampNeg (vp_nar .char x)) else none
def bcall {α β : Type} (o : Option (St × β)) (K : St → β → Option α) : Option α := match o with
  | none => none
  | some q => K q.1 q.2
def bchk {α : Type} (c : Bool) (K : Option α) : Option α := if c = true then K else none
def okC (v : Int32) : Bool := decide (0 ≤ v) && decide (v ≤ 65535)
def okZ (v : Int32) : Bool := v == 0 || v == 1
def rmd (d : Nat) : Room := { frames := d, cells := 0, slots := 0, locals := 200 * d }
def GB (E : Ev) (σ : St) (U : State) : Prop := va_P E.2.1 vwCl (gW E σ) U.heap ∧ va_K E.2.1 vwCl (tysE E) U ∧ va_D (AE E) (gW E σ)
def GS (E : Ev) (σ : St) (H0 H : Heap) (locs : List Loc) : Prop := va_P E.2.1 vwCl (gW E σ) H ∧ va_D (AE E) (gW E σ) ∧ va_S (AE E) H0 H locs
def wsM (y : MethodName) (cc : ByteArray) (nL : Nat) (ret : Option FieldType) : List Cond := .code y cc nL ret :: lw_tbl.filter goodWord
/-- the contract of a method that answers a whole number (or a boolean, a character) -/
def Mi (l : Launch) (E : Ev) (y : MethodName) (cc : ByteArray) (nL : Nat) (ret : Option FieldType) (d : Nat) (av : List Value) (σ σ' : St) (r : Int32) : Prop := Met l y (wsM y cc nL ret) (rmd d) (va_Pc av (GB E σ)) (va_Qi (fun (r' : Int32) (u : St) => r' = r ∧ u = σ') (GB E) (AE E)) 0 0 (AE E)
def Mv (l : Launch) (E : Ev) (y : MethodName) (cc : ByteArray) (nL : Nat) (d : Nat) (av : List Value) (σ σ' : St) : Prop := Met l y (wsM y cc nL none) (rmd d) (va_Pc av (GB E σ)) (va_Qv (fun (u : St) => u = σ') (GB E) (AE E)) 0 0 (AE E)
/-- .. that answers the object of index r -/
def Mr (l : Launch) (E : Ev) (y : MethodName) (cc : ByteArray) (nL : Nat) (ret : Option FieldType) (d : Nat) (av : List Value) (σ σ' : St) (r : Nat) : Prop := Met l y (wsM y cc nL ret) (rmd d) (va_Pc av (GB E σ)) (va_Qr (fun (u : St) => u = σ') (fun u ra t => ra = E.1 r ∧ GB E u t) (AE E)) 0 0 (AE E)
def Cx (E : Ev) (p : Program) (m : MethodId) (c : Code) (cc : ByteArray) (nL : Nat) (s : State) (args : Array Value) (own : String) : Prop := CallFix p m c cc nL s args (lw_tbl.filter goodWord) own ∧ va_K E.2.1 vwCl (tysE E) s
theorem gw_in {w : Cond} (h : w ∈ lw_tbl) (hg : goodWord w = true) : w ∈ lw_tbl.filter goodWord := List.mem_filter.mpr ⟨h, hg⟩
theorem gw_ws {ci : Nat} {C : String} {T : u_T} {N : Nat} (h : ∀ w ∈ u_ws C T N, w ∈ lw_tbl) (hg : (u_ws C T N).all goodWord = true) : ∀ w ∈ u_ws C T N, w ∈ lw_tbl.filter goodWord := fun w hw => gw_in (h w hw) (List.all_eq_true.mp hg w hw)
theorem gw_ok {y : MethodName} {cc : ByteArray} {nL : Nat} {ret : Option FieldType} (h : Cond.code y cc nL ret ∈ lw_tbl) (hg : goodWord (Cond.code y cc nL ret) = true) : GoodIn (lw_tbl.filter goodWord) (wsM y cc nL ret) := by
  intro w hw
  rcases List.mem_cons.mp hw with rfl | hw
  · exact ⟨gw_in h hg, good_of_word hg⟩
  · exact ⟨hw, good_of_word (List.mem_filter.mp hw).2⟩
end
section
section GR
variable {p : Program} {l : Launch} {e : Env} {R : Room} {s : State} {m : MethodId} {args : Array Value} {below : List Frame} {meth : Method} {c : Code} {H H0 : Heap} {locs : List Loc} {cells slots : Nat} {Q : State → Prop} {cc : ByteArray} {pc : Nat} {ls : Array Slot} {rest : List Value} {nL : Nat} {own : String} {E : Ev} {σ : St}
theorem g_get (X : Cx E p m c cc nL s args own) (hG : GS E σ H0 H locs) {ci k : Nat} (hL : lay ci k) {C : String} {T : u_T} {N : Nat} (hc : vwCl[ci]? = some (C, T, N)) (hin : ∀ w ∈ u_ws C T N, w ∈ lw_tbl.filter goodWord) (j : Nat) (hj : j < N) {index : Nat} (hw : Cond.fieldLink own index (T j).1 (T j).2.1 (T j).2.2.1 ∈ lw_tbl.filter goodWord) {v : Value} (hv : (flds E.1 k (σ k) ci)[j]? = some v) (hdg : decode cc pc = .ok (.getfield index, 3))
    (kk : W p l e R s m args below meth c H locs cells slots Q (F0 m (pc + 3) ls (v :: rest))) : W p l e R s m args below meth c H locs cells slots Q (F0 m pc ls (.ref (E.1 k) :: rest)) := by
  obtain ⟨⟨hx, hb, hml, hown, hts⟩, hK⟩ := X
  have he : (gW E σ)[k]? = some (E.1 k, .inr (ci, flds E.1 k (σ k) ci)) := by rw [gW_at E σ (lay_lt hL), cell_ob hL]
  exact va_get hx hb hts hin hown hK hG.1 k he hc j hj (hts _ hw) (fun _ h => h) hv hdg kk
theorem g_getN (X : Cx E p m c cc nL s args own) (hG : GS E σ H0 H locs) {ci k : Nat} (hL : lay ci k) {C host : String} {T : u_T} {N : Nat} (hc : vwCl[ci]? = some (C, T, N)) (hin : ∀ w ∈ u_ws C T N, w ∈ lw_tbl.filter goodWord) (j : Nat) (hj : j < N) {index : Nat} (hw : Cond.fieldLinkNest own index (T j).1 (T j).2.1 (T j).2.2.1 host ∈ lw_tbl.filter goodWord) {v : Value} (hv : (flds E.1 k (σ k) ci)[j]? = some v) (hdg : decode cc pc = .ok (.getfield index, 3))
    (kk : W p l e R s m args below meth c H locs cells slots Q (F0 m (pc + 3) ls (v :: rest))) : W p l e R s m args below meth c H locs cells slots Q (F0 m pc ls (.ref (E.1 k) :: rest)) := by
  obtain ⟨⟨hx, hb, hml, hown, hts⟩, hK⟩ := X
  have he : (gW E σ)[k]? = some (E.1 k, .inr (ci, flds E.1 k (σ k) ci)) := by rw [gW_at E σ (lay_lt hL), cell_ob hL]
  exact va_getN hx hb hts hin hown hK hG.1 k he hc j hj (hts _ hw) (fun _ h => h) hv hdg kk
theorem g_put {α : Type} {K : St → Option α} {z : α} (X : Cx E p m c cc nL s args own) (hG : GS E σ H0 H locs) {ci k : Nat} (hL : lay ci k) {C : String} {T : u_T} {N : Nat} (hc : vwCl[ci]? = some (C, T, N)) (hin : ∀ w ∈ u_ws C T N, w ∈ lw_tbl.filter goodWord) (ty0 : Nat → FieldType) (hty : ∀ k, k < N → parseFieldDescriptor (T k).2.2.1 = some (ty0 k)) (hnm : ∀ a, a < N → ∀ b, b < N → a ≠ b → (T a).2.1 ≠ (T b).2.1) (j : Nat) (hj : j < N) {index : Nat} (hw : Cond.fieldLink own index (T j).1 (T j).2.1 (T j).2.2.1 ∈ lw_tbl.filter goodWord) (hfin : (T j).2.2.2 = false) {ty : FieldType} {v : Int32} (hd : parseFieldDescriptor (T j).2.2.1 = some ty) (hn : narrow ty (.int v) = .int v) (hfit : fits ty (.int v) = true) (hlen : j < (flds E.1 k (σ k) ci).length) (hset : (flds E.1 k (σ k) ci).set j (.int v) = flds E.1 k (upd (σ k) j v) ci) (hdg : decode cc pc = .ok (.putfield index, 3)) (hM : bput σ k j v K = some z)
    (kk : ∀ (σ1 : St) (H1 : Heap) (locs1 : List Loc), GS E σ1 H0 H1 locs1 → K σ1 = some z → W p l e R s m args below meth c H1 locs1 cells slots Q (F0 m (pc + 3) ls rest)) : W p l e R s m args below meth c H locs cells slots Q (F0 m pc ls (.int v :: .ref (E.1 k) :: rest)) := by
  obtain ⟨⟨hx, hb, hml, hown, hts⟩, hK⟩ := X
  have he : (gW E σ)[k]? = some (E.1 k, .inr (ci, flds E.1 k (σ k) ci)) := by rw [gW_at E σ (lay_lt hL), cell_ob hL]
  refine va_put hx hb hts hin ty0 hty hnm hown hK hG.1 hG.2.1 hG.2.2 k he hc j hj (hts _ hw) (fun _ h => h) hfin hd hn hfit hlen hdg (fun H1 locs1 a b d => ?_)
  have e1 : (gW E σ).set k (E.1 k, .inr (ci, (flds E.1 k (σ k) ci).set j (.int v))) = gW E (u2 σ k j v) := by
    rw [hset]; exact gW_set (lay_lt hL) _ (cell_ob hL).symm
  rw [e1] at a b
  exact kk _ H1 locs1 ⟨a, b, d⟩ hM
theorem g_putN {α : Type} {K : St → Option α} {z : α} (X : Cx E p m c cc nL s args own) (hG : GS E σ H0 H locs) {ci k : Nat} (hL : lay ci k) {C host : String} {T : u_T} {N : Nat} (hc : vwCl[ci]? = some (C, T, N)) (hin : ∀ w ∈ u_ws C T N, w ∈ lw_tbl.filter goodWord) (ty0 : Nat → FieldType) (hty : ∀ k, k < N → parseFieldDescriptor (T k).2.2.1 = some (ty0 k)) (hnm : ∀ a, a < N → ∀ b, b < N → a ≠ b → (T a).2.1 ≠ (T b).2.1) (j : Nat) (hj : j < N) {index : Nat} (hw : Cond.fieldLinkNest own index (T j).1 (T j).2.1 (T j).2.2.1 host ∈ lw_tbl.filter goodWord) (hfin : (T j).2.2.2 = false) {ty : FieldType} {v : Int32} (hd : parseFieldDescriptor (T j).2.2.1 = some ty) (hn : narrow ty (.int v) = .int v) (hfit : fits ty (.int v) = true) (hlen : j < (flds E.1 k (σ k) ci).length) (hset : (flds E.1 k (σ k) ci).set j (.int v) = flds E.1 k (upd (σ k) j v) ci) (hdg : decode cc pc = .ok (.putfield index, 3)) (hM : bput σ k j v K = some z)
    (kk : ∀ (σ1 : St) (H1 : Heap) (locs1 : List Loc), GS E σ1 H0 H1 locs1 → K σ1 = some z → W p l e R s m args below meth c H1 locs1 cells slots Q (F0 m (pc + 3) ls rest)) : W p l e R s m args below meth c H locs cells slots Q (F0 m pc ls (.int v :: .ref (E.1 k) :: rest)) := by
  obtain ⟨⟨hx, hb, hml, hown, hts⟩, hK⟩ := X
  have he : (gW E σ)[k]? = some (E.1 k, .inr (ci, flds E.1 k (σ k) ci)) := by rw [gW_at E σ (lay_lt hL), cell_ob hL]
  refine va_putN hx hb hts hin ty0 hty hnm hown hK hG.1 hG.2.1 hG.2.2 k he hc j hj (hts _ hw) (fun _ h => h) hfin hd hn hfit hlen hdg (fun H1 locs1 a b d => ?_)
  have e1 : (gW E σ).set k (E.1 k, .inr (ci, (flds E.1 k (σ k) ci).set j (.int v))) = gW E (u2 σ k j v) := by
    rw [hset]; exact gW_set (lay_lt hL) _ (cell_ob hL).symm
  rw [e1] at a b
  exact kk _ H1 locs1 ⟨a, b, d⟩ hM
theorem vp_in_ij {i : Int32} {n : Nat} (h : 0 ≤ i.toInt ∧ i.toInt < n) : vp_in i n := vp_in_iff.mpr h
theorem g_ald {α : Type} {K : Int32 → Option α} {z : α} (X : Cx E p m c cc nL s args own) (hG : GS E σ H0 H locs) {k : Nat} (hA : arr 13 k) {i : Int32} (hdg : decode cc pc = .ok (.iaload, 1)) (hM : bald σ k i K = some z)
    (kk : ∀ x : Int32, K x = some z → W p l e R s m args below meth c H locs cells slots Q (F0 m (pc + 1) ls (.int x :: rest))) : W p l e R s m args below meth c H locs cells slots Q (F0 m pc ls (.int i :: .ref (E.1 k) :: rest)) := by
  obtain ⟨⟨hx, hb, hml, hown, hts⟩, hK⟩ := X
  unfold bald at hM
  by_cases hi : 0 ≤ i.toInt ∧ i.toInt < ln k
  · rw [if_pos hi] at hM
    exact va_iald hx hb hK hG.1 k 1 (by rw [gW_at E σ hA.1, cell_in hA.2]) rfl (vp_in_ij hi) hdg (kk _ hM)
  · rw [if_neg hi] at hM; cases hM
theorem g_cald {α : Type} {K : Int32 → Option α} {z : α} (X : Cx E p m c cc nL s args own) (hG : GS E σ H0 H locs) {k : Nat} (hA : arr 12 k) {i : Int32} (hdg : decode cc pc = .ok (.caload, 1)) (hM : bald σ k i K = some z)
    (kk : ∀ x : Int32, K x = some z → W p l e R s m args below meth c H locs cells slots Q (F0 m (pc + 1) ls (.int x :: rest))) : W p l e R s m args below meth c H locs cells slots Q (F0 m pc ls (.int i :: .ref (E.1 k) :: rest)) := by
  obtain ⟨⟨hx, hb, hml, hown, hts⟩, hK⟩ := X
  unfold bald at hM
  by_cases hi : 0 ≤ i.toInt ∧ i.toInt < ln k
  · rw [if_pos hi] at hM
    exact va_cald hx hb hK hG.1 k 0 (by rw [gW_at E σ hA.1, cell_ch hA.2]) rfl (vp_in_ij hi) hdg (kk _ hM)
  · rw [if_neg hi] at hM; cases hM
theorem g_ast {α : Type} {K : St → Option α} {z : α} (X : Cx E p m c cc nL s args own) (hG : GS E σ H0 H locs) {k : Nat} (hA : arr 13 k) {i x : Int32} (hdg : decode cc pc = .ok (.iastore, 1)) (hM : bast σ k i x K = some z)
    (kk : ∀ (σ1 : St) (H1 : Heap) (locs1 : List Loc), GS E σ1 H0 H1 locs1 → K σ1 = some z → W p l e R s m args below meth c H1 locs1 cells slots Q (F0 m (pc + 1) ls rest)) : W p l e R s m args below meth c H locs cells slots Q (F0 m pc ls (.int x :: .int i :: .ref (E.1 k) :: rest)) := by
  obtain ⟨⟨hx, hb, hml, hown, hts⟩, hK⟩ := X
  unfold bast at hM
  by_cases hi : 0 ≤ i.toInt ∧ i.toInt < ln k
  · rw [if_pos hi] at hM
    refine va_iast hx hb hK hG.1 hG.2.1 hG.2.2 k 1 (by rw [gW_at E σ hA.1, cell_in hA.2]) rfl (vp_in_ij hi) hdg (fun H1 locs1 a b d => ?_)
    rw [gW_set hA.1 (upd (σ k) i.toNatClampNeg x) (cell_in hA.2).symm] at a b
    exact kk _ H1 locs1 ⟨a, b, d⟩ hM
  · rw [if_neg hi] at hM; cases hM
theorem g_cast {α : Type} {K : St → Option α} {z : α} (X : Cx E p m c cc nL s args own) (hG : GS E σ H0 H locs) {k : Nat} (hA : arr 12 k) {i x : Int32} (hdg : decode cc pc = .ok (.castore, 1)) (hM : bcast σ k i x K = some z)
    (kk : ∀ (σ1 : St) (H1 : Heap) (locs1 : List Loc), GS E σ1 H0 H1 locs1 → K σ1 = some z → W p l e R s m args below meth c H1 locs1 cells slots Q (F0 m (pc + 1) ls rest)) : W p l e R s m args below meth c H locs cells slots Q (F0 m pc ls (.int x :: .int i :: .ref (E.1 k) :: rest)) := by
  obtain ⟨⟨hx, hb, hml, hown, hts⟩, hK⟩ := X
  unfold bcast at hM
  by_cases hi : 0 ≤ i.toInt ∧ i.toInt < ln k
  · rw [if_pos hi] at hM
    refine va_cast hx hb hK hG.1 hG.2.1 hG.2.2 k 0 (by rw [gW_at E σ hA.1, cell_ch hA.2]) rfl (vp_in_ij hi) hdg (fun H1 locs1 a b d => ?_)
    rw [gW_set hA.1 (upd (σ k) i.toNatClampNeg (vp_nar .char x)) (cell_ch hA.2).symm] at a b
    exact kk _ H1 locs1 ⟨a, b, d⟩ hM
  · rw [if_neg hi] at hM; cases hM
theorem g_len (X : Cx E p m c cc nL s args own) (hG : GS E σ H0 H locs) {k : Nat} (hA : arr 13 k) (hdg : decode cc pc = .ok (.arraylength, 1))
    (kk : W p l e R s m args below meth c H locs cells slots Q (F0 m (pc + 1) ls (.int (Int32.ofNat (ln k)) :: rest))) : W p l e R s m args below meth c H locs cells slots Q (F0 m pc ls (.ref (E.1 k) :: rest)) := by
  obtain ⟨⟨hx, hb, hml, hown, hts⟩, hK⟩ := X
  exact va_alen hx hb hK hG.1 k 1 (by rw [gW_at E σ hA.1, cell_in hA.2]) rfl rfl hdg kk
theorem g_lenC (X : Cx E p m c cc nL s args own) (hG : GS E σ H0 H locs) {k : Nat} (hA : arr 12 k) (hdg : decode cc pc = .ok (.arraylength, 1))
    (kk : W p l e R s m args below meth c H locs cells slots Q (F0 m (pc + 1) ls (.int (Int32.ofNat (ln k)) :: rest))) : W p l e R s m args below meth c H locs cells slots Q (F0 m pc ls (.ref (E.1 k) :: rest)) := by
  obtain ⟨⟨hx, hb, hml, hown, hts⟩, hK⟩ := X
  exact va_alen hx hb hK hG.1 k 0 (by rw [gW_at E σ hA.1, cell_ch hA.2]) rfl rfl hdg kk
theorem g_lenS (X : Cx E p m c cc nL s args own) (hG : GS E σ H0 H locs) {k : Nat} (hA : arr 14 k) (hdg : decode cc pc = .ok (.arraylength, 1))
    (kk : W p l e R s m args below meth c H locs cells slots Q (F0 m (pc + 1) ls (.int (Int32.ofNat (ln k)) :: rest))) : W p l e R s m args below meth c H locs cells slots Q (F0 m pc ls (.ref (E.1 k) :: rest)) := by
  obtain ⟨⟨hx, hb, hml, hown, hts⟩, hK⟩ := X
  exact va_alen hx hb hK hG.1 k 2 (by rw [gW_at E σ hA.1, cell_sc hA.2]) rfl rfl hdg kk
def baldS {α : Type} (k : Nat) (i : Int32) (K : Nat → Option α) : Option α := if 0 ≤ i.toInt ∧ i.toInt < ln k then K (k + 19 + 18 * i.toNatClampNeg) else none
theorem g_aldS {α : Type} {K : Nat → Option α} {z : α} (X : Cx E p m c cc nL s args own) (hG : GS E σ H0 H locs) {k : Nat} (hA : arr 14 k) {i : Int32} (hdg : decode cc pc = .ok (.aaload, 1)) (hM : baldS k i K = some z)
    (kk : ∀ x : Nat, x = k + 19 + 18 * i.toNatClampNeg → K x = some z → W p l e R s m args below meth c H locs cells slots Q (F0 m (pc + 1) ls (.ref (E.1 x) :: rest))) : W p l e R s m args below meth c H locs cells slots Q (F0 m pc ls (.int i :: .ref (E.1 k) :: rest)) := by
  obtain ⟨⟨hx, hb, hml, hown, hts⟩, hK⟩ := X
  unfold baldS at hM
  by_cases hi : 0 ≤ i.toInt ∧ i.toInt < ln k
  · rw [if_pos hi] at hM
    exact va_aldq hx hb hK hG.1 k 2 (by rw [gW_at E σ hA.1, cell_sc hA.2]) rfl (vp_in_ij hi) hdg (kk _ rfl hM)
  · rw [if_neg hi] at hM; cases hM
theorem g_name {α : Type} {K : Int32 → Option α} {z : α} {v : Int32} (hM : blet v K = some z) (kk : ∀ x : Int32, K x = some z → W p l e R s m args below meth c H locs cells slots Q (F0 m pc ls (.int x :: rest))) : W p l e R s m args below meth c H locs cells slots Q (F0 m pc ls (.int v :: rest)) := kk v hM
theorem b_if {α : Type} {P : Prop} {A B : Option α} {z : α} (dP : Decidable P) (hM : (if P then A else B) = some z) (h : P) : A = some z := by rw [if_pos h] at hM; exact hM
theorem b_else {α : Type} {P : Prop} {A B : Option α} {z : α} (dP : Decidable P) (hM : (if P then A else B) = some z) (h : ¬ P) : B = some z := by rw [if_neg h] at hM; exact hM
theorem b_chk {α : Type} {ck : Bool} {K : Option α} {z : α} (hM : bchk ck K = some z) : ck = true ∧ K = some z := by
  unfold bchk at hM
  by_cases h : ck = true
  · rw [if_pos h] at hM; exact ⟨h, hM⟩
  · rw [if_neg h] at hM; cases hM
theorem okC_n {v : Int32} (h : okC v = true) : narrow .char (.int v) = .int v ∧ fits .char (.int v) = true := by
  unfold okC at h
  have h' := h
  simp only [Bool.and_eq_true, decide_eq_true_eq] at h
  have a := Int32.le_iff_toInt_le.mp h.1
  have b := Int32.le_iff_toInt_le.mp h.2
  have e0 : (0 : Int32).toInt = 0 := by decide
  have e1 : (65535 : Int32).toInt = 65535 := by decide
  rw [e0] at a
  rw [e1] at b
  refine ⟨?_, ?_⟩
  · have e2 := vp_nar_char v
    sorry
  · exact h'
theorem okZ_n {v : Int32} (h : okZ v = true) : narrow .boolean (.int v) = .int v ∧ fits .boolean (.int v) = true := by
  unfold okZ at h
  simp only [Bool.or_eq_true, beq_iff_eq] at h
  rcases h with rfl | rfl <;> exact ⟨by decide, by decide⟩
/-! calls -/
theorem GB_blind {E : Ev} {σ : St} {av : List Value} : FrameBlind (va_Pc av (GB E σ)) := fun a U g mk q => ⟨q.1, q.2.1, va_K.moved (u := U) (U := U.calling g mk a) (Vm.Alike.refl U.vm) q.2.2.1, q.2.2.2⟩
theorem GB_pre (hK : va_K E.2.1 vwCl (tysE E) s) (hG : GS E σ H0 H locs) (av : List Value) : ∀ U : State, U.heap = H → s.WarmedH U.vm → va_Pc av (GB E σ) av.toArray U := fun U hU hW => ⟨rfl, by rw [hU]; exact hG.1, va_K.moved hW.alike hK, hG.2.1⟩
theorem GB_recv (hK : va_K E.2.1 vwCl (tysE E) s) (hG : GS E σ H0 H locs) {ci k : Nat} (hL : lay ci k) {C : String} {T : u_T} {N : Nat} (hc : vwCl[ci]? = some (C, T, N)) : ∃ cell : Cell, H[E.1 k]? = some cell ∧ cell.vm.isStatics = false ∧ s.vm.findClass C = some cell.cls :=
  va_recv (q := (C, T, N)) hK hG.1 hc (q0 := k) (by rw [gW_at E σ (lay_lt hL), cell_ob hL])
theorem g_callV_i {α : Type} {o : Option (St × Int32)} {K : St → Int32 → Option α} {z : α} {y : MethodName} {bytes : ByteArray} {maxL index nA d : Nat} {ret : Option FieldType} {As : List Value} (X : Cx E p m c cc nL s args own) (hG : GS E σ s.heap H locs) {ci k : Nat} (hL : lay ci k) {C : String} {T : u_T} {N : Nat} (hc : vwCl[ci]? = some (C, T, N)) (hyC : y.cls = C) (w1 : Cond.methodLink own index y ∈ lw_tbl.filter goodWord) (w2 : Cond.instanceMethod y ∈ lw_tbl.filter goodWord) (w3 : Cond.selects C y y ∈ lw_tbl.filter goodWord) (w4 : Cond.initialized C ∈ lw_tbl.filter goodWord)
    (hC : ∀ (σ' : St) (r : Int32), o = some (σ', r) → Mi l E y bytes maxL ret d (.ref (E.1 k) :: As) σ σ' r) (hg : GoodIn (lw_tbl.filter goodWord) (wsM y bytes maxL ret)) (hd : y.cls ≠ "java/lang/invoke/MethodHandle" ∧ y.cls ≠ "java/lang/invoke/VarHandle" ∧ (parseMethodDescriptor y.desc).map (fun d => d.parameters.length) = some nA) (hn : As.length = nA) (hR : d + 1 ≤ R.frames ∧ 8 + (maxL + 11) + 200 * d ≤ R.locals) (hls : ls.size = nL) {st : List Value} (hst : st = As.reverse ++ .ref (E.1 k) :: rest) (hW : (rest.map fun v => v.category).sum ≤ 8) (hcs : cells + 0 ≤ R.cells ∧ slots + 0 ≤ R.slots) (hdg : decode cc pc = .ok (.invokevirtual index, 3)) (hM : bcall o K = some z)
    (kk : ∀ (σ1 : St) (r : Int32) (H1 : Heap) (locs1 : List Loc), GS E σ1 s.heap H1 locs1 → K σ1 r = some z → W p l e R s m args below meth c H1 locs1 cells slots Q (F0 m (pc + 3) ls (.int r :: rest))) : W p l e R s m args below meth c H locs cells slots Q (F0 m pc ls st) := by
  obtain ⟨⟨hx, hb, hml, hown, hts⟩, hK⟩ := X
  cases ho : o with
  | none => rw [ho] at hM; cases hM
  | some q =>
    rw [ho] at hM
    obtain ⟨σ1, r⟩ := q
    refine va_calli (va_runV ⟨hx, hb, hml, hown, hts⟩ (hC σ1 r ho) (cwV nA hts (fun w hw => (List.mem_append.mp hw).elim (fun h => by rcases List.mem_cons.mp h with rfl | h; exact ⟨w1, good_of_word (List.mem_filter.mp w1).2⟩; rcases List.mem_cons.mp h with rfl | h; exact ⟨w2, good_of_word (List.mem_filter.mp w2).2⟩; rcases List.mem_cons.mp h with rfl | h; exact ⟨w3, good_of_word (List.mem_filter.mp w3).2⟩; rcases List.mem_cons.mp h with rfl | h; exact ⟨w4, good_of_word (List.mem_filter.mp w4).2⟩; cases h) (hg w)) rfl rfl rfl ⟨hyC, hd⟩ hR) ⟨GB_blind, GB_recv hK hG hL hc, GB_pre hK hG _⟩ rfl hn hls hst (lv_room hW) hdg hcs) hG.2.2 (fun q _ h => h) (fun q h => h) (fun r1 u t H1 locs1 ht hvm hw hB hz1 hk1 hS1 => ?_)
    obtain ⟨rfl, rfl⟩ := hw
    exact kk _ _ H1 locs1 ⟨by rw [← ht]; exact hB.1, hB.2.2, hS1⟩ hM
theorem g_callV_v {α : Type} {o : Option (St × Int32)} {K : St → Int32 → Option α} {z : α} {y : MethodName} {bytes : ByteArray} {maxL index nA d : Nat} {As : List Value} (X : Cx E p m c cc nL s args own) (hG : GS E σ s.heap H locs) {ci k : Nat} (hL : lay ci k) {C : String} {T : u_T} {N : Nat} (hc : vwCl[ci]? = some (C, T, N)) (hyC : y.cls = C) (w1 : Cond.methodLink own index y ∈ lw_tbl.filter goodWord) (w2 : Cond.instanceMethod y ∈ lw_tbl.filter goodWord) (w3 : Cond.selects C y y ∈ lw_tbl.filter goodWord) (w4 : Cond.initialized C ∈ lw_tbl.filter goodWord)
    (hC : ∀ (σ' : St) (r : Int32), o = some (σ', r) → Mv l E y bytes maxL d (.ref (E.1 k) :: As) σ σ') (hg : GoodIn (lw_tbl.filter goodWord) (wsM y bytes maxL none)) (hd : y.cls ≠ "java/lang/invoke/MethodHandle" ∧ y.cls ≠ "java/lang/invoke/VarHandle" ∧ (parseMethodDescriptor y.desc).map (fun d => d.parameters.length) = some nA) (hn : As.length = nA) (hR : d + 1 ≤ R.frames ∧ 8 + (maxL + 11) + 200 * d ≤ R.locals) (hls : ls.size = nL) {st : List Value} (hst : st = As.reverse ++ .ref (E.1 k) :: rest) (hW : (rest.map fun v => v.category).sum ≤ 8) (hcs : cells + 0 ≤ R.cells ∧ slots + 0 ≤ R.slots) (hdg : decode cc pc = .ok (.invokevirtual index, 3)) (hM : bcall o K = some z)
    (kk : ∀ (σ1 : St) (r : Int32) (H1 : Heap) (locs1 : List Loc), GS E σ1 s.heap H1 locs1 → K σ1 r = some z → W p l e R s m args below meth c H1 locs1 cells slots Q (F0 m (pc + 3) ls rest)) : W p l e R s m args below meth c H locs cells slots Q (F0 m pc ls st) := by
  obtain ⟨⟨hx, hb, hml, hown, hts⟩, hK⟩ := X
  cases ho : o with
  | none => rw [ho] at hM; cases hM
  | some q =>
    rw [ho] at hM
    obtain ⟨σ1, r⟩ := q
    refine va_callv (va_runV ⟨hx, hb, hml, hown, hts⟩ (hC σ1 r ho) (cwV nA hts (fun w hw => (List.mem_append.mp hw).elim (fun h => by rcases List.mem_cons.mp h with rfl | h; exact ⟨w1, good_of_word (List.mem_filter.mp w1).2⟩; rcases List.mem_cons.mp h with rfl | h; exact ⟨w2, good_of_word (List.mem_filter.mp w2).2⟩; rcases List.mem_cons.mp h with rfl | h; exact ⟨w3, good_of_word (List.mem_filter.mp w3).2⟩; rcases List.mem_cons.mp h with rfl | h; exact ⟨w4, good_of_word (List.mem_filter.mp w4).2⟩; cases h) (hg w)) rfl rfl rfl ⟨hyC, hd⟩ hR) ⟨GB_blind, GB_recv hK hG hL hc, GB_pre hK hG _⟩ rfl hn hls hst (lv_room hW) hdg hcs) hG.2.2 (fun q _ h => h) (fun q h => h) (fun u t H1 locs1 ht hvm hw hB hz1 hk1 hS1 => ?_)
    subst hw
    exact kk _ r H1 locs1 ⟨by rw [← ht]; exact hB.1, hB.2.2, hS1⟩ hM
theorem g_callV_r {α : Type} {o : Option (St × Nat)} {K : St → Nat → Option α} {z : α} {y : MethodName} {bytes : ByteArray} {maxL index nA d : Nat} {ret : Option FieldType} {As : List Value} (X : Cx E p m c cc nL s args own) (hG : GS E σ s.heap H locs) {ci k : Nat} (hL : lay ci k) {C : String} {T : u_T} {N : Nat} (hc : vwCl[ci]? = some (C, T, N)) (hyC : y.cls = C) (w1 : Cond.methodLink own index y ∈ lw_tbl.filter goodWord) (w2 : Cond.instanceMethod y ∈ lw_tbl.filter goodWord) (w3 : Cond.selects C y y ∈ lw_tbl.filter goodWord) (w4 : Cond.initialized C ∈ lw_tbl.filter goodWord)
    (hC : ∀ (σ' : St) (r : Nat), o = some (σ', r) → Mr l E y bytes maxL ret d (.ref (E.1 k) :: As) σ σ' r) (hg : GoodIn (lw_tbl.filter goodWord) (wsM y bytes maxL ret)) (hd : y.cls ≠ "java/lang/invoke/MethodHandle" ∧ y.cls ≠ "java/lang/invoke/VarHandle" ∧ (parseMethodDescriptor y.desc).map (fun d => d.parameters.length) = some nA) (hn : As.length = nA) (hR : d + 1 ≤ R.frames ∧ 8 + (maxL + 11) + 200 * d ≤ R.locals) (hls : ls.size = nL) {st : List Value} (hst : st = As.reverse ++ .ref (E.1 k) :: rest) (hW : (rest.map fun v => v.category).sum ≤ 8) (hcs : cells + 0 ≤ R.cells ∧ slots + 0 ≤ R.slots) (hdg : decode cc pc = .ok (.invokevirtual index, 3)) (hM : bcall o K = some z)
    (kk : ∀ (σ1 : St) (r : Nat) (H1 : Heap) (locs1 : List Loc), GS E σ1 s.heap H1 locs1 → o = some (σ1, r) → K σ1 r = some z → W p l e R s m args below meth c H1 locs1 cells slots Q (F0 m (pc + 3) ls (.ref (E.1 r) :: rest))) : W p l e R s m args below meth c H locs cells slots Q (F0 m pc ls st) := by
  obtain ⟨⟨hx, hb, hml, hown, hts⟩, hK⟩ := X
  cases ho : o with
  | none => rw [ho] at hM; cases hM
  | some q =>
    rw [ho] at hM
    obtain ⟨σ1, r⟩ := q
    refine va_callr (va_runV ⟨hx, hb, hml, hown, hts⟩ (hC σ1 r ho) (cwV nA hts (fun w hw => (List.mem_append.mp hw).elim (fun h => by rcases List.mem_cons.mp h with rfl | h; exact ⟨w1, good_of_word (List.mem_filter.mp w1).2⟩; rcases List.mem_cons.mp h with rfl | h; exact ⟨w2, good_of_word (List.mem_filter.mp w2).2⟩; rcases List.mem_cons.mp h with rfl | h; exact ⟨w3, good_of_word (List.mem_filter.mp w3).2⟩; rcases List.mem_cons.mp h with rfl | h; exact ⟨w4, good_of_word (List.mem_filter.mp w4).2⟩; cases h) (hg w)) rfl rfl rfl ⟨hyC, hd⟩ hR) ⟨GB_blind, GB_recv hK hG hL hc, GB_pre hK hG _⟩ rfl hn hls hst (lv_room hW) hdg hcs) hG.2.2 (fun q _ h => h) (fun q h => h) (fun u ra t H1 locs1 ht hvm hw hB hz1 hk1 hS1 => ?_)
    subst hw
    obtain ⟨rfl, hB⟩ := hB
    exact kk _ r H1 locs1 ⟨by rw [← ht]; exact hB.1, hB.2.2, hS1⟩ ho hM
theorem g_callVN_i {α : Type} {o : Option (St × Int32)} {K : St → Int32 → Option α} {z : α} {y : MethodName} {bytes : ByteArray} {maxL index nA d : Nat} {ret : Option FieldType} {host : String} {As : List Value} (X : Cx E p m c cc nL s args own) (hG : GS E σ s.heap H locs) {ci k : Nat} (hL : lay ci k) {C : String} {T : u_T} {N : Nat} (hc : vwCl[ci]? = some (C, T, N)) (hyC : y.cls = C) (w1 : Cond.methodLinkNest own index y host ∈ lw_tbl.filter goodWord) (w2 : Cond.instanceMethod y ∈ lw_tbl.filter goodWord) (w3 : Cond.selects C y y ∈ lw_tbl.filter goodWord) (w4 : Cond.initialized C ∈ lw_tbl.filter goodWord)
    (hC : ∀ (σ' : St) (r : Int32), o = some (σ', r) → Mi l E y bytes maxL ret d (.ref (E.1 k) :: As) σ σ' r) (hg : GoodIn (lw_tbl.filter goodWord) (wsM y bytes maxL ret)) (hd : y.cls ≠ "java/lang/invoke/MethodHandle" ∧ y.cls ≠ "java/lang/invoke/VarHandle" ∧ (parseMethodDescriptor y.desc).map (fun d => d.parameters.length) = some nA) (hn : As.length = nA) (hR : d + 1 ≤ R.frames ∧ 8 + (maxL + 11) + 200 * d ≤ R.locals) (hls : ls.size = nL) {st : List Value} (hst : st = As.reverse ++ .ref (E.1 k) :: rest) (hW : (rest.map fun v => v.category).sum ≤ 8) (hcs : cells + 0 ≤ R.cells ∧ slots + 0 ≤ R.slots) (hdg : decode cc pc = .ok (.invokevirtual index, 3)) (hM : bcall o K = some z)
    (kk : ∀ (σ1 : St) (r : Int32) (H1 : Heap) (locs1 : List Loc), GS E σ1 s.heap H1 locs1 → K σ1 r = some z → W p l e R s m args below meth c H1 locs1 cells slots Q (F0 m (pc + 3) ls (.int r :: rest))) : W p l e R s m args below meth c H locs cells slots Q (F0 m pc ls st) := by
  obtain ⟨⟨hx, hb, hml, hown, hts⟩, hK⟩ := X
  cases ho : o with
  | none => rw [ho] at hM; cases hM
  | some q =>
    rw [ho] at hM
    obtain ⟨σ1, r⟩ := q
    refine va_calli (va_runVN ⟨hx, hb, hml, hown, hts⟩ (hC σ1 r ho) (⟨va_cnB nA hts hg rfl rfl rfl (va_Nw.of rfl (hts _ w1)) (by rw [hyC]; exact hts _ w4) hd hR, hts _ w2, hts _ w3⟩) ⟨GB_blind, GB_recv hK hG hL hc, GB_pre hK hG _⟩ rfl hn hls hst (lv_room hW) hdg hcs) hG.2.2 (fun q _ h => h) (fun q h => h) (fun r1 u t H1 locs1 ht hvm hw hB hz1 hk1 hS1 => ?_)
    obtain ⟨rfl, rfl⟩ := hw
    exact kk _ _ H1 locs1 ⟨by rw [← ht]; exact hB.1, hB.2.2, hS1⟩ hM
theorem g_callVN_v {α : Type} {o : Option (St × Int32)} {K : St → Int32 → Option α} {z : α} {y : MethodName} {bytes : ByteArray} {maxL index nA d : Nat} {host : String} {As : List Value} (X : Cx E p m c cc nL s args own) (hG : GS E σ s.heap H locs) {ci k : Nat} (hL : lay ci k) {C : String} {T : u_T} {N : Nat} (hc : vwCl[ci]? = some (C, T, N)) (hyC : y.cls = C) (w1 : Cond.methodLinkNest own index y host ∈ lw_tbl.filter goodWord) (w2 : Cond.instanceMethod y ∈ lw_tbl.filter goodWord) (w3 : Cond.selects C y y ∈ lw_tbl.filter goodWord) (w4 : Cond.initialized C ∈ lw_tbl.filter goodWord)
    (hC : ∀ (σ' : St) (r : Int32), o = some (σ', r) → Mv l E y bytes maxL d (.ref (E.1 k) :: As) σ σ') (hg : GoodIn (lw_tbl.filter goodWord) (wsM y bytes maxL none)) (hd : y.cls ≠ "java/lang/invoke/MethodHandle" ∧ y.cls ≠ "java/lang/invoke/VarHandle" ∧ (parseMethodDescriptor y.desc).map (fun d => d.parameters.length) = some nA) (hn : As.length = nA) (hR : d + 1 ≤ R.frames ∧ 8 + (maxL + 11) + 200 * d ≤ R.locals) (hls : ls.size = nL) {st : List Value} (hst : st = As.reverse ++ .ref (E.1 k) :: rest) (hW : (rest.map fun v => v.category).sum ≤ 8) (hcs : cells + 0 ≤ R.cells ∧ slots + 0 ≤ R.slots) (hdg : decode cc pc = .ok (.invokevirtual index, 3)) (hM : bcall o K = some z)
    (kk : ∀ (σ1 : St) (r : Int32) (H1 : Heap) (locs1 : List Loc), GS E σ1 s.heap H1 locs1 → K σ1 r = some z → W p l e R s m args below meth c H1 locs1 cells slots Q (F0 m (pc + 3) ls rest)) : W p l e R s m args below meth c H locs cells slots Q (F0 m pc ls st) := by
  obtain ⟨⟨hx, hb, hml, hown, hts⟩, hK⟩ := X
  cases ho : o with
  | none => rw [ho] at hM; cases hM
  | some q =>
    rw [ho] at hM
    obtain ⟨σ1, r⟩ := q
    refine va_callv (va_runVN ⟨hx, hb, hml, hown, hts⟩ (hC σ1 r ho) (⟨va_cnB nA hts hg rfl rfl rfl (va_Nw.of rfl (hts _ w1)) (by rw [hyC]; exact hts _ w4) hd hR, hts _ w2, hts _ w3⟩) ⟨GB_blind, GB_recv hK hG hL hc, GB_pre hK hG _⟩ rfl hn hls hst (lv_room hW) hdg hcs) hG.2.2 (fun q _ h => h) (fun q h => h) (fun u t H1 locs1 ht hvm hw hB hz1 hk1 hS1 => ?_)
    subst hw
    exact kk _ r H1 locs1 ⟨by rw [← ht]; exact hB.1, hB.2.2, hS1⟩ hM
theorem g_callVN_r {α : Type} {o : Option (St × Nat)} {K : St → Nat → Option α} {z : α} {y : MethodName} {bytes : ByteArray} {maxL index nA d : Nat} {ret : Option FieldType} {host : String} {As : List Value} (X : Cx E p m c cc nL s args own) (hG : GS E σ s.heap H locs) {ci k : Nat} (hL : lay ci k) {C : String} {T : u_T} {N : Nat} (hc : vwCl[ci]? = some (C, T, N)) (hyC : y.cls = C) (w1 : Cond.methodLinkNest own index y host ∈ lw_tbl.filter goodWord) (w2 : Cond.instanceMethod y ∈ lw_tbl.filter goodWord) (w3 : Cond.selects C y y ∈ lw_tbl.filter goodWord) (w4 : Cond.initialized C ∈ lw_tbl.filter goodWord)
    (hC : ∀ (σ' : St) (r : Nat), o = some (σ', r) → Mr l E y bytes maxL ret d (.ref (E.1 k) :: As) σ σ' r) (hg : GoodIn (lw_tbl.filter goodWord) (wsM y bytes maxL ret)) (hd : y.cls ≠ "java/lang/invoke/MethodHandle" ∧ y.cls ≠ "java/lang/invoke/VarHandle" ∧ (parseMethodDescriptor y.desc).map (fun d => d.parameters.length) = some nA) (hn : As.length = nA) (hR : d + 1 ≤ R.frames ∧ 8 + (maxL + 11) + 200 * d ≤ R.locals) (hls : ls.size = nL) {st : List Value} (hst : st = As.reverse ++ .ref (E.1 k) :: rest) (hW : (rest.map fun v => v.category).sum ≤ 8) (hcs : cells + 0 ≤ R.cells ∧ slots + 0 ≤ R.slots) (hdg : decode cc pc = .ok (.invokevirtual index, 3)) (hM : bcall o K = some z)
    (kk : ∀ (σ1 : St) (r : Nat) (H1 : Heap) (locs1 : List Loc), GS E σ1 s.heap H1 locs1 → o = some (σ1, r) → K σ1 r = some z → W p l e R s m args below meth c H1 locs1 cells slots Q (F0 m (pc + 3) ls (.ref (E.1 r) :: rest))) : W p l e R s m args below meth c H locs cells slots Q (F0 m pc ls st) := by
  obtain ⟨⟨hx, hb, hml, hown, hts⟩, hK⟩ := X
  cases ho : o with
  | none => rw [ho] at hM; cases hM
  | some q =>
    rw [ho] at hM
    obtain ⟨σ1, r⟩ := q
    refine va_callr (va_runVN ⟨hx, hb, hml, hown, hts⟩ (hC σ1 r ho) (⟨va_cnB nA hts hg rfl rfl rfl (va_Nw.of rfl (hts _ w1)) (by rw [hyC]; exact hts _ w4) hd hR, hts _ w2, hts _ w3⟩) ⟨GB_blind, GB_recv hK hG hL hc, GB_pre hK hG _⟩ rfl hn hls hst (lv_room hW) hdg hcs) hG.2.2 (fun q _ h => h) (fun q h => h) (fun u ra t H1 locs1 ht hvm hw hB hz1 hk1 hS1 => ?_)
    subst hw
    obtain ⟨rfl, hB⟩ := hB
    exact kk _ r H1 locs1 ⟨by rw [← ht]; exact hB.1, hB.2.2, hS1⟩ ho hM
theorem g_callS_i {α : Type} {o : Option (St × Int32)} {K : St → Int32 → Option α} {z : α} {y : MethodName} {bytes : ByteArray} {maxL index nA d : Nat} {ret : Option FieldType} {As : List Value} (X : Cx E p m c cc nL s args own) (hG : GS E σ s.heap H locs) (hyC : y.cls = own) (w1 : Cond.methodLink own index y ∈ lw_tbl.filter goodWord) (w2 : Cond.static y ∈ lw_tbl.filter goodWord) (w4 : Cond.initialized own ∈ lw_tbl.filter goodWord)
    (hC : ∀ (σ' : St) (r : Int32), o = some (σ', r) → Mi l E y bytes maxL ret d As σ σ' r) (hg : GoodIn (lw_tbl.filter goodWord) (wsM y bytes maxL ret)) (hd : y.cls ≠ "java/lang/invoke/MethodHandle" ∧ y.cls ≠ "java/lang/invoke/VarHandle" ∧ (parseMethodDescriptor y.desc).map (fun d => d.parameters.length) = some nA) (hn : As.length = nA) (hR : d + 1 ≤ R.frames ∧ 8 + (maxL + 11) + 200 * d ≤ R.locals) (hls : ls.size = nL) {st : List Value} (hst : st = As.reverse ++ rest) (hW : (rest.map fun v => v.category).sum ≤ 8) (hcs : cells + 0 ≤ R.cells ∧ slots + 0 ≤ R.slots) (hdg : decode cc pc = .ok (.invokestatic index, 3)) (hM : bcall o K = some z)
    (kk : ∀ (σ1 : St) (r : Int32) (H1 : Heap) (locs1 : List Loc), GS E σ1 s.heap H1 locs1 → K σ1 r = some z → W p l e R s m args below meth c H1 locs1 cells slots Q (F0 m (pc + 3) ls (.int r :: rest))) : W p l e R s m args below meth c H locs cells slots Q (F0 m pc ls st) := by
  obtain ⟨⟨hx, hb, hml, hown, hts⟩, hK⟩ := X
  cases ho : o with
  | none => rw [ho] at hM; cases hM
  | some q =>
    rw [ho] at hM
    obtain ⟨σ1, r⟩ := q
    refine va_calli (va_runS ⟨hx, hb, hml, hown, hts⟩ (hC σ1 r ho) (cwS nA hts (fun w hw => (List.mem_append.mp hw).elim (fun h => by rcases List.mem_cons.mp h with rfl | h; exact ⟨w1, good_of_word (List.mem_filter.mp w1).2⟩; rcases List.mem_cons.mp h with rfl | h; exact ⟨w2, good_of_word (List.mem_filter.mp w2).2⟩; rcases List.mem_cons.mp h with rfl | h; exact ⟨w4, good_of_word (List.mem_filter.mp w4).2⟩; cases h) (hg w)) rfl rfl rfl ⟨hyC, hd⟩ hR) ⟨GB_blind, GB_pre hK hG _⟩ rfl hn hls hst (lv_room hW) hdg hcs) hG.2.2 (fun q _ h => h) (fun q h => h) (fun r1 u t H1 locs1 ht hvm hw hB hz1 hk1 hS1 => ?_)
    obtain ⟨rfl, rfl⟩ := hw
    exact kk _ _ H1 locs1 ⟨by rw [← ht]; exact hB.1, hB.2.2, hS1⟩ hM
theorem g_callS_v {α : Type} {o : Option (St × Int32)} {K : St → Int32 → Option α} {z : α} {y : MethodName} {bytes : ByteArray} {maxL index nA d : Nat} {As : List Value} (X : Cx E p m c cc nL s args own) (hG : GS E σ s.heap H locs) (hyC : y.cls = own) (w1 : Cond.methodLink own index y ∈ lw_tbl.filter goodWord) (w2 : Cond.static y ∈ lw_tbl.filter goodWord) (w4 : Cond.initialized own ∈ lw_tbl.filter goodWord)
    (hC : ∀ (σ' : St) (r : Int32), o = some (σ', r) → Mv l E y bytes maxL d As σ σ') (hg : GoodIn (lw_tbl.filter goodWord) (wsM y bytes maxL none)) (hd : y.cls ≠ "java/lang/invoke/MethodHandle" ∧ y.cls ≠ "java/lang/invoke/VarHandle" ∧ (parseMethodDescriptor y.desc).map (fun d => d.parameters.length) = some nA) (hn : As.length = nA) (hR : d + 1 ≤ R.frames ∧ 8 + (maxL + 11) + 200 * d ≤ R.locals) (hls : ls.size = nL) {st : List Value} (hst : st = As.reverse ++ rest) (hW : (rest.map fun v => v.category).sum ≤ 8) (hcs : cells + 0 ≤ R.cells ∧ slots + 0 ≤ R.slots) (hdg : decode cc pc = .ok (.invokestatic index, 3)) (hM : bcall o K = some z)
    (kk : ∀ (σ1 : St) (r : Int32) (H1 : Heap) (locs1 : List Loc), GS E σ1 s.heap H1 locs1 → K σ1 r = some z → W p l e R s m args below meth c H1 locs1 cells slots Q (F0 m (pc + 3) ls rest)) : W p l e R s m args below meth c H locs cells slots Q (F0 m pc ls st) := by
  obtain ⟨⟨hx, hb, hml, hown, hts⟩, hK⟩ := X
  cases ho : o with
  | none => rw [ho] at hM; cases hM
  | some q =>
    rw [ho] at hM
    obtain ⟨σ1, r⟩ := q
    refine va_callv (va_runS ⟨hx, hb, hml, hown, hts⟩ (hC σ1 r ho) (cwS nA hts (fun w hw => (List.mem_append.mp hw).elim (fun h => by rcases List.mem_cons.mp h with rfl | h; exact ⟨w1, good_of_word (List.mem_filter.mp w1).2⟩; rcases List.mem_cons.mp h with rfl | h; exact ⟨w2, good_of_word (List.mem_filter.mp w2).2⟩; rcases List.mem_cons.mp h with rfl | h; exact ⟨w4, good_of_word (List.mem_filter.mp w4).2⟩; cases h) (hg w)) rfl rfl rfl ⟨hyC, hd⟩ hR) ⟨GB_blind, GB_pre hK hG _⟩ rfl hn hls hst (lv_room hW) hdg hcs) hG.2.2 (fun q _ h => h) (fun q h => h) (fun u t H1 locs1 ht hvm hw hB hz1 hk1 hS1 => ?_)
    subst hw
    exact kk _ r H1 locs1 ⟨by rw [← ht]; exact hB.1, hB.2.2, hS1⟩ hM
theorem g_callSN_i {α : Type} {o : Option (St × Int32)} {K : St → Int32 → Option α} {z : α} {y : MethodName} {bytes : ByteArray} {maxL index nA d : Nat} {ret : Option FieldType} {host : String} {As : List Value} (X : Cx E p m c cc nL s args own) (hG : GS E σ s.heap H locs) (w1 : Cond.methodLinkNest own index y host ∈ lw_tbl.filter goodWord) (w2 : Cond.static y ∈ lw_tbl.filter goodWord) (w4 : Cond.initialized y.cls ∈ lw_tbl.filter goodWord)
    (hC : ∀ (σ' : St) (r : Int32), o = some (σ', r) → Mi l E y bytes maxL ret d As σ σ' r) (hg : GoodIn (lw_tbl.filter goodWord) (wsM y bytes maxL ret)) (hd : y.cls ≠ "java/lang/invoke/MethodHandle" ∧ y.cls ≠ "java/lang/invoke/VarHandle" ∧ (parseMethodDescriptor y.desc).map (fun d => d.parameters.length) = some nA) (hn : As.length = nA) (hR : d + 1 ≤ R.frames ∧ 8 + (maxL + 11) + 200 * d ≤ R.locals) (hls : ls.size = nL) {st : List Value} (hst : st = As.reverse ++ rest) (hW : (rest.map fun v => v.category).sum ≤ 8) (hcs : cells + 0 ≤ R.cells ∧ slots + 0 ≤ R.slots) (hdg : decode cc pc = .ok (.invokestatic index, 3)) (hM : bcall o K = some z)
    (kk : ∀ (σ1 : St) (r : Int32) (H1 : Heap) (locs1 : List Loc), GS E σ1 s.heap H1 locs1 → K σ1 r = some z → W p l e R s m args below meth c H1 locs1 cells slots Q (F0 m (pc + 3) ls (.int r :: rest))) : W p l e R s m args below meth c H locs cells slots Q (F0 m pc ls st) := by
  obtain ⟨⟨hx, hb, hml, hown, hts⟩, hK⟩ := X
  cases ho : o with
  | none => rw [ho] at hM; cases hM
  | some q =>
    rw [ho] at hM
    obtain ⟨σ1, r⟩ := q
    refine va_calli (va_runSN ⟨hx, hb, hml, hown, hts⟩ (hC σ1 r ho) (⟨va_cnB nA hts hg rfl rfl rfl (va_Nw.of rfl (hts _ w1)) (hts _ w4) hd hR, hts _ w2, trivial⟩) ⟨GB_blind, GB_pre hK hG _⟩ rfl hn hls hst (lv_room hW) hdg hcs) hG.2.2 (fun q _ h => h) (fun q h => h) (fun r1 u t H1 locs1 ht hvm hw hB hz1 hk1 hS1 => ?_)
    obtain ⟨rfl, rfl⟩ := hw
    exact kk _ _ H1 locs1 ⟨by rw [← ht]; exact hB.1, hB.2.2, hS1⟩ hM
theorem g_callSN_v {α : Type} {o : Option (St × Int32)} {K : St → Int32 → Option α} {z : α} {y : MethodName} {bytes : ByteArray} {maxL index nA d : Nat} {host : String} {As : List Value} (X : Cx E p m c cc nL s args own) (hG : GS E σ s.heap H locs) (w1 : Cond.methodLinkNest own index y host ∈ lw_tbl.filter goodWord) (w2 : Cond.static y ∈ lw_tbl.filter goodWord) (w4 : Cond.initialized y.cls ∈ lw_tbl.filter goodWord)
    (hC : ∀ (σ' : St) (r : Int32), o = some (σ', r) → Mv l E y bytes maxL d As σ σ') (hg : GoodIn (lw_tbl.filter goodWord) (wsM y bytes maxL none)) (hd : y.cls ≠ "java/lang/invoke/MethodHandle" ∧ y.cls ≠ "java/lang/invoke/VarHandle" ∧ (parseMethodDescriptor y.desc).map (fun d => d.parameters.length) = some nA) (hn : As.length = nA) (hR : d + 1 ≤ R.frames ∧ 8 + (maxL + 11) + 200 * d ≤ R.locals) (hls : ls.size = nL) {st : List Value} (hst : st = As.reverse ++ rest) (hW : (rest.map fun v => v.category).sum ≤ 8) (hcs : cells + 0 ≤ R.cells ∧ slots + 0 ≤ R.slots) (hdg : decode cc pc = .ok (.invokestatic index, 3)) (hM : bcall o K = some z)
    (kk : ∀ (σ1 : St) (r : Int32) (H1 : Heap) (locs1 : List Loc), GS E σ1 s.heap H1 locs1 → K σ1 r = some z → W p l e R s m args below meth c H1 locs1 cells slots Q (F0 m (pc + 3) ls rest)) : W p l e R s m args below meth c H locs cells slots Q (F0 m pc ls st) := by
  obtain ⟨⟨hx, hb, hml, hown, hts⟩, hK⟩ := X
  cases ho : o with
  | none => rw [ho] at hM; cases hM
  | some q =>
    rw [ho] at hM
    obtain ⟨σ1, r⟩ := q
    refine va_callv (va_runSN ⟨hx, hb, hml, hown, hts⟩ (hC σ1 r ho) (⟨va_cnB nA hts hg rfl rfl rfl (va_Nw.of rfl (hts _ w1)) (hts _ w4) hd hR, hts _ w2, trivial⟩) ⟨GB_blind, GB_pre hK hG _⟩ rfl hn hls hst (lv_room hW) hdg hcs) hG.2.2 (fun q _ h => h) (fun q h => h) (fun u t H1 locs1 ht hvm hw hB hz1 hk1 hS1 => ?_)
    subst hw
    exact kk _ r H1 locs1 ⟨by rw [← ht]; exact hB.1, hB.2.2, hS1⟩ hM
def QI (E : Ev) (z : St × Int32) (below : List Frame) (args : Array Value) (s : State) : State → Prop := MQ below (va_Qi (fun (r' : Int32) (u : St) => r' = z.2 ∧ u = z.1) (GB E) (AE E)) args s 0 0 (AE E)
def QV (E : Ev) (z : St × Int32) (below : List Frame) (args : Array Value) (s : State) : State → Prop := MQ below (va_Qv (fun (u : St) => u = z.1) (GB E) (AE E)) args s 0 0 (AE E)
def QR (E : Ev) (z : St × Nat) (below : List Frame) (args : Array Value) (s : State) : State → Prop := MQ below (va_Qr (fun (u : St) => u = z.1) (fun u ra t => ra = E.1 z.2 ∧ GB E u t) (AE E)) args s 0 0 (AE E)
/-- what is known in a walk of a method: the machine, its words, its return type -/
def Bx (E : Ev) (p : Program) (m : MethodId) (meth : Method) (c : Code) (cc : ByteArray) (nL : Nat) (ret : Option FieldType) (s : State) (args : Array Value) (own : String) : Prop := Cx E p m c cc nL s args own ∧ meth.sig.returnType = ret ∧ meth.locks = false
theorem e_iret (X : Bx E p m meth c cc nL (some .int) s args own) (hG : GS E σ s.heap H locs) {x : Int32} {z : St × Int32} (hdg : decode cc pc = .ok (.ireturn, 1)) (hM : some (σ, x) = some z) : W p l e R s m args below meth c H locs 0 0 (QI E z below args s) (F0 m pc ls [.int x]) := by
  obtain ⟨⟨⟨hx, hb, hml, hown, hts⟩, hK⟩, hr, hlk⟩ := X
  cases hM
  exact W.iret (v := x) hx hb hr (fun t ht hW => ⟨⟨x, σ, rfl, ⟨rfl, rfl⟩, by rw [ht]; exact hG.1, va_K.moved hW.alike hK, hG.2.1⟩, hG.2.2.F ht⟩) hG.2.2.2.2 hdg hlk
theorem e_zret {ty : FieldType} (X : Bx E p m meth c cc nL (some ty) s args own) (hG : GS E σ s.heap H locs) {x : Int32} {z : St × Int32} (hn : narrow ty (.int x) = .int x) (hdg : decode cc pc = .ok (.ireturn, 1)) (hM : some (σ, x) = some z) : W p l e R s m args below meth c H locs 0 0 (QI E z below args s) (F0 m pc ls [.int x]) := by
  obtain ⟨⟨⟨hx, hb, hml, hown, hts⟩, hK⟩, hr, hlk⟩ := X
  cases hM
  exact W.zret (v := x) hx hb hr hn (fun t ht hW => ⟨⟨x, σ, rfl, ⟨rfl, rfl⟩, by rw [ht]; exact hG.1, va_K.moved hW.alike hK, hG.2.1⟩, hG.2.2.F ht⟩) hG.2.2.2.2 hdg hlk
theorem e_vret (X : Bx E p m meth c cc nL none s args own) (hG : GS E σ s.heap H locs) {x : Int32} {z : St × Int32} (hdg : decode cc pc = .ok (.return_, 1)) (hM : some (σ, x) = some z) : W p l e R s m args below meth c H locs 0 0 (QV E z below args s) (F0 m pc ls []) := by
  obtain ⟨⟨⟨hx, hb, hml, hown, hts⟩, hK⟩, hr, hlk⟩ := X
  cases hM
  exact W.vret hx hb hr (fun t ht hW => ⟨⟨σ, rfl, rfl, by rw [ht]; exact hG.1, va_K.moved hW.alike hK, hG.2.1⟩, hG.2.2.F ht⟩) hG.2.2.2.2 hdg hlk
theorem e_aret {n : String} (X : Bx E p m meth c cc nL (some (.object n)) s args own) (hG : GS E σ s.heap H locs) {x : Nat} {z : St × Nat} (hdg : decode cc pc = .ok (.areturn, 1)) (hM : some (σ, x) = some z) : W p l e R s m args below meth c H locs 0 0 (QR E z below args s) (F0 m pc ls [.ref (E.1 x)]) := by
  obtain ⟨⟨⟨hx, hb, hml, hown, hts⟩, hK⟩, hr, hlk⟩ := X
  cases hM
  exact W.aret (v := .ref (E.1 x)) hx hb hr (Or.inl ⟨n, rfl⟩) (Or.inr ⟨_, rfl⟩) (fun t ht hW => ⟨⟨σ, E.1 x, rfl, rfl, ⟨rfl, by rw [ht]; exact hG.1, va_K.moved hW.alike hK, hG.2.1⟩⟩, hG.2.2.F ht⟩) hG.2.2.2.2 hdg hlk
end GR
section GM
variable {l : Launch} {E : Ev} {y : MethodName} {cc : ByteArray} {nL d : Nat} {ret : Option FieldType} {av : List Value} {σ : St}
theorem Mi_of (hy : plainName y.cls = true) (hn : (lg_sl av).length ≤ nL) {z : St × Int32}
    (body : ∀ (p : Program) (e : Env) (s : State) (m : MethodId) (below : List Frame) (meth : Method) (c : Code) (ls : Array Slot), Bx E p m meth c cc nL ret s av.toArray y.cls → GS E σ s.heap s.heap [] → lv_has ls nL (lv_args 0 av) → W p l e (rmd d) s m av.toArray below meth c s.heap [] 0 0 (QI E z below av.toArray s) (F0 m 0 ls [])) : Mi l E y cc nL ret d av σ z.1 z.2 := by
  refine Met.ofW (cc := cc) (maxL := nL) (ret := ret) hy rfl ?_
  intro p e s m args below meth c s₁ B hml hv
  obtain ⟨rfl, hP, hK, hD⟩ := hv
  have hts := atoms_spec (ws := wsM y cc nL ret) B.pre
  have hl := lv_entry av (n := nL) hn
  have key := body p e s m below meth c _ ⟨⟨⟨B.exec, B.bytes, hml, findClass_of_methodNamed B.named, fun w hw => hts w (List.mem_cons_of_mem _ hw)⟩, hK⟩, B.returns, B.notSynchronized⟩ ⟨hP, hD, va_S.rf⟩ hl
  rw [lg_entry_eq]
  exact key
theorem Mv_of (hy : plainName y.cls = true) (hn : (lg_sl av).length ≤ nL) {z : St × Int32}
    (body : ∀ (p : Program) (e : Env) (s : State) (m : MethodId) (below : List Frame) (meth : Method) (c : Code) (ls : Array Slot), Bx E p m meth c cc nL none s av.toArray y.cls → GS E σ s.heap s.heap [] → lv_has ls nL (lv_args 0 av) → W p l e (rmd d) s m av.toArray below meth c s.heap [] 0 0 (QV E z below av.toArray s) (F0 m 0 ls [])) : Mv l E y cc nL d av σ z.1 := by
  refine Met.ofW (cc := cc) (maxL := nL) (ret := none) hy rfl ?_
  intro p e s m args below meth c s₁ B hml hv
  obtain ⟨rfl, hP, hK, hD⟩ := hv
  have hts := atoms_spec (ws := wsM y cc nL none) B.pre
  have hl := lv_entry av (n := nL) hn
  have key := body p e s m below meth c _ ⟨⟨⟨B.exec, B.bytes, hml, findClass_of_methodNamed B.named, fun w hw => hts w (List.mem_cons_of_mem _ hw)⟩, hK⟩, B.returns, B.notSynchronized⟩ ⟨hP, hD, va_S.rf⟩ hl
  rw [lg_entry_eq]
  exact key
theorem Mr_of (hy : plainName y.cls = true) (hn : (lg_sl av).length ≤ nL) {z : St × Nat}
    (body : ∀ (p : Program) (e : Env) (s : State) (m : MethodId) (below : List Frame) (meth : Method) (c : Code) (ls : Array Slot), Bx E p m meth c cc nL ret s av.toArray y.cls → GS E σ s.heap s.heap [] → lv_has ls nL (lv_args 0 av) → W p l e (rmd d) s m av.toArray below meth c s.heap [] 0 0 (QR E z below av.toArray s) (F0 m 0 ls [])) : Mr l E y cc nL ret d av σ z.1 z.2 := by
  refine Met.ofW (cc := cc) (maxL := nL) (ret := ret) hy rfl ?_
  intro p e s m args below meth c s₁ B hml hv
  obtain ⟨rfl, hP, hK, hD⟩ := hv
  have hts := atoms_spec (ws := wsM y cc nL ret) B.pre
  have hl := lv_entry av (n := nL) hn
  have key := body p e s m below meth c _ ⟨⟨⟨B.exec, B.bytes, hml, findClass_of_methodNamed B.named, fun w hw => hts w (List.mem_cons_of_mem _ hw)⟩, hK⟩, B.returns, B.notSynchronized⟩ ⟨hP, hD, va_S.rf⟩ hl
  rw [lg_entry_eq]
  exact key
end GM
end
