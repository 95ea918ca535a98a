section
-- ===== PART A: goes FIRST, ahead of the names: the tables' words, and 'selects' of the private methods out of them =====
/-- a private method of a class that the tables say can be made, by its rows of tables_1 -/
def lw_okq (q : MethodName × Nat) : Prop := (q.1.cls ≠ "java/lang/invoke/MethodHandle" ∧ q.1.cls ≠ "java/lang/invoke/VarHandle") ∧ Cond.instantiable q.1.cls q.2 ∈ tables_1 ∧ Cond.privateMethod q.1 ∈ tables_1 ∧ Cond.instanceMethod q.1 ∈ tables_1
theorem lw_p0 : lw_okq (⟨"TwelveChain$Teller", "conditions", "()Z"⟩, 10) := ⟨⟨by decide +kernel, by decide +kernel⟩, List.mem_of_getElem? (i := 270) (by decide +kernel), List.mem_of_getElem? (i := 770) (by decide +kernel), List.mem_of_getElem? (i := 771) (by decide +kernel)⟩
theorem lw_p1 : lw_okq (⟨"TwelveChain$Teller", "condition", "()Z"⟩, 10) := ⟨⟨by decide +kernel, by decide +kernel⟩, List.mem_of_getElem? (i := 270) (by decide +kernel), List.mem_of_getElem? (i := 774) (by decide +kernel), List.mem_of_getElem? (i := 775) (by decide +kernel)⟩
theorem lw_p2 : lw_okq (⟨"TwelveChain", "highestLevel", "(I)I"⟩, 14) := ⟨⟨by decide +kernel, by decide +kernel⟩, List.mem_of_getElem? (i := 22) (by decide +kernel), List.mem_of_getElem? (i := 975) (by decide +kernel), List.mem_of_getElem? (i := 976) (by decide +kernel)⟩
theorem lw_p3 : lw_okq (⟨"TwelveChain", "heap", "(I)I"⟩, 14) := ⟨⟨by decide +kernel, by decide +kernel⟩, List.mem_of_getElem? (i := 22) (by decide +kernel), List.mem_of_getElem? (i := 1054) (by decide +kernel), List.mem_of_getElem? (i := 1055) (by decide +kernel)⟩
theorem lw_p4 : lw_okq (⟨"TwelveChainModel", "forgets", "()V"⟩, 28) := ⟨⟨by decide +kernel, by decide +kernel⟩, List.mem_of_getElem? (i := 1115) (by decide +kernel), List.mem_of_getElem? (i := 1210) (by decide +kernel), List.mem_of_getElem? (i := 1211) (by decide +kernel)⟩
theorem lw_p5 : lw_okq (⟨"TwelveChainModel", "isLink", "(I)Z"⟩, 28) := ⟨⟨by decide +kernel, by decide +kernel⟩, List.mem_of_getElem? (i := 1115) (by decide +kernel), List.mem_of_getElem? (i := 1225) (by decide +kernel), List.mem_of_getElem? (i := 1226) (by decide +kernel)⟩
theorem lw_p6 : lw_okq (⟨"TwelveChainModel", "next0", "()V"⟩, 28) := ⟨⟨by decide +kernel, by decide +kernel⟩, List.mem_of_getElem? (i := 1115) (by decide +kernel), List.mem_of_getElem? (i := 1244) (by decide +kernel), List.mem_of_getElem? (i := 1245) (by decide +kernel)⟩
theorem lw_p7 : lw_okq (⟨"TwelveChainModel", "see", "(I)I"⟩, 28) := ⟨⟨by decide +kernel, by decide +kernel⟩, List.mem_of_getElem? (i := 1115) (by decide +kernel), List.mem_of_getElem? (i := 1248) (by decide +kernel), List.mem_of_getElem? (i := 1249) (by decide +kernel)⟩
theorem lw_p8 : lw_okq (⟨"TwelveChainModel", "word", "()I"⟩, 28) := ⟨⟨by decide +kernel, by decide +kernel⟩, List.mem_of_getElem? (i := 1115) (by decide +kernel), List.mem_of_getElem? (i := 1255) (by decide +kernel), List.mem_of_getElem? (i := 1256) (by decide +kernel)⟩
theorem lw_p9 : lw_okq (⟨"TwelveChainModel", "lawWord", "()I"⟩, 28) := ⟨⟨by decide +kernel, by decide +kernel⟩, List.mem_of_getElem? (i := 1115) (by decide +kernel), List.mem_of_getElem? (i := 1259) (by decide +kernel), List.mem_of_getElem? (i := 1260) (by decide +kernel)⟩
theorem lw_p10 : lw_okq (⟨"TwelveChainModel", "is", "(Ljava/lang/String;)Z"⟩, 28) := ⟨⟨by decide +kernel, by decide +kernel⟩, List.mem_of_getElem? (i := 1115) (by decide +kernel), List.mem_of_getElem? (i := 1264) (by decide +kernel), List.mem_of_getElem? (i := 1265) (by decide +kernel)⟩
theorem lw_p11 : lw_okq (⟨"TwelveChainModel", "asked", "()I"⟩, 28) := ⟨⟨by decide +kernel, by decide +kernel⟩, List.mem_of_getElem? (i := 1115) (by decide +kernel), List.mem_of_getElem? (i := 1277) (by decide +kernel), List.mem_of_getElem? (i := 1278) (by decide +kernel)⟩
theorem lw_p12 : lw_okq (⟨"TwelveChainModel", "planWord", "()I"⟩, 28) := ⟨⟨by decide +kernel, by decide +kernel⟩, List.mem_of_getElem? (i := 1115) (by decide +kernel), List.mem_of_getElem? (i := 1290) (by decide +kernel), List.mem_of_getElem? (i := 1291) (by decide +kernel)⟩
theorem lw_p13 : lw_okq (⟨"TwelveChainModel", "readsLaw", "()Z"⟩, 28) := ⟨⟨by decide +kernel, by decide +kernel⟩, List.mem_of_getElem? (i := 1115) (by decide +kernel), List.mem_of_getElem? (i := 1304) (by decide +kernel), List.mem_of_getElem? (i := 1305) (by decide +kernel)⟩
theorem lw_p14 : lw_okq (⟨"TwelveChainModel", "aLine", "()Z"⟩, 28) := ⟨⟨by decide +kernel, by decide +kernel⟩, List.mem_of_getElem? (i := 1115) (by decide +kernel), List.mem_of_getElem? (i := 1308) (by decide +kernel), List.mem_of_getElem? (i := 1309) (by decide +kernel)⟩
theorem lw_p15 : lw_okq (⟨"TwelveChainModel", "bad", "(I)Z"⟩, 28) := ⟨⟨by decide +kernel, by decide +kernel⟩, List.mem_of_getElem? (i := 1115) (by decide +kernel), List.mem_of_getElem? (i := 1312) (by decide +kernel), List.mem_of_getElem? (i := 1313) (by decide +kernel)⟩
def lw_privs_1 : List (MethodName × Nat) := [(⟨"TwelveChain$Teller", "conditions", "()Z"⟩, 10), (⟨"TwelveChain$Teller", "condition", "()Z"⟩, 10), (⟨"TwelveChain", "highestLevel", "(I)I"⟩, 14), (⟨"TwelveChain", "heap", "(I)I"⟩, 14), (⟨"TwelveChainModel", "forgets", "()V"⟩, 28), (⟨"TwelveChainModel", "isLink", "(I)Z"⟩, 28), (⟨"TwelveChainModel", "next0", "()V"⟩, 28), (⟨"TwelveChainModel", "see", "(I)I"⟩, 28), (⟨"TwelveChainModel", "word", "()I"⟩, 28), (⟨"TwelveChainModel", "lawWord", "()I"⟩, 28), (⟨"TwelveChainModel", "is", "(Ljava/lang/String;)Z"⟩, 28), (⟨"TwelveChainModel", "asked", "()I"⟩, 28), (⟨"TwelveChainModel", "planWord", "()I"⟩, 28), (⟨"TwelveChainModel", "readsLaw", "()Z"⟩, 28), (⟨"TwelveChainModel", "aLine", "()Z"⟩, 28), (⟨"TwelveChainModel", "bad", "(I)Z"⟩, 28)]
theorem lw_r1 : ∀ q ∈ lw_privs_1, lw_okq q := List.forall_mem_cons.mpr ⟨lw_p0, List.forall_mem_cons.mpr ⟨lw_p1, List.forall_mem_cons.mpr ⟨lw_p2, List.forall_mem_cons.mpr ⟨lw_p3, List.forall_mem_cons.mpr ⟨lw_p4, List.forall_mem_cons.mpr ⟨lw_p5, List.forall_mem_cons.mpr ⟨lw_p6, List.forall_mem_cons.mpr ⟨lw_p7, List.forall_mem_cons.mpr ⟨lw_p8, List.forall_mem_cons.mpr ⟨lw_p9, List.forall_mem_cons.mpr ⟨lw_p10, List.forall_mem_cons.mpr ⟨lw_p11, List.forall_mem_cons.mpr ⟨lw_p12, List.forall_mem_cons.mpr ⟨lw_p13, List.forall_mem_cons.mpr ⟨lw_p14, List.forall_mem_cons.mpr ⟨lw_p15, fun _ h => absurd h List.not_mem_nil⟩⟩⟩⟩⟩⟩⟩⟩⟩⟩⟩⟩⟩⟩⟩⟩
theorem lw_p16 : lw_okq (⟨"TwelveChainModel", "sumUp", "()Z"⟩, 28) := ⟨⟨by decide +kernel, by decide +kernel⟩, List.mem_of_getElem? (i := 1115) (by decide +kernel), List.mem_of_getElem? (i := 1316) (by decide +kernel), List.mem_of_getElem? (i := 1317) (by decide +kernel)⟩
theorem lw_p17 : lw_okq (⟨"TwelveChainModel", "product", "()Z"⟩, 28) := ⟨⟨by decide +kernel, by decide +kernel⟩, List.mem_of_getElem? (i := 1115) (by decide +kernel), List.mem_of_getElem? (i := 1320) (by decide +kernel), List.mem_of_getElem? (i := 1321) (by decide +kernel)⟩
theorem lw_p18 : lw_okq (⟨"TwelveChainModel", "unit", "()Z"⟩, 28) := ⟨⟨by decide +kernel, by decide +kernel⟩, List.mem_of_getElem? (i := 1115) (by decide +kernel), List.mem_of_getElem? (i := 1324) (by decide +kernel), List.mem_of_getElem? (i := 1325) (by decide +kernel)⟩
theorem lw_p19 : lw_okq (⟨"TwelveChainModel", "lay", "(II)V"⟩, 28) := ⟨⟨by decide +kernel, by decide +kernel⟩, List.mem_of_getElem? (i := 1115) (by decide +kernel), List.mem_of_getElem? (i := 1328) (by decide +kernel), List.mem_of_getElem? (i := 1329) (by decide +kernel)⟩
theorem lw_p20 : lw_okq (⟨"TwelveChainModel", "any", "()Z"⟩, 28) := ⟨⟨by decide +kernel, by decide +kernel⟩, List.mem_of_getElem? (i := 1115) (by decide +kernel), List.mem_of_getElem? (i := 1332) (by decide +kernel), List.mem_of_getElem? (i := 1333) (by decide +kernel)⟩
theorem lw_p21 : lw_okq (⟨"TwelveChainModel", "every", "()Z"⟩, 28) := ⟨⟨by decide +kernel, by decide +kernel⟩, List.mem_of_getElem? (i := 1115) (by decide +kernel), List.mem_of_getElem? (i := 1336) (by decide +kernel), List.mem_of_getElem? (i := 1337) (by decide +kernel)⟩
theorem lw_p22 : lw_okq (⟨"TwelveChainModel", "oneTest", "()Z"⟩, 28) := ⟨⟨by decide +kernel, by decide +kernel⟩, List.mem_of_getElem? (i := 1115) (by decide +kernel), List.mem_of_getElem? (i := 1340) (by decide +kernel), List.mem_of_getElem? (i := 1341) (by decide +kernel)⟩
theorem lw_p23 : lw_okq (⟨"TwelveChainModel", "opens", "()Z"⟩, 28) := ⟨⟨by decide +kernel, by decide +kernel⟩, List.mem_of_getElem? (i := 1115) (by decide +kernel), List.mem_of_getElem? (i := 1344) (by decide +kernel), List.mem_of_getElem? (i := 1345) (by decide +kernel)⟩
theorem lw_p24 : lw_okq (⟨"TwelveChainModel", "need", "(I)Z"⟩, 28) := ⟨⟨by decide +kernel, by decide +kernel⟩, List.mem_of_getElem? (i := 1115) (by decide +kernel), List.mem_of_getElem? (i := 1348) (by decide +kernel), List.mem_of_getElem? (i := 1349) (by decide +kernel)⟩
theorem lw_p25 : lw_okq (⟨"TwelveChainModel", "readsRows", "()Z"⟩, 28) := ⟨⟨by decide +kernel, by decide +kernel⟩, List.mem_of_getElem? (i := 1115) (by decide +kernel), List.mem_of_getElem? (i := 1352) (by decide +kernel), List.mem_of_getElem? (i := 1353) (by decide +kernel)⟩
theorem lw_p26 : lw_okq (⟨"TwelveChainModel", "aRow", "()Z"⟩, 28) := ⟨⟨by decide +kernel, by decide +kernel⟩, List.mem_of_getElem? (i := 1115) (by decide +kernel), List.mem_of_getElem? (i := 1356) (by decide +kernel), List.mem_of_getElem? (i := 1357) (by decide +kernel)⟩
theorem lw_p27 : lw_okq (⟨"TwelveChainModel", "aPlan", "()Z"⟩, 28) := ⟨⟨by decide +kernel, by decide +kernel⟩, List.mem_of_getElem? (i := 1115) (by decide +kernel), List.mem_of_getElem? (i := 1360) (by decide +kernel), List.mem_of_getElem? (i := 1361) (by decide +kernel)⟩
theorem lw_p28 : lw_okq (⟨"TwelveChainModel", "told", "(IIII)Z"⟩, 28) := ⟨⟨by decide +kernel, by decide +kernel⟩, List.mem_of_getElem? (i := 1115) (by decide +kernel), List.mem_of_getElem? (i := 1364) (by decide +kernel), List.mem_of_getElem? (i := 1365) (by decide +kernel)⟩
theorem lw_p29 : lw_okq (⟨"TwelveChainModel", "number", "(III)Z"⟩, 28) := ⟨⟨by decide +kernel, by decide +kernel⟩, List.mem_of_getElem? (i := 1115) (by decide +kernel), List.mem_of_getElem? (i := 1368) (by decide +kernel), List.mem_of_getElem? (i := 1369) (by decide +kernel)⟩
theorem lw_p30 : lw_okq (⟨"TwelveChainModel", "aLink", "(I)Z"⟩, 28) := ⟨⟨by decide +kernel, by decide +kernel⟩, List.mem_of_getElem? (i := 1115) (by decide +kernel), List.mem_of_getElem? (i := 1372) (by decide +kernel), List.mem_of_getElem? (i := 1373) (by decide +kernel)⟩
theorem lw_p31 : lw_okq (⟨"TwelveChainModel", "aPhone", "()Z"⟩, 28) := ⟨⟨by decide +kernel, by decide +kernel⟩, List.mem_of_getElem? (i := 1115) (by decide +kernel), List.mem_of_getElem? (i := 1376) (by decide +kernel), List.mem_of_getElem? (i := 1377) (by decide +kernel)⟩
def lw_privs_2 : List (MethodName × Nat) := [(⟨"TwelveChainModel", "sumUp", "()Z"⟩, 28), (⟨"TwelveChainModel", "product", "()Z"⟩, 28), (⟨"TwelveChainModel", "unit", "()Z"⟩, 28), (⟨"TwelveChainModel", "lay", "(II)V"⟩, 28), (⟨"TwelveChainModel", "any", "()Z"⟩, 28), (⟨"TwelveChainModel", "every", "()Z"⟩, 28), (⟨"TwelveChainModel", "oneTest", "()Z"⟩, 28), (⟨"TwelveChainModel", "opens", "()Z"⟩, 28), (⟨"TwelveChainModel", "need", "(I)Z"⟩, 28), (⟨"TwelveChainModel", "readsRows", "()Z"⟩, 28), (⟨"TwelveChainModel", "aRow", "()Z"⟩, 28), (⟨"TwelveChainModel", "aPlan", "()Z"⟩, 28), (⟨"TwelveChainModel", "told", "(IIII)Z"⟩, 28), (⟨"TwelveChainModel", "number", "(III)Z"⟩, 28), (⟨"TwelveChainModel", "aLink", "(I)Z"⟩, 28), (⟨"TwelveChainModel", "aPhone", "()Z"⟩, 28)]
theorem lw_r2 : ∀ q ∈ lw_privs_2, lw_okq q := List.forall_mem_cons.mpr ⟨lw_p16, List.forall_mem_cons.mpr ⟨lw_p17, List.forall_mem_cons.mpr ⟨lw_p18, List.forall_mem_cons.mpr ⟨lw_p19, List.forall_mem_cons.mpr ⟨lw_p20, List.forall_mem_cons.mpr ⟨lw_p21, List.forall_mem_cons.mpr ⟨lw_p22, List.forall_mem_cons.mpr ⟨lw_p23, List.forall_mem_cons.mpr ⟨lw_p24, List.forall_mem_cons.mpr ⟨lw_p25, List.forall_mem_cons.mpr ⟨lw_p26, List.forall_mem_cons.mpr ⟨lw_p27, List.forall_mem_cons.mpr ⟨lw_p28, List.forall_mem_cons.mpr ⟨lw_p29, List.forall_mem_cons.mpr ⟨lw_p30, List.forall_mem_cons.mpr ⟨lw_p31, fun _ h => absurd h List.not_mem_nil⟩⟩⟩⟩⟩⟩⟩⟩⟩⟩⟩⟩⟩⟩⟩⟩
theorem lw_p32 : lw_okq (⟨"TwelveChainModel", "aRecord", "()Z"⟩, 28) := ⟨⟨by decide +kernel, by decide +kernel⟩, List.mem_of_getElem? (i := 1115) (by decide +kernel), List.mem_of_getElem? (i := 1380) (by decide +kernel), List.mem_of_getElem? (i := 1381) (by decide +kernel)⟩
theorem lw_p33 : lw_okq (⟨"TwelveChainModel", "putsText", "(I)I"⟩, 28) := ⟨⟨by decide +kernel, by decide +kernel⟩, List.mem_of_getElem? (i := 1115) (by decide +kernel), List.mem_of_getElem? (i := 1384) (by decide +kernel), List.mem_of_getElem? (i := 1385) (by decide +kernel)⟩
theorem lw_p34 : lw_okq (⟨"TwelveChainModel", "putsLaw", "()I"⟩, 28) := ⟨⟨by decide +kernel, by decide +kernel⟩, List.mem_of_getElem? (i := 1115) (by decide +kernel), List.mem_of_getElem? (i := 1388) (by decide +kernel), List.mem_of_getElem? (i := 1389) (by decide +kernel)⟩
theorem lw_p35 : lw_okq (⟨"TwelveChainModel", "puts", "(III)I"⟩, 28) := ⟨⟨by decide +kernel, by decide +kernel⟩, List.mem_of_getElem? (i := 1115) (by decide +kernel), List.mem_of_getElem? (i := 1392) (by decide +kernel), List.mem_of_getElem? (i := 1393) (by decide +kernel)⟩
theorem lw_p36 : lw_okq (⟨"TwelveChainModel", "putsPhones", "()I"⟩, 28) := ⟨⟨by decide +kernel, by decide +kernel⟩, List.mem_of_getElem? (i := 1115) (by decide +kernel), List.mem_of_getElem? (i := 1396) (by decide +kernel), List.mem_of_getElem? (i := 1397) (by decide +kernel)⟩
theorem lw_p37 : lw_okq (⟨"TwelveChainModel", "canAsk", "(I)Z"⟩, 28) := ⟨⟨by decide +kernel, by decide +kernel⟩, List.mem_of_getElem? (i := 1115) (by decide +kernel), List.mem_of_getElem? (i := 1412) (by decide +kernel), List.mem_of_getElem? (i := 1413) (by decide +kernel)⟩
theorem lw_p38 : lw_okq (⟨"TwelveChainModel", "isThere", "(I)Z"⟩, 28) := ⟨⟨by decide +kernel, by decide +kernel⟩, List.mem_of_getElem? (i := 1115) (by decide +kernel), List.mem_of_getElem? (i := 1416) (by decide +kernel), List.mem_of_getElem? (i := 1417) (by decide +kernel)⟩
theorem lw_p39 : lw_okq (⟨"TwelveChainModel", "isOut", "(I)Z"⟩, 28) := ⟨⟨by decide +kernel, by decide +kernel⟩, List.mem_of_getElem? (i := 1115) (by decide +kernel), List.mem_of_getElem? (i := 1420) (by decide +kernel), List.mem_of_getElem? (i := 1421) (by decide +kernel)⟩
theorem lw_p40 : lw_okq (⟨"TwelveChainModel", "hasMoved", "(I)Z"⟩, 28) := ⟨⟨by decide +kernel, by decide +kernel⟩, List.mem_of_getElem? (i := 1115) (by decide +kernel), List.mem_of_getElem? (i := 1424) (by decide +kernel), List.mem_of_getElem? (i := 1425) (by decide +kernel)⟩
theorem lw_p41 : lw_okq (⟨"TwelveChainModel", "keeps", "()V"⟩, 28) := ⟨⟨by decide +kernel, by decide +kernel⟩, List.mem_of_getElem? (i := 1115) (by decide +kernel), List.mem_of_getElem? (i := 1428) (by decide +kernel), List.mem_of_getElem? (i := 1429) (by decide +kernel)⟩
theorem lw_p42 : lw_okq (⟨"TwelveChainModel", "asks", "(II)I"⟩, 28) := ⟨⟨by decide +kernel, by decide +kernel⟩, List.mem_of_getElem? (i := 1115) (by decide +kernel), List.mem_of_getElem? (i := 1432) (by decide +kernel), List.mem_of_getElem? (i := 1433) (by decide +kernel)⟩
theorem lw_p43 : lw_okq (⟨"TwelveChainModel", "giveOf", "(I)I"⟩, 28) := ⟨⟨by decide +kernel, by decide +kernel⟩, List.mem_of_getElem? (i := 1115) (by decide +kernel), List.mem_of_getElem? (i := 1436) (by decide +kernel), List.mem_of_getElem? (i := 1437) (by decide +kernel)⟩
theorem lw_p44 : lw_okq (⟨"TwelveChainModel", "says", "(IIII)I"⟩, 28) := ⟨⟨by decide +kernel, by decide +kernel⟩, List.mem_of_getElem? (i := 1115) (by decide +kernel), List.mem_of_getElem? (i := 1440) (by decide +kernel), List.mem_of_getElem? (i := 1441) (by decide +kernel)⟩
theorem lw_p45 : lw_okq (⟨"TwelveChainModel", "lacksOf", "(I)I"⟩, 28) := ⟨⟨by decide +kernel, by decide +kernel⟩, List.mem_of_getElem? (i := 1115) (by decide +kernel), List.mem_of_getElem? (i := 1444) (by decide +kernel), List.mem_of_getElem? (i := 1445) (by decide +kernel)⟩
theorem lw_p46 : lw_okq (⟨"TwelveChainModel", "isBridged", "(I)Z"⟩, 28) := ⟨⟨by decide +kernel, by decide +kernel⟩, List.mem_of_getElem? (i := 1115) (by decide +kernel), List.mem_of_getElem? (i := 1451) (by decide +kernel), List.mem_of_getElem? (i := 1452) (by decide +kernel)⟩
theorem lw_p47 : lw_okq (⟨"TwelveChainModel", "bridgedOnes", "()I"⟩, 28) := ⟨⟨by decide +kernel, by decide +kernel⟩, List.mem_of_getElem? (i := 1115) (by decide +kernel), List.mem_of_getElem? (i := 1455) (by decide +kernel), List.mem_of_getElem? (i := 1456) (by decide +kernel)⟩
def lw_privs_3 : List (MethodName × Nat) := [(⟨"TwelveChainModel", "aRecord", "()Z"⟩, 28), (⟨"TwelveChainModel", "putsText", "(I)I"⟩, 28), (⟨"TwelveChainModel", "putsLaw", "()I"⟩, 28), (⟨"TwelveChainModel", "puts", "(III)I"⟩, 28), (⟨"TwelveChainModel", "putsPhones", "()I"⟩, 28), (⟨"TwelveChainModel", "canAsk", "(I)Z"⟩, 28), (⟨"TwelveChainModel", "isThere", "(I)Z"⟩, 28), (⟨"TwelveChainModel", "isOut", "(I)Z"⟩, 28), (⟨"TwelveChainModel", "hasMoved", "(I)Z"⟩, 28), (⟨"TwelveChainModel", "keeps", "()V"⟩, 28), (⟨"TwelveChainModel", "asks", "(II)I"⟩, 28), (⟨"TwelveChainModel", "giveOf", "(I)I"⟩, 28), (⟨"TwelveChainModel", "says", "(IIII)I"⟩, 28), (⟨"TwelveChainModel", "lacksOf", "(I)I"⟩, 28), (⟨"TwelveChainModel", "isBridged", "(I)Z"⟩, 28), (⟨"TwelveChainModel", "bridgedOnes", "()I"⟩, 28)]
theorem lw_r3 : ∀ q ∈ lw_privs_3, lw_okq q := List.forall_mem_cons.mpr ⟨lw_p32, List.forall_mem_cons.mpr ⟨lw_p33, List.forall_mem_cons.mpr ⟨lw_p34, List.forall_mem_cons.mpr ⟨lw_p35, List.forall_mem_cons.mpr ⟨lw_p36, List.forall_mem_cons.mpr ⟨lw_p37, List.forall_mem_cons.mpr ⟨lw_p38, List.forall_mem_cons.mpr ⟨lw_p39, List.forall_mem_cons.mpr ⟨lw_p40, List.forall_mem_cons.mpr ⟨lw_p41, List.forall_mem_cons.mpr ⟨lw_p42, List.forall_mem_cons.mpr ⟨lw_p43, List.forall_mem_cons.mpr ⟨lw_p44, List.forall_mem_cons.mpr ⟨lw_p45, List.forall_mem_cons.mpr ⟨lw_p46, List.forall_mem_cons.mpr ⟨lw_p47, fun _ h => absurd h List.not_mem_nil⟩⟩⟩⟩⟩⟩⟩⟩⟩⟩⟩⟩⟩⟩⟩⟩
theorem lw_p48 : lw_okq (⟨"TwelveChainModel", "endOf", "(II)I"⟩, 28) := ⟨⟨by decide +kernel, by decide +kernel⟩, List.mem_of_getElem? (i := 1115) (by decide +kernel), List.mem_of_getElem? (i := 1459) (by decide +kernel), List.mem_of_getElem? (i := 1460) (by decide +kernel)⟩
theorem lw_p49 : lw_okq (⟨"TwelveChainModel", "isReady", "(I)Z"⟩, 28) := ⟨⟨by decide +kernel, by decide +kernel⟩, List.mem_of_getElem? (i := 1115) (by decide +kernel), List.mem_of_getElem? (i := 1466) (by decide +kernel), List.mem_of_getElem? (i := 1467) (by decide +kernel)⟩
theorem lw_p50 : lw_okq (⟨"TwelveChainModel", "isSo", "(I)Z"⟩, 28) := ⟨⟨by decide +kernel, by decide +kernel⟩, List.mem_of_getElem? (i := 1115) (by decide +kernel), List.mem_of_getElem? (i := 1470) (by decide +kernel), List.mem_of_getElem? (i := 1471) (by decide +kernel)⟩
theorem lw_p51 : lw_okq (⟨"TwelveChainModel", "comesTo", "(III)I"⟩, 28) := ⟨⟨by decide +kernel, by decide +kernel⟩, List.mem_of_getElem? (i := 1115) (by decide +kernel), List.mem_of_getElem? (i := 1474) (by decide +kernel), List.mem_of_getElem? (i := 1475) (by decide +kernel)⟩
theorem lw_p52 : lw_okq (⟨"TwelveChainModel", "notes", "(III)V"⟩, 28) := ⟨⟨by decide +kernel, by decide +kernel⟩, List.mem_of_getElem? (i := 1115) (by decide +kernel), List.mem_of_getElem? (i := 1484) (by decide +kernel), List.mem_of_getElem? (i := 1485) (by decide +kernel)⟩
theorem lw_p53 : lw_okq (⟨"TwelveChainModel", "canBridge", "(I)Z"⟩, 28) := ⟨⟨by decide +kernel, by decide +kernel⟩, List.mem_of_getElem? (i := 1115) (by decide +kernel), List.mem_of_getElem? (i := 1492) (by decide +kernel), List.mem_of_getElem? (i := 1493) (by decide +kernel)⟩
theorem lw_p54 : lw_okq (⟨"TwelveChainModel", "bridges0", "(I)V"⟩, 28) := ⟨⟨by decide +kernel, by decide +kernel⟩, List.mem_of_getElem? (i := 1115) (by decide +kernel), List.mem_of_getElem? (i := 1496) (by decide +kernel), List.mem_of_getElem? (i := 1497) (by decide +kernel)⟩
theorem lw_p55 : lw_okq (⟨"TwelveChainModel", "canPay0", "(III)Z"⟩, 28) := ⟨⟨by decide +kernel, by decide +kernel⟩, List.mem_of_getElem? (i := 1115) (by decide +kernel), List.mem_of_getElem? (i := 1504) (by decide +kernel), List.mem_of_getElem? (i := 1505) (by decide +kernel)⟩
theorem lw_p56 : lw_okq (⟨"TwelveChainModel", "pays", "(III)V"⟩, 28) := ⟨⟨by decide +kernel, by decide +kernel⟩, List.mem_of_getElem? (i := 1115) (by decide +kernel), List.mem_of_getElem? (i := 1508) (by decide +kernel), List.mem_of_getElem? (i := 1509) (by decide +kernel)⟩
theorem lw_p57 : lw_okq (⟨"TwelveChainModel", "canPaper", "(I)Z"⟩, 28) := ⟨⟨by decide +kernel, by decide +kernel⟩, List.mem_of_getElem? (i := 1115) (by decide +kernel), List.mem_of_getElem? (i := 1516) (by decide +kernel), List.mem_of_getElem? (i := 1517) (by decide +kernel)⟩
theorem lw_p58 : lw_okq (⟨"TwelveChainModel", "getsReady", "(I)V"⟩, 28) := ⟨⟨by decide +kernel, by decide +kernel⟩, List.mem_of_getElem? (i := 1115) (by decide +kernel), List.mem_of_getElem? (i := 1520) (by decide +kernel), List.mem_of_getElem? (i := 1521) (by decide +kernel)⟩
theorem lw_p59 : lw_okq (⟨"TwelveChainModel", "aDay", "()I"⟩, 28) := ⟨⟨by decide +kernel, by decide +kernel⟩, List.mem_of_getElem? (i := 1115) (by decide +kernel), List.mem_of_getElem? (i := 1532) (by decide +kernel), List.mem_of_getElem? (i := 1533) (by decide +kernel)⟩
theorem lw_p60 : lw_okq (⟨"TwelveChainModel", "does", "(I)V"⟩, 28) := ⟨⟨by decide +kernel, by decide +kernel⟩, List.mem_of_getElem? (i := 1115) (by decide +kernel), List.mem_of_getElem? (i := 1536) (by decide +kernel), List.mem_of_getElem? (i := 1537) (by decide +kernel)⟩
theorem lw_p61 : lw_okq (⟨"TwelveChainModel", "readyOf", "(I)I"⟩, 28) := ⟨⟨by decide +kernel, by decide +kernel⟩, List.mem_of_getElem? (i := 1115) (by decide +kernel), List.mem_of_getElem? (i := 1540) (by decide +kernel), List.mem_of_getElem? (i := 1541) (by decide +kernel)⟩
theorem lw_p62 : lw_okq (⟨"TwelveChainModel", "falls", "(I)Z"⟩, 28) := ⟨⟨by decide +kernel, by decide +kernel⟩, List.mem_of_getElem? (i := 1115) (by decide +kernel), List.mem_of_getElem? (i := 1544) (by decide +kernel), List.mem_of_getElem? (i := 1545) (by decide +kernel)⟩
theorem lw_p63 : lw_okq (⟨"TwelveChainModel", "draw", "(I)I"⟩, 28) := ⟨⟨by decide +kernel, by decide +kernel⟩, List.mem_of_getElem? (i := 1115) (by decide +kernel), List.mem_of_getElem? (i := 1548) (by decide +kernel), List.mem_of_getElem? (i := 1549) (by decide +kernel)⟩
def lw_privs_4 : List (MethodName × Nat) := [(⟨"TwelveChainModel", "endOf", "(II)I"⟩, 28), (⟨"TwelveChainModel", "isReady", "(I)Z"⟩, 28), (⟨"TwelveChainModel", "isSo", "(I)Z"⟩, 28), (⟨"TwelveChainModel", "comesTo", "(III)I"⟩, 28), (⟨"TwelveChainModel", "notes", "(III)V"⟩, 28), (⟨"TwelveChainModel", "canBridge", "(I)Z"⟩, 28), (⟨"TwelveChainModel", "bridges0", "(I)V"⟩, 28), (⟨"TwelveChainModel", "canPay0", "(III)Z"⟩, 28), (⟨"TwelveChainModel", "pays", "(III)V"⟩, 28), (⟨"TwelveChainModel", "canPaper", "(I)Z"⟩, 28), (⟨"TwelveChainModel", "getsReady", "(I)V"⟩, 28), (⟨"TwelveChainModel", "aDay", "()I"⟩, 28), (⟨"TwelveChainModel", "does", "(I)V"⟩, 28), (⟨"TwelveChainModel", "readyOf", "(I)I"⟩, 28), (⟨"TwelveChainModel", "falls", "(I)Z"⟩, 28), (⟨"TwelveChainModel", "draw", "(I)I"⟩, 28)]
theorem lw_r4 : ∀ q ∈ lw_privs_4, lw_okq q := List.forall_mem_cons.mpr ⟨lw_p48, List.forall_mem_cons.mpr ⟨lw_p49, List.forall_mem_cons.mpr ⟨lw_p50, List.forall_mem_cons.mpr ⟨lw_p51, List.forall_mem_cons.mpr ⟨lw_p52, List.forall_mem_cons.mpr ⟨lw_p53, List.forall_mem_cons.mpr ⟨lw_p54, List.forall_mem_cons.mpr ⟨lw_p55, List.forall_mem_cons.mpr ⟨lw_p56, List.forall_mem_cons.mpr ⟨lw_p57, List.forall_mem_cons.mpr ⟨lw_p58, List.forall_mem_cons.mpr ⟨lw_p59, List.forall_mem_cons.mpr ⟨lw_p60, List.forall_mem_cons.mpr ⟨lw_p61, List.forall_mem_cons.mpr ⟨lw_p62, List.forall_mem_cons.mpr ⟨lw_p63, fun _ h => absurd h List.not_mem_nil⟩⟩⟩⟩⟩⟩⟩⟩⟩⟩⟩⟩⟩⟩⟩⟩
theorem lw_p64 : lw_okq (⟨"TwelveChainModel", "leaveOf", "(I)I"⟩, 28) := ⟨⟨by decide +kernel, by decide +kernel⟩, List.mem_of_getElem? (i := 1115) (by decide +kernel), List.mem_of_getElem? (i := 1554) (by decide +kernel), List.mem_of_getElem? (i := 1555) (by decide +kernel)⟩
theorem lw_p65 : lw_okq (⟨"TwelveChainModel", "leaves", "(I)V"⟩, 28) := ⟨⟨by decide +kernel, by decide +kernel⟩, List.mem_of_getElem? (i := 1115) (by decide +kernel), List.mem_of_getElem? (i := 1558) (by decide +kernel), List.mem_of_getElem? (i := 1559) (by decide +kernel)⟩
theorem lw_p66 : lw_okq (⟨"TwelveChainModel", "unreadies", "(I)V"⟩, 28) := ⟨⟨by decide +kernel, by decide +kernel⟩, List.mem_of_getElem? (i := 1115) (by decide +kernel), List.mem_of_getElem? (i := 1562) (by decide +kernel), List.mem_of_getElem? (i := 1563) (by decide +kernel)⟩
theorem lw_p67 : lw_okq (⟨"TwelveChainModel", "moves", "()I"⟩, 28) := ⟨⟨by decide +kernel, by decide +kernel⟩, List.mem_of_getElem? (i := 1115) (by decide +kernel), List.mem_of_getElem? (i := 1566) (by decide +kernel), List.mem_of_getElem? (i := 1567) (by decide +kernel)⟩
theorem lw_p68 : lw_okq (⟨"TwelveChainModel", "canMove", "(II)Z"⟩, 28) := ⟨⟨by decide +kernel, by decide +kernel⟩, List.mem_of_getElem? (i := 1115) (by decide +kernel), List.mem_of_getElem? (i := 1570) (by decide +kernel), List.mem_of_getElem? (i := 1571) (by decide +kernel)⟩
theorem lw_p69 : lw_okq (⟨"TwelveChainModel", "canPay", "(I)Z"⟩, 28) := ⟨⟨by decide +kernel, by decide +kernel⟩, List.mem_of_getElem? (i := 1115) (by decide +kernel), List.mem_of_getElem? (i := 1574) (by decide +kernel), List.mem_of_getElem? (i := 1575) (by decide +kernel)⟩
theorem lw_p70 : lw_okq (⟨"TwelveChainModel", "costOf", "(I)I"⟩, 28) := ⟨⟨by decide +kernel, by decide +kernel⟩, List.mem_of_getElem? (i := 1115) (by decide +kernel), List.mem_of_getElem? (i := 1578) (by decide +kernel), List.mem_of_getElem? (i := 1579) (by decide +kernel)⟩
theorem lw_p71 : lw_okq (⟨"TwelveChainModel", "recordsOf", "(III)I"⟩, 28) := ⟨⟨by decide +kernel, by decide +kernel⟩, List.mem_of_getElem? (i := 1115) (by decide +kernel), List.mem_of_getElem? (i := 1591) (by decide +kernel), List.mem_of_getElem? (i := 1592) (by decide +kernel)⟩
theorem lw_p72 : lw_okq (⟨"TwelveChainModel", "movedOnes", "()I"⟩, 28) := ⟨⟨by decide +kernel, by decide +kernel⟩, List.mem_of_getElem? (i := 1115) (by decide +kernel), List.mem_of_getElem? (i := 1603) (by decide +kernel), List.mem_of_getElem? (i := 1604) (by decide +kernel)⟩
theorem lw_p73 : lw_okq (⟨"TwelveChainModel", "latestMoved", "()I"⟩, 28) := ⟨⟨by decide +kernel, by decide +kernel⟩, List.mem_of_getElem? (i := 1115) (by decide +kernel), List.mem_of_getElem? (i := 1610) (by decide +kernel), List.mem_of_getElem? (i := 1611) (by decide +kernel)⟩
theorem lw_p74 : lw_okq (⟨"TwelveChainModel", "allBy", "(III)J"⟩, 28) := ⟨⟨by decide +kernel, by decide +kernel⟩, List.mem_of_getElem? (i := 1115) (by decide +kernel), List.mem_of_getElem? (i := 1618) (by decide +kernel), List.mem_of_getElem? (i := 1619) (by decide +kernel)⟩
theorem lw_p75 : lw_okq (⟨"TwelveChainModel", "readyBy", "(II)J"⟩, 28) := ⟨⟨by decide +kernel, by decide +kernel⟩, List.mem_of_getElem? (i := 1115) (by decide +kernel), List.mem_of_getElem? (i := 1623) (by decide +kernel), List.mem_of_getElem? (i := 1624) (by decide +kernel)⟩
theorem lw_p76 : lw_okq (⟨"TwelveChainModel", "hurriedBy", "(II)J"⟩, 28) := ⟨⟨by decide +kernel, by decide +kernel⟩, List.mem_of_getElem? (i := 1115) (by decide +kernel), List.mem_of_getElem? (i := 1649) (by decide +kernel), List.mem_of_getElem? (i := 1650) (by decide +kernel)⟩
theorem lw_p77 : lw_okq (⟨"TwelveChainModel", "leastBy", "(II)J"⟩, 28) := ⟨⟨by decide +kernel, by decide +kernel⟩, List.mem_of_getElem? (i := 1115) (by decide +kernel), List.mem_of_getElem? (i := 1658) (by decide +kernel), List.mem_of_getElem? (i := 1659) (by decide +kernel)⟩
theorem lw_p78 : lw_okq (⟨"TwelveChainModel", "bridgeable", "()I"⟩, 28) := ⟨⟨by decide +kernel, by decide +kernel⟩, List.mem_of_getElem? (i := 1115) (by decide +kernel), List.mem_of_getElem? (i := 1666) (by decide +kernel), List.mem_of_getElem? (i := 1667) (by decide +kernel)⟩
theorem lw_p79 : lw_okq (⟨"TwelveChainModel", "costsOf", "(I)I"⟩, 28) := ⟨⟨by decide +kernel, by decide +kernel⟩, List.mem_of_getElem? (i := 1115) (by decide +kernel), List.mem_of_getElem? (i := 1670) (by decide +kernel), List.mem_of_getElem? (i := 1671) (by decide +kernel)⟩
def lw_privs_5 : List (MethodName × Nat) := [(⟨"TwelveChainModel", "leaveOf", "(I)I"⟩, 28), (⟨"TwelveChainModel", "leaves", "(I)V"⟩, 28), (⟨"TwelveChainModel", "unreadies", "(I)V"⟩, 28), (⟨"TwelveChainModel", "moves", "()I"⟩, 28), (⟨"TwelveChainModel", "canMove", "(II)Z"⟩, 28), (⟨"TwelveChainModel", "canPay", "(I)Z"⟩, 28), (⟨"TwelveChainModel", "costOf", "(I)I"⟩, 28), (⟨"TwelveChainModel", "recordsOf", "(III)I"⟩, 28), (⟨"TwelveChainModel", "movedOnes", "()I"⟩, 28), (⟨"TwelveChainModel", "latestMoved", "()I"⟩, 28), (⟨"TwelveChainModel", "allBy", "(III)J"⟩, 28), (⟨"TwelveChainModel", "readyBy", "(II)J"⟩, 28), (⟨"TwelveChainModel", "hurriedBy", "(II)J"⟩, 28), (⟨"TwelveChainModel", "leastBy", "(II)J"⟩, 28), (⟨"TwelveChainModel", "bridgeable", "()I"⟩, 28), (⟨"TwelveChainModel", "costsOf", "(I)I"⟩, 28)]
theorem lw_r5 : ∀ q ∈ lw_privs_5, lw_okq q := List.forall_mem_cons.mpr ⟨lw_p64, List.forall_mem_cons.mpr ⟨lw_p65, List.forall_mem_cons.mpr ⟨lw_p66, List.forall_mem_cons.mpr ⟨lw_p67, List.forall_mem_cons.mpr ⟨lw_p68, List.forall_mem_cons.mpr ⟨lw_p69, List.forall_mem_cons.mpr ⟨lw_p70, List.forall_mem_cons.mpr ⟨lw_p71, List.forall_mem_cons.mpr ⟨lw_p72, List.forall_mem_cons.mpr ⟨lw_p73, List.forall_mem_cons.mpr ⟨lw_p74, List.forall_mem_cons.mpr ⟨lw_p75, List.forall_mem_cons.mpr ⟨lw_p76, List.forall_mem_cons.mpr ⟨lw_p77, List.forall_mem_cons.mpr ⟨lw_p78, List.forall_mem_cons.mpr ⟨lw_p79, fun _ h => absurd h List.not_mem_nil⟩⟩⟩⟩⟩⟩⟩⟩⟩⟩⟩⟩⟩⟩⟩⟩
theorem lw_p80 : lw_okq (⟨"TwelveChainModel", "givenBy", "(I)I"⟩, 28) := ⟨⟨by decide +kernel, by decide +kernel⟩, List.mem_of_getElem? (i := 1115) (by decide +kernel), List.mem_of_getElem? (i := 1678) (by decide +kernel), List.mem_of_getElem? (i := 1679) (by decide +kernel)⟩
theorem lw_p81 : lw_okq (⟨"TwelveChainModel", "isGiving", "(I)Z"⟩, 28) := ⟨⟨by decide +kernel, by decide +kernel⟩, List.mem_of_getElem? (i := 1115) (by decide +kernel), List.mem_of_getElem? (i := 1682) (by decide +kernel), List.mem_of_getElem? (i := 1683) (by decide +kernel)⟩
theorem lw_p82 : lw_okq (⟨"TwelveChainModel", "isRunning", "(I)Z"⟩, 28) := ⟨⟨by decide +kernel, by decide +kernel⟩, List.mem_of_getElem? (i := 1115) (by decide +kernel), List.mem_of_getElem? (i := 1709) (by decide +kernel), List.mem_of_getElem? (i := 1710) (by decide +kernel)⟩
theorem lw_p83 : lw_okq (⟨"TwelveChainModel", "laysSigns", "(II)V"⟩, 28) := ⟨⟨by decide +kernel, by decide +kernel⟩, List.mem_of_getElem? (i := 1115) (by decide +kernel), List.mem_of_getElem? (i := 1717) (by decide +kernel), List.mem_of_getElem? (i := 1718) (by decide +kernel)⟩
theorem lw_p84 : lw_okq (⟨"TwelveChainModel", "mostSigned", "()I"⟩, 28) := ⟨⟨by decide +kernel, by decide +kernel⟩, List.mem_of_getElem? (i := 1115) (by decide +kernel), List.mem_of_getElem? (i := 1722) (by decide +kernel), List.mem_of_getElem? (i := 1723) (by decide +kernel)⟩
theorem lw_p85 : lw_okq (⟨"TwelveChainModel", "signsNext", "(III)I"⟩, 28) := ⟨⟨by decide +kernel, by decide +kernel⟩, List.mem_of_getElem? (i := 1115) (by decide +kernel), List.mem_of_getElem? (i := 1726) (by decide +kernel), List.mem_of_getElem? (i := 1727) (by decide +kernel)⟩
theorem lw_p86 : lw_okq (⟨"TwelveChainModel", "greaterBy", "(I)I"⟩, 28) := ⟨⟨by decide +kernel, by decide +kernel⟩, List.mem_of_getElem? (i := 1115) (by decide +kernel), List.mem_of_getElem? (i := 1742) (by decide +kernel), List.mem_of_getElem? (i := 1743) (by decide +kernel)⟩
theorem lw_p87 : lw_okq (⟨"TwelveChainModel", "heapOf", "(I)I"⟩, 28) := ⟨⟨by decide +kernel, by decide +kernel⟩, List.mem_of_getElem? (i := 1115) (by decide +kernel), List.mem_of_getElem? (i := 1754) (by decide +kernel), List.mem_of_getElem? (i := 1755) (by decide +kernel)⟩
def lw_privs_6 : List (MethodName × Nat) := [(⟨"TwelveChainModel", "givenBy", "(I)I"⟩, 28), (⟨"TwelveChainModel", "isGiving", "(I)Z"⟩, 28), (⟨"TwelveChainModel", "isRunning", "(I)Z"⟩, 28), (⟨"TwelveChainModel", "laysSigns", "(II)V"⟩, 28), (⟨"TwelveChainModel", "mostSigned", "()I"⟩, 28), (⟨"TwelveChainModel", "signsNext", "(III)I"⟩, 28), (⟨"TwelveChainModel", "greaterBy", "(I)I"⟩, 28), (⟨"TwelveChainModel", "heapOf", "(I)I"⟩, 28)]
theorem lw_r6 : ∀ q ∈ lw_privs_6, lw_okq q := List.forall_mem_cons.mpr ⟨lw_p80, List.forall_mem_cons.mpr ⟨lw_p81, List.forall_mem_cons.mpr ⟨lw_p82, List.forall_mem_cons.mpr ⟨lw_p83, List.forall_mem_cons.mpr ⟨lw_p84, List.forall_mem_cons.mpr ⟨lw_p85, List.forall_mem_cons.mpr ⟨lw_p86, List.forall_mem_cons.mpr ⟨lw_p87, fun _ h => absurd h List.not_mem_nil⟩⟩⟩⟩⟩⟩⟩⟩
def lw_privs : List (MethodName × Nat) := lw_privs_1 ++ (lw_privs_2 ++ (lw_privs_3 ++ (lw_privs_4 ++ (lw_privs_5 ++ (lw_privs_6)))))
def lw_tbl : List Cond := k2_sels lw_privs ++ tables_1
theorem lw_privs_ok : ∀ q ∈ lw_privs, lw_okq q := by
  show ∀ q ∈ lw_privs_1 ++ (lw_privs_2 ++ (lw_privs_3 ++ (lw_privs_4 ++ (lw_privs_5 ++ (lw_privs_6))))), lw_okq q
  exact List.forall_mem_append.mpr ⟨lw_r1, List.forall_mem_append.mpr ⟨lw_r2, List.forall_mem_append.mpr ⟨lw_r3, List.forall_mem_append.mpr ⟨lw_r4, List.forall_mem_append.mpr ⟨lw_r5, lw_r6⟩⟩⟩⟩⟩

def RX0 : String := "TwelveChain$Chain"
def TX0 : u_T := fun k => match k with
  | 0 => ("TwelveChain$Chain", "thought", "Z", true)
  | 1 => ("TwelveChain$Chain", "links", "[LTwelveChain$Link;", true)
  | 2 => ("TwelveChain$Chain", "nobody", "LTwelveChain$Link;", true)
  | 3 => ("TwelveChain$Chain", "count", "I", false)
  | 4 => ("TwelveChain$Chain", "day", "I", false)
  | 5 => ("TwelveChain$Chain", "falls", "I", false)
  | 6 => ("TwelveChain$Chain", "state", "I", false)
  | _ => ("TwelveChain$Chain", "written", "I", false)
def tyX0 : Nat → FieldType := fun k => match k with
  | 0 => .boolean
  | 1 => .array (.object "TwelveChain$Link")
  | 2 => .object "TwelveChain$Link"
  | 3 => .int
  | 4 => .int
  | 5 => .int
  | 6 => .int
  | _ => .int
theorem nmX0 : ∀ a, a < 8 → ∀ b, b < 8 → a ≠ b → (TX0 a).2.1 ≠ (TX0 b).2.1 := by decide +kernel
theorem tyX0_ok : ∀ k, k < 8 → parseFieldDescriptor (TX0 k).2.2.1 = some (tyX0 k) := by decide +kernel
abbrev cX0_init : ByteArray := prog_2_method_1_code
def yX0_init : MethodName := ⟨RX0, "<init>", "(Z)V"⟩
abbrev cX0_take : ByteArray := prog_2_method_2_code
def yX0_take : MethodName := ⟨RX0, "take", "(LTwelveChain$Chain;)V"⟩
abbrev cX0_has : ByteArray := prog_2_method_3_code
def yX0_has : MethodName := ⟨RX0, "has", "(I)Z"⟩
abbrev cX0_at : ByteArray := prog_2_method_4_code
def yX0_at : MethodName := ⟨RX0, "at", "(I)LTwelveChain$Link;"⟩
abbrev cX0_all : ByteArray := prog_2_method_5_code
def yX0_all : MethodName := ⟨RX0, "all", "()I"⟩
abbrev cX0_happens : ByteArray := prog_2_method_6_code
def yX0_happens : MethodName := ⟨RX0, "happens", "(I)Z"⟩
abbrev cX0_lackOfMoney : ByteArray := prog_2_method_7_code
def yX0_lackOfMoney : MethodName := ⟨RX0, "lackOfMoney", "(I)I"⟩
abbrev cX0_canPay : ByteArray := prog_2_method_8_code
def yX0_canPay : MethodName := ⟨RX0, "canPay", "(I)Z"⟩
abbrev cX0_canBridge : ByteArray := prog_2_method_9_code
def yX0_canBridge : MethodName := ⟨RX0, "canBridge", "(I)Z"⟩
abbrev cX0_partEnd : ByteArray := prog_2_method_10_code
def yX0_partEnd : MethodName := ⟨RX0, "partEnd", "(I)I"⟩
abbrev cX0_lacks : ByteArray := prog_2_method_11_code
def yX0_lacks : MethodName := ⟨RX0, "lacks", "(I)I"⟩
abbrev cX0_parts : ByteArray := prog_2_method_12_code
def yX0_parts : MethodName := ⟨RX0, "parts", "()I"⟩
abbrev cX0_movedOnes : ByteArray := prog_2_method_13_code
def yX0_movedOnes : MethodName := ⟨RX0, "movedOnes", "()I"⟩
abbrev cX0_bridgedOnes : ByteArray := prog_2_method_14_code
def yX0_bridgedOnes : MethodName := ⟨RX0, "bridgedOnes", "()I"⟩
abbrev cX0_bridgeableOnes : ByteArray := prog_2_method_15_code
def yX0_bridgeableOnes : MethodName := ⟨RX0, "bridgeableOnes", "()I"⟩
abbrev cX0_latestMove : ByteArray := prog_2_method_16_code
def yX0_latestMove : MethodName := ⟨RX0, "latestMove", "()I"⟩
abbrev cX0_canGive : ByteArray := prog_2_method_17_code
def yX0_canGive : MethodName := ⟨RX0, "canGive", "(I)I"⟩
abbrev cX0_givenTo : ByteArray := prog_2_method_18_code
def yX0_givenTo : MethodName := ⟨RX0, "givenTo", "(I)I"⟩
abbrev cX0_named : ByteArray := prog_2_method_19_code
def yX0_named : MethodName := ⟨RX0, "named", "(II)I"⟩
def RX1 : String := "TwelveChain$Deeds"
def TX1 : u_T := fun k => match k with
  | 0 => ("TwelveChain$Deeds", "texts", "LTwelveChain$Texts;", true)
  | _ => ("TwelveChain$Deeds", "pages", "[I", true)
def tyX1 : Nat → FieldType := fun k => match k with
  | 0 => .object "TwelveChain$Texts"
  | _ => .array .int
theorem nmX1 : ∀ a, a < 2 → ∀ b, b < 2 → a ≠ b → (TX1 a).2.1 ≠ (TX1 b).2.1 := by decide +kernel
theorem tyX1_ok : ∀ k, k < 2 → parseFieldDescriptor (TX1 k).2.2.1 = some (tyX1 k) := by decide +kernel
abbrev cX1_init : ByteArray := prog_3_method_1_code
def yX1_init : MethodName := ⟨RX1, "<init>", "(LTwelveChain$Texts;[I)V"⟩
abbrev cX1_write : ByteArray := prog_3_method_2_code
def yX1_write : MethodName := ⟨RX1, "write", "(LTwelveChain$Chain;III)V"⟩
abbrev cX1_canAsk : ByteArray := prog_3_method_3_code
def yX1_canAsk : MethodName := ⟨RX1, "canAsk", "(LTwelveChain$Chain;II)Z"⟩
abbrev cX1_askFor : ByteArray := prog_3_method_4_code
def yX1_askFor : MethodName := ⟨RX1, "askFor", "(LTwelveChain$Chain;II)I"⟩
abbrev cX1_putBridge : ByteArray := prog_3_method_5_code
def yX1_putBridge : MethodName := ⟨RX1, "putBridge", "(LTwelveChain$Chain;I)V"⟩
abbrev cX1_canHandOver : ByteArray := prog_3_method_6_code
def yX1_canHandOver : MethodName := ⟨RX1, "canHandOver", "(LTwelveChain$Chain;III)Z"⟩
abbrev cX1_handOver : ByteArray := prog_3_method_7_code
def yX1_handOver : MethodName := ⟨RX1, "handOver", "(LTwelveChain$Chain;III)V"⟩
abbrev cX1_canGetReady : ByteArray := prog_3_method_8_code
def yX1_canGetReady : MethodName := ⟨RX1, "canGetReady", "(LTwelveChain$Chain;I)Z"⟩
abbrev cX1_getReady : ByteArray := prog_3_method_9_code
def yX1_getReady : MethodName := ⟨RX1, "getReady", "(LTwelveChain$Chain;I)V"⟩
abbrev cX1_comeIn : ByteArray := prog_3_method_10_code
def yX1_comeIn : MethodName := ⟨RX1, "comeIn", "(LTwelveChain$Chain;I)V"⟩
abbrev cX1_oneDay : ByteArray := prog_3_method_11_code
def yX1_oneDay : MethodName := ⟨RX1, "oneDay", "(LTwelveChain$Chain;)I"⟩
abbrev cX1_doPlanned : ByteArray := prog_3_method_12_code
def yX1_doPlanned : MethodName := ⟨RX1, "doPlanned", "(LTwelveChain$Chain;I)V"⟩
abbrev cX1_mayLeave : ByteArray := prog_3_method_13_code
def yX1_mayLeave : MethodName := ⟨RX1, "mayLeave", "(LTwelveChain$Chain;I)V"⟩
abbrev cX1_moveParts : ByteArray := prog_3_method_14_code
def yX1_moveParts : MethodName := ⟨RX1, "moveParts", "(LTwelveChain$Chain;)I"⟩
abbrev cX1_canMove : ByteArray := prog_3_method_15_code
def yX1_canMove : MethodName := ⟨RX1, "canMove", "(LTwelveChain$Chain;II)Z"⟩
abbrev cX1_movePart : ByteArray := prog_3_method_16_code
def yX1_movePart : MethodName := ⟨RX1, "movePart", "(LTwelveChain$Chain;II)I"⟩
abbrev cX1_payForBridges : ByteArray := prog_3_method_17_code
def yX1_payForBridges : MethodName := ⟨RX1, "payForBridges", "(LTwelveChain$Chain;)V"⟩
def RX2 : String := "TwelveChain$Kept"
def TX2 : u_T := fun k => match k with
  | 0 => ("TwelveChain$Kept", "before", "[LTwelveChain$Chain;", true)
  | 1 => ("TwelveChain$Kept", "next", "I", false)
  | _ => ("TwelveChain$Kept", "count", "I", false)
def tyX2 : Nat → FieldType := fun k => match k with
  | 0 => .array (.object "TwelveChain$Chain")
  | 1 => .int
  | _ => .int
theorem nmX2 : ∀ a, a < 3 → ∀ b, b < 3 → a ≠ b → (TX2 a).2.1 ≠ (TX2 b).2.1 := by decide +kernel
theorem tyX2_ok : ∀ k, k < 3 → parseFieldDescriptor (TX2 k).2.2.1 = some (tyX2 k) := by decide +kernel
abbrev cX2_init : ByteArray := prog_4_method_1_code
def yX2_init : MethodName := ⟨RX2, "<init>", "()V"⟩
abbrev cX2_forgetAll : ByteArray := prog_4_method_2_code
def yX2_forgetAll : MethodName := ⟨RX2, "forgetAll", "()V"⟩
abbrev cX2_keep : ByteArray := prog_4_method_3_code
def yX2_keep : MethodName := ⟨RX2, "keep", "(LTwelveChain$Chain;)V"⟩
abbrev cX2_goBack : ByteArray := prog_4_method_4_code
def yX2_goBack : MethodName := ⟨RX2, "goBack", "(LTwelveChain$Chain;)Z"⟩
def RX3 : String := "TwelveChain$Law"
def TX3 : u_T := fun k => match k with
  | 0 => ("TwelveChain$Law", "lines", "I", false)
  | 1 => ("TwelveChain$Law", "size", "I", false)
  | 2 => ("TwelveChain$Law", "words", "[I", true)
  | 3 => ("TwelveChain$Law", "starts", "[I", true)
  | 4 => ("TwelveChain$Law", "middles", "[I", true)
  | 5 => ("TwelveChain$Law", "ends", "[I", true)
  | 6 => ("TwelveChain$Law", "code", "[I", true)
  | _ => ("TwelveChain$Law", "stack", "[I", true)
def tyX3 : Nat → FieldType := fun k => match k with
  | 0 => .int
  | 1 => .int
  | 2 => .array .int
  | 3 => .array .int
  | 4 => .array .int
  | 5 => .array .int
  | 6 => .array .int
  | _ => .array .int
theorem nmX3 : ∀ a, a < 8 → ∀ b, b < 8 → a ≠ b → (TX3 a).2.1 ≠ (TX3 b).2.1 := by decide +kernel
theorem tyX3_ok : ∀ k, k < 8 → parseFieldDescriptor (TX3 k).2.2.1 = some (tyX3 k) := by decide +kernel
abbrev cX3_init : ByteArray := prog_5_method_1_code
def yX3_init : MethodName := ⟨RX3, "<init>", "()V"⟩
abbrev cX3_clear : ByteArray := prog_5_method_2_code
def yX3_clear : MethodName := ⟨RX3, "clear", "()V"⟩
abbrev cX3_take : ByteArray := prog_5_method_3_code
def yX3_take : MethodName := ⟨RX3, "take", "(LTwelveChain$Law;)V"⟩
abbrev cX3_put : ByteArray := prog_5_method_4_code
def yX3_put : MethodName := ⟨RX3, "put", "(I)V"⟩
abbrev cX3_addLine : ByteArray := prog_5_method_5_code
def yX3_addLine : MethodName := ⟨RX3, "addLine", "(III)V"⟩
abbrev cX3_tells : ByteArray := prog_5_method_6_code
def yX3_tells : MethodName := ⟨RX3, "tells", "(ILTwelveChain$Chain;I)I"⟩
abbrev cX3_untold : ByteArray := prog_5_method_7_code
def yX3_untold : MethodName := ⟨RX3, "untold", "(ILTwelveChain$Link;)I"⟩
abbrev cX3_held : ByteArray := prog_5_method_8_code
def yX3_held : MethodName := ⟨RX3, "held", "(II)I"⟩
abbrev cX3_worked : ByteArray := prog_5_method_9_code
def yX3_worked : MethodName := ⟨RX3, "worked", "(IILTwelveChain$Chain;I)I"⟩
abbrev cX3_joined : ByteArray := prog_5_method_10_code
def yX3_joined : MethodName := ⟨RX3, "joined", "(III)I"⟩
def RX4 : String := "TwelveChain$Likely"
def TX4 : u_T := fun k => match k with
  | 0 => ("TwelveChain$Likely", "law", "LTwelveChain$Law;", true)
  | 1 => ("TwelveChain$Likely", "left", "[I", true)
  | 2 => ("TwelveChain$Likely", "ready", "[I", true)
  | 3 => ("TwelveChain$Likely", "costs", "[I", true)
  | _ => ("TwelveChain$Likely", "spans", "[I", true)
def tyX4 : Nat → FieldType := fun k => match k with
  | 0 => .object "TwelveChain$Law"
  | 1 => .array .int
  | 2 => .array .int
  | 3 => .array .int
  | _ => .array .int
theorem nmX4 : ∀ a, a < 5 → ∀ b, b < 5 → a ≠ b → (TX4 a).2.1 ≠ (TX4 b).2.1 := by decide +kernel
theorem tyX4_ok : ∀ k, k < 5 → parseFieldDescriptor (TX4 k).2.2.1 = some (tyX4 k) := by decide +kernel
abbrev cX4_init : ByteArray := prog_6_method_1_code
def yX4_init : MethodName := ⟨RX4, "<init>", "(LTwelveChain$Law;)V"⟩
abbrev cX4_leftNext : ByteArray := prog_6_method_2_code
def yX4_leftNext : MethodName := ⟨RX4, "leftNext", "(II)I"⟩
abbrev cX4_leftAfter : ByteArray := prog_6_method_3_code
def yX4_leftAfter : MethodName := ⟨RX4, "leftAfter", "(II)I"⟩
abbrev cX4_chance : ByteArray := prog_6_method_4_code
def yX4_chance : MethodName := ⟨RX4, "chance", "(II)I"⟩
abbrev cX4_times : ByteArray := prog_6_method_5_code
def yX4_times : MethodName := ⟨RX4, "times", "(II)I"⟩
abbrev cX4_reckon : ByteArray := prog_6_method_6_code
def yX4_reckon : MethodName := ⟨RX4, "reckon", "(LTwelveChain$Chain;I)V"⟩
abbrev cX4_oneDayMore : ByteArray := prog_6_method_7_code
def yX4_oneDayMore : MethodName := ⟨RX4, "oneDayMore", "(LTwelveChain$Chain;)V"⟩
abbrev cX4_chanceOf : ByteArray := prog_6_method_8_code
def yX4_chanceOf : MethodName := ⟨RX4, "chanceOf", "(I)I"⟩
abbrev cX4_oddsWith : ByteArray := prog_6_method_9_code
def yX4_oddsWith : MethodName := ⟨RX4, "oddsWith", "(LTwelveChain$Chain;II)I"⟩
abbrev cX4_oddsOf : ByteArray := prog_6_method_10_code
def yX4_oddsOf : MethodName := ⟨RX4, "oddsOf", "(LTwelveChain$Chain;II)I"⟩
abbrev cX4_holder : ByteArray := prog_6_method_11_code
def yX4_holder : MethodName := ⟨RX4, "holder", "(LTwelveChain$Chain;)I"⟩
abbrev cX4_oddsHurried : ByteArray := prog_6_method_12_code
def yX4_oddsHurried : MethodName := ⟨RX4, "oddsHurried", "(LTwelveChain$Chain;II)I"⟩
abbrev cX4_reckonSpans : ByteArray := prog_6_method_13_code
def yX4_reckonSpans : MethodName := ⟨RX4, "reckonSpans", "(LTwelveChain$Chain;)V"⟩
abbrev cX4_leastOdds : ByteArray := prog_6_method_14_code
def yX4_leastOdds : MethodName := ⟨RX4, "leastOdds", "(LTwelveChain$Chain;I)I"⟩
abbrev cX4_cheapestBridges : ByteArray := prog_6_method_15_code
def yX4_cheapestBridges : MethodName := ⟨RX4, "cheapestBridges", "(LTwelveChain$Chain;I)I"⟩
abbrev cX4_costOf : ByteArray := prog_6_method_16_code
def yX4_costOf : MethodName := ⟨RX4, "costOf", "(LTwelveChain$Chain;I)I"⟩
def RX5 : String := "TwelveChain$Link"
def TX5 : u_T := fun k => match k with
  | 0 => ("TwelveChain$Link", "price", "I", false)
  | 1 => ("TwelveChain$Link", "purse", "I", false)
  | 2 => ("TwelveChain$Link", "worth", "I", false)
  | 3 => ("TwelveChain$Link", "slow", "I", false)
  | 4 => ("TwelveChain$Link", "ready", "I", false)
  | 5 => ("TwelveChain$Link", "out", "I", false)
  | 6 => ("TwelveChain$Link", "bridged", "I", false)
  | _ => ("TwelveChain$Link", "moved", "I", false)
def tyX5 : Nat → FieldType := fun k => match k with
  | 0 => .int
  | 1 => .int
  | 2 => .int
  | 3 => .int
  | 4 => .int
  | 5 => .int
  | 6 => .int
  | _ => .int
theorem nmX5 : ∀ a, a < 8 → ∀ b, b < 8 → a ≠ b → (TX5 a).2.1 ≠ (TX5 b).2.1 := by decide +kernel
theorem tyX5_ok : ∀ k, k < 8 → parseFieldDescriptor (TX5 k).2.2.1 = some (tyX5 k) := by decide +kernel
abbrev cX5_init : ByteArray := prog_7_method_1_code
def yX5_init : MethodName := ⟨RX5, "<init>", "()V"⟩
abbrev cX5_makeNew : ByteArray := prog_7_method_2_code
def yX5_makeNew : MethodName := ⟨RX5, "makeNew", "(IIII)V"⟩
abbrev cX5_take : ByteArray := prog_7_method_3_code
def yX5_take : MethodName := ⟨RX5, "take", "(LTwelveChain$Link;)V"⟩
abbrev cX5_isIn : ByteArray := prog_7_method_4_code
def yX5_isIn : MethodName := ⟨RX5, "isIn", "()Z"⟩
def RX6 : String := "TwelveChain$Rows"
def TX6 : u_T := fun k => match k with
  | 0 => ("TwelveChain$Rows", "count", "I", false)
  | _ => ("TwelveChain$Rows", "cells", "[I", true)
def tyX6 : Nat → FieldType := fun k => match k with
  | 0 => .int
  | _ => .array .int
theorem nmX6 : ∀ a, a < 2 → ∀ b, b < 2 → a ≠ b → (TX6 a).2.1 ≠ (TX6 b).2.1 := by decide +kernel
theorem tyX6_ok : ∀ k, k < 2 → parseFieldDescriptor (TX6 k).2.2.1 = some (tyX6 k) := by decide +kernel
abbrev cX6_init : ByteArray := prog_8_method_1_code
def yX6_init : MethodName := ⟨RX6, "<init>", "()V"⟩
abbrev cX6_take : ByteArray := prog_8_method_2_code
def yX6_take : MethodName := ⟨RX6, "take", "(LTwelveChain$Rows;)V"⟩
abbrev cX6_add : ByteArray := prog_8_method_3_code
def yX6_add : MethodName := ⟨RX6, "add", "(IIIII)V"⟩
abbrev cX6_cell : ByteArray := prog_8_method_4_code
def yX6_cell : MethodName := ⟨RX6, "cell", "(II)I"⟩
def RX7 : String := "TwelveChain$Tape"
def TX7 : u_T := fun k => match k with
  | 0 => ("TwelveChain$Tape", "bytes", "[B", true)
  | 1 => ("TwelveChain$Tape", "length", "I", false)
  | 2 => ("TwelveChain$Tape", "tokens", "[I", true)
  | 3 => ("TwelveChain$Tape", "numbers", "[I", true)
  | _ => ("TwelveChain$Tape", "places", "[I", true)
def tyX7 : Nat → FieldType := fun k => match k with
  | 0 => .array .byte
  | 1 => .int
  | 2 => .array .int
  | 3 => .array .int
  | _ => .array .int
theorem nmX7 : ∀ a, a < 5 → ∀ b, b < 5 → a ≠ b → (TX7 a).2.1 ≠ (TX7 b).2.1 := by decide +kernel
theorem tyX7_ok : ∀ k, k < 5 → parseFieldDescriptor (TX7 k).2.2.1 = some (tyX7 k) := by decide +kernel
abbrev cX7_init : ByteArray := prog_9_method_1_code
def yX7_init : MethodName := ⟨RX7, "<init>", "()V"⟩
abbrev cX7_put : ByteArray := prog_9_method_2_code
def yX7_put : MethodName := ⟨RX7, "put", "(I)V"⟩
abbrev cX7_scan : ByteArray := prog_9_method_3_code
def yX7_scan : MethodName := ⟨RX7, "scan", "()V"⟩
abbrev cX7_isLetter : ByteArray := prog_9_method_4_code
def yX7_isLetter : MethodName := ⟨RX7, "isLetter", "(I)Z"⟩
abbrev cX7_isDigit : ByteArray := prog_9_method_5_code
def yX7_isDigit : MethodName := ⟨RX7, "isDigit", "(I)Z"⟩
abbrev cX7_isSign : ByteArray := prog_9_method_6_code
def yX7_isSign : MethodName := ⟨RX7, "isSign", "(I)Z"⟩
abbrev cX7_takeWord : ByteArray := prog_9_method_7_code
def yX7_takeWord : MethodName := ⟨RX7, "takeWord", "(II)I"⟩
abbrev cX7_takeNumber : ByteArray := prog_9_method_8_code
def yX7_takeNumber : MethodName := ⟨RX7, "takeNumber", "(II)I"⟩
abbrev cX7_takeSign : ByteArray := prog_9_method_9_code
def yX7_takeSign : MethodName := ⟨RX7, "takeSign", "(II)I"⟩
abbrev cX7_wordOf : ByteArray := prog_9_method_10_code
def yX7_wordOf : MethodName := ⟨RX7, "wordOf", "(II)I"⟩
def RX8 : String := "TwelveChain$Telephone"
def TX8 : u_T := fun k => match k with
  | 0 => ("TwelveChain$Telephone", "known", "Z", false)
  | 1 => ("TwelveChain$Telephone", "earliest", "I", false)
  | 2 => ("TwelveChain$Telephone", "most", "I", false)
  | 3 => ("TwelveChain$Telephone", "count", "I", false)
  | 4 => ("TwelveChain$Telephone", "from", "[I", true)
  | 5 => ("TwelveChain$Telephone", "to", "[I", true)
  | 6 => ("TwelveChain$Telephone", "order", "[I", true)
  | _ => ("TwelveChain$Telephone", "minutes", "[I", true)
def tyX8 : Nat → FieldType := fun k => match k with
  | 0 => .boolean
  | 1 => .int
  | 2 => .int
  | 3 => .int
  | 4 => .array .int
  | 5 => .array .int
  | 6 => .array .int
  | _ => .array .int
theorem nmX8 : ∀ a, a < 8 → ∀ b, b < 8 → a ≠ b → (TX8 a).2.1 ≠ (TX8 b).2.1 := by decide +kernel
theorem tyX8_ok : ∀ k, k < 8 → parseFieldDescriptor (TX8 k).2.2.1 = some (tyX8 k) := by decide +kernel
abbrev cX8_init : ByteArray := prog_10_method_1_code
def yX8_init : MethodName := ⟨RX8, "<init>", "()V"⟩
abbrev cX8_forgetAll : ByteArray := prog_10_method_2_code
def yX8_forgetAll : MethodName := ⟨RX8, "forgetAll", "()V"⟩
abbrev cX8_plan : ByteArray := prog_10_method_3_code
def yX8_plan : MethodName := ⟨RX8, "plan", "(ILTwelveChain$Texts;)V"⟩
abbrev cX8_signer : ByteArray := prog_10_method_4_code
def yX8_signer : MethodName := ⟨RX8, "signer", "(I)I"⟩
abbrev cX8_findEarliest : ByteArray := prog_10_method_5_code
def yX8_findEarliest : MethodName := ⟨RX8, "findEarliest", "()V"⟩
abbrev cX8_findLatest : ByteArray := prog_10_method_6_code
def yX8_findLatest : MethodName := ⟨RX8, "findLatest", "()V"⟩
abbrev cX8_findOrder : ByteArray := prog_10_method_7_code
def yX8_findOrder : MethodName := ⟨RX8, "findOrder", "()V"⟩
def RX9 : String := "TwelveChain$Teller"
def TX9 : u_T := fun k => match k with
  | 0 => ("TwelveChain$Teller", "tape", "LTwelveChain$Tape;", true)
  | 1 => ("TwelveChain$Teller", "law", "LTwelveChain$Law;", true)
  | 2 => ("TwelveChain$Teller", "rows", "LTwelveChain$Rows;", true)
  | 3 => ("TwelveChain$Teller", "fault", "I", false)
  | 4 => ("TwelveChain$Teller", "place", "I", false)
  | 5 => ("TwelveChain$Teller", "at", "I", false)
  | 6 => ("TwelveChain$Teller", "token", "I", false)
  | 7 => ("TwelveChain$Teller", "number", "I", false)
  | 8 => ("TwelveChain$Teller", "links", "I", false)
  | _ => ("TwelveChain$Teller", "open", "I", false)
def tyX9 : Nat → FieldType := fun k => match k with
  | 0 => .object "TwelveChain$Tape"
  | 1 => .object "TwelveChain$Law"
  | 2 => .object "TwelveChain$Rows"
  | 3 => .int
  | 4 => .int
  | 5 => .int
  | 6 => .int
  | 7 => .int
  | 8 => .int
  | _ => .int
theorem nmX9 : ∀ a, a < 10 → ∀ b, b < 10 → a ≠ b → (TX9 a).2.1 ≠ (TX9 b).2.1 := by decide +kernel
theorem tyX9_ok : ∀ k, k < 10 → parseFieldDescriptor (TX9 k).2.2.1 = some (tyX9 k) := by decide +kernel
abbrev cX9_init : ByteArray := prog_11_method_1_code
def yX9_init : MethodName := ⟨RX9, "<init>", "(LTwelveChain$Tape;)V"⟩
abbrev cX9_tell : ByteArray := prog_11_method_2_code
def yX9_tell : MethodName := ⟨RX9, "tell", "(ILTwelveChain$Texts;I)I"⟩
abbrev cX9_lookAt : ByteArray := prog_11_method_3_code
def yX9_lookAt : MethodName := ⟨RX9, "lookAt", "(I)V"⟩
abbrev cX9_wrong : ByteArray := prog_11_method_4_code
def yX9_wrong : MethodName := ⟨RX9, "wrong", "(I)Z"⟩
abbrev cX9_accept : ByteArray := prog_11_method_5_code
def yX9_accept : MethodName := ⟨RX9, "accept", "(I)Z"⟩
abbrev cX9_numeral : ByteArray := prog_11_method_6_code
def yX9_numeral : MethodName := ⟨RX9, "numeral", "(II)I"⟩
abbrev cX9_lawLines : ByteArray := prog_11_method_7_code
def yX9_lawLines : MethodName := ⟨RX9, "lawLines", "()Z"⟩
abbrev cX9_conditions : ByteArray := prog_11_method_8_code
def yX9_conditions : MethodName := ⟨RX9, "conditions", "()Z"⟩
abbrev cX9_condition : ByteArray := prog_11_method_9_code
def yX9_condition : MethodName := ⟨RX9, "condition", "()Z"⟩
abbrev cX9_sum : ByteArray := prog_11_method_10_code
def yX9_sum : MethodName := ⟨RX9, "sum", "()Z"⟩
abbrev cX9_unit : ByteArray := prog_11_method_11_code
def yX9_unit : MethodName := ⟨RX9, "unit", "()Z"⟩
abbrev cX9_rowLines : ByteArray := prog_11_method_12_code
def yX9_rowLines : MethodName := ⟨RX9, "rowLines", "(I)Z"⟩
abbrev cX9_planLine : ByteArray := prog_11_method_13_code
def yX9_planLine : MethodName := ⟨RX9, "planLine", "()Z"⟩
abbrev cX9_otherLink : ByteArray := prog_11_method_14_code
def yX9_otherLink : MethodName := ⟨RX9, "otherLink", "(I)I"⟩
abbrev cX9_phoneLine : ByteArray := prog_11_method_15_code
def yX9_phoneLine : MethodName := ⟨RX9, "phoneLine", "()Z"⟩
abbrev cX9_recordLine : ByteArray := prog_11_method_16_code
def yX9_recordLine : MethodName := ⟨RX9, "recordLine", "()Z"⟩
def RX10 : String := "TwelveChain$Texts"
def TX10 : u_T := fun k => match k with
  | 0 => ("TwelveChain$Texts", "law", "LTwelveChain$Law;", true)
  | 1 => ("TwelveChain$Texts", "plan", "LTwelveChain$Rows;", true)
  | 2 => ("TwelveChain$Texts", "phones", "LTwelveChain$Rows;", true)
  | _ => ("TwelveChain$Texts", "records", "LTwelveChain$Rows;", true)
def tyX10 : Nat → FieldType := fun k => match k with
  | 0 => .object "TwelveChain$Law"
  | 1 => .object "TwelveChain$Rows"
  | 2 => .object "TwelveChain$Rows"
  | _ => .object "TwelveChain$Rows"
theorem nmX10 : ∀ a, a < 4 → ∀ b, b < 4 → a ≠ b → (TX10 a).2.1 ≠ (TX10 b).2.1 := by decide +kernel
theorem tyX10_ok : ∀ k, k < 4 → parseFieldDescriptor (TX10 k).2.2.1 = some (tyX10 k) := by decide +kernel
abbrev cX10_init : ByteArray := prog_12_method_1_code
def yX10_init : MethodName := ⟨RX10, "<init>", "()V"⟩
abbrev cX10_take : ByteArray := prog_12_method_2_code
def yX10_take : MethodName := ⟨RX10, "take", "(LTwelveChain$Texts;)V"⟩
abbrev cX10_rows : ByteArray := prog_12_method_3_code
def yX10_rows : MethodName := ⟨RX10, "rows", "(I)LTwelveChain$Rows;"⟩
abbrev cX10_phoneLine : ByteArray := prog_12_method_4_code
def yX10_phoneLine : MethodName := ⟨RX10, "phoneLine", "(I)I"⟩
abbrev cX10_phoneFrom : ByteArray := prog_12_method_5_code
def yX10_phoneFrom : MethodName := ⟨RX10, "phoneFrom", "(I)I"⟩
abbrev cX10_phoneTo : ByteArray := prog_12_method_6_code
def yX10_phoneTo : MethodName := ⟨RX10, "phoneTo", "(I)I"⟩
abbrev cX10_recordsOf : ByteArray := prog_12_method_7_code
def yX10_recordsOf : MethodName := ⟨RX10, "recordsOf", "(I)I"⟩
abbrev cX10_writers : ByteArray := prog_12_method_8_code
def yX10_writers : MethodName := ⟨RX10, "writers", "(II)I"⟩
def RX11 : String := "TwelveChain"
def TX11 : u_T := fun k => match k with
  | 0 => ("TwelveChain", "chain", "LTwelveChain$Chain;", true)
  | 1 => ("TwelveChain", "thought", "LTwelveChain$Chain;", true)
  | 2 => ("TwelveChain", "texts", "LTwelveChain$Texts;", true)
  | 3 => ("TwelveChain", "pages", "[I", true)
  | 4 => ("TwelveChain", "deeds", "LTwelveChain$Deeds;", true)
  | 5 => ("TwelveChain", "kept", "LTwelveChain$Kept;", true)
  | 6 => ("TwelveChain", "tape", "LTwelveChain$Tape;", true)
  | 7 => ("TwelveChain", "teller", "LTwelveChain$Teller;", true)
  | 8 => ("TwelveChain", "likely", "LTwelveChain$Likely;", true)
  | 9 => ("TwelveChain", "telephone", "LTwelveChain$Telephone;", true)
  | 10 => ("TwelveChain", "takenChain", "LTwelveChain$Chain;", true)
  | 11 => ("TwelveChain", "takenTexts", "LTwelveChain$Texts;", true)
  | 12 => ("TwelveChain", "takenPages", "[I", true)
  | _ => ("TwelveChain", "hasImage", "Z", false)
def tyX11 : Nat → FieldType := fun k => match k with
  | 0 => .object "TwelveChain$Chain"
  | 1 => .object "TwelveChain$Chain"
  | 2 => .object "TwelveChain$Texts"
  | 3 => .array .int
  | 4 => .object "TwelveChain$Deeds"
  | 5 => .object "TwelveChain$Kept"
  | 6 => .object "TwelveChain$Tape"
  | 7 => .object "TwelveChain$Teller"
  | 8 => .object "TwelveChain$Likely"
  | 9 => .object "TwelveChain$Telephone"
  | 10 => .object "TwelveChain$Chain"
  | 11 => .object "TwelveChain$Texts"
  | 12 => .array .int
  | _ => .boolean
theorem nmX11 : ∀ a, a < 14 → ∀ b, b < 14 → a ≠ b → (TX11 a).2.1 ≠ (TX11 b).2.1 := by decide +kernel
theorem tyX11_ok : ∀ k, k < 14 → parseFieldDescriptor (TX11 k).2.2.1 = some (tyX11 k) := by decide +kernel
abbrev cX11_init : ByteArray := prog_1_method_1_code
def yX11_init : MethodName := ⟨RX11, "<init>", "()V"⟩
abbrev cX11_state : ByteArray := prog_1_method_2_code
def yX11_state : MethodName := ⟨RX11, "state", "(I)I"⟩
abbrev cX11_link : ByteArray := prog_1_method_3_code
def yX11_link : MethodName := ⟨RX11, "link", "(IIII)I"⟩
abbrev cX11_set : ByteArray := prog_1_method_4_code
def yX11_set : MethodName := ⟨RX11, "set", "(III)Z"⟩
abbrev cX11_canHave : ByteArray := prog_1_method_5_code
def yX11_canHave : MethodName := ⟨RX11, "canHave", "(II)Z"⟩
abbrev cX11_within : ByteArray := prog_1_method_6_code
def yX11_within : MethodName := ⟨RX11, "within", "(III)Z"⟩
abbrev cX11_ask : ByteArray := prog_1_method_7_code
def yX11_ask : MethodName := ⟨RX11, "ask", "(II)I"⟩
abbrev cX11_bridge : ByteArray := prog_1_method_8_code
def yX11_bridge : MethodName := ⟨RX11, "bridge", "(I)Z"⟩
abbrev cX11_pay : ByteArray := prog_1_method_9_code
def yX11_pay : MethodName := ⟨RX11, "pay", "(III)Z"⟩
abbrev cX11_paper : ByteArray := prog_1_method_10_code
def yX11_paper : MethodName := ⟨RX11, "paper", "(I)Z"⟩
abbrev cX11_join : ByteArray := prog_1_method_11_code
def yX11_join : MethodName := ⟨RX11, "join", "(I)Z"⟩
abbrev cX11_days : ByteArray := prog_1_method_12_code
def yX11_days : MethodName := ⟨RX11, "days", "(I)I"⟩
abbrev cX11_feed : ByteArray := prog_1_method_13_code
def yX11_feed : MethodName := ⟨RX11, "feed", "(IIIII)I"⟩
abbrev cX11_end : ByteArray := prog_1_method_14_code
def yX11_end : MethodName := ⟨RX11, "end", "(I)Z"⟩
abbrev cX11_text : ByteArray := prog_1_method_15_code
def yX11_text : MethodName := ⟨RX11, "text", "(I)I"⟩
abbrev cX11_fault : ByteArray := prog_1_method_16_code
def yX11_fault : MethodName := ⟨RX11, "fault", "(I)I"⟩
abbrev cX11_of : ByteArray := prog_1_method_17_code
def yX11_of : MethodName := ⟨RX11, "of", "(II)I"⟩
abbrev cX11_phone : ByteArray := prog_1_method_18_code
def yX11_phone : MethodName := ⟨RX11, "phone", "(II)I"⟩
abbrev cX11_book : ByteArray := prog_1_method_19_code
def yX11_book : MethodName := ⟨RX11, "book", "(II)I"⟩
abbrev cX11_goes : ByteArray := prog_1_method_20_code
def yX11_goes : MethodName := ⟨RX11, "goes", "(II)I"⟩
abbrev cX11_odds : ByteArray := prog_1_method_21_code
def yX11_odds : MethodName := ⟨RX11, "odds", "(I)I"⟩
abbrev cX11_holds : ByteArray := prog_1_method_22_code
def yX11_holds : MethodName := ⟨RX11, "holds", "(II)I"⟩
abbrev cX11_many : ByteArray := prog_1_method_23_code
def yX11_many : MethodName := ⟨RX11, "many", "(II)I"⟩
abbrev cX11_bridges : ByteArray := prog_1_method_24_code
def yX11_bridges : MethodName := ⟨RX11, "bridges", "(III)I"⟩
abbrev cX11_share : ByteArray := prog_1_method_25_code
def yX11_share : MethodName := ⟨RX11, "share", "(II)I"⟩
abbrev cX11_highestLevel : ByteArray := prog_1_method_26_code
def yX11_highestLevel : MethodName := ⟨RX11, "highestLevel", "(I)I"⟩
abbrev cX11_along : ByteArray := prog_1_method_27_code
def yX11_along : MethodName := ⟨RX11, "along", "(III)I"⟩
abbrev cX11_choice : ByteArray := prog_1_method_28_code
def yX11_choice : MethodName := ⟨RX11, "choice", "(IIII)I"⟩
abbrev cX11_bluff : ByteArray := prog_1_method_29_code
def yX11_bluff : MethodName := ⟨RX11, "bluff", "(III)I"⟩
abbrev cX11_signs : ByteArray := prog_1_method_30_code
def yX11_signs : MethodName := ⟨RX11, "signs", "(I)I"⟩
abbrev cX11_money : ByteArray := prog_1_method_31_code
def yX11_money : MethodName := ⟨RX11, "money", "(II)I"⟩
abbrev cX11_ill : ByteArray := prog_1_method_32_code
def yX11_ill : MethodName := ⟨RX11, "ill", "(II)I"⟩
abbrev cX11_wrote : ByteArray := prog_1_method_33_code
def yX11_wrote : MethodName := ⟨RX11, "wrote", "()I"⟩
abbrev cX11_slowest : ByteArray := prog_1_method_34_code
def yX11_slowest : MethodName := ⟨RX11, "slowest", "()I"⟩
abbrev cX11_game : ByteArray := prog_1_method_35_code
def yX11_game : MethodName := ⟨RX11, "game", "(I)I"⟩
abbrev cX11_heap : ByteArray := prog_1_method_36_code
def yX11_heap : MethodName := ⟨RX11, "heap", "(I)I"⟩
abbrev cX11_soon : ByteArray := prog_1_method_37_code
def yX11_soon : MethodName := ⟨RX11, "soon", "(I)I"⟩
abbrev cX11_hurry : ByteArray := prog_1_method_38_code
def yX11_hurry : MethodName := ⟨RX11, "hurry", "(II)I"⟩
abbrev cX11_split : ByteArray := prog_1_method_39_code
def yX11_split : MethodName := ⟨RX11, "split", "(II)I"⟩
abbrev cX11_gap : ByteArray := prog_1_method_40_code
def yX11_gap : MethodName := ⟨RX11, "gap", "(I)I"⟩
abbrev cX11_runs : ByteArray := prog_1_method_41_code
def yX11_runs : MethodName := ⟨RX11, "runs", "(I)I"⟩
abbrev cX11_undo : ByteArray := prog_1_method_42_code
def yX11_undo : MethodName := ⟨RX11, "undo", "()Z"⟩
abbrev cX11_image : ByteArray := prog_1_method_43_code
def yX11_image : MethodName := ⟨RX11, "image", "(Z)Z"⟩
abbrev cX11_look : ByteArray := prog_1_method_44_code
def yX11_look : MethodName := ⟨RX11, "look", "(I)I"⟩
def RX12 : String := "TwelveChainModel"
def TX12 : u_T := fun k => match k with
  | 0 => ("TwelveChainModel", "w", "[I", true)
  | 1 => ("TwelveChainModel", "kept", "[I", true)
  | 2 => ("TwelveChainModel", "back", "[I", true)
  | 3 => ("TwelveChainModel", "lying", "[I", true)
  | 4 => ("TwelveChainModel", "backMany", "I", false)
  | 5 => ("TwelveChainModel", "hasImage", "Z", false)
  | 6 => ("TwelveChainModel", "freshLine", "[I", true)
  | 7 => ("TwelveChainModel", "freshStep", "[I", true)
  | 8 => ("TwelveChainModel", "freshRow", "[I", true)
  | 9 => ("TwelveChainModel", "tape", "[I", true)
  | 10 => ("TwelveChainModel", "pile", "[I", true)
  | 11 => ("TwelveChainModel", "facts", "[I", true)
  | 12 => ("TwelveChainModel", "reading", "I", false)
  | 13 => ("TwelveChainModel", "lines", "I", false)
  | 14 => ("TwelveChainModel", "steps", "I", false)
  | 15 => ("TwelveChainModel", "rows", "I", false)
  | 16 => ("TwelveChainModel", "taped", "I", false)
  | 17 => ("TwelveChainModel", "at", "I", false)
  | 18 => ("TwelveChainModel", "token", "I", false)
  | 19 => ("TwelveChainModel", "tokenAt", "I", false)
  | 20 => ("TwelveChainModel", "value", "I", false)
  | 21 => ("TwelveChainModel", "wrong", "I", false)
  | 22 => ("TwelveChainModel", "wrongAt", "I", false)
  | 23 => ("TwelveChainModel", "faultKind", "I", false)
  | 24 => ("TwelveChainModel", "depth", "I", false)
  | 25 => ("TwelveChainModel", "faultPlace", "I", false)
  | 26 => ("TwelveChainModel", "isTrue", "Z", false)
  | _ => ("TwelveChainModel", "done", "[I", true)
def tyX12 : Nat → FieldType := fun k => match k with
  | 0 => .array .int
  | 1 => .array .int
  | 2 => .array .int
  | 3 => .array .int
  | 4 => .int
  | 5 => .boolean
  | 6 => .array .int
  | 7 => .array .int
  | 8 => .array .int
  | 9 => .array .int
  | 10 => .array .int
  | 11 => .array .int
  | 12 => .int
  | 13 => .int
  | 14 => .int
  | 15 => .int
  | 16 => .int
  | 17 => .int
  | 18 => .int
  | 19 => .int
  | 20 => .int
  | 21 => .int
  | 22 => .int
  | 23 => .int
  | 24 => .int
  | 25 => .int
  | 26 => .boolean
  | _ => .array .int
theorem nmX12 : ∀ a, a < 28 → ∀ b, b < 28 → a ≠ b → (TX12 a).2.1 ≠ (TX12 b).2.1 := by decide +kernel
theorem tyX12_ok : ∀ k, k < 28 → parseFieldDescriptor (TX12 k).2.2.1 = some (tyX12 k) := by decide +kernel
abbrev cX12_init : ByteArray := prog_14_method_1_code
def yX12_init : MethodName := ⟨RX12, "<init>", "()V"⟩
abbrev cX12_isIn : ByteArray := prog_14_method_2_code
def yX12_isIn : MethodName := ⟨RX12, "isIn", "(III)Z"⟩
abbrev cX12_lesser : ByteArray := prog_14_method_3_code
def yX12_lesser : MethodName := ⟨RX12, "lesser", "(II)I"⟩
abbrev cX12_greater : ByteArray := prog_14_method_4_code
def yX12_greater : MethodName := ⟨RX12, "greater", "(II)I"⟩
abbrev cX12_held : ByteArray := prog_14_method_5_code
def yX12_held : MethodName := ⟨RX12, "held", "(III)I"⟩
abbrev cX12_isLink : ByteArray := prog_14_method_6_code
def yX12_isLink : MethodName := ⟨RX12, "isLink", "(I)Z"⟩
abbrev cX12_isReady : ByteArray := prog_14_method_7_code
def yX12_isReady : MethodName := ⟨RX12, "isReady", "(I)Z"⟩
abbrev cX12_isOut : ByteArray := prog_14_method_8_code
def yX12_isOut : MethodName := ⟨RX12, "isOut", "(I)Z"⟩
abbrev cX12_isBridged : ByteArray := prog_14_method_9_code
def yX12_isBridged : MethodName := ⟨RX12, "isBridged", "(I)Z"⟩
abbrev cX12_hasMoved : ByteArray := prog_14_method_10_code
def yX12_hasMoved : MethodName := ⟨RX12, "hasMoved", "(I)Z"⟩
abbrev cX12_isThere : ByteArray := prog_14_method_11_code
def yX12_isThere : MethodName := ⟨RX12, "isThere", "(I)Z"⟩
abbrev cX12_count : ByteArray := prog_14_method_12_code
def yX12_count : MethodName := ⟨RX12, "count", "(I)I"⟩
abbrev cX12_forgets : ByteArray := prog_14_method_13_code
def yX12_forgets : MethodName := ⟨RX12, "forgets", "()V"⟩
abbrev cX12_state : ByteArray := prog_14_method_14_code
def yX12_state : MethodName := ⟨RX12, "state", "(I)I"⟩
abbrev cX12_draw : ByteArray := prog_14_method_15_code
def yX12_draw : MethodName := ⟨RX12, "draw", "(I)I"⟩
abbrev cX12_link : ByteArray := prog_14_method_16_code
def yX12_link : MethodName := ⟨RX12, "link", "(IIII)I"⟩
abbrev cX12_canBe : ByteArray := prog_14_method_17_code
def yX12_canBe : MethodName := ⟨RX12, "canBe", "(II)Z"⟩
abbrev cX12_set : ByteArray := prog_14_method_18_code
def yX12_set : MethodName := ⟨RX12, "set", "(III)Z"⟩
abbrev cX12_feed : ByteArray := prog_14_method_19_code
def yX12_feed : MethodName := ⟨RX12, "feed", "(IIIII)I"⟩
abbrev cX12_end : ByteArray := prog_14_method_20_code
def yX12_end : MethodName := ⟨RX12, "end", "(I)Z"⟩
abbrev cX12_see : ByteArray := prog_14_method_21_code
def yX12_see : MethodName := ⟨RX12, "see", "(I)I"⟩
abbrev cX12_isLetter : ByteArray := prog_14_method_22_code
def yX12_isLetter : MethodName := ⟨RX12, "isLetter", "(I)Z"⟩
abbrev cX12_isDigit : ByteArray := prog_14_method_23_code
def yX12_isDigit : MethodName := ⟨RX12, "isDigit", "(I)Z"⟩
abbrev cX12_is : ByteArray := prog_14_method_24_code
def yX12_is : MethodName := ⟨RX12, "is", "(Ljava/lang/String;)Z"⟩
abbrev cX12_asked : ByteArray := prog_14_method_25_code
def yX12_asked : MethodName := ⟨RX12, "asked", "()I"⟩
abbrev cX12_lawWord : ByteArray := prog_14_method_26_code
def yX12_lawWord : MethodName := ⟨RX12, "lawWord", "()I"⟩
abbrev cX12_planWord : ByteArray := prog_14_method_27_code
def yX12_planWord : MethodName := ⟨RX12, "planWord", "()I"⟩
abbrev cX12_word : ByteArray := prog_14_method_28_code
def yX12_word : MethodName := ⟨RX12, "word", "()I"⟩
abbrev cX12_next0 : ByteArray := prog_14_method_29_code
def yX12_next0 : MethodName := ⟨RX12, "next0", "()V"⟩
abbrev cX12_bad : ByteArray := prog_14_method_30_code
def yX12_bad : MethodName := ⟨RX12, "bad", "(I)Z"⟩
abbrev cX12_need : ByteArray := prog_14_method_31_code
def yX12_need : MethodName := ⟨RX12, "need", "(I)Z"⟩
abbrev cX12_lay : ByteArray := prog_14_method_32_code
def yX12_lay : MethodName := ⟨RX12, "lay", "(II)V"⟩
abbrev cX12_opens : ByteArray := prog_14_method_33_code
def yX12_opens : MethodName := ⟨RX12, "opens", "()Z"⟩
abbrev cX12_sumUp : ByteArray := prog_14_method_34_code
def yX12_sumUp : MethodName := ⟨RX12, "sumUp", "()Z"⟩
abbrev cX12_product : ByteArray := prog_14_method_35_code
def yX12_product : MethodName := ⟨RX12, "product", "()Z"⟩
abbrev cX12_unit : ByteArray := prog_14_method_36_code
def yX12_unit : MethodName := ⟨RX12, "unit", "()Z"⟩
abbrev cX12_any : ByteArray := prog_14_method_37_code
def yX12_any : MethodName := ⟨RX12, "any", "()Z"⟩
abbrev cX12_every : ByteArray := prog_14_method_38_code
def yX12_every : MethodName := ⟨RX12, "every", "()Z"⟩
abbrev cX12_oneTest : ByteArray := prog_14_method_39_code
def yX12_oneTest : MethodName := ⟨RX12, "oneTest", "()Z"⟩
abbrev cX12_aLine : ByteArray := prog_14_method_40_code
def yX12_aLine : MethodName := ⟨RX12, "aLine", "()Z"⟩
abbrev cX12_readsLaw : ByteArray := prog_14_method_41_code
def yX12_readsLaw : MethodName := ⟨RX12, "readsLaw", "()Z"⟩
abbrev cX12_number : ByteArray := prog_14_method_42_code
def yX12_number : MethodName := ⟨RX12, "number", "(III)Z"⟩
abbrev cX12_told : ByteArray := prog_14_method_43_code
def yX12_told : MethodName := ⟨RX12, "told", "(IIII)Z"⟩
abbrev cX12_aLink : ByteArray := prog_14_method_44_code
def yX12_aLink : MethodName := ⟨RX12, "aLink", "(I)Z"⟩
abbrev cX12_aPlan : ByteArray := prog_14_method_45_code
def yX12_aPlan : MethodName := ⟨RX12, "aPlan", "()Z"⟩
abbrev cX12_aPhone : ByteArray := prog_14_method_46_code
def yX12_aPhone : MethodName := ⟨RX12, "aPhone", "()Z"⟩
abbrev cX12_aRecord : ByteArray := prog_14_method_47_code
def yX12_aRecord : MethodName := ⟨RX12, "aRecord", "()Z"⟩
abbrev cX12_aRow : ByteArray := prog_14_method_48_code
def yX12_aRow : MethodName := ⟨RX12, "aRow", "()Z"⟩
abbrev cX12_readsRows : ByteArray := prog_14_method_49_code
def yX12_readsRows : MethodName := ⟨RX12, "readsRows", "()Z"⟩
abbrev cX12_putsLaw : ByteArray := prog_14_method_50_code
def yX12_putsLaw : MethodName := ⟨RX12, "putsLaw", "()I"⟩
abbrev cX12_puts : ByteArray := prog_14_method_51_code
def yX12_puts : MethodName := ⟨RX12, "puts", "(III)I"⟩
abbrev cX12_putsPhones : ByteArray := prog_14_method_52_code
def yX12_putsPhones : MethodName := ⟨RX12, "putsPhones", "()I"⟩
abbrev cX12_putsText : ByteArray := prog_14_method_53_code
def yX12_putsText : MethodName := ⟨RX12, "putsText", "(I)I"⟩
abbrev cX12_text : ByteArray := prog_14_method_54_code
def yX12_text : MethodName := ⟨RX12, "text", "(I)I"⟩
abbrev cX12_fault : ByteArray := prog_14_method_55_code
def yX12_fault : MethodName := ⟨RX12, "fault", "(I)I"⟩
abbrev cX12_both : ByteArray := prog_14_method_56_code
def yX12_both : MethodName := ⟨RX12, "both", "(III)I"⟩
abbrev cX12_comesTo : ByteArray := prog_14_method_57_code
def yX12_comesTo : MethodName := ⟨RX12, "comesTo", "(III)I"⟩
abbrev cX12_isSo : ByteArray := prog_14_method_58_code
def yX12_isSo : MethodName := ⟨RX12, "isSo", "(I)Z"⟩
abbrev cX12_endOf : ByteArray := prog_14_method_59_code
def yX12_endOf : MethodName := ⟨RX12, "endOf", "(II)I"⟩
abbrev cX12_bridgedOnes : ByteArray := prog_14_method_60_code
def yX12_bridgedOnes : MethodName := ⟨RX12, "bridgedOnes", "()I"⟩
abbrev cX12_lacksOf : ByteArray := prog_14_method_61_code
def yX12_lacksOf : MethodName := ⟨RX12, "lacksOf", "(I)I"⟩
abbrev cX12_says : ByteArray := prog_14_method_62_code
def yX12_says : MethodName := ⟨RX12, "says", "(IIII)I"⟩
abbrev cX12_readyOf : ByteArray := prog_14_method_63_code
def yX12_readyOf : MethodName := ⟨RX12, "readyOf", "(I)I"⟩
abbrev cX12_leaveOf : ByteArray := prog_14_method_64_code
def yX12_leaveOf : MethodName := ⟨RX12, "leaveOf", "(I)I"⟩
abbrev cX12_giveOf : ByteArray := prog_14_method_65_code
def yX12_giveOf : MethodName := ⟨RX12, "giveOf", "(I)I"⟩
abbrev cX12_costOf : ByteArray := prog_14_method_66_code
def yX12_costOf : MethodName := ⟨RX12, "costOf", "(I)I"⟩
abbrev cX12_canPay : ByteArray := prog_14_method_67_code
def yX12_canPay : MethodName := ⟨RX12, "canPay", "(I)Z"⟩
abbrev cX12_keeps : ByteArray := prog_14_method_68_code
def yX12_keeps : MethodName := ⟨RX12, "keeps", "()V"⟩
abbrev cX12_undo : ByteArray := prog_14_method_69_code
def yX12_undo : MethodName := ⟨RX12, "undo", "()Z"⟩
abbrev cX12_notes : ByteArray := prog_14_method_70_code
def yX12_notes : MethodName := ⟨RX12, "notes", "(III)V"⟩
abbrev cX12_canAsk : ByteArray := prog_14_method_71_code
def yX12_canAsk : MethodName := ⟨RX12, "canAsk", "(I)Z"⟩
abbrev cX12_asks : ByteArray := prog_14_method_72_code
def yX12_asks : MethodName := ⟨RX12, "asks", "(II)I"⟩
abbrev cX12_canBridge : ByteArray := prog_14_method_73_code
def yX12_canBridge : MethodName := ⟨RX12, "canBridge", "(I)Z"⟩
abbrev cX12_bridges0 : ByteArray := prog_14_method_74_code
def yX12_bridges0 : MethodName := ⟨RX12, "bridges0", "(I)V"⟩
abbrev cX12_canPay0 : ByteArray := prog_14_method_75_code
def yX12_canPay0 : MethodName := ⟨RX12, "canPay0", "(III)Z"⟩
abbrev cX12_pays : ByteArray := prog_14_method_76_code
def yX12_pays : MethodName := ⟨RX12, "pays", "(III)V"⟩
abbrev cX12_canPaper : ByteArray := prog_14_method_77_code
def yX12_canPaper : MethodName := ⟨RX12, "canPaper", "(I)Z"⟩
abbrev cX12_getsReady : ByteArray := prog_14_method_78_code
def yX12_getsReady : MethodName := ⟨RX12, "getsReady", "(I)V"⟩
abbrev cX12_ask : ByteArray := prog_14_method_79_code
def yX12_ask : MethodName := ⟨RX12, "ask", "(II)I"⟩
abbrev cX12_bridge : ByteArray := prog_14_method_80_code
def yX12_bridge : MethodName := ⟨RX12, "bridge", "(I)Z"⟩
abbrev cX12_pay : ByteArray := prog_14_method_81_code
def yX12_pay : MethodName := ⟨RX12, "pay", "(III)Z"⟩
abbrev cX12_paper : ByteArray := prog_14_method_82_code
def yX12_paper : MethodName := ⟨RX12, "paper", "(I)Z"⟩
abbrev cX12_join : ByteArray := prog_14_method_83_code
def yX12_join : MethodName := ⟨RX12, "join", "(I)Z"⟩
abbrev cX12_does : ByteArray := prog_14_method_84_code
def yX12_does : MethodName := ⟨RX12, "does", "(I)V"⟩
abbrev cX12_falls : ByteArray := prog_14_method_85_code
def yX12_falls : MethodName := ⟨RX12, "falls", "(I)Z"⟩
abbrev cX12_unreadies : ByteArray := prog_14_method_86_code
def yX12_unreadies : MethodName := ⟨RX12, "unreadies", "(I)V"⟩
abbrev cX12_leaves : ByteArray := prog_14_method_87_code
def yX12_leaves : MethodName := ⟨RX12, "leaves", "(I)V"⟩
abbrev cX12_canMove : ByteArray := prog_14_method_88_code
def yX12_canMove : MethodName := ⟨RX12, "canMove", "(II)Z"⟩
abbrev cX12_moves : ByteArray := prog_14_method_89_code
def yX12_moves : MethodName := ⟨RX12, "moves", "()I"⟩
abbrev cX12_aDay : ByteArray := prog_14_method_90_code
def yX12_aDay : MethodName := ⟨RX12, "aDay", "()I"⟩
abbrev cX12_days : ByteArray := prog_14_method_91_code
def yX12_days : MethodName := ⟨RX12, "days", "(I)I"⟩
abbrev cX12_of : ByteArray := prog_14_method_92_code
def yX12_of : MethodName := ⟨RX12, "of", "(II)I"⟩
abbrev cX12_recordsOf : ByteArray := prog_14_method_93_code
def yX12_recordsOf : MethodName := ⟨RX12, "recordsOf", "(III)I"⟩
abbrev cX12_phone : ByteArray := prog_14_method_94_code
def yX12_phone : MethodName := ⟨RX12, "phone", "(II)I"⟩
abbrev cX12_book : ByteArray := prog_14_method_95_code
def yX12_book : MethodName := ⟨RX12, "book", "(II)I"⟩
abbrev cX12_movedOnes : ByteArray := prog_14_method_96_code
def yX12_movedOnes : MethodName := ⟨RX12, "movedOnes", "()I"⟩
abbrev cX12_latestMoved : ByteArray := prog_14_method_97_code
def yX12_latestMoved : MethodName := ⟨RX12, "latestMoved", "()I"⟩
abbrev cX12_goes : ByteArray := prog_14_method_98_code
def yX12_goes : MethodName := ⟨RX12, "goes", "(II)I"⟩
abbrev cX12_sureBy : ByteArray := prog_14_method_99_code
def yX12_sureBy : MethodName := ⟨RX12, "sureBy", "(II)J"⟩
abbrev cX12_readyBy : ByteArray := prog_14_method_100_code
def yX12_readyBy : MethodName := ⟨RX12, "readyBy", "(II)J"⟩
abbrev cX12_allBy : ByteArray := prog_14_method_101_code
def yX12_allBy : MethodName := ⟨RX12, "allBy", "(III)J"⟩
abbrev cX12_odds : ByteArray := prog_14_method_102_code
def yX12_odds : MethodName := ⟨RX12, "odds", "(I)I"⟩
abbrev cX12_holds : ByteArray := prog_14_method_103_code
def yX12_holds : MethodName := ⟨RX12, "holds", "(II)I"⟩
abbrev cX12_many : ByteArray := prog_14_method_104_code
def yX12_many : MethodName := ⟨RX12, "many", "(II)I"⟩
abbrev cX12_leastBy : ByteArray := prog_14_method_105_code
def yX12_leastBy : MethodName := ⟨RX12, "leastBy", "(II)J"⟩
abbrev cX12_soon : ByteArray := prog_14_method_106_code
def yX12_soon : MethodName := ⟨RX12, "soon", "(I)I"⟩
abbrev cX12_hurriedBy : ByteArray := prog_14_method_107_code
def yX12_hurriedBy : MethodName := ⟨RX12, "hurriedBy", "(II)J"⟩
abbrev cX12_hurry : ByteArray := prog_14_method_108_code
def yX12_hurry : MethodName := ⟨RX12, "hurry", "(II)I"⟩
abbrev cX12_split : ByteArray := prog_14_method_109_code
def yX12_split : MethodName := ⟨RX12, "split", "(II)I"⟩
abbrev cX12_costsOf : ByteArray := prog_14_method_110_code
def yX12_costsOf : MethodName := ⟨RX12, "costsOf", "(I)I"⟩
abbrev cX12_bridgeable : ByteArray := prog_14_method_111_code
def yX12_bridgeable : MethodName := ⟨RX12, "bridgeable", "()I"⟩
abbrev cX12_bridges : ByteArray := prog_14_method_112_code
def yX12_bridges : MethodName := ⟨RX12, "bridges", "(III)I"⟩
abbrev cX12_isGiving : ByteArray := prog_14_method_113_code
def yX12_isGiving : MethodName := ⟨RX12, "isGiving", "(I)Z"⟩
abbrev cX12_givenBy : ByteArray := prog_14_method_114_code
def yX12_givenBy : MethodName := ⟨RX12, "givenBy", "(I)I"⟩
abbrev cX12_share : ByteArray := prog_14_method_115_code
def yX12_share : MethodName := ⟨RX12, "share", "(II)I"⟩
abbrev cX12_along : ByteArray := prog_14_method_116_code
def yX12_along : MethodName := ⟨RX12, "along", "(III)I"⟩
abbrev cX12_downwards : ByteArray := prog_14_method_117_code
def yX12_downwards : MethodName := ⟨RX12, "downwards", "(II)I"⟩
abbrev cX12_choice : ByteArray := prog_14_method_118_code
def yX12_choice : MethodName := ⟨RX12, "choice", "(IIII)I"⟩
abbrev cX12_bluff : ByteArray := prog_14_method_119_code
def yX12_bluff : MethodName := ⟨RX12, "bluff", "(III)I"⟩
abbrev cX12_gap : ByteArray := prog_14_method_120_code
def yX12_gap : MethodName := ⟨RX12, "gap", "(I)I"⟩
abbrev cX12_isRunning : ByteArray := prog_14_method_121_code
def yX12_isRunning : MethodName := ⟨RX12, "isRunning", "(I)Z"⟩
abbrev cX12_runs : ByteArray := prog_14_method_122_code
def yX12_runs : MethodName := ⟨RX12, "runs", "(I)I"⟩
abbrev cX12_laysSigns : ByteArray := prog_14_method_123_code
def yX12_laysSigns : MethodName := ⟨RX12, "laysSigns", "(II)V"⟩
abbrev cX12_mostSigned : ByteArray := prog_14_method_124_code
def yX12_mostSigned : MethodName := ⟨RX12, "mostSigned", "()I"⟩
abbrev cX12_signsNext : ByteArray := prog_14_method_125_code
def yX12_signsNext : MethodName := ⟨RX12, "signsNext", "(III)I"⟩
abbrev cX12_signs : ByteArray := prog_14_method_126_code
def yX12_signs : MethodName := ⟨RX12, "signs", "(I)I"⟩
abbrev cX12_money : ByteArray := prog_14_method_127_code
def yX12_money : MethodName := ⟨RX12, "money", "(II)I"⟩
abbrev cX12_ill : ByteArray := prog_14_method_128_code
def yX12_ill : MethodName := ⟨RX12, "ill", "(II)I"⟩
abbrev cX12_greaterBy : ByteArray := prog_14_method_129_code
def yX12_greaterBy : MethodName := ⟨RX12, "greaterBy", "(I)I"⟩
abbrev cX12_wrote : ByteArray := prog_14_method_130_code
def yX12_wrote : MethodName := ⟨RX12, "wrote", "()I"⟩
abbrev cX12_slowest : ByteArray := prog_14_method_131_code
def yX12_slowest : MethodName := ⟨RX12, "slowest", "()I"⟩
abbrev cX12_heapOf : ByteArray := prog_14_method_132_code
def yX12_heapOf : MethodName := ⟨RX12, "heapOf", "(I)I"⟩
abbrev cX12_game : ByteArray := prog_14_method_133_code
def yX12_game : MethodName := ⟨RX12, "game", "(I)I"⟩
abbrev cX12_image : ByteArray := prog_14_method_134_code
def yX12_image : MethodName := ⟨RX12, "image", "(Z)Z"⟩
abbrev cX12_look : ByteArray := prog_14_method_135_code
def yX12_look : MethodName := ⟨RX12, "look", "(I)I"⟩
def RJ6 : String := "java/lang/Integer"
abbrev cJ6_bitCount_0f7a4 : ByteArray := prog_15_method_49_code
def yJ6_bitCount_0f7a4 : MethodName := ⟨RJ6, "bitCount", "(I)I"⟩
def RJ9 : String := "java/lang/Math"
abbrev cJ9_floorDiv_7cf53 : ByteArray := prog_16_method_47_code
def yJ9_floorDiv_7cf53 : MethodName := ⟨RJ9, "floorDiv", "(II)I"⟩
abbrev cJ9_max_7cf53 : ByteArray := prog_16_method_65_code
def yJ9_max_7cf53 : MethodName := ⟨RJ9, "max", "(II)I"⟩
abbrev cJ9_min_7cf53 : ByteArray := prog_16_method_69_code
def yJ9_min_7cf53 : MethodName := ⟨RJ9, "min", "(II)I"⟩
def RJ0 : String := "java/lang/String"
abbrev cJ0_length_8abf5 : ByteArray := prog_17_method_54_code
def yJ0_length_8abf5 : MethodName := ⟨RJ0, "length", "()I"⟩
abbrev cJ0_charAt_5068e : ByteArray := prog_17_method_56_code
def yJ0_charAt_5068e : MethodName := ⟨RJ0, "charAt", "(I)C"⟩
abbrev cJ0_coder_7d493 : ByteArray := prog_17_method_152_code
def yJ0_coder_7d493 : MethodName := ⟨RJ0, "coder", "()B"⟩
abbrev cJ0_isLatin1_aae02 : ByteArray := prog_17_method_154_code
def yJ0_isLatin1_aae02 : MethodName := ⟨RJ0, "isLatin1", "()Z"⟩
abbrev cJ0_checkIndex_df160 : ByteArray := prog_17_method_155_code
def yJ0_checkIndex_df160 : MethodName := ⟨RJ0, "checkIndex", "(II)V"⟩
def RJ1 : String := "java/lang/StringLatin1"
abbrev cJ1_charAt_3b067 : ByteArray := prog_18_method_2_code
def yJ1_charAt_3b067 : MethodName := ⟨RJ1, "charAt", "([BI)C"⟩
def RJ2 : String := "java/lang/StringUTF16"
abbrev cJ2_getChar_3b067 : ByteArray := prog_19_method_5_code
def yJ2_getChar_3b067 : MethodName := ⟨RJ2, "getChar", "([BI)C"⟩
abbrev cJ2_length_9d52b : ByteArray := prog_19_method_6_code
def yJ2_length_9d52b : MethodName := ⟨RJ2, "length", "([B)I"⟩
abbrev cJ2_charAt_3b067 : ByteArray := prog_19_method_83_code
def yJ2_charAt_3b067 : MethodName := ⟨RJ2, "charAt", "([BI)C"⟩
abbrev cJ2_checkIndex_2214a : ByteArray := prog_19_method_91_code
def yJ2_checkIndex_2214a : MethodName := ⟨RJ2, "checkIndex", "(I[B)V"⟩
def RJ10 : String := "java/lang/System"
def RJ3 : String := "jdk/internal/util/Preconditions"
abbrev cJ3_checkIndex_8e157 : ByteArray := prog_21_method_11_code
def yJ3_checkIndex_8e157 : MethodName := ⟨RJ3, "checkIndex", "(IILjava/util/function/BiFunction;)I"⟩
def RL : String := "TwelveChainLaw"
abbrev cL_law : ByteArray := code
def yL_law : MethodName := ⟨RL, "law", "([I)Z"⟩
abbrev vwCl : List vw_C := [(RX0, TX0, 8), (RX1, TX1, 2), (RX2, TX2, 3), (RX3, TX3, 8), (RX4, TX4, 5), (RX5, TX5, 8), (RX6, TX6, 2), (RX7, TX7, 5), (RX8, TX8, 8), (RX9, TX9, 10), (RX10, TX10, 4), (RX11, TX11, 14), (RX12, TX12, 28)]
end
section
/-! A PURE MACHINE: ints, longs, references by (kind, id); a memory of whole numbers by id and place; one instruction as a proposition -/
abbrev pz_V : Type := Int ⊕ (Int ⊕ (Nat × Nat))
abbrev pz_M : Type := Nat → Nat → Int
abbrev pz_L : Type := List (Option pz_V)
abbrev pz_F : Type := Nat → pz_L → List pz_V → pz_M → Prop
abbrev pz_E : Type := Nat × Instr × Nat × Nat × List Nat
abbrev pz_C : Type := Nat × Nat × (List pz_V → pz_M → Prop) × (List pz_V → pz_M → Option pz_V → pz_M → Prop)
def pz_w (x : Int) : Int := (x + 2147483648) % 4294967296 - 2147483648
def pz_wl (x : Int) : Int := (x + 9223372036854775808) % 18446744073709551616 - 9223372036854775808
def pz_c (x : Int) : Prop := -2147483648 ≤ x ∧ x ≤ 2147483647
def pz_cl (x : Int) : Prop := -9223372036854775808 ≤ x ∧ x ≤ 9223372036854775807
def pz_u (M : pz_M) (a k : Nat) (v : Int) : pz_M := fun b j => if b = a ∧ j = k then v else M b j
/-- a number gets a name -/
def pz_n (z : Int) (K : Int → Prop) : Prop := ∀ v : Int, v = z → -2147483648 ≤ v → v ≤ 2147483647 → K v
def pz_nl (z : Int) (K : Int → Prop) : Prop := ∀ v : Int, v = z → -9223372036854775808 ≤ v → v ≤ 9223372036854775807 → K v
def pz_kl : Option pz_V → Option pz_V
  | some (.inr (.inl _)) => none
  | h => h
def pz_get : pz_L → Nat → (pz_V → Prop) → Prop
  | some v :: _, 0, f => f v
  | _ :: t, k + 1, f => pz_get t k f
  | _, _, _ => False
def pz_set : pz_L → Nat → pz_V → (pz_L → Prop) → Prop
  | _ :: t, 0, v, f => f (some v :: t)
  | h :: _ :: t, 1, v, f => f (pz_kl h :: some v :: t)
  | h :: t, k + 1, v, f => pz_set t k v (fun t' => f (h :: t'))
  | [], _, _, _ => False
def pz_setl : pz_L → Nat → pz_V → (pz_L → Prop) → Prop
  | _ :: _ :: t, 0, v, f => f (some v :: none :: t)
  | h :: _ :: _ :: t, 1, v, f => f (pz_kl h :: some v :: none :: t)
  | h :: t, k + 2, v, f => pz_setl t (k + 1) v (fun t' => f (h :: t'))
  | _, _, _, _ => False
def pz_cat : pz_V → Nat
  | .inr (.inl _) => 2
  | _ => 1
def pz_cs : List pz_V → Nat
  | [] => 0
  | v :: t => pz_cat v + pz_cs t
def pz_1 (st : List pz_V) (f : Int → List pz_V → Prop) : Prop := match st with
  | .inl x :: r => f x r
  | _ => False
def pz_2 (st : List pz_V) (f : Int → Int → List pz_V → Prop) : Prop := match st with
  | .inl y :: .inl x :: r => f x y r
  | _ => False
def pz_l1 (st : List pz_V) (f : Int → List pz_V → Prop) : Prop := match st with
  | .inr (.inl x) :: r => f x r
  | _ => False
def pz_l2 (st : List pz_V) (f : Int → Int → List pz_V → Prop) : Prop := match st with
  | .inr (.inl y) :: .inr (.inl x) :: r => f x y r
  | _ => False
def pz_r (st : List pz_V) (f : Nat → Nat → List pz_V → Prop) : Prop := match st with
  | .inr (.inr (k, a)) :: r => f k a r
  | _ => False
def pz_ri (st : List pz_V) (f : Nat → Nat → Int → List pz_V → Prop) : Prop := match st with
  | .inl i :: .inr (.inr (k, a)) :: r => f k a i r
  | _ => False
def pz_rii (st : List pz_V) (f : Nat → Nat → Int → Int → List pz_V → Prop) : Prop := match st with
  | .inl v :: .inl i :: .inr (.inr (k, a)) :: r => f k a i v r
  | _ => False
def pz_b (b : Bool) (P : Prop) : Prop := match b with
  | true => P
  | false => False
/-- kinds: 0 .. 12 the classes as vwCl has them; arrays: what of (0 ints, 1 bytes, 2 Links, 3 Chains), how long -/
def pz_ak : Nat → Nat × Nat
  | 13 => (0, 600)
  | 14 => (0, 16)
  | 15 => (0, 400)
  | 16 => (0, 64)
  | 17 => (0, 80)
  | 18 => (1, 400)
  | 19 => (0, 401)
  | 20 => (0, 12)
  | 21 => (0, 144)
  | 22 => (0, 4096)
  | 23 => (0, 1725)
  | 24 => (0, 528)
  | 25 => (0, 88)
  | 26 => (0, 820)
  | 27 => (0, 420)
  | 28 => (0, 10)
  | 29 => (2, 12)
  | 30 => (3, 6)
  | _ => (9, 0)
/-- how many fields an object of that class has -/
def pz_nf : Nat → Nat
  | 0 => 8 | 1 => 2 | 2 => 3 | 3 => 8 | 4 => 5 | 5 => 8 | 6 => 2 | 7 => 5 | 8 => 8 | 9 => 10 | 10 => 4 | 11 => 14 | 12 => 28 | _ => 0
/-- of which kind is what a field (an element) refers to; none: a number -/
def pz_rk : Nat → Nat → Option Nat
  | 0, 1 => some 29 | 0, 2 => some 5
  | 1, 0 => some 10 | 1, 1 => some 13
  | 2, 0 => some 30
  | 3, 2 => some 14 | 3, 3 => some 14 | 3, 4 => some 14 | 3, 5 => some 14 | 3, 6 => some 15 | 3, 7 => some 16
  | 4, 0 => some 3 | 4, 1 => some 20 | 4, 2 => some 20 | 4, 3 => some 20 | 4, 4 => some 21
  | 6, 1 => some 17
  | 7, 0 => some 18 | 7, 2 => some 19 | 7, 3 => some 19 | 7, 4 => some 19
  | 8, 4 => some 20 | 8, 5 => some 20 | 8, 6 => some 20 | 8, 7 => some 22
  | 9, 0 => some 7 | 9, 1 => some 3 | 9, 2 => some 6
  | 10, 0 => some 3 | 10, 1 => some 6 | 10, 2 => some 6 | 10, 3 => some 6
  | 11, 0 => some 0 | 11, 1 => some 0 | 11, 2 => some 10 | 11, 3 => some 13 | 11, 4 => some 1 | 11, 5 => some 2 | 11, 6 => some 7 | 11, 7 => some 9 | 11, 8 => some 4 | 11, 9 => some 8 | 11, 10 => some 0 | 11, 11 => some 10 | 11, 12 => some 13
  | 12, 0 => some 23 | 12, 1 => some 23 | 12, 2 => some 24 | 12, 3 => some 25 | 12, 6 => some 16 | 12, 7 => some 26 | 12, 8 => some 17 | 12, 9 => some 15 | 12, 10 => some 27 | 12, 11 => some 28 | 12, 27 => some 22
  | 29, _ => some 5 | 30, _ => some 0
  | _, _ => none
/-- what may be put into a field: 0 nothing, 1 an int, 2 a boolean -/
def pz_pf : Nat → Nat → Nat
  | 0, 0 => 0 | 8, 0 => 2 | 11, 13 => 2 | 12, 5 => 2 | 12, 26 => 2
  | k, j => (match pz_rk k j with | some _ => 0 | none => 1)
/-- ids below 71: their kinds -/
def pz_k0 : List Nat := [11, 12, 1, 2, 7, 9, 4, 8, 10, 10, 3, 3, 3, 6, 6, 6, 6, 6, 6, 6, 17, 17, 17, 17, 17, 17, 17, 14, 14, 14, 14, 15, 16, 14, 14, 14, 14, 15, 16, 14, 14, 14, 14, 15, 16, 13, 13, 30, 18, 19, 19, 19, 20, 20, 20, 21, 20, 20, 20, 22, 23, 23, 24, 25, 16, 26, 17, 15, 27, 28, 22]
def pz_kd (a : Nat) : Nat := if a < 71 then pz_k0.getD a 98 else if a < 80 then 0 else if a < 89 then 29 else if a < 206 then 5 else 99
/-- what a field (an element) of a thing refers to -/
def pz_rf (a k : Nat) : Nat :=
  if a < 71 then (match a with
    | 0 => [71, 72, 8, 45, 2, 3, 4, 5, 6, 7, 73, 9, 46].getD k 0
    | 1 => [60, 61, 62, 63, 0, 0, 64, 65, 66, 67, 68, 69, 0, 0, 0, 0, 0, 0, 0, 0, 0, 0, 0, 0, 0, 0, 0, 70].getD k 0
    | 2 => [8, 45].getD k 0
    | 3 => 47
    | 4 => [48, 0, 49, 50, 51].getD k 0
    | 5 => [4, 12, 19].getD k 0
    | 6 => [10, 52, 53, 54, 55].getD k 0
    | 7 => [0, 0, 0, 0, 56, 57, 58, 59].getD k 0
    | 8 => [10, 13, 14, 15].getD k 0
    | 9 => [11, 16, 17, 18].getD k 0
    | 10 => 25 + k
    | 11 => 31 + k
    | 12 => 37 + k
    | 47 => 74 + k
    | a => a + 7)
  else if a < 80 then (match k with
    | 1 => a + 9
    | _ => 89 + 13 * (a - 71) + 12)
  else 89 + 13 * (a - 80) + k
def pz_sw (x lo : Int) (K : Nat → Prop) : List Nat → Prop
  | [] => True
  | t :: ts => (x = lo → K t) ∧ pz_sw x (lo + 1) K ts
def pz_lk (x : Int) (K : Nat → Prop) : List (Int × Int) → List Nat → Prop
  | q :: ps, t :: ts => (x = q.1 → K t) ∧ pz_lk x K ps ts
  | _, _ => True
def pz_nk (x : Int) (P : Prop) : List (Int × Int) → Prop
  | [] => P
  | q :: ps => ¬ x = q.1 → pz_nk x P ps
/-- the answer of a call, by its kind: 0 none, 1 an int, 2 a long, 3 + k a reference of kind k -/
def pz_an (rk : Nat) (P : Option pz_V → pz_M → Prop) (K : List pz_V → pz_M → Prop) : Prop := match rk with
  | 0 => ∀ M, P none M → K [] M
  | 1 => ∀ (v : Int) (M : pz_M), -2147483648 ≤ v → v ≤ 2147483647 → P (some (.inl v)) M → K [.inl v] M
  | 2 => ∀ (v : Int) (M : pz_M), -9223372036854775808 ≤ v → v ≤ 9223372036854775807 → P (some (.inr (.inl v))) M → K [.inr (.inl v)] M
  | k + 3 => ∀ (a : Nat) (M : pz_M), pz_kd a = k → P (some (.inr (.inr (k, a)))) M → K [.inr (.inr (k, a))] M
def pz_br (b : Jvm.ClassFile.Cond) (x y : Int) (A B : Prop) : Prop := match b with
  | .eq => (x = y → A) ∧ (¬ x = y → B)
  | .ne => (¬ x = y → A) ∧ (x = y → B)
  | .lt => (x < y → A) ∧ (¬ x < y → B)
  | .ge => (¬ x < y → A) ∧ (x < y → B)
  | .gt => (y < x → A) ∧ (¬ y < x → B)
  | .le => (¬ y < x → A) ∧ (y < x → B)
def pz_call (ct : Nat → Option pz_C) (i : Nat) (lo : pz_L) (st : List pz_V) (M : pz_M) (K : List pz_V → pz_M → Prop) : Prop := match ct i with
  | some (n, rk, pre, post) => pz_b (Nat.ble n st.length) (pz_b (Nat.ble (pz_cs (st.drop n)) 8) (pre (st.take n).reverse M ∧ pz_an rk (fun r M' => post (st.take n).reverse M r M') (fun r M' => K (r ++ st.drop n) M')))
  | none => False
def pz_getf (q : Option (Nat × Nat)) (st : List pz_V) (M : pz_M) (K : List pz_V → Prop) : Prop := match q with
  | some (k, j) => pz_r st (fun kd a r => pz_b (Nat.beq kd k) (match pz_rk k j with
      | some kr => K (.inr (.inr (kr, pz_rf a j)) :: r)
      | none => pz_n (M a j) (fun z => K (.inl z :: r))))
  | none => False
def pz_putk (n : Nat) (v : Int) (P : Prop) : Prop := match n with
  | 1 => P
  | 2 => (v = 0 ∨ v = 1) ∧ P
  | _ => False
def pz_putf (q : Option (Nat × Nat)) (st : List pz_V) (M : pz_M) (K : List pz_V → pz_M → Prop) : Prop := match q with
  | some (k, j) => (match st with
    | .inl v :: .inr (.inr (kd, a)) :: r => pz_b (Nat.beq kd k) (pz_putk (pz_pf k j) v (K r (pz_u M a j v)))
    | _ => False)
  | none => False
def pz_al (q : Nat × Nat) (t : Nat) (i : Int) (P : Prop) : Prop := match Nat.beq q.1 t with
  | true => 0 ≤ i ∧ (i < (q.2 : Int) ∧ P)
  | false => False
def pz_aal (kd : Nat) (i : Int) (K : Nat → Prop) : Prop := match kd with
  | 29 => 0 ≤ i ∧ (i < 12 ∧ K 5)
  | 30 => 0 ≤ i ∧ (i < 6 ∧ K 0)
  | _ => False
/-- one instruction: what must hold so that all goes well -/
def pz_stp (fl : Nat → Option (Nat × Nat)) (ci : Nat → Option pz_V) (ct : Bool → Nat → Option pz_C) (K : pz_F) (Rt : Option pz_V → pz_M → Prop) (rz : Bool) (I : Instr) (nx : Nat) (tg : List Nat) (lo : pz_L) (st : List pz_V) (M : pz_M) : Prop :=
  match I with
  | .iconst v => K nx lo (.inl v :: st) M
  | .bipush v => K nx lo (.inl v :: st) M
  | .sipush v => K nx lo (.inl v :: st) M
  | .lconst v => K nx lo (.inr (.inl (v : Nat)) :: st) M
  | .ldc i => (match ci i with | some (.inr (.inl _)) => False | some v => K nx lo (v :: st) M | none => False)
  | .ldc_w i => (match ci i with | some (.inl v) => K nx lo (.inl v :: st) M | _ => False)
  | .ldc2_w i => (match ci i with | some (.inr (.inl v)) => K nx lo (.inr (.inl v) :: st) M | _ => False)
  | .iload k => pz_get lo k (fun v => match v with | .inl x => K nx lo (.inl x :: st) M | _ => False)
  | .iload_n k => pz_get lo k (fun v => match v with | .inl x => K nx lo (.inl x :: st) M | _ => False)
  | .lload k => pz_get lo k (fun v => match v with | .inr (.inl x) => K nx lo (.inr (.inl x) :: st) M | _ => False)
  | .lload_n k => pz_get lo k (fun v => match v with | .inr (.inl x) => K nx lo (.inr (.inl x) :: st) M | _ => False)
  | .aload k => pz_get lo k (fun v => match v with | .inr (.inr x) => K nx lo (.inr (.inr x) :: st) M | _ => False)
  | .aload_n k => pz_get lo k (fun v => match v with | .inr (.inr x) => K nx lo (.inr (.inr x) :: st) M | _ => False)
  | .istore k => pz_1 st (fun x r => pz_set lo k (.inl x) (fun lo' => K nx lo' r M))
  | .istore_n k => pz_1 st (fun x r => pz_set lo k (.inl x) (fun lo' => K nx lo' r M))
  | .lstore k => pz_l1 st (fun x r => pz_setl lo k (.inr (.inl x)) (fun lo' => K nx lo' r M))
  | .lstore_n k => pz_l1 st (fun x r => pz_setl lo k (.inr (.inl x)) (fun lo' => K nx lo' r M))
  | .astore k => pz_r st (fun kd a r => pz_set lo k (.inr (.inr (kd, a))) (fun lo' => K nx lo' r M))
  | .astore_n k => pz_r st (fun kd a r => pz_set lo k (.inr (.inr (kd, a))) (fun lo' => K nx lo' r M))
  | .iinc k n => pz_get lo k (fun v => match v with | .inl x => pz_n (pz_w (x + n)) (fun z => pz_set lo k (.inl z) (fun lo' => K nx lo' st M)) | _ => False)
  | .iadd => pz_2 st (fun x y r => pz_n (pz_w (x + y)) (fun z => K nx lo (.inl z :: r) M))
  | .isub => pz_2 st (fun x y r => pz_n (pz_w (x - y)) (fun z => K nx lo (.inl z :: r) M))
  | .imul => pz_2 st (fun x y r => pz_n (pz_w (x * y)) (fun z => K nx lo (.inl z :: r) M))
  | .idiv => pz_2 st (fun x y r => ¬ y = 0 ∧ pz_n (pz_w (x.tdiv y)) (fun z => K nx lo (.inl z :: r) M))
  | .irem => pz_2 st (fun x y r => ¬ y = 0 ∧ pz_n (pz_w (x.tmod y)) (fun z => K nx lo (.inl z :: r) M))
  | .iand => pz_2 st (fun x y r => pz_n ((Int32.ofInt x &&& Int32.ofInt y).toInt) (fun z => K nx lo (.inl z :: r) M))
  | .ior => pz_2 st (fun x y r => pz_n ((Int32.ofInt x ||| Int32.ofInt y).toInt) (fun z => K nx lo (.inl z :: r) M))
  | .ixor => pz_2 st (fun x y r => pz_n ((Int32.ofInt x ^^^ Int32.ofInt y).toInt) (fun z => K nx lo (.inl z :: r) M))
  | .ishl => pz_2 st (fun x y r => pz_n ((Int32.ofInt x <<< (Int32.ofInt y &&& 31)).toInt) (fun z => K nx lo (.inl z :: r) M))
  | .ishr => pz_2 st (fun x y r => pz_n ((Int32.ofInt x >>> (Int32.ofInt y &&& 31)).toInt) (fun z => K nx lo (.inl z :: r) M))
  | .iushr => pz_2 st (fun x y r => pz_n (((Int32.ofInt x).toUInt32 >>> ((Int32.ofInt y).toUInt32 &&& Int32.toUInt32 31)).toInt32.toInt) (fun z => K nx lo (.inl z :: r) M))
  | .i2b => pz_1 st (fun x r => pz_n ((Int32.ofInt x).toInt8.toInt32.toInt) (fun z => K nx lo (.inl z :: r) M))
  | .i2l => pz_1 st (fun x r => K nx lo (.inr (.inl x) :: r) M)
  | .l2i => pz_l1 st (fun x r => pz_n (pz_w x) (fun z => K nx lo (.inl z :: r) M))
  | .ladd => pz_l2 st (fun x y r => pz_nl (pz_wl (x + y)) (fun z => K nx lo (.inr (.inl z) :: r) M))
  | .lsub => pz_l2 st (fun x y r => pz_nl (pz_wl (x - y)) (fun z => K nx lo (.inr (.inl z) :: r) M))
  | .lmul => pz_l2 st (fun x y r => pz_nl (pz_wl (x * y)) (fun z => K nx lo (.inr (.inl z) :: r) M))
  | .ldiv => pz_l2 st (fun x y r => ¬ y = 0 ∧ pz_nl (pz_wl (x.tdiv y)) (fun z => K nx lo (.inr (.inl z) :: r) M))
  | .lcmp => pz_l2 st (fun x y r => (x < y → K nx lo (.inl (-1) :: r) M) ∧ ((x = y → K nx lo (.inl 0 :: r) M) ∧ (y < x → K nx lo (.inl 1 :: r) M)))
  | .dup => (match st with | v :: r => pz_b (Nat.beq (pz_cat v) 1) (K nx lo (v :: v :: r) M) | _ => False)
  | .dup2 => (match st with | v :: u :: r => pz_b (Nat.beq (pz_cat v) 1) (pz_b (Nat.beq (pz_cat u) 1) (K nx lo (v :: u :: v :: u :: r) M)) | _ => False)
  | .pop => (match st with | v :: r => pz_b (Nat.beq (pz_cat v) 1) (K nx lo r M) | _ => False)
  | .goto _ => (match tg with | t :: _ => K t lo st M | _ => False)
  | .ifCond b _ => (match tg with | t :: _ => pz_1 st (fun x r => pz_br b x 0 (K t lo r M) (K nx lo r M)) | _ => False)
  | .if_icmp b _ => (match tg with | t :: _ => pz_2 st (fun x y r => pz_br b x y (K t lo r M) (K nx lo r M)) | _ => False)
  | .tableswitch _ low high _ => (match tg with | d :: ts => pz_1 st (fun x r => pz_sw x low (fun t => K t lo r M) ts ∧ (x < low ∨ high < x → K d lo r M)) | _ => False)
  | .lookupswitch _ ps => (match tg with | d :: ts => pz_1 st (fun x r => pz_lk x (fun t => K t lo r M) ps.toList ts ∧ pz_nk x (K d lo r M) ps.toList) | _ => False)
  | .getfield i => pz_getf (fl i) st M (fun st' => K nx lo st' M)
  | .putfield i => pz_putf (fl i) st M (fun st' M' => K nx lo st' M')
  | .iaload => pz_ri st (fun kd a i r => pz_al (pz_ak kd) 0 i (pz_n (M a i.toNat) (fun z => K nx lo (.inl z :: r) M)))
  | .baload => pz_ri st (fun kd a i r => pz_al (pz_ak kd) 1 i (pz_n (M a i.toNat) (fun z => K nx lo (.inl z :: r) M)))
  | .aaload => pz_ri st (fun kd a i r => pz_aal kd i (fun kr => K nx lo (.inr (.inr (kr, pz_rf a i.toNat)) :: r) M))
  | .iastore => pz_rii st (fun kd a i v r => pz_al (pz_ak kd) 0 i (K nx lo r (pz_u M a i.toNat v)))
  | .bastore => pz_rii st (fun kd a i v r => pz_al (pz_ak kd) 1 i (-128 ≤ v ∧ (v ≤ 127 ∧ K nx lo r (pz_u M a i.toNat v))))
  | .arraylength => pz_r st (fun kd _ r => pz_b (Nat.ble (pz_ak kd).1 8) (K nx lo (.inl ((pz_ak kd).2 : Int) :: r) M))
  | .invokevirtual i => pz_call (ct true) i lo st M (fun st' M' => K nx lo st' M')
  | .invokestatic i => pz_call (ct false) i lo st M (fun st' M' => K nx lo st' M')
  | .ireturn => (match st with | [.inl x] => (match rz with | true => (x = 0 ∨ x = 1) ∧ Rt (some (.inl x)) M | false => Rt (some (.inl x)) M) | _ => False)
  | .lreturn => (match st with | [.inr (.inl x)] => Rt (some (.inr (.inl x))) M | _ => False)
  | .areturn => (match st with | [.inr (.inr x)] => Rt (some (.inr (.inr x))) M | _ => False)
  | .return_ => (match st with | [] => Rt none M | _ => False)
  | _ => False
/-- how long an instruction is -/
def pz_len : Instr → Nat
  | .iconst _ => 1 | .bipush _ => 2 | .sipush _ => 3 | .lconst _ => 1 | .ldc _ => 2 | .ldc_w _ => 3 | .ldc2_w _ => 3
  | .iload _ => 2 | .iload_n _ => 1 | .lload _ => 2 | .lload_n _ => 1 | .aload _ => 2 | .aload_n _ => 1
  | .istore _ => 2 | .istore_n _ => 1 | .lstore _ => 2 | .lstore_n _ => 1 | .astore _ => 2 | .astore_n _ => 1
  | .iinc _ _ => 3 | .goto _ => 3 | .ifCond _ _ => 3 | .if_icmp _ _ => 3 | .getfield _ => 3 | .putfield _ => 3 | .invokevirtual _ => 3 | .invokestatic _ => 3
  | _ => 1
def pz_tok (pc : Nat) : Instr → List Nat → Bool
  | .goto o, [t] => decide ((pc : Int) + o = (t : Int))
  | .ifCond _ o, [t] => decide ((pc : Int) + o = (t : Int))
  | .if_icmp _ o, [t] => decide ((pc : Int) + o = (t : Int))
  | .tableswitch d low high os, ts => decide ((d :: os.toList).map (fun o => (pc : Int) + o) = ts.map Int.ofNat) && decide (high - low + 1 = (os.toList.length : Int))
  | .lookupswitch d ps, ts => decide ((d :: ps.toList.map (·.2)).map (fun o => (pc : Int) + o) = ts.map Int.ofNat) && (ps.toList.zip (ps.toList.drop 1)).all (fun q => decide (q.1.1 < q.2.1))
  | .goto _, _ => false
  | .ifCond _ _, _ => false
  | .if_icmp _ _, _ => false
  | _, _ => true
def pz_imm : Instr → Bool
  | .iconst v => decide (-1 ≤ v) && decide (v ≤ 5)
  | .bipush v => decide (-128 ≤ v) && decide (v ≤ 127)
  | .sipush v => decide (-32768 ≤ v) && decide (v ≤ 32767)
  | .iinc _ v => decide (-128 ≤ v) && decide (v ≤ 127)
  | _ => true
def pz_sl : Instr → Nat → Nat → Bool
  | .tableswitch .., _, _ => true
  | .lookupswitch .., _, _ => true
  | I, n, _ => decide (n = pz_len I)
/-- a row of a method's table says what its bytes say -/
def pz_wf (cc : ByteArray) (q : pz_E) : Bool := decide (decode cc q.1 = .ok (q.2.1, q.2.2.1)) && (decide (q.2.2.2.1 = q.1 + q.2.2.1) && (pz_sl q.2.1 q.2.2.1 0 && (pz_tok q.1 q.2.1 q.2.2.2.2 && pz_imm q.2.1)))
def pz_at (tb : List pz_E) (pc : Nat) : Option pz_E := tb.find? (fun q => Nat.beq q.1 pc)
/-- many instructions, up to the places 'cut' -/
def pz_run (tb : List pz_E) (fl : Nat → Option (Nat × Nat)) (ci : Nat → Option pz_V) (ct : Bool → Nat → Option pz_C) (cut : Nat → Bool) (Ok : pz_F) (Rt : Option pz_V → pz_M → Prop) (rz : Bool) : Nat → pz_F
  | 0, pc, lo, st, M => Ok pc lo st M
  | n + 1, pc, lo, st, M => match pz_at tb pc with
    | some q => pz_stp fl ci ct (fun pc' lo' st' M' => match cut pc' with
        | true => Ok pc' lo' st' M'
        | false => pz_run tb fl ci ct cut Ok Rt rz n pc' lo' st' M') Rt rz q.2.1 q.2.2.2.1 q.2.2.2.2 lo st M
    | none => False
end
section
theorem pz_w_b (z : Int) : pz_w z = z.bmod 4294967296 := by
  unfold pz_w Int.bmod
  simp only []
  split <;> omega
theorem pz_wl_b (z : Int) : pz_wl z = z.bmod 18446744073709551616 := by
  unfold pz_wl Int.bmod
  simp only []
  split <;> omega
theorem pz_wi {z : Int} (h1 : -2147483648 ≤ z) (h2 : z ≤ 2147483647) : pz_w z = z := by unfold pz_w; omega
theorem pz_wli {z : Int} (h1 : -9223372036854775808 ≤ z) (h2 : z ≤ 9223372036854775807) : pz_wl z = z := by unfold pz_wl; omega
theorem pz_wc (z : Int) : pz_c (pz_w z) := by unfold pz_c pz_w; omega
theorem pz_wlc (z : Int) : pz_cl (pz_wl z) := by unfold pz_cl pz_wl; omega
theorem pz_tc (v : Int32) : pz_c v.toInt := ⟨by have := Int32.le_toInt v; omega, by have := Int32.toInt_lt v; omega⟩
theorem pz_tcl (v : Int64) : pz_cl v.toInt := ⟨by have := Int64.le_toInt v; omega, by have := Int64.toInt_lt v; omega⟩
theorem pz_ofw (z : Int) : Int32.ofInt (pz_w z) = Int32.ofInt z := by
  apply Int32.toInt_inj.mp
  rw [Int32.toInt_ofInt, Int32.toInt_ofInt, pz_w_b]
  exact Int.bmod_bmod
theorem pz_ofwl (z : Int) : Int64.ofInt (pz_wl z) = Int64.ofInt z := by
  apply Int64.toInt_inj.mp
  rw [Int64.toInt_ofInt, Int64.toInt_ofInt, pz_wl_b]
  exact Int.bmod_bmod
theorem pz_ti {x : Int} (h : pz_c x) : (Int32.ofInt x).toInt = x := Int32.toInt_ofInt_of_le (by have := h.1; omega) (by have := h.2; omega)
theorem pz_tl {x : Int} (h : pz_cl x) : (Int64.ofInt x).toInt = x := Int64.toInt_ofInt_of_le (by have := h.1; omega) (by have := h.2; omega)
theorem pz_add (x y : Int) : Int32.ofInt x + Int32.ofInt y = Int32.ofInt (pz_w (x + y)) := by rw [pz_ofw, Int32.ofInt_add]
theorem pz_sub (x y : Int) : Int32.ofInt x - Int32.ofInt y = Int32.ofInt (pz_w (x - y)) := by rw [pz_ofw, Int32.ofInt_sub]
theorem pz_mul (x y : Int) : Int32.ofInt x * Int32.ofInt y = Int32.ofInt (pz_w (x * y)) := by rw [pz_ofw, Int32.ofInt_mul]
theorem pz_div {x y : Int} (hx : pz_c x) (hy : pz_c y) : Int32.ofInt x / Int32.ofInt y = Int32.ofInt (pz_w (x.tdiv y)) := by
  apply Int32.toInt_inj.mp
  rw [Int32.toInt_div, pz_ti hx, pz_ti hy, Int32.toInt_ofInt, pz_w_b]
  exact Int.bmod_bmod.symm
theorem pz_rem {x y : Int} (hx : pz_c x) (hy : pz_c y) : Int32.ofInt x - Int32.ofInt x / Int32.ofInt y * Int32.ofInt y = Int32.ofInt (pz_w (x.tmod y)) := by
  rw [pz_div hx hy, pz_mul, pz_sub, pz_ofw, pz_ofw]
  have e : x.tmod y = x - x.tdiv y * y := by
    have := Int.mul_tdiv_add_tmod x y
    rw [Int.mul_comm] at this
    omega
  rw [e, Int32.ofInt_sub, Int32.ofInt_sub, pz_ofw, Int32.ofInt_mul, Int32.ofInt_mul, pz_ofw]
theorem pz_ladd (x y : Int) : Int64.ofInt x + Int64.ofInt y = Int64.ofInt (pz_wl (x + y)) := by rw [pz_ofwl, Int64.ofInt_add]
theorem pz_lsub (x y : Int) : Int64.ofInt x - Int64.ofInt y = Int64.ofInt (pz_wl (x - y)) := by rw [pz_ofwl, Int64.ofInt_sub]
theorem pz_lmul (x y : Int) : Int64.ofInt x * Int64.ofInt y = Int64.ofInt (pz_wl (x * y)) := by rw [pz_ofwl, Int64.ofInt_mul]
theorem pz_ldiv {x y : Int} (hx : pz_cl x) (hy : pz_cl y) : Int64.ofInt x / Int64.ofInt y = Int64.ofInt (pz_wl (x.tdiv y)) := by
  apply Int64.toInt_inj.mp
  rw [Int64.toInt_div, pz_tl hx, pz_tl hy, Int64.toInt_ofInt, pz_wl_b]
  exact Int.bmod_bmod.symm
theorem pz_lt {x y : Int} (hx : pz_c x) (hy : pz_c y) : Int32.ofInt x < Int32.ofInt y ↔ x < y := by rw [Int32.lt_iff_toInt_lt, pz_ti hx, pz_ti hy]
theorem pz_le {x y : Int} (hx : pz_c x) (hy : pz_c y) : Int32.ofInt x ≤ Int32.ofInt y ↔ x ≤ y := by rw [Int32.le_iff_toInt_le, pz_ti hx, pz_ti hy]
theorem pz_eq {x y : Int} (hx : pz_c x) (hy : pz_c y) : Int32.ofInt x = Int32.ofInt y ↔ x = y := by rw [← Int32.toInt_inj, pz_ti hx, pz_ti hy]
theorem pz_ne0 {y : Int} (hy : pz_c y) (h : ¬ y = 0) : ¬ Int32.ofInt y = 0 := fun q => h ((pz_eq hy (by unfold pz_c; omega)).mp q)
theorem pz_lne0 {y : Int} (hy : pz_cl y) (h : ¬ y = 0) : ¬ Int64.ofInt y = 0 := fun q => h (by
  have := congrArg Int64.toInt q
  rw [pz_tl hy] at this
  exact this)
theorem pz_i2l {x : Int} (hx : pz_c x) : (Int32.ofInt x).toInt64 = Int64.ofInt x := by
  apply Int64.toInt_inj.mp
  rw [Int32.toInt_toInt64, pz_ti hx, pz_tl]
  have := hx.1
  have := hx.2
  unfold pz_cl
  omega
theorem pz_l2i {x : Int} (hx : pz_cl x) : (Int64.ofInt x).toInt32 = Int32.ofInt (pz_w x) := by
  apply Int32.toInt_inj.mp
  rw [Int64.toInt_toInt32, pz_tl hx, Int32.toInt_ofInt, pz_w_b]
  exact Int.bmod_bmod.symm
theorem pz_lcmp {x y : Int} (hx : pz_cl x) (hy : pz_cl y) : (x < y → lg_cmp (Int64.ofInt x) (Int64.ofInt y) = Int32.ofInt (-1)) ∧ (x = y → lg_cmp (Int64.ofInt x) (Int64.ofInt y) = Int32.ofInt 0) ∧ (y < x → lg_cmp (Int64.ofInt x) (Int64.ofInt y) = Int32.ofInt 1) := by
  have h1 : ∀ a b : Int, pz_cl a → pz_cl b → (Int64.ofInt a < Int64.ofInt b ↔ a < b) := fun a b ha hb => by rw [Int64.lt_iff_toInt_lt, pz_tl ha, pz_tl hb]
  have h2 : Int64.ofInt x = Int64.ofInt y ↔ x = y := by rw [← Int64.toInt_inj, pz_tl hx, pz_tl hy]
  unfold lg_cmp
  refine ⟨fun h => ?_, fun h => ?_, fun h => ?_⟩
  · rw [if_neg (fun q => absurd ((h1 y x hy hx).mp q) (by omega)), if_neg (fun q => absurd (h2.mp q) (by omega))]; rfl
  · rw [if_neg (fun q => absurd ((h1 y x hy hx).mp q) (by omega)), if_pos (h2.mpr h)]; rfl
  · rw [if_pos ((h1 y x hy hx).mpr h)]; rfl
theorem pz_in {x : Int} {n : Nat} (h0 : 0 ≤ x) (h1 : x < (n : Int)) (hc : pz_c x) : vp_in (Int32.ofInt x) n := vp_in_iff.mpr ⟨by rw [pz_ti hc]; exact h0, by rw [pz_ti hc]; exact h1⟩
theorem pz_clamp {x : Int} (hc : pz_c x) : (Int32.ofInt x).toNatClampNeg = x.toNat := by
  show (Int32.ofInt x).toInt.toNat = x.toNat
  rw [pz_ti hc]
theorem pz_bip {v : Int} (h1 : -128 ≤ v) (h2 : v ≤ 127) : (Int8.ofInt v).toInt32 = Int32.ofInt v := by
  apply Int32.toInt_inj.mp
  rw [Int8.toInt_toInt32, Int8.toInt_ofInt_of_le (by omega) (by omega), pz_ti ⟨by omega, by omega⟩]
theorem pz_sip {v : Int} (h1 : -32768 ≤ v) (h2 : v ≤ 32767) : (Int16.ofInt v).toInt32 = Int32.ofInt v := by
  apply Int32.toInt_inj.mp
  rw [Int16.toInt_toInt32, Int16.toInt_ofInt_of_le (by omega) (by omega), pz_ti ⟨by omega, by omega⟩]
theorem pz_uu {M : pz_M} {a k : Nat} {v : Int} : pz_u M a k v a k = v := by simp [pz_u]
theorem pz_una {M : pz_M} {a k b j : Nat} {v : Int} (h : b ≠ a) : pz_u M a k v b j = M b j := by simp [pz_u, h]
theorem pz_unk {M : pz_M} {a k b j : Nat} {v : Int} (h : j ≠ k) : pz_u M a k v b j = M b j := by simp [pz_u, h]
theorem pz_get_spec : ∀ (lo : pz_L) (k : Nat) (f : pz_V → Prop), pz_get lo k f → ∃ v, lo[k]? = some (some v) ∧ f v
  | [], _, _, h => by simp [pz_get] at h
  | some v :: _, 0, f, h => ⟨v, by simp, h⟩
  | none :: _, 0, f, h => by simp [pz_get] at h
  | _ :: t, k + 1, f, h => by
    obtain ⟨v, h1, h2⟩ := pz_get_spec t k f (by simpa [pz_get] using h)
    exact ⟨v, by simpa using h1, h2⟩
theorem pz_kl_spec {h : Option pz_V} {w : pz_V} (e : pz_kl h = some w) : h = some w ∧ pz_cat w = 1 := by
  match h, e with
  | none, e => simp [pz_kl] at e
  | some (.inl x), e => simp [pz_kl] at e; subst e; exact ⟨rfl, rfl⟩
  | some (.inr (.inl x)), e => simp [pz_kl] at e
  | some (.inr (.inr x)), e => simp [pz_kl] at e; subst e; exact ⟨rfl, rfl⟩
theorem pz_set_spec : ∀ (lo : pz_L) (k : Nat) (v : pz_V) (f : pz_L → Prop), pz_set lo k v f → ∃ lo', f lo' ∧ k < lo.length ∧ lo'.length = lo.length ∧ lo'[k]? = some (some v) ∧ ∀ (i : Nat) (w : pz_V), i ≠ k → lo'[i]? = some (some w) → lo[i]? = some (some w) ∧ ¬ (i + 1 = k ∧ pz_cat w = 2)
  | [], _, _, _, h => by simp [pz_set] at h
  | a :: t, 0, v, f, h => by
    refine ⟨some v :: t, by simpa [pz_set] using h, by simp, by simp, by simp, fun i w hi e => ?_⟩
    cases i with
    | zero => exact absurd rfl hi
    | succ i => exact ⟨by simpa using e, by omega⟩
  | a :: b :: t, 1, v, f, h => by
    refine ⟨pz_kl a :: some v :: t, by simpa [pz_set] using h, by simp, by simp, by simp, fun i w hi e => ?_⟩
    match i, hi, e with
    | 0, _, e =>
      have e2 := pz_kl_spec (show pz_kl a = some w by simpa using e)
      exact ⟨by simp [e2.1], fun q => by have := e2.2; omega⟩
    | 1, hi, _ => exact absurd rfl hi
    | i + 2, _, e => exact ⟨by simpa using e, by omega⟩
  | [a], 1, v, f, h => by simp [pz_set] at h
  | a :: t, k + 2, v, f, h => by
    obtain ⟨lo', h1, h2, h3, h4, h5⟩ := pz_set_spec t (k + 1) v (fun t' => f (a :: t')) (by simpa [pz_set] using h)
    refine ⟨a :: lo', h1, by simp; omega, by simp [h3], by simpa using h4, fun i w hi e => ?_⟩
    cases i with
    | zero => exact ⟨by simpa using e, by omega⟩
    | succ i =>
      obtain ⟨q1, q2⟩ := h5 i w (by omega) (by simpa using e)
      exact ⟨by simpa using q1, fun q => q2 ⟨by omega, q.2⟩⟩
theorem pz_setl_spec : ∀ (lo : pz_L) (k : Nat) (v : pz_V) (f : pz_L → Prop), pz_setl lo k v f → ∃ lo', f lo' ∧ k + 1 < lo.length ∧ lo'.length = lo.length ∧ lo'[k]? = some (some v) ∧ ∀ (i : Nat) (w : pz_V), i ≠ k → lo'[i]? = some (some w) → lo[i]? = some (some w) ∧ i ≠ k + 1 ∧ ¬ (i + 1 = k ∧ pz_cat w = 2)
  | [], _, _, _, h => by simp [pz_setl] at h
  | [a], 0, _, _, h => by simp [pz_setl] at h
  | [a], 1, _, _, h => by simp [pz_setl] at h
  | [a, b], 1, _, _, h => by simp [pz_setl] at h
  | a :: b :: t, 0, v, f, h => by
    refine ⟨some v :: none :: t, by simpa [pz_setl] using h, by simp, by simp, by simp, fun i w hi e => ?_⟩
    match i, hi, e with
    | 0, hi, _ => exact absurd rfl hi
    | 1, _, e => simp at e
    | i + 2, _, e => exact ⟨by simpa using e, by omega, by omega⟩
  | a :: b :: c :: t, 1, v, f, h => by
    refine ⟨pz_kl a :: some v :: none :: t, by simpa [pz_setl] using h, by simp, by simp, by simp, fun i w hi e => ?_⟩
    match i, hi, e with
    | 0, _, e =>
      have e2 := pz_kl_spec (show pz_kl a = some w by simpa using e)
      exact ⟨by simp [e2.1], by omega, fun q => by have := e2.2; omega⟩
    | 1, hi, _ => exact absurd rfl hi
    | 2, _, e => simp at e
    | i + 3, _, e => exact ⟨by simpa using e, by omega, by omega⟩
  | a :: t, k + 2, v, f, h => by
    obtain ⟨lo', h1, h2, h3, h4, h5⟩ := pz_setl_spec t (k + 1) v (fun t' => f (a :: t')) (by simpa [pz_setl] using h)
    refine ⟨a :: lo', h1, by simp; omega, by simp [h3], by simpa using h4, fun i w hi e => ?_⟩
    cases i with
    | zero => exact ⟨by simpa using e, by omega, by omega⟩
    | succ i =>
      obtain ⟨q1, q2, q3⟩ := h5 i w (by omega) (by simpa using e)
      exact ⟨by simpa using q1, by omega, fun q => q3 ⟨by omega, q.2⟩⟩
end
section
/-! the texts that the program's constants are: whose, which entry, what -/
def pz_ss : List (String × Nat × String) := [("TwelveChain$Tape", 52, "ready leave give cost when or and not link price purse worth slow day links bridged lacks on ask bridge pay paper from to "), ("TwelveChainModel", 121, "when"), ("TwelveChainModel", 123, "or"), ("TwelveChainModel", 125, "and"), ("TwelveChainModel", 127, "not"), ("TwelveChainModel", 129, "ready"), ("TwelveChainModel", 131, "leave"), ("TwelveChainModel", 133, "give"), ("TwelveChainModel", 135, "cost"), ("TwelveChainModel", 99, "link"), ("TwelveChainModel", 105, "price"), ("TwelveChainModel", 107, "purse"), ("TwelveChainModel", 109, "worth"), ("TwelveChainModel", 111, "slow"), ("TwelveChainModel", 113, "day"), ("TwelveChainModel", 115, "links"), ("TwelveChainModel", 117, "bridged"), ("TwelveChainModel", 119, "lacks"), ("TwelveChainModel", 140, "on"), ("TwelveChainModel", 142, "ask"), ("TwelveChainModel", 144, "bridge"), ("TwelveChainModel", 146, "pay"), ("TwelveChainModel", 148, "paper"), ("TwelveChainModel", 159, "from"), ("TwelveChainModel", 161, "to")]
def pz_stl : List Nat := [122, 4, 2, 3, 3, 5, 5, 4, 4, 4, 5, 5, 5, 4, 3, 5, 7, 5, 2, 3, 6, 3, 5, 4, 2]
def pz_sb : List (List Int32) := [[114, 101, 97, 100, 121, 32, 108, 101, 97, 118, 101, 32, 103, 105, 118, 101, 32, 99, 111, 115, 116, 32, 119, 104, 101, 110, 32, 111, 114, 32, 97, 110, 100, 32, 110, 111, 116, 32, 108, 105, 110, 107, 32, 112, 114, 105, 99, 101, 32, 112, 117, 114, 115, 101, 32, 119, 111, 114, 116, 104, 32, 115, 108, 111, 119, 32, 100, 97, 121, 32, 108, 105, 110, 107, 115, 32, 98, 114, 105, 100, 103, 101, 100, 32, 108, 97, 99, 107, 115, 32, 111, 110, 32, 97, 115, 107, 32, 98, 114, 105, 100, 103, 101, 32, 112, 97, 121, 32, 112, 97, 112, 101, 114, 32, 102, 114, 111, 109, 32, 116, 111, 32], [119, 104, 101, 110], [111, 114], [97, 110, 100], [110, 111, 116], [114, 101, 97, 100, 121], [108, 101, 97, 118, 101], [103, 105, 118, 101], [99, 111, 115, 116], [108, 105, 110, 107], [112, 114, 105, 99, 101], [112, 117, 114, 115, 101], [119, 111, 114, 116, 104], [115, 108, 111, 119], [100, 97, 121], [108, 105, 110, 107, 115], [98, 114, 105, 100, 103, 101, 100], [108, 97, 99, 107, 115], [111, 110], [97, 115, 107], [98, 114, 105, 100, 103, 101], [112, 97, 121], [112, 97, 112, 101, 114], [102, 114, 111, 109], [116, 111]]
/-- the words that stay true in every method -/
def pz_tbl : List Cond := lw_tbl.filter goodWord
theorem pz_tbl_in {w : Cond} (h : w ∈ lw_tbl) (g : goodWord w = true) : w ∈ pz_tbl := List.mem_filter.mpr ⟨h, g⟩
def pz_v (ad : Nat → Nat) : pz_V → Value
  | .inl i => .int (Int32.ofInt i)
  | .inr (.inl j) => .long (Int64.ofInt j)
  | .inr (.inr q) => .ref (ad q.2)
def pz_cv : pz_V → Prop
  | .inl i => pz_c i
  | .inr (.inl j) => pz_cl j
  | .inr (.inr q) => pz_kd q.2 = q.1 ∧ q.2 < 231
theorem pz_v_cat (ad : Nat → Nat) (v : pz_V) : (pz_v ad v).category = pz_cat v := by
  match v with
  | .inl i => rfl
  | .inr (.inl j) => rfl
  | .inr (.inr q) => rfl
def pz_fv (ad : Nat → Nat) (M : pz_M) (a k j : Nat) : Value := match pz_rk k j with
  | some _ => .ref (ad (pz_rf a j))
  | none => .int (Int32.ofInt (M a j))
def pz_ei (cy : Nat → ClassId) (M : pz_M) (a : Nat) (q : Nat × Nat) : va_E := .inl (cy q.1, q.2, .inl (fun j => Int32.ofInt (M a j)))
def pz_eq_ (ad : Nat → Nat) (cy : Nat → ClassId) (a : Nat) (q : Nat × Nat) : va_E := .inl (cy q.1, q.2, .inr (.inr (.inr (.inr (fun j => some (ad (pz_rf a j)))))))
def pz_eo (ad : Nat → Nat) (M : pz_M) (a k : Nat) : va_E := .inr (k, (List.range (pz_nf k)).map (pz_fv ad M a k))
def pz_en (ad : Nat → Nat) (cy : Nat → ClassId) (M : pz_M) (a : Nat) : va_E :=
  if pz_kd a < 13 then pz_eo ad M a (pz_kd a)
  else if (pz_ak (pz_kd a)).1 < 2 then pz_ei cy M a (pz_ak (pz_kd a))
  else pz_eq_ ad cy a (pz_ak (pz_kd a))
def pz_ws (ad : Nat → Nat) (cy : Nat → ClassId) (M : pz_M) : va_W := (List.range 206).map (fun a => (ad a, pz_en ad cy M a))
def pz_ty (cy : Nat → ClassId) : List (ClassId × FieldType) := [(cy 0, .int), (cy 1, .byte), (cy 2, .object "TwelveChain$Link"), (cy 3, .object "TwelveChain$Chain")]
theorem pz_ws_get {ad : Nat → Nat} {cy : Nat → ClassId} {M : pz_M} {a : Nat} (h : a < 206) : (pz_ws ad cy M)[a]? = some (ad a, pz_en ad cy M a) := by
  simp [pz_ws, h]
theorem pz_en_ne {ad : Nat → Nat} {cy : Nat → ClassId} {M : pz_M} {a k b : Nat} {v : Int} (h : b ≠ a) : pz_en ad cy (pz_u M a k v) b = pz_en ad cy M b := by
  have e : ∀ j, pz_u M a k v b j = M b j := fun j => pz_una h
  unfold pz_en pz_eo pz_ei
  have e2 : pz_fv ad (pz_u M a k v) b = pz_fv ad M b := by
    funext k2 j
    unfold pz_fv
    cases pz_rk k2 j with
    | some _ => rfl
    | none => simp only [e]
  simp only [e, e2]
theorem pz_ws_set {ad : Nat → Nat} {cy : Nat → ClassId} {M : pz_M} {a k : Nat} {v : Int} {q : Nat} {e : va_E} (hq : q = ad a) (he : pz_en ad cy (pz_u M a k v) a = e) : (pz_ws ad cy M).set a (q, e) = pz_ws ad cy (pz_u M a k v) := by
  subst hq; subst he
  apply List.ext_getElem?
  intro b
  by_cases hb : b = a
  · subst hb
    by_cases hl : b < 206
    · rw [List.getElem?_set_self (by simp [pz_ws, hl]), pz_ws_get hl]
    · simp [pz_ws, hl]
  · rw [List.getElem?_set_ne (Ne.symm hb)]
    by_cases hl : b < 206
    · rw [pz_ws_get hl, pz_ws_get hl, pz_en_ne hb]
    · simp [pz_ws, hl]
theorem pz_eo_get {ad : Nat → Nat} {M : pz_M} {a k j : Nat} (h : j < pz_nf k) : ((List.range (pz_nf k)).map (pz_fv ad M a k))[j]? = some (pz_fv ad M a k j) := by simp [h]
theorem pz_eo_set {ad : Nat → Nat} {M : pz_M} {a k j : Nat} {v : Int} (hr : pz_rk k j = none) : pz_eo ad (pz_u M a j v) a k = .inr (k, ((List.range (pz_nf k)).map (pz_fv ad M a k)).set j (.int (Int32.ofInt v))) := by
  unfold pz_eo
  congr 2
  apply List.ext_getElem?
  intro b
  by_cases hb : b = j
  · subst hb
    by_cases hl : b < pz_nf k
    · rw [List.getElem?_set_self (by simp [hl]), pz_eo_get hl]
      unfold pz_fv
      rw [hr, pz_uu]
    · simp [hl]
  · rw [List.getElem?_set_ne (Ne.symm hb)]
    by_cases hl : b < pz_nf k
    · rw [pz_eo_get hl, pz_eo_get hl]
      unfold pz_fv
      rw [pz_unk hb]
    · simp [hl]
theorem pz_upd {M : pz_M} {a k : Nat} {v : Int} : upd (fun j => Int32.ofInt (M a j)) k (Int32.ofInt v) = fun j => Int32.ofInt (pz_u M a k v a j) := by
  funext j
  by_cases hj : j = k
  · subst hj
    simp [upd, pz_uu]
  · simp [upd, hj, pz_unk hj]
/-- the classes, as the tables have them -/
def pz_ckc (ci k : Nat) : Bool := match vwCl[ci]? with
  | some (_, T, N) => decide (N = pz_nf ci) && (match pz_pf ci k with
    | 0 => true
    | 1 => decide ((T k).2.2.1 = "I") && (decide ((T k).2.2.2 = false) && decide (pz_rk ci k = none))
    | _ => decide ((T k).2.2.1 = "Z") && (decide ((T k).2.2.2 = false) && decide (pz_rk ci k = none)))
  | none => false
theorem pz_ckc_ok : ∀ ci, ci < 13 → ∀ k, k < pz_nf ci → pz_ckc ci k = true := by decide +kernel
def pz_ckr (a k : Nat) : Bool := match pz_rk (pz_kd a) k with
  | some kr => decide (k < 12 ∨ pz_kd a < 13) && (decide (k < 6 ∨ pz_kd a < 30)) && (decide (pz_kd (pz_rf a k) = kr) && decide (pz_rf a k < 206)) || decide (pz_kd a = 29 ∧ 12 ≤ k) || decide (pz_kd a = 30 ∧ 6 ≤ k)
  | none => true
theorem pz_ckr_ok : ∀ a, a < 206 → ∀ k, k < 28 → pz_ckr a k = true := by decide +kernel
theorem pz_kd_hi {a : Nat} (h : ¬ a < 206) : pz_kd a = 99 := by unfold pz_kd; rw [if_neg (by omega), if_neg (by omega), if_neg (by omega), if_neg h]
theorem pz_kd_lo {a k : Nat} (h : pz_kd a = k) (hk : k ≠ 99) : a < 206 := Nat.lt_of_not_le (fun q => hk (by rw [← h]; exact pz_kd_hi (by omega)))
theorem pz_rf_ok {a k kd kr : Nat} (hd : pz_kd a = kd) (hk9 : kd ≠ 99) (hr : pz_rk kd k = some kr) (hk : k < 28) (h29 : kd = 29 → k < 12) (h30 : kd = 30 → k < 6) : pz_kd (pz_rf a k) = kr ∧ pz_rf a k < 206 := by
  subst hd
  have h := pz_ckr_ok a (pz_kd_lo rfl hk9) k hk
  unfold pz_ckr at h
  rw [hr] at h
  simp only [Bool.or_eq_true, Bool.and_eq_true, decide_eq_true_eq] at h
  rcases h with (h | h) | h
  · exact ⟨h.2.1, h.2.2⟩
  · exact absurd h.2 (by have := h29 h.1; omega)
  · exact absurd h.2 (by have := h30 h.1; omega)
theorem pz_in0 : ∀ w ∈ u_ws RX0 TX0 8, w ∈ lw_tbl := by decide +kernel
theorem pz_in1 : ∀ w ∈ u_ws RX1 TX1 2, w ∈ lw_tbl := by decide +kernel
theorem pz_in2 : ∀ w ∈ u_ws RX2 TX2 3, w ∈ lw_tbl := by decide +kernel
theorem pz_in3 : ∀ w ∈ u_ws RX3 TX3 8, w ∈ lw_tbl := by decide +kernel
theorem pz_in4 : ∀ w ∈ u_ws RX4 TX4 5, w ∈ lw_tbl := by decide +kernel
theorem pz_in5 : ∀ w ∈ u_ws RX5 TX5 8, w ∈ lw_tbl := by decide +kernel
theorem pz_in6 : ∀ w ∈ u_ws RX6 TX6 2, w ∈ lw_tbl := by decide +kernel
theorem pz_in7 : ∀ w ∈ u_ws RX7 TX7 5, w ∈ lw_tbl := by decide +kernel
theorem pz_in8 : ∀ w ∈ u_ws RX8 TX8 8, w ∈ lw_tbl := by decide +kernel
theorem pz_in9 : ∀ w ∈ u_ws RX9 TX9 10, w ∈ lw_tbl := by decide +kernel
theorem pz_in10 : ∀ w ∈ u_ws RX10 TX10 4, w ∈ lw_tbl := by decide +kernel
theorem pz_in11 : ∀ w ∈ u_ws RX11 TX11 14, w ∈ lw_tbl := by decide +kernel
theorem pz_in12 : ∀ w ∈ u_ws RX12 TX12 28, w ∈ lw_tbl := by decide +kernel
theorem pz_layg {C : String} {T : u_T} {N : Nat} : ∀ w ∈ u_ws C T N, goodWord w = true := by
  intro w hw
  obtain ⟨k, -, rfl⟩ := List.mem_map.mp hw
  unfold u_lay
  split <;> rfl
theorem pz_cls {ci : Nat} {C : String} {T : u_T} {N : Nat} (h : vwCl[ci]? = some (C, T, N)) : (∀ w ∈ u_ws C T N, w ∈ pz_tbl) ∧ (∀ a, a < N → ∀ b, b < N → a ≠ b → (T a).2.1 ≠ (T b).2.1) ∧ ∃ ty0 : Nat → FieldType, ∀ k, k < N → parseFieldDescriptor (T k).2.2.1 = some (ty0 k) := by
  have key : (∀ w ∈ u_ws C T N, w ∈ lw_tbl) ∧ (∀ a, a < N → ∀ b, b < N → a ≠ b → (T a).2.1 ≠ (T b).2.1) ∧ ∃ ty0 : Nat → FieldType, ∀ k, k < N → parseFieldDescriptor (T k).2.2.1 = some (ty0 k) := by
    match ci, h with
    | 0, h => cases h; exact ⟨pz_in0, nmX0, tyX0, tyX0_ok⟩
    | 1, h => cases h; exact ⟨pz_in1, nmX1, tyX1, tyX1_ok⟩
    | 2, h => cases h; exact ⟨pz_in2, nmX2, tyX2, tyX2_ok⟩
    | 3, h => cases h; exact ⟨pz_in3, nmX3, tyX3, tyX3_ok⟩
    | 4, h => cases h; exact ⟨pz_in4, nmX4, tyX4, tyX4_ok⟩
    | 5, h => cases h; exact ⟨pz_in5, nmX5, tyX5, tyX5_ok⟩
    | 6, h => cases h; exact ⟨pz_in6, nmX6, tyX6, tyX6_ok⟩
    | 7, h => cases h; exact ⟨pz_in7, nmX7, tyX7, tyX7_ok⟩
    | 8, h => cases h; exact ⟨pz_in8, nmX8, tyX8, tyX8_ok⟩
    | 9, h => cases h; exact ⟨pz_in9, nmX9, tyX9, tyX9_ok⟩
    | 10, h => cases h; exact ⟨pz_in10, nmX10, tyX10, tyX10_ok⟩
    | 11, h => cases h; exact ⟨pz_in11, nmX11, tyX11, tyX11_ok⟩
    | 12, h => cases h; exact ⟨pz_in12, nmX12, tyX12, tyX12_ok⟩
    | k + 13, h => simp [vwCl] at h
  exact ⟨fun w hw => pz_tbl_in (key.1 w hw) (pz_layg w hw), key.2⟩
/-- what stays: the texts, one static, one word of a nest mate -/
def pz_S (ad adV : Nat → Nat) (A : Nat → Prop) (U : State) (H : Heap) : Prop :=
  vk_S 25 pz_stl pz_sb (fun i => ad (206 + i)) adV A U H ∧ (∀ (i : Nat) (q : String × Nat × String), pz_ss[i]? = some q → vk_R q.1 q.2.1 q.2.2 (ad (206 + i)) U) ∧ va_Z "java/lang/String" "COMPACT_STRINGS" "Z" (.int 1) A U H ∧ va_Nw (.methodLinkNest RX1 35 yX11_within "TwelveChain") U
theorem pz_S.kept {ad adV : Nat → Nat} {A : Nat → Prop} {U : State} {H H1 : Heap} (h : pz_S ad adV A U H) (hq : ∀ a : Nat, a < H.size → ¬ A a → H1[a]? = H[a]?) : pz_S ad adV A U H1 := ⟨h.1.kept hq, h.2.1, h.2.2.1.kept hq, h.2.2.2⟩
theorem pz_S.warm {ad adV : Nat → Nat} {A : Nat → Prop} {s U : State} {H : Heap} (hW : s.WarmedH U.vm) (h : pz_S ad adV A s H) : pz_S ad adV A U H :=
  ⟨h.1.moved hW.alike, fun i q hq => (h.2.1 i q hq).warm hW, h.2.2.1.moved hW.alike, va_Nw.warmM hW h.2.2.2⟩
theorem pz_S.same {ad adV : Nat → Nat} {A : Nat → Prop} {u U : State} {H : Heap} (hv : U.vm = u.vm) (h : pz_S ad adV A u H) : pz_S ad adV A U H :=
  ⟨h.1.moved (by rw [hv]; exact Vm.Alike.refl u.vm), fun i q hq => (h.2.1 i q hq).same hv, h.2.2.1.moved (by rw [hv]; exact Vm.Alike.refl u.vm), va_Nw.same rfl hv.symm h.2.2.2⟩
def pz_X (D : va_G) (ad adV : Nat → Nat) (cy : Nat → ClassId) (A : Nat → Prop) (U : State) (H : Heap) : Prop :=
  va_K D vwCl (pz_ty cy) U ∧ (∀ i j : Nat, i < 206 → j < 206 → ad i = ad j → i = j) ∧ (∀ i : Nat, i < 206 → A (ad i)) ∧ pz_S ad adV A U H
theorem pz_X.kept {D : va_G} {ad adV : Nat → Nat} {cy : Nat → ClassId} {A : Nat → Prop} {U : State} {H H1 : Heap} (h : pz_X D ad adV cy A U H) (hq : ∀ a : Nat, a < H.size → ¬ A a → H1[a]? = H[a]?) : pz_X D ad adV cy A U H1 := ⟨h.1, h.2.1, h.2.2.1, h.2.2.2.kept hq⟩
theorem pz_X.warm {D : va_G} {ad adV : Nat → Nat} {cy : Nat → ClassId} {A : Nat → Prop} {s U : State} {H : Heap} (hW : s.WarmedH U.vm) (h : pz_X D ad adV cy A s H) : pz_X D ad adV cy A U H := ⟨h.1.moved hW.alike, h.2.1, h.2.2.1, h.2.2.2.warm hW⟩
theorem pz_X.same {D : va_G} {ad adV : Nat → Nat} {cy : Nat → ClassId} {A : Nat → Prop} {u U : State} {H : Heap} (hv : U.vm = u.vm) (h : pz_X D ad adV cy A u H) : pz_X D ad adV cy A U H := ⟨h.1.moved (by rw [hv]; exact Vm.Alike.refl u.vm), h.2.1, h.2.2.1, h.2.2.2.same hv⟩
theorem pz_X.D {D : va_G} {ad adV : Nat → Nat} {cy : Nat → ClassId} {A : Nat → Prop} {U : State} {H : Heap} (h : pz_X D ad adV cy A U H) (M : pz_M) : va_D A (pz_ws ad cy M) := by
  have key : ∀ (k : Nat) (q : Nat × va_E), (pz_ws ad cy M)[k]? = some q → k < 206 ∧ q.1 = ad k := by
    intro k q hq
    have hl : k < 206 := by
      have := (List.getElem?_eq_some_iff.mp hq).1
      simpa [pz_ws] using this
    rw [pz_ws_get hl] at hq
    cases hq
    exact ⟨hl, rfl⟩
  refine ⟨fun i j p q hi hj he => ?_, fun k q hk => ?_⟩
  · obtain ⟨a1, a2⟩ := key i p hi
    obtain ⟨b1, b2⟩ := key j q hj
    exact h.2.1 i j a1 b1 (by rw [← a2, ← b2, he])
  · obtain ⟨a1, a2⟩ := key k q hk
    rw [a2]
    exact h.2.2.1 k a1
/-- the world of a method: memory M, the rest as it stays -/
def pz_G (D : va_G) (ad adV : Nat → Nat) (cy : Nat → ClassId) (A : Nat → Prop) (M : pz_M) (U : State) : Prop :=
  va_P D vwCl (pz_ws ad cy M) U.heap ∧ pz_X D ad adV cy A U U.heap ∧ ∀ a k : Nat, pz_c (M a k)
def pz_rr : Nat → Option pz_V → Prop
  | 0, r => r = none
  | 1, r => ∃ x, r = some (.inl x) ∧ pz_c x
  | 2, r => ∃ x, r = some (.inr (.inl x)) ∧ pz_cl x
  | k + 3, r => ∃ a, r = some (.inr (.inr (k, a))) ∧ pz_kd a = k ∧ a < 231
/-- a method keeps its contract -/
def pz_H (y : MethodName) (cc : ByteArray) (maxL : Nat) (ret : Option FieldType) (k : pz_C) (fr lo : Nat) : Prop :=
  ∀ (l : Launch) (D : va_G) (ad adV : Nat → Nat) (cy : Nat → ClassId) (A : Nat → Prop) (a : List pz_V) (M : pz_M), a.length = k.1 → k.2.2.1 a M → (∀ v ∈ a, pz_cv v) →
    Met l y (.code y cc maxL ret :: pz_tbl) { frames := fr, cells := 0, slots := 0, locals := lo } (va_Pc (a.map (pz_v ad)) (pz_G D ad adV cy A M))
      (fun _ st o t => (∃ (r : Option pz_V) (M' : pz_M), k.2.2.2 a M r M' ∧ pz_rr k.2.1 r ∧ o = .returned (r.map (pz_v ad)) ∧ pz_G D ad adV cy A M' t) ∧ va_F A st t) 0 0 A
def pz_LV (ad : Nat → Nat) (ls : Array Slot) (nL : Nat) (lo : pz_L) : Prop := ls.size = nL ∧ lv_wf ls ∧ lo.length = nL ∧ ∀ (i : Nat) (v : pz_V), lo[i]? = some (some v) → ls[i]? = some (.val (pz_v ad v)) ∧ pz_cv v
def pz_pr (ad : Nat → Nat) (lo : pz_L) : List (Nat × Value) := (List.range lo.length).filterMap (fun i => (lo.getD i none).map (fun v => (i, pz_v ad v)))
theorem pz_pr_mem {ad : Nat → Nat} {lo : pz_L} {i : Nat} {v : pz_V} (h : lo[i]? = some (some v)) : (i, pz_v ad v) ∈ pz_pr ad lo := by
  have hl : i < lo.length := (List.getElem?_eq_some_iff.mp h).1
  refine List.mem_filterMap.mpr ⟨i, List.mem_range.mpr hl, ?_⟩
  rw [List.getD_eq_getElem?_getD, h]
  rfl
theorem pz_LV.has {ad : Nat → Nat} {ls : Array Slot} {nL : Nat} {lo : pz_L} (h : pz_LV ad ls nL lo) : lv_has ls nL (pz_pr ad lo) := by
  refine ⟨h.1, h.2.1, fun q hq => ?_⟩
  obtain ⟨i, -, hi⟩ := List.mem_filterMap.mp hq
  rw [List.getD_eq_getElem?_getD] at hi
  cases e : lo[i]? with
  | none => rw [e] at hi; cases hi
  | some o =>
    cases o with
    | none => rw [e] at hi; cases hi
    | some v =>
      rw [e] at hi
      cases hi
      exact (h.2.2.2 i v e).1
theorem pz_LV.of {ad : Nat → Nat} {ls' : Array Slot} {nL : Nat} {lo' : pz_L} {lv' : List (Nat × Value)} (h : lv_has ls' nL lv') (hl : lo'.length = nL) (hm : ∀ (i : Nat) (v : pz_V), lo'[i]? = some (some v) → (i, pz_v ad v) ∈ lv' ∧ pz_cv v) : pz_LV ad ls' nL lo' :=
  ⟨h.1, h.2.1, hl, fun i v e => ⟨h.2.2 _ (hm i v e).1, (hm i v e).2⟩⟩
end
section
theorem pz_1_spec {st : List pz_V} {f : Int → List pz_V → Prop} (h : pz_1 st f) : ∃ x r, st = .inl x :: r ∧ f x r := by
  match st, h with
  | .inl x :: r, h => exact ⟨x, r, rfl, h⟩
  | [], h => exact h.elim
  | .inr _ :: _, h => exact h.elim
theorem pz_2_spec {st : List pz_V} {f : Int → Int → List pz_V → Prop} (h : pz_2 st f) : ∃ x y r, st = .inl y :: .inl x :: r ∧ f x y r := by
  match st, h with
  | .inl y :: .inl x :: r, h => exact ⟨x, y, r, rfl, h⟩
  | [], h => exact h.elim
  | .inr _ :: _, h => exact h.elim
  | [.inl _], h => exact h.elim
  | .inl _ :: .inr _ :: _, h => exact h.elim
theorem pz_l1_spec {st : List pz_V} {f : Int → List pz_V → Prop} (h : pz_l1 st f) : ∃ x r, st = .inr (.inl x) :: r ∧ f x r := by
  match st, h with
  | .inr (.inl x) :: r, h => exact ⟨x, r, rfl, h⟩
  | [], h => exact h.elim
  | .inl _ :: _, h => exact h.elim
  | .inr (.inr _) :: _, h => exact h.elim
theorem pz_l2_spec {st : List pz_V} {f : Int → Int → List pz_V → Prop} (h : pz_l2 st f) : ∃ x y r, st = .inr (.inl y) :: .inr (.inl x) :: r ∧ f x y r := by
  match st, h with
  | .inr (.inl y) :: .inr (.inl x) :: r, h => exact ⟨x, y, r, rfl, h⟩
  | [], h => exact h.elim
  | .inl _ :: _, h => exact h.elim
  | .inr (.inr _) :: _, h => exact h.elim
  | [.inr (.inl _)], h => exact h.elim
  | .inr (.inl _) :: .inl _ :: _, h => exact h.elim
  | .inr (.inl _) :: .inr (.inr _) :: _, h => exact h.elim
theorem pz_r_spec {st : List pz_V} {f : Nat → Nat → List pz_V → Prop} (h : pz_r st f) : ∃ k a r, st = .inr (.inr (k, a)) :: r ∧ f k a r := by
  match st, h with
  | .inr (.inr (k, a)) :: r, h => exact ⟨k, a, r, rfl, h⟩
  | [], h => exact h.elim
  | .inl _ :: _, h => exact h.elim
  | .inr (.inl _) :: _, h => exact h.elim
theorem pz_ri_spec {st : List pz_V} {f : Nat → Nat → Int → List pz_V → Prop} (h : pz_ri st f) : ∃ k a i r, st = .inl i :: .inr (.inr (k, a)) :: r ∧ f k a i r := by
  match st, h with
  | .inl i :: .inr (.inr (k, a)) :: r, h => exact ⟨k, a, i, r, rfl, h⟩
  | [], h => exact h.elim
  | .inr _ :: _, h => exact h.elim
  | [.inl _], h => exact h.elim
  | .inl _ :: .inl _ :: _, h => exact h.elim
  | .inl _ :: .inr (.inl _) :: _, h => exact h.elim
theorem pz_rii_spec {st : List pz_V} {f : Nat → Nat → Int → Int → List pz_V → Prop} (h : pz_rii st f) : ∃ k a i v r, st = .inl v :: .inl i :: .inr (.inr (k, a)) :: r ∧ f k a i v r := by
  match st, h with
  | .inl v :: .inl i :: .inr (.inr (k, a)) :: r, h => exact ⟨k, a, i, v, r, rfl, h⟩
  | [], h => exact h.elim
  | .inr _ :: _, h => exact h.elim
  | [.inl _], h => exact h.elim
  | .inl _ :: .inr _ :: _, h => exact h.elim
  | [.inl _, .inl _], h => exact h.elim
  | .inl _ :: .inl _ :: .inl _ :: _, h => exact h.elim
  | .inl _ :: .inl _ :: .inr (.inl _) :: _, h => exact h.elim
theorem pz_b_spec {b : Bool} {P : Prop} (h : pz_b b P) : b = true ∧ P := by
  cases b with
  | true => exact ⟨rfl, h⟩
  | false => exact h.elim
theorem pz_all {v : pz_V} {st : List pz_V} (h : pz_cv v) (hs : ∀ w ∈ st, pz_cv w) : ∀ w ∈ v :: st, pz_cv w := List.forall_mem_cons.mpr ⟨h, hs⟩
theorem pz_tlm {v : pz_V} {st : List pz_V} (hs : ∀ w ∈ v :: st, pz_cv w) : pz_cv v ∧ ∀ w ∈ st, pz_cv w := List.forall_mem_cons.mp hs
theorem pz_wf_spec {cc : ByteArray} {pc : Nat} {I : Instr} {len nx : Nat} {tg : List Nat} (h : pz_wf cc (pc, I, len, nx, tg) = true) : decode cc pc = .ok (I, len) ∧ nx = pc + len ∧ pz_sl I len 0 = true ∧ pz_tok pc I tg = true ∧ pz_imm I = true := by
  unfold pz_wf at h
  simp only [Bool.and_eq_true, decide_eq_true_eq] at h
  exact ⟨h.1, h.2.1, h.2.2.1, h.2.2.2.1, h.2.2.2.2⟩
theorem pz_cu {M : pz_M} (h : ∀ a k : Nat, pz_c (M a k)) {a k : Nat} {v : Int} (hv : pz_c v) : ∀ b j : Nat, pz_c (pz_u M a k v b j) := by
  intro b j
  unfold pz_u
  split
  · exact hv
  · exact h b j
theorem pz_pf_ok {ci k : Nat} {C : String} {T : u_T} {N : Nat} (h : vwCl[ci]? = some (C, T, N)) (hk : k < N) : N = pz_nf ci ∧ (pz_pf ci k = 1 → (T k).2.2.1 = "I" ∧ (T k).2.2.2 = false ∧ pz_rk ci k = none) ∧ (pz_pf ci k = 2 → (T k).2.2.1 = "Z" ∧ (T k).2.2.2 = false ∧ pz_rk ci k = none) := by
  have hci : ci < 13 := (List.getElem?_eq_some_iff.mp h).1
  have hN : N = pz_nf ci := by
    match ci, h with
    | 0, h => cases h; rfl
    | 1, h => cases h; rfl
    | 2, h => cases h; rfl
    | 3, h => cases h; rfl
    | 4, h => cases h; rfl
    | 5, h => cases h; rfl
    | 6, h => cases h; rfl
    | 7, h => cases h; rfl
    | 8, h => cases h; rfl
    | 9, h => cases h; rfl
    | 10, h => cases h; rfl
    | 11, h => cases h; rfl
    | 12, h => cases h; rfl
    | k + 13, h => simp [vwCl] at h
  have h1 := pz_ckc_ok ci hci k (by rw [← hN]; exact hk)
  unfold pz_ckc at h1
  rw [h] at h1
  refine ⟨hN, fun e => ?_, fun e => ?_⟩
  · rw [e] at h1
    simp only [Bool.and_eq_true, decide_eq_true_eq] at h1
    exact h1.2
  · rw [e] at h1
    simp only [Bool.and_eq_true, decide_eq_true_eq] at h1
    exact h1.2
section PZS
variable {p : Program} {l : Launch} {e : Env} {R : Room} {s : State} {m : MethodId} {args : Array Value} {below : List Frame} {meth : Method} {c : Code} {cells slots : Nat} {Q : State → Prop}
variable {cc : ByteArray} {own : String} {nL : Nat} {D : va_G} {ad adV : Nat → Nat} {cy : Nat → ClassId} {A : Nat → Prop}
def pz_Ok (p : Program) (l : Launch) (e : Env) (R : Room) (s : State) (m : MethodId) (args : Array Value) (below : List Frame) (meth : Method) (c : Code) (cells slots : Nat) (Q : State → Prop) (nL : Nat) (D : va_G) (ad : Nat → Nat) (cy : Nat → ClassId) (A : Nat → Prop) : pz_F := fun pc lo st M =>
  ∀ (H : Heap) (locs : List Loc) (ls : Array Slot), va_P D vwCl (pz_ws ad cy M) H → va_S A s.heap H locs → (∀ a k : Nat, pz_c (M a k)) → pz_LV ad ls nL lo → (∀ v ∈ st, pz_cv v) →
    W p l e R s m args below meth c H locs cells slots Q (F0 m pc ls (st.map (pz_v ad)))
/-- the fixed things of a method's run -/
def pz_Y (p : Program) (s : State) (m : MethodId) (args : Array Value) (c : Code) (cc : ByteArray) (own : String) (nL : Nat) (D : va_G) (ad adV : Nat → Nat) (cy : Nat → ClassId) (A : Nat → Prop) : Prop :=
  p.tables.exec = Jvm.exec ∧ c.code = cc ∧ c.maxLocals = nL ∧ s.vm.findClass own = some m.cls ∧ (∀ w ∈ pz_tbl, w.before args s = true) ∧ pz_X D ad adV cy A s s.heap
def pz_flok (own : String) (q : Nat × Nat × Nat) : Prop := ∃ (C : String) (T : u_T) (N : Nat), vwCl[q.2.1]? = some (C, T, N) ∧ q.2.2 < N ∧ Cond.fieldLink own q.1 (T q.2.2).1 (T q.2.2).2.1 (T q.2.2).2.2.1 ∈ pz_tbl
def pz_ciok (own : String) (i : Nat) : pz_V → Prop
  | .inl x => Cond.constant own i (Int32.ofInt x) ∈ pz_tbl ∧ pz_c x
  | .inr (.inl x) => Cond.constantLong own i (Int64.ofInt x) ∈ pz_tbl ∧ pz_cl x
  | .inr (.inr q) => ∃ j tx, q = (99, 206 + j) ∧ pz_ss[j]? = some (own, i, tx)
end PZS
end
section
section PZT
variable {p : Program} {l : Launch} {e : Env} {R : Room} {s : State} {m : MethodId} {args : Array Value} {below : List Frame} {meth : Method} {c : Code} {cells slots : Nat} {Q : State → Prop}
variable {cc : ByteArray} {own : String} {nL : Nat} {D : va_G} {ad adV : Nat → Nat} {cy : Nat → ClassId} {A : Nat → Prop}
/-- a call at this place keeps the contract k -/
def pz_CR (p : Program) (l : Launch) (e : Env) (R : Room) (s : State) (m : MethodId) (args : Array Value) (below : List Frame) (meth : Method) (c : Code) (cells slots : Nat) (Q : State → Prop) (cc : ByteArray) (nL : Nat) (D : va_G) (ad : Nat → Nat) (cy : Nat → ClassId) (A : Nat → Prop) (I : Instr) (k : pz_C) : Prop :=
  ∀ (H : Heap) (locs : List Loc) (ls : Array Slot) (M : pz_M) (As rest : List pz_V) (pc : Nat), decode cc pc = .ok (I, 3) → va_P D vwCl (pz_ws ad cy M) H → va_S A s.heap H locs → (∀ a k : Nat, pz_c (M a k)) → (∀ v ∈ As, pz_cv v) → ls.size = nL → As.length = k.1 → pz_cs rest ≤ 8 → k.2.2.1 As M →
    (∀ (r : Option pz_V) (M' : pz_M) (H' : Heap) (locs' : List Loc), k.2.2.2 As M r M' → pz_rr k.2.1 r → va_P D vwCl (pz_ws ad cy M') H' → va_S A s.heap H' locs' → (∀ a k : Nat, pz_c (M' a k)) → W p l e R s m args below meth c H' locs' cells slots Q (F0 m (pc + 3) ls (r.toList.map (pz_v ad) ++ rest.map (pz_v ad)))) →
    W p l e R s m args below meth c H locs cells slots Q (F0 m pc ls ((As.reverse ++ rest).map (pz_v ad)))
def pz_rok (rz : Bool) (I : Instr) (r : Option pz_V) : Prop := (I = .ireturn ∧ ∃ x, r = some (.inl x) ∧ (rz = true → x = 0 ∨ x = 1)) ∨ (I = .lreturn ∧ ∃ x, r = some (.inr (.inl x))) ∨ (I = .areturn ∧ ∃ x, r = some (.inr (.inr x))) ∨ (I = .return_ ∧ r = none)
def pz_RT (p : Program) (l : Launch) (e : Env) (R : Room) (s : State) (m : MethodId) (args : Array Value) (below : List Frame) (meth : Method) (c : Code) (cells slots : Nat) (Q : State → Prop) (cc : ByteArray) (D : va_G) (ad : Nat → Nat) (cy : Nat → ClassId) (A : Nat → Prop) (Rt : Option pz_V → pz_M → Prop) (rz : Bool) : Prop :=
  ∀ (I : Instr) (r : Option pz_V) (pc : Nat) (H : Heap) (locs : List Loc) (ls : Array Slot) (M : pz_M), decode cc pc = .ok (I, 1) → pz_rok rz I r → (∀ v ∈ r, pz_cv v) → va_P D vwCl (pz_ws ad cy M) H → va_S A s.heap H locs → (∀ a k : Nat, pz_c (M a k)) → Rt r M →
    W p l e R s m args below meth c H locs cells slots Q (F0 m pc ls (r.toList.map (pz_v ad)))
theorem pz_LV1 {ls : Array Slot} {lo lo' : pz_L} {k : Nat} {v : pz_V} (hL : pz_LV ad ls nL lo) (hc : pz_cv v) (h3 : lo'.length = lo.length) (h4 : lo'[k]? = some (some v)) (h5 : ∀ (i : Nat) (w : pz_V), i ≠ k → lo'[i]? = some (some w) → lo[i]? = some (some w) ∧ ¬ (i + 1 = k ∧ pz_cat w = 2)) {ls' : Array Slot} (h : lv_has ls' nL ((k, pz_v ad v) :: (pz_pr ad lo).filter (fun q => !(q.1 == k) && !(q.1 + 1 == k && q.2.category == 2)))) : pz_LV ad ls' nL lo' := by
  refine pz_LV.of h (h3.trans hL.2.2.1) (fun i w hw => ?_)
  by_cases hi : i = k
  · subst hi
    rw [h4] at hw
    cases hw
    exact ⟨List.mem_cons_self, hc⟩
  · obtain ⟨q1, q2⟩ := h5 i w hi hw
    refine ⟨List.mem_cons_of_mem _ (List.mem_filter.mpr ⟨pz_pr_mem q1, ?_⟩), (hL.2.2.2 i w q1).2⟩
    simp only [pz_v_cat, Bool.and_eq_true, Bool.not_eq_true', beq_eq_false_iff_ne, ne_eq, Bool.and_eq_false_iff]
    refine ⟨hi, ?_⟩
    by_cases hz : i + 1 = k
    · exact Or.inr (fun z => q2 ⟨hz, z⟩)
    · exact Or.inl hz
theorem pz_LV2 {ls : Array Slot} {lo lo' : pz_L} {k : Nat} {v : pz_V} (hL : pz_LV ad ls nL lo) (hc : pz_cv v) (h3 : lo'.length = lo.length) (h4 : lo'[k]? = some (some v)) (h5 : ∀ (i : Nat) (w : pz_V), i ≠ k → lo'[i]? = some (some w) → lo[i]? = some (some w) ∧ i ≠ k + 1 ∧ ¬ (i + 1 = k ∧ pz_cat w = 2)) {ls' : Array Slot} (h : lv_has ls' nL ((k, pz_v ad v) :: (pz_pr ad lo).filter (fun q => !(q.1 == k) && (!(q.1 == k + 1) && !(q.1 + 1 == k && q.2.category == 2))))) : pz_LV ad ls' nL lo' := by
  refine pz_LV.of h (h3.trans hL.2.2.1) (fun i w hw => ?_)
  by_cases hi : i = k
  · subst hi
    rw [h4] at hw
    cases hw
    exact ⟨List.mem_cons_self, hc⟩
  · obtain ⟨q1, q0, q2⟩ := h5 i w hi hw
    refine ⟨List.mem_cons_of_mem _ (List.mem_filter.mpr ⟨pz_pr_mem q1, ?_⟩), (hL.2.2.2 i w q1).2⟩
    simp only [pz_v_cat, Bool.and_eq_true, Bool.not_eq_true', beq_eq_false_iff_ne, ne_eq, Bool.and_eq_false_iff]
    refine ⟨hi, q0, ?_⟩
    by_cases hz : i + 1 = k
    · exact Or.inr (fun z => q2 ⟨hz, z⟩)
    · exact Or.inl hz
theorem pz_lg {ls : Array Slot} {lo : pz_L} {k : Nat} {v : pz_V} (hL : pz_LV ad ls nL lo) (h : lo[k]? = some (some v)) : ls[k]? = some (.val (pz_v ad v)) ∧ pz_cv v := hL.2.2.2 k v h
theorem pz_pos {lo : pz_L} {k : Nat} {v : pz_V} (h : lo[k]? = some (some v)) : ∃ j : Nat, (pz_pr ad lo)[j]? = some (k, pz_v ad v) := by
  obtain ⟨j, hj⟩ := List.getElem?_of_mem (pz_pr_mem (ad := ad) h)
  exact ⟨j, hj⟩
theorem pz_cs_v (ad : Nat → Nat) : ∀ rest : List pz_V, ((rest.map (pz_v ad)).map fun v => v.category).sum = pz_cs rest
  | [] => rfl
  | v :: t => by
    simp only [List.map_cons, List.sum_cons, pz_v_cat, pz_cs]
    rw [← pz_cs_v ad t]

theorem ps_iconst (Y : pz_Y p s m args c cc own nL D ad adV cy A) {K : pz_F} (hK : ∀ pc lo st M, K pc lo st M → pz_Ok p l e R s m args below meth c cells slots Q nL D ad cy A pc lo st M) {fl : Nat → Option (Nat × Nat)} {ci : Nat → Option pz_V} {ct : Bool → Nat → Option pz_C} {Rt : Option pz_V → pz_M → Prop} {rz : Bool} {pc len nx : Nat} {tg : List Nat} {lo : pz_L} {st : List pz_V} {M : pz_M} {v : Int}  (hw : pz_wf cc (pc, .iconst v, len, nx, tg) = true) (h : pz_stp fl ci ct K Rt rz (.iconst v) nx tg lo st M) : pz_Ok p l e R s m args below meth c cells slots Q nL D ad cy A pc lo st M := by
  obtain ⟨hx, hb, hml, hown, hts, hX⟩ := Y
  obtain ⟨hd, hn, hsl, htk, him⟩ := pz_wf_spec hw
  subst hn
  have hl1 : len = 1 := of_decide_eq_true hsl
  subst hl1
  intro H locs ls hP hS hM hL hst
  simp only [pz_imm, Bool.and_eq_true, decide_eq_true_eq] at him
  exact lv_iconst hx hb hd rfl (hK _ _ _ _ h H locs ls hP hS hM hL (pz_all (show pz_c v from ⟨by have := him.1; omega, by have := him.2; omega⟩) hst))
theorem ps_bipush (Y : pz_Y p s m args c cc own nL D ad adV cy A) {K : pz_F} (hK : ∀ pc lo st M, K pc lo st M → pz_Ok p l e R s m args below meth c cells slots Q nL D ad cy A pc lo st M) {fl : Nat → Option (Nat × Nat)} {ci : Nat → Option pz_V} {ct : Bool → Nat → Option pz_C} {Rt : Option pz_V → pz_M → Prop} {rz : Bool} {pc len nx : Nat} {tg : List Nat} {lo : pz_L} {st : List pz_V} {M : pz_M} {v : Int}  (hw : pz_wf cc (pc, .bipush v, len, nx, tg) = true) (h : pz_stp fl ci ct K Rt rz (.bipush v) nx tg lo st M) : pz_Ok p l e R s m args below meth c cells slots Q nL D ad cy A pc lo st M := by
  obtain ⟨hx, hb, hml, hown, hts, hX⟩ := Y
  obtain ⟨hd, hn, hsl, htk, him⟩ := pz_wf_spec hw
  subst hn
  have hl1 : len = 2 := of_decide_eq_true hsl
  subst hl1
  intro H locs ls hP hS hM hL hst
  simp only [pz_imm, Bool.and_eq_true, decide_eq_true_eq] at him
  exact lv_bipush hx hb hd (pz_bip him.1 him.2) (hK _ _ _ _ h H locs ls hP hS hM hL (pz_all (show pz_c v from ⟨by have := him.1; omega, by have := him.2; omega⟩) hst))
theorem ps_sipush (Y : pz_Y p s m args c cc own nL D ad adV cy A) {K : pz_F} (hK : ∀ pc lo st M, K pc lo st M → pz_Ok p l e R s m args below meth c cells slots Q nL D ad cy A pc lo st M) {fl : Nat → Option (Nat × Nat)} {ci : Nat → Option pz_V} {ct : Bool → Nat → Option pz_C} {Rt : Option pz_V → pz_M → Prop} {rz : Bool} {pc len nx : Nat} {tg : List Nat} {lo : pz_L} {st : List pz_V} {M : pz_M} {v : Int}  (hw : pz_wf cc (pc, .sipush v, len, nx, tg) = true) (h : pz_stp fl ci ct K Rt rz (.sipush v) nx tg lo st M) : pz_Ok p l e R s m args below meth c cells slots Q nL D ad cy A pc lo st M := by
  obtain ⟨hx, hb, hml, hown, hts, hX⟩ := Y
  obtain ⟨hd, hn, hsl, htk, him⟩ := pz_wf_spec hw
  subst hn
  have hl1 : len = 3 := of_decide_eq_true hsl
  subst hl1
  intro H locs ls hP hS hM hL hst
  simp only [pz_imm, Bool.and_eq_true, decide_eq_true_eq] at him
  exact lv_sipush hx hb hd (pz_sip him.1 him.2) (hK _ _ _ _ h H locs ls hP hS hM hL (pz_all (show pz_c v from ⟨by have := him.1; omega, by have := him.2; omega⟩) hst))
theorem ps_lconst (Y : pz_Y p s m args c cc own nL D ad adV cy A) {K : pz_F} (hK : ∀ pc lo st M, K pc lo st M → pz_Ok p l e R s m args below meth c cells slots Q nL D ad cy A pc lo st M) {fl : Nat → Option (Nat × Nat)} {ci : Nat → Option pz_V} {ct : Bool → Nat → Option pz_C} {Rt : Option pz_V → pz_M → Prop} {rz : Bool} {pc len nx : Nat} {tg : List Nat} {lo : pz_L} {st : List pz_V} {M : pz_M} {v : Fin 2}  (hw : pz_wf cc (pc, .lconst v, len, nx, tg) = true) (h : pz_stp fl ci ct K Rt rz (.lconst v) nx tg lo st M) : pz_Ok p l e R s m args below meth c cells slots Q nL D ad cy A pc lo st M := by
  obtain ⟨hx, hb, hml, hown, hts, hX⟩ := Y
  obtain ⟨hd, hn, hsl, htk, him⟩ := pz_wf_spec hw
  subst hn
  have hl1 : len = 1 := of_decide_eq_true hsl
  subst hl1
  intro H locs ls hP hS hM hL hst
  have hv : Int64.ofNat (v : Nat) = Int64.ofInt ((v : Nat) : Int) := (Int64.ofInt_eq_ofNat).symm
  exact lv_lconst hx hb hd hv (hK _ _ _ _ h H locs ls hP hS hM hL (pz_all (show pz_cl ((v : Nat) : Int) from ⟨by omega, by have := v.isLt; omega⟩) hst))
theorem ps_ldc (Y : pz_Y p s m args c cc own nL D ad adV cy A) {K : pz_F} (hK : ∀ pc lo st M, K pc lo st M → pz_Ok p l e R s m args below meth c cells slots Q nL D ad cy A pc lo st M) {fl : Nat → Option (Nat × Nat)} {ci : Nat → Option pz_V} {ct : Bool → Nat → Option pz_C} {Rt : Option pz_V → pz_M → Prop} {rz : Bool} {pc len nx : Nat} {tg : List Nat} {lo : pz_L} {st : List pz_V} {M : pz_M} {i : Nat} (hci : ∀ i v, ci i = some v → pz_ciok own i v) (hw : pz_wf cc (pc, .ldc i, len, nx, tg) = true) (h : pz_stp fl ci ct K Rt rz (.ldc i) nx tg lo st M) : pz_Ok p l e R s m args below meth c cells slots Q nL D ad cy A pc lo st M := by
  obtain ⟨hx, hb, hml, hown, hts, hX⟩ := Y
  obtain ⟨hd, hn, hsl, htk, him⟩ := pz_wf_spec hw
  subst hn
  have hl1 : len = 2 := of_decide_eq_true hsl
  subst hl1
  intro H locs ls hP hS hM hL hst
  change (match ci i with | some (.inr (.inl _)) => False | some v => K _ lo (v :: st) M | none => False) at h
  cases hc : ci i with
  | none => rw [hc] at h; exact h.elim
  | some v =>
    rw [hc] at h
    have hk := hci i v hc
    match v, h, hk with
    | .inr (.inl x), h, _ => exact h.elim
    | .inl x, h, hk => exact lv_ldc hx hb hown (hts _ hk.1) hd (hK _ _ _ _ h H locs ls hP hS hM hL (pz_all hk.2 hst))
    | .inr (.inr q), h, hk =>
      obtain ⟨j, tx, rfl, hj⟩ := hk
      have hj25 : j < 25 := (List.getElem?_eq_some_iff.mp hj).1
      exact va_ldcS hx hb hown (hX.2.2.2.2.1 j _ hj) hd (hK _ _ _ _ h H locs ls hP hS hM hL (pz_all ⟨pz_kd_hi (by omega), (by show 206 + j < 231; omega)⟩ hst))
theorem ps_ldc_w (Y : pz_Y p s m args c cc own nL D ad adV cy A) {K : pz_F} (hK : ∀ pc lo st M, K pc lo st M → pz_Ok p l e R s m args below meth c cells slots Q nL D ad cy A pc lo st M) {fl : Nat → Option (Nat × Nat)} {ci : Nat → Option pz_V} {ct : Bool → Nat → Option pz_C} {Rt : Option pz_V → pz_M → Prop} {rz : Bool} {pc len nx : Nat} {tg : List Nat} {lo : pz_L} {st : List pz_V} {M : pz_M} {i : Nat} (hci : ∀ i v, ci i = some v → pz_ciok own i v) (hw : pz_wf cc (pc, .ldc_w i, len, nx, tg) = true) (h : pz_stp fl ci ct K Rt rz (.ldc_w i) nx tg lo st M) : pz_Ok p l e R s m args below meth c cells slots Q nL D ad cy A pc lo st M := by
  obtain ⟨hx, hb, hml, hown, hts, hX⟩ := Y
  obtain ⟨hd, hn, hsl, htk, him⟩ := pz_wf_spec hw
  subst hn
  have hl1 : len = 3 := of_decide_eq_true hsl
  subst hl1
  intro H locs ls hP hS hM hL hst
  change (match ci i with | some (.inl v) => K _ lo (.inl v :: st) M | _ => False) at h
  cases hc : ci i with
  | none => rw [hc] at h; exact h.elim
  | some v =>
    rw [hc] at h
    have hk := hci i v hc
    match v, h, hk with
    | .inr _, h, _ => exact h.elim
    | .inl x, h, hk => exact lv_ldcw hx hb hown (hts _ hk.1) hd (hK _ _ _ _ h H locs ls hP hS hM hL (pz_all hk.2 hst))
theorem ps_ldc2_w (Y : pz_Y p s m args c cc own nL D ad adV cy A) {K : pz_F} (hK : ∀ pc lo st M, K pc lo st M → pz_Ok p l e R s m args below meth c cells slots Q nL D ad cy A pc lo st M) {fl : Nat → Option (Nat × Nat)} {ci : Nat → Option pz_V} {ct : Bool → Nat → Option pz_C} {Rt : Option pz_V → pz_M → Prop} {rz : Bool} {pc len nx : Nat} {tg : List Nat} {lo : pz_L} {st : List pz_V} {M : pz_M} {i : Nat} (hci : ∀ i v, ci i = some v → pz_ciok own i v) (hw : pz_wf cc (pc, .ldc2_w i, len, nx, tg) = true) (h : pz_stp fl ci ct K Rt rz (.ldc2_w i) nx tg lo st M) : pz_Ok p l e R s m args below meth c cells slots Q nL D ad cy A pc lo st M := by
  obtain ⟨hx, hb, hml, hown, hts, hX⟩ := Y
  obtain ⟨hd, hn, hsl, htk, him⟩ := pz_wf_spec hw
  subst hn
  have hl1 : len = 3 := of_decide_eq_true hsl
  subst hl1
  intro H locs ls hP hS hM hL hst
  change (match ci i with | some (.inr (.inl v)) => K _ lo (.inr (.inl v) :: st) M | _ => False) at h
  cases hc : ci i with
  | none => rw [hc] at h; exact h.elim
  | some v =>
    rw [hc] at h
    have hk := hci i v hc
    match v, h, hk with
    | .inl _, h, _ => exact h.elim
    | .inr (.inr _), h, _ => exact h.elim
    | .inr (.inl x), h, hk => exact lv_ldc2 hx hb hown (hts _ hk.1) hd (hK _ _ _ _ h H locs ls hP hS hM hL (pz_all hk.2 hst))
theorem ps_iload (Y : pz_Y p s m args c cc own nL D ad adV cy A) {K : pz_F} (hK : ∀ pc lo st M, K pc lo st M → pz_Ok p l e R s m args below meth c cells slots Q nL D ad cy A pc lo st M) {fl : Nat → Option (Nat × Nat)} {ci : Nat → Option pz_V} {ct : Bool → Nat → Option pz_C} {Rt : Option pz_V → pz_M → Prop} {rz : Bool} {pc len nx : Nat} {tg : List Nat} {lo : pz_L} {st : List pz_V} {M : pz_M} {k : Nat}  (hw : pz_wf cc (pc, .iload k, len, nx, tg) = true) (h : pz_stp fl ci ct K Rt rz (.iload k) nx tg lo st M) : pz_Ok p l e R s m args below meth c cells slots Q nL D ad cy A pc lo st M := by
  obtain ⟨hx, hb, hml, hown, hts, hX⟩ := Y
  obtain ⟨hd, hn, hsl, htk, him⟩ := pz_wf_spec hw
  subst hn
  have hl1 : len = 2 := of_decide_eq_true hsl
  subst hl1
  intro H locs ls hP hS hM hL hst
  obtain ⟨v, hv, h⟩ := pz_get_spec _ _ _ h
  obtain ⟨g1, g2⟩ := pz_lg hL hv
  match v, h, g1, g2 with
  | .inr _, h, _, _ => exact h.elim
  | .inl x, h, g1, g2 => exact lv_iload hx hb hd g1 (hK _ _ _ _ h H locs ls hP hS hM hL (pz_all g2 hst))
theorem ps_iload_n (Y : pz_Y p s m args c cc own nL D ad adV cy A) {K : pz_F} (hK : ∀ pc lo st M, K pc lo st M → pz_Ok p l e R s m args below meth c cells slots Q nL D ad cy A pc lo st M) {fl : Nat → Option (Nat × Nat)} {ci : Nat → Option pz_V} {ct : Bool → Nat → Option pz_C} {Rt : Option pz_V → pz_M → Prop} {rz : Bool} {pc len nx : Nat} {tg : List Nat} {lo : pz_L} {st : List pz_V} {M : pz_M} {k : Fin 4}  (hw : pz_wf cc (pc, .iload_n k, len, nx, tg) = true) (h : pz_stp fl ci ct K Rt rz (.iload_n k) nx tg lo st M) : pz_Ok p l e R s m args below meth c cells slots Q nL D ad cy A pc lo st M := by
  obtain ⟨hx, hb, hml, hown, hts, hX⟩ := Y
  obtain ⟨hd, hn, hsl, htk, him⟩ := pz_wf_spec hw
  subst hn
  have hl1 : len = 1 := of_decide_eq_true hsl
  subst hl1
  intro H locs ls hP hS hM hL hst
  obtain ⟨v, hv, h⟩ := pz_get_spec _ _ _ h
  obtain ⟨g1, g2⟩ := pz_lg hL hv
  match v, h, g1, g2 with
  | .inr _, h, _, _ => exact h.elim
  | .inl x, h, g1, g2 => exact lv_iload_n hx hb hd rfl g1 (hK _ _ _ _ h H locs ls hP hS hM hL (pz_all g2 hst))
theorem ps_lload (Y : pz_Y p s m args c cc own nL D ad adV cy A) {K : pz_F} (hK : ∀ pc lo st M, K pc lo st M → pz_Ok p l e R s m args below meth c cells slots Q nL D ad cy A pc lo st M) {fl : Nat → Option (Nat × Nat)} {ci : Nat → Option pz_V} {ct : Bool → Nat → Option pz_C} {Rt : Option pz_V → pz_M → Prop} {rz : Bool} {pc len nx : Nat} {tg : List Nat} {lo : pz_L} {st : List pz_V} {M : pz_M} {k : Nat}  (hw : pz_wf cc (pc, .lload k, len, nx, tg) = true) (h : pz_stp fl ci ct K Rt rz (.lload k) nx tg lo st M) : pz_Ok p l e R s m args below meth c cells slots Q nL D ad cy A pc lo st M := by
  obtain ⟨hx, hb, hml, hown, hts, hX⟩ := Y
  obtain ⟨hd, hn, hsl, htk, him⟩ := pz_wf_spec hw
  subst hn
  have hl1 : len = 2 := of_decide_eq_true hsl
  subst hl1
  intro H locs ls hP hS hM hL hst
  obtain ⟨v, hv, h⟩ := pz_get_spec _ _ _ h
  obtain ⟨g1, g2⟩ := pz_lg hL hv
  match v, h, g1, g2 with
  | .inl _, h, _, _ => exact h.elim
  | .inr (.inr _), h, _, _ => exact h.elim
  | .inr (.inl x), h, g1, g2 => exact lv_lload hx hb hd g1 (hK _ _ _ _ h H locs ls hP hS hM hL (pz_all g2 hst))
theorem ps_lload_n (Y : pz_Y p s m args c cc own nL D ad adV cy A) {K : pz_F} (hK : ∀ pc lo st M, K pc lo st M → pz_Ok p l e R s m args below meth c cells slots Q nL D ad cy A pc lo st M) {fl : Nat → Option (Nat × Nat)} {ci : Nat → Option pz_V} {ct : Bool → Nat → Option pz_C} {Rt : Option pz_V → pz_M → Prop} {rz : Bool} {pc len nx : Nat} {tg : List Nat} {lo : pz_L} {st : List pz_V} {M : pz_M} {k : Fin 4}  (hw : pz_wf cc (pc, .lload_n k, len, nx, tg) = true) (h : pz_stp fl ci ct K Rt rz (.lload_n k) nx tg lo st M) : pz_Ok p l e R s m args below meth c cells slots Q nL D ad cy A pc lo st M := by
  obtain ⟨hx, hb, hml, hown, hts, hX⟩ := Y
  obtain ⟨hd, hn, hsl, htk, him⟩ := pz_wf_spec hw
  subst hn
  have hl1 : len = 1 := of_decide_eq_true hsl
  subst hl1
  intro H locs ls hP hS hM hL hst
  obtain ⟨v, hv, h⟩ := pz_get_spec _ _ _ h
  obtain ⟨g1, g2⟩ := pz_lg hL hv
  match v, h, g1, g2 with
  | .inl _, h, _, _ => exact h.elim
  | .inr (.inr _), h, _, _ => exact h.elim
  | .inr (.inl x), h, g1, g2 => exact lv_lload_n hx hb hd rfl g1 (hK _ _ _ _ h H locs ls hP hS hM hL (pz_all g2 hst))
theorem ps_aload (Y : pz_Y p s m args c cc own nL D ad adV cy A) {K : pz_F} (hK : ∀ pc lo st M, K pc lo st M → pz_Ok p l e R s m args below meth c cells slots Q nL D ad cy A pc lo st M) {fl : Nat → Option (Nat × Nat)} {ci : Nat → Option pz_V} {ct : Bool → Nat → Option pz_C} {Rt : Option pz_V → pz_M → Prop} {rz : Bool} {pc len nx : Nat} {tg : List Nat} {lo : pz_L} {st : List pz_V} {M : pz_M} {k : Nat}  (hw : pz_wf cc (pc, .aload k, len, nx, tg) = true) (h : pz_stp fl ci ct K Rt rz (.aload k) nx tg lo st M) : pz_Ok p l e R s m args below meth c cells slots Q nL D ad cy A pc lo st M := by
  obtain ⟨hx, hb, hml, hown, hts, hX⟩ := Y
  obtain ⟨hd, hn, hsl, htk, him⟩ := pz_wf_spec hw
  subst hn
  have hl1 : len = 2 := of_decide_eq_true hsl
  subst hl1
  intro H locs ls hP hS hM hL hst
  obtain ⟨v, hv, h⟩ := pz_get_spec _ _ _ h
  obtain ⟨g1, g2⟩ := pz_lg hL hv
  match v, h, g1, g2 with
  | .inl _, h, _, _ => exact h.elim
  | .inr (.inl _), h, _, _ => exact h.elim
  | .inr (.inr x), h, g1, g2 => exact lv_aload hx hb hd g1 (hK _ _ _ _ h H locs ls hP hS hM hL (pz_all g2 hst))
theorem ps_aload_n (Y : pz_Y p s m args c cc own nL D ad adV cy A) {K : pz_F} (hK : ∀ pc lo st M, K pc lo st M → pz_Ok p l e R s m args below meth c cells slots Q nL D ad cy A pc lo st M) {fl : Nat → Option (Nat × Nat)} {ci : Nat → Option pz_V} {ct : Bool → Nat → Option pz_C} {Rt : Option pz_V → pz_M → Prop} {rz : Bool} {pc len nx : Nat} {tg : List Nat} {lo : pz_L} {st : List pz_V} {M : pz_M} {k : Fin 4}  (hw : pz_wf cc (pc, .aload_n k, len, nx, tg) = true) (h : pz_stp fl ci ct K Rt rz (.aload_n k) nx tg lo st M) : pz_Ok p l e R s m args below meth c cells slots Q nL D ad cy A pc lo st M := by
  obtain ⟨hx, hb, hml, hown, hts, hX⟩ := Y
  obtain ⟨hd, hn, hsl, htk, him⟩ := pz_wf_spec hw
  subst hn
  have hl1 : len = 1 := of_decide_eq_true hsl
  subst hl1
  intro H locs ls hP hS hM hL hst
  obtain ⟨v, hv, h⟩ := pz_get_spec _ _ _ h
  obtain ⟨g1, g2⟩ := pz_lg hL hv
  match v, h, g1, g2 with
  | .inl _, h, _, _ => exact h.elim
  | .inr (.inl _), h, _, _ => exact h.elim
  | .inr (.inr x), h, g1, g2 => exact lv_aload_n hx hb hd rfl g1 (hK _ _ _ _ h H locs ls hP hS hM hL (pz_all g2 hst))
theorem ps_istore (Y : pz_Y p s m args c cc own nL D ad adV cy A) {K : pz_F} (hK : ∀ pc lo st M, K pc lo st M → pz_Ok p l e R s m args below meth c cells slots Q nL D ad cy A pc lo st M) {fl : Nat → Option (Nat × Nat)} {ci : Nat → Option pz_V} {ct : Bool → Nat → Option pz_C} {Rt : Option pz_V → pz_M → Prop} {rz : Bool} {pc len nx : Nat} {tg : List Nat} {lo : pz_L} {st : List pz_V} {M : pz_M} {k : Nat}  (hw : pz_wf cc (pc, .istore k, len, nx, tg) = true) (h : pz_stp fl ci ct K Rt rz (.istore k) nx tg lo st M) : pz_Ok p l e R s m args below meth c cells slots Q nL D ad cy A pc lo st M := by
  obtain ⟨hx, hb, hml, hown, hts, hX⟩ := Y
  obtain ⟨hd, hn, hsl, htk, him⟩ := pz_wf_spec hw
  subst hn
  have hl1 : len = 2 := of_decide_eq_true hsl
  subst hl1
  intro H locs ls hP hS hM hL hst
  obtain ⟨x, r, rfl, h⟩ := pz_1_spec h
  obtain ⟨lo', h1, h2, h3, h4, h5⟩ := pz_set_spec _ _ _ _ h
  obtain ⟨c1, c2⟩ := pz_tlm hst
  exact lv_istore hx hb hd hL.has (by have := hL.2.2.1; omega) rfl (fun ls' hl' => hK _ _ _ _ h1 H locs ls' hP hS hM (pz_LV1 hL c1 h3 h4 h5 hl') c2)
theorem ps_istore_n (Y : pz_Y p s m args c cc own nL D ad adV cy A) {K : pz_F} (hK : ∀ pc lo st M, K pc lo st M → pz_Ok p l e R s m args below meth c cells slots Q nL D ad cy A pc lo st M) {fl : Nat → Option (Nat × Nat)} {ci : Nat → Option pz_V} {ct : Bool → Nat → Option pz_C} {Rt : Option pz_V → pz_M → Prop} {rz : Bool} {pc len nx : Nat} {tg : List Nat} {lo : pz_L} {st : List pz_V} {M : pz_M} {k : Fin 4}  (hw : pz_wf cc (pc, .istore_n k, len, nx, tg) = true) (h : pz_stp fl ci ct K Rt rz (.istore_n k) nx tg lo st M) : pz_Ok p l e R s m args below meth c cells slots Q nL D ad cy A pc lo st M := by
  obtain ⟨hx, hb, hml, hown, hts, hX⟩ := Y
  obtain ⟨hd, hn, hsl, htk, him⟩ := pz_wf_spec hw
  subst hn
  have hl1 : len = 1 := of_decide_eq_true hsl
  subst hl1
  intro H locs ls hP hS hM hL hst
  obtain ⟨x, r, rfl, h⟩ := pz_1_spec h
  obtain ⟨lo', h1, h2, h3, h4, h5⟩ := pz_set_spec _ _ _ _ h
  obtain ⟨c1, c2⟩ := pz_tlm hst
  exact lv_istore_n hx hb hd rfl hL.has (by have := hL.2.2.1; omega) rfl (fun ls' hl' => hK _ _ _ _ h1 H locs ls' hP hS hM (pz_LV1 hL c1 h3 h4 h5 hl') c2)
theorem ps_lstore (Y : pz_Y p s m args c cc own nL D ad adV cy A) {K : pz_F} (hK : ∀ pc lo st M, K pc lo st M → pz_Ok p l e R s m args below meth c cells slots Q nL D ad cy A pc lo st M) {fl : Nat → Option (Nat × Nat)} {ci : Nat → Option pz_V} {ct : Bool → Nat → Option pz_C} {Rt : Option pz_V → pz_M → Prop} {rz : Bool} {pc len nx : Nat} {tg : List Nat} {lo : pz_L} {st : List pz_V} {M : pz_M} {k : Nat}  (hw : pz_wf cc (pc, .lstore k, len, nx, tg) = true) (h : pz_stp fl ci ct K Rt rz (.lstore k) nx tg lo st M) : pz_Ok p l e R s m args below meth c cells slots Q nL D ad cy A pc lo st M := by
  obtain ⟨hx, hb, hml, hown, hts, hX⟩ := Y
  obtain ⟨hd, hn, hsl, htk, him⟩ := pz_wf_spec hw
  subst hn
  have hl1 : len = 2 := of_decide_eq_true hsl
  subst hl1
  intro H locs ls hP hS hM hL hst
  obtain ⟨x, r, rfl, h⟩ := pz_l1_spec h
  obtain ⟨lo', h1, h2, h3, h4, h5⟩ := pz_setl_spec _ _ _ _ h
  obtain ⟨c1, c2⟩ := pz_tlm hst
  exact lv_lstore hx hb hd hL.has (by have := hL.2.2.1; omega) rfl (fun ls' hl' => hK _ _ _ _ h1 H locs ls' hP hS hM (pz_LV2 hL c1 h3 h4 h5 hl') c2)
theorem ps_lstore_n (Y : pz_Y p s m args c cc own nL D ad adV cy A) {K : pz_F} (hK : ∀ pc lo st M, K pc lo st M → pz_Ok p l e R s m args below meth c cells slots Q nL D ad cy A pc lo st M) {fl : Nat → Option (Nat × Nat)} {ci : Nat → Option pz_V} {ct : Bool → Nat → Option pz_C} {Rt : Option pz_V → pz_M → Prop} {rz : Bool} {pc len nx : Nat} {tg : List Nat} {lo : pz_L} {st : List pz_V} {M : pz_M} {k : Fin 4}  (hw : pz_wf cc (pc, .lstore_n k, len, nx, tg) = true) (h : pz_stp fl ci ct K Rt rz (.lstore_n k) nx tg lo st M) : pz_Ok p l e R s m args below meth c cells slots Q nL D ad cy A pc lo st M := by
  obtain ⟨hx, hb, hml, hown, hts, hX⟩ := Y
  obtain ⟨hd, hn, hsl, htk, him⟩ := pz_wf_spec hw
  subst hn
  have hl1 : len = 1 := of_decide_eq_true hsl
  subst hl1
  intro H locs ls hP hS hM hL hst
  obtain ⟨x, r, rfl, h⟩ := pz_l1_spec h
  obtain ⟨lo', h1, h2, h3, h4, h5⟩ := pz_setl_spec _ _ _ _ h
  obtain ⟨c1, c2⟩ := pz_tlm hst
  exact lv_lstore_n hx hb hd rfl hL.has (by have := hL.2.2.1; omega) rfl (fun ls' hl' => hK _ _ _ _ h1 H locs ls' hP hS hM (pz_LV2 hL c1 h3 h4 h5 hl') c2)
theorem ps_astore (Y : pz_Y p s m args c cc own nL D ad adV cy A) {K : pz_F} (hK : ∀ pc lo st M, K pc lo st M → pz_Ok p l e R s m args below meth c cells slots Q nL D ad cy A pc lo st M) {fl : Nat → Option (Nat × Nat)} {ci : Nat → Option pz_V} {ct : Bool → Nat → Option pz_C} {Rt : Option pz_V → pz_M → Prop} {rz : Bool} {pc len nx : Nat} {tg : List Nat} {lo : pz_L} {st : List pz_V} {M : pz_M} {k : Nat}  (hw : pz_wf cc (pc, .astore k, len, nx, tg) = true) (h : pz_stp fl ci ct K Rt rz (.astore k) nx tg lo st M) : pz_Ok p l e R s m args below meth c cells slots Q nL D ad cy A pc lo st M := by
  obtain ⟨hx, hb, hml, hown, hts, hX⟩ := Y
  obtain ⟨hd, hn, hsl, htk, him⟩ := pz_wf_spec hw
  subst hn
  have hl1 : len = 2 := of_decide_eq_true hsl
  subst hl1
  intro H locs ls hP hS hM hL hst
  obtain ⟨kd, a, r, rfl, h⟩ := pz_r_spec h
  obtain ⟨lo', h1, h2, h3, h4, h5⟩ := pz_set_spec _ _ _ _ h
  obtain ⟨c1, c2⟩ := pz_tlm hst
  exact lv_astore hx hb hd hL.has (by have := hL.2.2.1; omega) rfl (fun ls' hl' => hK _ _ _ _ h1 H locs ls' hP hS hM (pz_LV1 hL c1 h3 h4 h5 hl') c2)
theorem ps_astore_n (Y : pz_Y p s m args c cc own nL D ad adV cy A) {K : pz_F} (hK : ∀ pc lo st M, K pc lo st M → pz_Ok p l e R s m args below meth c cells slots Q nL D ad cy A pc lo st M) {fl : Nat → Option (Nat × Nat)} {ci : Nat → Option pz_V} {ct : Bool → Nat → Option pz_C} {Rt : Option pz_V → pz_M → Prop} {rz : Bool} {pc len nx : Nat} {tg : List Nat} {lo : pz_L} {st : List pz_V} {M : pz_M} {k : Fin 4}  (hw : pz_wf cc (pc, .astore_n k, len, nx, tg) = true) (h : pz_stp fl ci ct K Rt rz (.astore_n k) nx tg lo st M) : pz_Ok p l e R s m args below meth c cells slots Q nL D ad cy A pc lo st M := by
  obtain ⟨hx, hb, hml, hown, hts, hX⟩ := Y
  obtain ⟨hd, hn, hsl, htk, him⟩ := pz_wf_spec hw
  subst hn
  have hl1 : len = 1 := of_decide_eq_true hsl
  subst hl1
  intro H locs ls hP hS hM hL hst
  obtain ⟨kd, a, r, rfl, h⟩ := pz_r_spec h
  obtain ⟨lo', h1, h2, h3, h4, h5⟩ := pz_set_spec _ _ _ _ h
  obtain ⟨c1, c2⟩ := pz_tlm hst
  exact lv_astore_n hx hb hd rfl hL.has (by have := hL.2.2.1; omega) rfl (fun ls' hl' => hK _ _ _ _ h1 H locs ls' hP hS hM (pz_LV1 hL c1 h3 h4 h5 hl') c2)
theorem ps_iinc (Y : pz_Y p s m args c cc own nL D ad adV cy A) {K : pz_F} (hK : ∀ pc lo st M, K pc lo st M → pz_Ok p l e R s m args below meth c cells slots Q nL D ad cy A pc lo st M) {fl : Nat → Option (Nat × Nat)} {ci : Nat → Option pz_V} {ct : Bool → Nat → Option pz_C} {Rt : Option pz_V → pz_M → Prop} {rz : Bool} {pc len nx : Nat} {tg : List Nat} {lo : pz_L} {st : List pz_V} {M : pz_M} {k : Nat} {n : Int}  (hw : pz_wf cc (pc, .iinc k n, len, nx, tg) = true) (h : pz_stp fl ci ct K Rt rz (.iinc k n) nx tg lo st M) : pz_Ok p l e R s m args below meth c cells slots Q nL D ad cy A pc lo st M := by
  obtain ⟨hx, hb, hml, hown, hts, hX⟩ := Y
  obtain ⟨hd, hn, hsl, htk, him⟩ := pz_wf_spec hw
  subst hn
  have hl1 : len = 3 := of_decide_eq_true hsl
  subst hl1
  intro H locs ls hP hS hM hL hst
  obtain ⟨v, hv, h⟩ := pz_get_spec _ _ _ h
  obtain ⟨g1, g2⟩ := pz_lg hL hv
  match v, hv, h, g1, g2 with
  | .inr _, _, h, _, _ => exact h.elim
  | .inl x, hv, h, g1, g2 =>
    have h := h (pz_w (x + n)) rfl (pz_wc _).1 (pz_wc _).2
    obtain ⟨lo', h1, h2, h3, h4, h5⟩ := pz_set_spec _ _ _ _ h
    obtain ⟨j, hj⟩ := pz_pos (ad := ad) hv
    exact lv_iinc hx hb hd hL.has hj (pz_add x n) (by have := hL.2.2.1; omega) rfl (fun ls' hl' => hK _ _ _ _ h1 H locs ls' hP hS hM (pz_LV1 hL (show pz_cv (.inl (pz_w (x + n))) from pz_wc _) h3 h4 h5 hl') hst)
theorem ps_iadd (Y : pz_Y p s m args c cc own nL D ad adV cy A) {K : pz_F} (hK : ∀ pc lo st M, K pc lo st M → pz_Ok p l e R s m args below meth c cells slots Q nL D ad cy A pc lo st M) {fl : Nat → Option (Nat × Nat)} {ci : Nat → Option pz_V} {ct : Bool → Nat → Option pz_C} {Rt : Option pz_V → pz_M → Prop} {rz : Bool} {pc len nx : Nat} {tg : List Nat} {lo : pz_L} {st : List pz_V} {M : pz_M}   (hw : pz_wf cc (pc, .iadd, len, nx, tg) = true) (h : pz_stp fl ci ct K Rt rz (.iadd) nx tg lo st M) : pz_Ok p l e R s m args below meth c cells slots Q nL D ad cy A pc lo st M := by
  obtain ⟨hx, hb, hml, hown, hts, hX⟩ := Y
  obtain ⟨hd, hn, hsl, htk, him⟩ := pz_wf_spec hw
  subst hn
  have hl1 : len = 1 := of_decide_eq_true hsl
  subst hl1
  intro H locs ls hP hS hM hL hst
  obtain ⟨x, y, r, rfl, h⟩ := pz_2_spec h
  obtain ⟨cy1, c2⟩ := pz_tlm hst
  obtain ⟨cx1, c3⟩ := pz_tlm c2
  have h := h (pz_w (x + y)) rfl (pz_wc _).1 (pz_wc _).2
  refine lv_iadd hx hb hd ?_
  rw [pz_add]
  exact hK _ _ _ _ h H locs ls hP hS hM hL (pz_all (pz_wc _) c3)
theorem ps_isub (Y : pz_Y p s m args c cc own nL D ad adV cy A) {K : pz_F} (hK : ∀ pc lo st M, K pc lo st M → pz_Ok p l e R s m args below meth c cells slots Q nL D ad cy A pc lo st M) {fl : Nat → Option (Nat × Nat)} {ci : Nat → Option pz_V} {ct : Bool → Nat → Option pz_C} {Rt : Option pz_V → pz_M → Prop} {rz : Bool} {pc len nx : Nat} {tg : List Nat} {lo : pz_L} {st : List pz_V} {M : pz_M}   (hw : pz_wf cc (pc, .isub, len, nx, tg) = true) (h : pz_stp fl ci ct K Rt rz (.isub) nx tg lo st M) : pz_Ok p l e R s m args below meth c cells slots Q nL D ad cy A pc lo st M := by
  obtain ⟨hx, hb, hml, hown, hts, hX⟩ := Y
  obtain ⟨hd, hn, hsl, htk, him⟩ := pz_wf_spec hw
  subst hn
  have hl1 : len = 1 := of_decide_eq_true hsl
  subst hl1
  intro H locs ls hP hS hM hL hst
  obtain ⟨x, y, r, rfl, h⟩ := pz_2_spec h
  obtain ⟨cy1, c2⟩ := pz_tlm hst
  obtain ⟨cx1, c3⟩ := pz_tlm c2
  have h := h (pz_w (x - y)) rfl (pz_wc _).1 (pz_wc _).2
  refine lv_isub hx hb hd ?_
  rw [pz_sub]
  exact hK _ _ _ _ h H locs ls hP hS hM hL (pz_all (pz_wc _) c3)
theorem ps_imul (Y : pz_Y p s m args c cc own nL D ad adV cy A) {K : pz_F} (hK : ∀ pc lo st M, K pc lo st M → pz_Ok p l e R s m args below meth c cells slots Q nL D ad cy A pc lo st M) {fl : Nat → Option (Nat × Nat)} {ci : Nat → Option pz_V} {ct : Bool → Nat → Option pz_C} {Rt : Option pz_V → pz_M → Prop} {rz : Bool} {pc len nx : Nat} {tg : List Nat} {lo : pz_L} {st : List pz_V} {M : pz_M}   (hw : pz_wf cc (pc, .imul, len, nx, tg) = true) (h : pz_stp fl ci ct K Rt rz (.imul) nx tg lo st M) : pz_Ok p l e R s m args below meth c cells slots Q nL D ad cy A pc lo st M := by
  obtain ⟨hx, hb, hml, hown, hts, hX⟩ := Y
  obtain ⟨hd, hn, hsl, htk, him⟩ := pz_wf_spec hw
  subst hn
  have hl1 : len = 1 := of_decide_eq_true hsl
  subst hl1
  intro H locs ls hP hS hM hL hst
  obtain ⟨x, y, r, rfl, h⟩ := pz_2_spec h
  obtain ⟨cy1, c2⟩ := pz_tlm hst
  obtain ⟨cx1, c3⟩ := pz_tlm c2
  have h := h (pz_w (x * y)) rfl (pz_wc _).1 (pz_wc _).2
  refine lv_imul hx hb hd ?_
  rw [pz_mul]
  exact hK _ _ _ _ h H locs ls hP hS hM hL (pz_all (pz_wc _) c3)
theorem ps_idiv (Y : pz_Y p s m args c cc own nL D ad adV cy A) {K : pz_F} (hK : ∀ pc lo st M, K pc lo st M → pz_Ok p l e R s m args below meth c cells slots Q nL D ad cy A pc lo st M) {fl : Nat → Option (Nat × Nat)} {ci : Nat → Option pz_V} {ct : Bool → Nat → Option pz_C} {Rt : Option pz_V → pz_M → Prop} {rz : Bool} {pc len nx : Nat} {tg : List Nat} {lo : pz_L} {st : List pz_V} {M : pz_M}   (hw : pz_wf cc (pc, .idiv, len, nx, tg) = true) (h : pz_stp fl ci ct K Rt rz (.idiv) nx tg lo st M) : pz_Ok p l e R s m args below meth c cells slots Q nL D ad cy A pc lo st M := by
  obtain ⟨hx, hb, hml, hown, hts, hX⟩ := Y
  obtain ⟨hd, hn, hsl, htk, him⟩ := pz_wf_spec hw
  subst hn
  have hl1 : len = 1 := of_decide_eq_true hsl
  subst hl1
  intro H locs ls hP hS hM hL hst
  obtain ⟨x, y, r, rfl, h⟩ := pz_2_spec h
  obtain ⟨cy1, c2⟩ := pz_tlm hst
  obtain ⟨cx1, c3⟩ := pz_tlm c2
  have h2 := h.2 (pz_w (x.tdiv y)) rfl (pz_wc _).1 (pz_wc _).2
  refine lv_idiv hx hb hd (pz_ne0 cy1 h.1) ?_
  rw [pz_div cx1 cy1]
  exact hK _ _ _ _ h2 H locs ls hP hS hM hL (pz_all (pz_wc _) c3)
theorem ps_irem (Y : pz_Y p s m args c cc own nL D ad adV cy A) {K : pz_F} (hK : ∀ pc lo st M, K pc lo st M → pz_Ok p l e R s m args below meth c cells slots Q nL D ad cy A pc lo st M) {fl : Nat → Option (Nat × Nat)} {ci : Nat → Option pz_V} {ct : Bool → Nat → Option pz_C} {Rt : Option pz_V → pz_M → Prop} {rz : Bool} {pc len nx : Nat} {tg : List Nat} {lo : pz_L} {st : List pz_V} {M : pz_M}   (hw : pz_wf cc (pc, .irem, len, nx, tg) = true) (h : pz_stp fl ci ct K Rt rz (.irem) nx tg lo st M) : pz_Ok p l e R s m args below meth c cells slots Q nL D ad cy A pc lo st M := by
  obtain ⟨hx, hb, hml, hown, hts, hX⟩ := Y
  obtain ⟨hd, hn, hsl, htk, him⟩ := pz_wf_spec hw
  subst hn
  have hl1 : len = 1 := of_decide_eq_true hsl
  subst hl1
  intro H locs ls hP hS hM hL hst
  obtain ⟨x, y, r, rfl, h⟩ := pz_2_spec h
  obtain ⟨cy1, c2⟩ := pz_tlm hst
  obtain ⟨cx1, c3⟩ := pz_tlm c2
  have h2 := h.2 (pz_w (x.tmod y)) rfl (pz_wc _).1 (pz_wc _).2
  refine lv_irem hx hb hd (pz_ne0 cy1 h.1) ?_
  rw [pz_rem cx1 cy1]
  exact hK _ _ _ _ h2 H locs ls hP hS hM hL (pz_all (pz_wc _) c3)
theorem ps_iand (Y : pz_Y p s m args c cc own nL D ad adV cy A) {K : pz_F} (hK : ∀ pc lo st M, K pc lo st M → pz_Ok p l e R s m args below meth c cells slots Q nL D ad cy A pc lo st M) {fl : Nat → Option (Nat × Nat)} {ci : Nat → Option pz_V} {ct : Bool → Nat → Option pz_C} {Rt : Option pz_V → pz_M → Prop} {rz : Bool} {pc len nx : Nat} {tg : List Nat} {lo : pz_L} {st : List pz_V} {M : pz_M}   (hw : pz_wf cc (pc, .iand, len, nx, tg) = true) (h : pz_stp fl ci ct K Rt rz (.iand) nx tg lo st M) : pz_Ok p l e R s m args below meth c cells slots Q nL D ad cy A pc lo st M := by
  obtain ⟨hx, hb, hml, hown, hts, hX⟩ := Y
  obtain ⟨hd, hn, hsl, htk, him⟩ := pz_wf_spec hw
  subst hn
  have hl1 : len = 1 := of_decide_eq_true hsl
  subst hl1
  intro H locs ls hP hS hM hL hst
  obtain ⟨x, y, r, rfl, h⟩ := pz_2_spec h
  obtain ⟨cy1, c2⟩ := pz_tlm hst
  obtain ⟨cx1, c3⟩ := pz_tlm c2
  have h := h _ rfl (pz_tc _).1 (pz_tc _).2
  refine lv_iand hx hb hd ?_
  have h := hK _ _ _ _ h H locs ls hP hS hM hL (pz_all (pz_tc _) c3)
  rw [List.map_cons] at h
  simp only [pz_v, Int32.ofInt_toInt] at h
  exact h
theorem ps_ior (Y : pz_Y p s m args c cc own nL D ad adV cy A) {K : pz_F} (hK : ∀ pc lo st M, K pc lo st M → pz_Ok p l e R s m args below meth c cells slots Q nL D ad cy A pc lo st M) {fl : Nat → Option (Nat × Nat)} {ci : Nat → Option pz_V} {ct : Bool → Nat → Option pz_C} {Rt : Option pz_V → pz_M → Prop} {rz : Bool} {pc len nx : Nat} {tg : List Nat} {lo : pz_L} {st : List pz_V} {M : pz_M}   (hw : pz_wf cc (pc, .ior, len, nx, tg) = true) (h : pz_stp fl ci ct K Rt rz (.ior) nx tg lo st M) : pz_Ok p l e R s m args below meth c cells slots Q nL D ad cy A pc lo st M := by
  obtain ⟨hx, hb, hml, hown, hts, hX⟩ := Y
  obtain ⟨hd, hn, hsl, htk, him⟩ := pz_wf_spec hw
  subst hn
  have hl1 : len = 1 := of_decide_eq_true hsl
  subst hl1
  intro H locs ls hP hS hM hL hst
  obtain ⟨x, y, r, rfl, h⟩ := pz_2_spec h
  obtain ⟨cy1, c2⟩ := pz_tlm hst
  obtain ⟨cx1, c3⟩ := pz_tlm c2
  have h := h _ rfl (pz_tc _).1 (pz_tc _).2
  refine lv_ior hx hb hd ?_
  have h := hK _ _ _ _ h H locs ls hP hS hM hL (pz_all (pz_tc _) c3)
  rw [List.map_cons] at h
  simp only [pz_v, Int32.ofInt_toInt] at h
  exact h
theorem ps_ixor (Y : pz_Y p s m args c cc own nL D ad adV cy A) {K : pz_F} (hK : ∀ pc lo st M, K pc lo st M → pz_Ok p l e R s m args below meth c cells slots Q nL D ad cy A pc lo st M) {fl : Nat → Option (Nat × Nat)} {ci : Nat → Option pz_V} {ct : Bool → Nat → Option pz_C} {Rt : Option pz_V → pz_M → Prop} {rz : Bool} {pc len nx : Nat} {tg : List Nat} {lo : pz_L} {st : List pz_V} {M : pz_M}   (hw : pz_wf cc (pc, .ixor, len, nx, tg) = true) (h : pz_stp fl ci ct K Rt rz (.ixor) nx tg lo st M) : pz_Ok p l e R s m args below meth c cells slots Q nL D ad cy A pc lo st M := by
  obtain ⟨hx, hb, hml, hown, hts, hX⟩ := Y
  obtain ⟨hd, hn, hsl, htk, him⟩ := pz_wf_spec hw
  subst hn
  have hl1 : len = 1 := of_decide_eq_true hsl
  subst hl1
  intro H locs ls hP hS hM hL hst
  obtain ⟨x, y, r, rfl, h⟩ := pz_2_spec h
  obtain ⟨cy1, c2⟩ := pz_tlm hst
  obtain ⟨cx1, c3⟩ := pz_tlm c2
  have h := h _ rfl (pz_tc _).1 (pz_tc _).2
  refine lv_ixor hx hb hd ?_
  have h := hK _ _ _ _ h H locs ls hP hS hM hL (pz_all (pz_tc _) c3)
  rw [List.map_cons] at h
  simp only [pz_v, Int32.ofInt_toInt] at h
  exact h
theorem ps_ishl (Y : pz_Y p s m args c cc own nL D ad adV cy A) {K : pz_F} (hK : ∀ pc lo st M, K pc lo st M → pz_Ok p l e R s m args below meth c cells slots Q nL D ad cy A pc lo st M) {fl : Nat → Option (Nat × Nat)} {ci : Nat → Option pz_V} {ct : Bool → Nat → Option pz_C} {Rt : Option pz_V → pz_M → Prop} {rz : Bool} {pc len nx : Nat} {tg : List Nat} {lo : pz_L} {st : List pz_V} {M : pz_M}   (hw : pz_wf cc (pc, .ishl, len, nx, tg) = true) (h : pz_stp fl ci ct K Rt rz (.ishl) nx tg lo st M) : pz_Ok p l e R s m args below meth c cells slots Q nL D ad cy A pc lo st M := by
  obtain ⟨hx, hb, hml, hown, hts, hX⟩ := Y
  obtain ⟨hd, hn, hsl, htk, him⟩ := pz_wf_spec hw
  subst hn
  have hl1 : len = 1 := of_decide_eq_true hsl
  subst hl1
  intro H locs ls hP hS hM hL hst
  obtain ⟨x, y, r, rfl, h⟩ := pz_2_spec h
  obtain ⟨cy1, c2⟩ := pz_tlm hst
  obtain ⟨cx1, c3⟩ := pz_tlm c2
  have h := h _ rfl (pz_tc _).1 (pz_tc _).2
  refine lv_ishl hx hb hd ?_
  have h := hK _ _ _ _ h H locs ls hP hS hM hL (pz_all (pz_tc _) c3)
  rw [List.map_cons] at h
  simp only [pz_v, Int32.ofInt_toInt] at h
  exact h
theorem ps_ishr (Y : pz_Y p s m args c cc own nL D ad adV cy A) {K : pz_F} (hK : ∀ pc lo st M, K pc lo st M → pz_Ok p l e R s m args below meth c cells slots Q nL D ad cy A pc lo st M) {fl : Nat → Option (Nat × Nat)} {ci : Nat → Option pz_V} {ct : Bool → Nat → Option pz_C} {Rt : Option pz_V → pz_M → Prop} {rz : Bool} {pc len nx : Nat} {tg : List Nat} {lo : pz_L} {st : List pz_V} {M : pz_M}   (hw : pz_wf cc (pc, .ishr, len, nx, tg) = true) (h : pz_stp fl ci ct K Rt rz (.ishr) nx tg lo st M) : pz_Ok p l e R s m args below meth c cells slots Q nL D ad cy A pc lo st M := by
  obtain ⟨hx, hb, hml, hown, hts, hX⟩ := Y
  obtain ⟨hd, hn, hsl, htk, him⟩ := pz_wf_spec hw
  subst hn
  have hl1 : len = 1 := of_decide_eq_true hsl
  subst hl1
  intro H locs ls hP hS hM hL hst
  obtain ⟨x, y, r, rfl, h⟩ := pz_2_spec h
  obtain ⟨cy1, c2⟩ := pz_tlm hst
  obtain ⟨cx1, c3⟩ := pz_tlm c2
  have h := h _ rfl (pz_tc _).1 (pz_tc _).2
  refine lv_ishr hx hb hd ?_
  have h := hK _ _ _ _ h H locs ls hP hS hM hL (pz_all (pz_tc _) c3)
  rw [List.map_cons] at h
  simp only [pz_v, Int32.ofInt_toInt] at h
  exact h
theorem ps_iushr (Y : pz_Y p s m args c cc own nL D ad adV cy A) {K : pz_F} (hK : ∀ pc lo st M, K pc lo st M → pz_Ok p l e R s m args below meth c cells slots Q nL D ad cy A pc lo st M) {fl : Nat → Option (Nat × Nat)} {ci : Nat → Option pz_V} {ct : Bool → Nat → Option pz_C} {Rt : Option pz_V → pz_M → Prop} {rz : Bool} {pc len nx : Nat} {tg : List Nat} {lo : pz_L} {st : List pz_V} {M : pz_M}   (hw : pz_wf cc (pc, .iushr, len, nx, tg) = true) (h : pz_stp fl ci ct K Rt rz (.iushr) nx tg lo st M) : pz_Ok p l e R s m args below meth c cells slots Q nL D ad cy A pc lo st M := by
  obtain ⟨hx, hb, hml, hown, hts, hX⟩ := Y
  obtain ⟨hd, hn, hsl, htk, him⟩ := pz_wf_spec hw
  subst hn
  have hl1 : len = 1 := of_decide_eq_true hsl
  subst hl1
  intro H locs ls hP hS hM hL hst
  obtain ⟨x, y, r, rfl, h⟩ := pz_2_spec h
  obtain ⟨cy1, c2⟩ := pz_tlm hst
  obtain ⟨cx1, c3⟩ := pz_tlm c2
  have h := h _ rfl (pz_tc _).1 (pz_tc _).2
  refine lv_iushr hx hb hd rfl ?_
  have h := hK _ _ _ _ h H locs ls hP hS hM hL (pz_all (pz_tc _) c3)
  rw [List.map_cons] at h
  simp only [pz_v, Int32.ofInt_toInt] at h
  exact h
theorem ps_i2b (Y : pz_Y p s m args c cc own nL D ad adV cy A) {K : pz_F} (hK : ∀ pc lo st M, K pc lo st M → pz_Ok p l e R s m args below meth c cells slots Q nL D ad cy A pc lo st M) {fl : Nat → Option (Nat × Nat)} {ci : Nat → Option pz_V} {ct : Bool → Nat → Option pz_C} {Rt : Option pz_V → pz_M → Prop} {rz : Bool} {pc len nx : Nat} {tg : List Nat} {lo : pz_L} {st : List pz_V} {M : pz_M}   (hw : pz_wf cc (pc, .i2b, len, nx, tg) = true) (h : pz_stp fl ci ct K Rt rz (.i2b) nx tg lo st M) : pz_Ok p l e R s m args below meth c cells slots Q nL D ad cy A pc lo st M := by
  obtain ⟨hx, hb, hml, hown, hts, hX⟩ := Y
  obtain ⟨hd, hn, hsl, htk, him⟩ := pz_wf_spec hw
  subst hn
  have hl1 : len = 1 := of_decide_eq_true hsl
  subst hl1
  intro H locs ls hP hS hM hL hst
  obtain ⟨x, r, rfl, h⟩ := pz_1_spec h
  obtain ⟨c1, c2⟩ := pz_tlm hst
  have h := h _ rfl (pz_tc _).1 (pz_tc _).2
  refine lv_i2b hx hb hd rfl ?_
  have h := hK _ _ _ _ h H locs ls hP hS hM hL (pz_all (pz_tc _) c2)
  rw [List.map_cons] at h
  simp only [pz_v, Int32.ofInt_toInt] at h
  exact h
theorem ps_i2l (Y : pz_Y p s m args c cc own nL D ad adV cy A) {K : pz_F} (hK : ∀ pc lo st M, K pc lo st M → pz_Ok p l e R s m args below meth c cells slots Q nL D ad cy A pc lo st M) {fl : Nat → Option (Nat × Nat)} {ci : Nat → Option pz_V} {ct : Bool → Nat → Option pz_C} {Rt : Option pz_V → pz_M → Prop} {rz : Bool} {pc len nx : Nat} {tg : List Nat} {lo : pz_L} {st : List pz_V} {M : pz_M}   (hw : pz_wf cc (pc, .i2l, len, nx, tg) = true) (h : pz_stp fl ci ct K Rt rz (.i2l) nx tg lo st M) : pz_Ok p l e R s m args below meth c cells slots Q nL D ad cy A pc lo st M := by
  obtain ⟨hx, hb, hml, hown, hts, hX⟩ := Y
  obtain ⟨hd, hn, hsl, htk, him⟩ := pz_wf_spec hw
  subst hn
  have hl1 : len = 1 := of_decide_eq_true hsl
  subst hl1
  intro H locs ls hP hS hM hL hst
  obtain ⟨x, r, rfl, h⟩ := pz_1_spec h
  obtain ⟨c1, c2⟩ := pz_tlm hst
  exact lv_i2l hx hb hd (pz_i2l c1) (hK _ _ _ _ h H locs ls hP hS hM hL (pz_all (show pz_cl x from ⟨by have := c1.1; omega, by have := c1.2; omega⟩) c2))
theorem ps_l2i (Y : pz_Y p s m args c cc own nL D ad adV cy A) {K : pz_F} (hK : ∀ pc lo st M, K pc lo st M → pz_Ok p l e R s m args below meth c cells slots Q nL D ad cy A pc lo st M) {fl : Nat → Option (Nat × Nat)} {ci : Nat → Option pz_V} {ct : Bool → Nat → Option pz_C} {Rt : Option pz_V → pz_M → Prop} {rz : Bool} {pc len nx : Nat} {tg : List Nat} {lo : pz_L} {st : List pz_V} {M : pz_M}   (hw : pz_wf cc (pc, .l2i, len, nx, tg) = true) (h : pz_stp fl ci ct K Rt rz (.l2i) nx tg lo st M) : pz_Ok p l e R s m args below meth c cells slots Q nL D ad cy A pc lo st M := by
  obtain ⟨hx, hb, hml, hown, hts, hX⟩ := Y
  obtain ⟨hd, hn, hsl, htk, him⟩ := pz_wf_spec hw
  subst hn
  have hl1 : len = 1 := of_decide_eq_true hsl
  subst hl1
  intro H locs ls hP hS hM hL hst
  obtain ⟨x, r, rfl, h⟩ := pz_l1_spec h
  obtain ⟨c1, c2⟩ := pz_tlm hst
  have h := h _ rfl (pz_wc _).1 (pz_wc _).2
  exact lv_l2i hx hb hd (pz_l2i c1) (hK _ _ _ _ h H locs ls hP hS hM hL (pz_all (pz_wc _) c2))
theorem ps_ladd (Y : pz_Y p s m args c cc own nL D ad adV cy A) {K : pz_F} (hK : ∀ pc lo st M, K pc lo st M → pz_Ok p l e R s m args below meth c cells slots Q nL D ad cy A pc lo st M) {fl : Nat → Option (Nat × Nat)} {ci : Nat → Option pz_V} {ct : Bool → Nat → Option pz_C} {Rt : Option pz_V → pz_M → Prop} {rz : Bool} {pc len nx : Nat} {tg : List Nat} {lo : pz_L} {st : List pz_V} {M : pz_M}   (hw : pz_wf cc (pc, .ladd, len, nx, tg) = true) (h : pz_stp fl ci ct K Rt rz (.ladd) nx tg lo st M) : pz_Ok p l e R s m args below meth c cells slots Q nL D ad cy A pc lo st M := by
  obtain ⟨hx, hb, hml, hown, hts, hX⟩ := Y
  obtain ⟨hd, hn, hsl, htk, him⟩ := pz_wf_spec hw
  subst hn
  have hl1 : len = 1 := of_decide_eq_true hsl
  subst hl1
  intro H locs ls hP hS hM hL hst
  obtain ⟨x, y, r, rfl, h⟩ := pz_l2_spec h
  obtain ⟨cy1, c2⟩ := pz_tlm hst
  obtain ⟨cx1, c3⟩ := pz_tlm c2
  have h := h (pz_wl (x + y)) rfl (pz_wlc _).1 (pz_wlc _).2
  refine lv_ladd hx hb hd ?_
  rw [pz_ladd]
  exact hK _ _ _ _ h H locs ls hP hS hM hL (pz_all (pz_wlc _) c3)
theorem ps_lsub (Y : pz_Y p s m args c cc own nL D ad adV cy A) {K : pz_F} (hK : ∀ pc lo st M, K pc lo st M → pz_Ok p l e R s m args below meth c cells slots Q nL D ad cy A pc lo st M) {fl : Nat → Option (Nat × Nat)} {ci : Nat → Option pz_V} {ct : Bool → Nat → Option pz_C} {Rt : Option pz_V → pz_M → Prop} {rz : Bool} {pc len nx : Nat} {tg : List Nat} {lo : pz_L} {st : List pz_V} {M : pz_M}   (hw : pz_wf cc (pc, .lsub, len, nx, tg) = true) (h : pz_stp fl ci ct K Rt rz (.lsub) nx tg lo st M) : pz_Ok p l e R s m args below meth c cells slots Q nL D ad cy A pc lo st M := by
  obtain ⟨hx, hb, hml, hown, hts, hX⟩ := Y
  obtain ⟨hd, hn, hsl, htk, him⟩ := pz_wf_spec hw
  subst hn
  have hl1 : len = 1 := of_decide_eq_true hsl
  subst hl1
  intro H locs ls hP hS hM hL hst
  obtain ⟨x, y, r, rfl, h⟩ := pz_l2_spec h
  obtain ⟨cy1, c2⟩ := pz_tlm hst
  obtain ⟨cx1, c3⟩ := pz_tlm c2
  have h := h (pz_wl (x - y)) rfl (pz_wlc _).1 (pz_wlc _).2
  refine lv_lsub hx hb hd ?_
  rw [pz_lsub]
  exact hK _ _ _ _ h H locs ls hP hS hM hL (pz_all (pz_wlc _) c3)
theorem ps_lmul (Y : pz_Y p s m args c cc own nL D ad adV cy A) {K : pz_F} (hK : ∀ pc lo st M, K pc lo st M → pz_Ok p l e R s m args below meth c cells slots Q nL D ad cy A pc lo st M) {fl : Nat → Option (Nat × Nat)} {ci : Nat → Option pz_V} {ct : Bool → Nat → Option pz_C} {Rt : Option pz_V → pz_M → Prop} {rz : Bool} {pc len nx : Nat} {tg : List Nat} {lo : pz_L} {st : List pz_V} {M : pz_M}   (hw : pz_wf cc (pc, .lmul, len, nx, tg) = true) (h : pz_stp fl ci ct K Rt rz (.lmul) nx tg lo st M) : pz_Ok p l e R s m args below meth c cells slots Q nL D ad cy A pc lo st M := by
  obtain ⟨hx, hb, hml, hown, hts, hX⟩ := Y
  obtain ⟨hd, hn, hsl, htk, him⟩ := pz_wf_spec hw
  subst hn
  have hl1 : len = 1 := of_decide_eq_true hsl
  subst hl1
  intro H locs ls hP hS hM hL hst
  obtain ⟨x, y, r, rfl, h⟩ := pz_l2_spec h
  obtain ⟨cy1, c2⟩ := pz_tlm hst
  obtain ⟨cx1, c3⟩ := pz_tlm c2
  have h := h (pz_wl (x * y)) rfl (pz_wlc _).1 (pz_wlc _).2
  refine lv_lmul hx hb hd ?_
  rw [pz_lmul]
  exact hK _ _ _ _ h H locs ls hP hS hM hL (pz_all (pz_wlc _) c3)
theorem ps_ldiv (Y : pz_Y p s m args c cc own nL D ad adV cy A) {K : pz_F} (hK : ∀ pc lo st M, K pc lo st M → pz_Ok p l e R s m args below meth c cells slots Q nL D ad cy A pc lo st M) {fl : Nat → Option (Nat × Nat)} {ci : Nat → Option pz_V} {ct : Bool → Nat → Option pz_C} {Rt : Option pz_V → pz_M → Prop} {rz : Bool} {pc len nx : Nat} {tg : List Nat} {lo : pz_L} {st : List pz_V} {M : pz_M}   (hw : pz_wf cc (pc, .ldiv, len, nx, tg) = true) (h : pz_stp fl ci ct K Rt rz (.ldiv) nx tg lo st M) : pz_Ok p l e R s m args below meth c cells slots Q nL D ad cy A pc lo st M := by
  obtain ⟨hx, hb, hml, hown, hts, hX⟩ := Y
  obtain ⟨hd, hn, hsl, htk, him⟩ := pz_wf_spec hw
  subst hn
  have hl1 : len = 1 := of_decide_eq_true hsl
  subst hl1
  intro H locs ls hP hS hM hL hst
  obtain ⟨x, y, r, rfl, h⟩ := pz_l2_spec h
  obtain ⟨cy1, c2⟩ := pz_tlm hst
  obtain ⟨cx1, c3⟩ := pz_tlm c2
  have h2 := h.2 (pz_wl (x.tdiv y)) rfl (pz_wlc _).1 (pz_wlc _).2
  refine lv_ldiv hx hb hd (pz_lne0 cy1 h.1) ?_
  rw [pz_ldiv cx1 cy1]
  exact hK _ _ _ _ h2 H locs ls hP hS hM hL (pz_all (pz_wlc _) c3)
theorem ps_lcmp (Y : pz_Y p s m args c cc own nL D ad adV cy A) {K : pz_F} (hK : ∀ pc lo st M, K pc lo st M → pz_Ok p l e R s m args below meth c cells slots Q nL D ad cy A pc lo st M) {fl : Nat → Option (Nat × Nat)} {ci : Nat → Option pz_V} {ct : Bool → Nat → Option pz_C} {Rt : Option pz_V → pz_M → Prop} {rz : Bool} {pc len nx : Nat} {tg : List Nat} {lo : pz_L} {st : List pz_V} {M : pz_M}   (hw : pz_wf cc (pc, .lcmp, len, nx, tg) = true) (h : pz_stp fl ci ct K Rt rz (.lcmp) nx tg lo st M) : pz_Ok p l e R s m args below meth c cells slots Q nL D ad cy A pc lo st M := by
  obtain ⟨hx, hb, hml, hown, hts, hX⟩ := Y
  obtain ⟨hd, hn, hsl, htk, him⟩ := pz_wf_spec hw
  subst hn
  have hl1 : len = 1 := of_decide_eq_true hsl
  subst hl1
  intro H locs ls hP hS hM hL hst
  obtain ⟨x, y, r, rfl, h⟩ := pz_l2_spec h
  obtain ⟨cy1, c2⟩ := pz_tlm hst
  obtain ⟨cx1, c3⟩ := pz_tlm c2
  refine W.lcmp hx hb hd ?_
  obtain ⟨e1, e2, e3⟩ := pz_lcmp cx1 cy1
  rcases Int.lt_trichotomy x y with q | q | q
  · rw [e1 q]
    exact hK _ _ _ _ (h.1 q) H locs ls hP hS hM hL (pz_all (show pz_c (-1) by unfold pz_c; omega) c3)
  · rw [e2 q]
    exact hK _ _ _ _ (h.2.1 q) H locs ls hP hS hM hL (pz_all (show pz_c 0 by unfold pz_c; omega) c3)
  · rw [e3 q]
    exact hK _ _ _ _ (h.2.2 q) H locs ls hP hS hM hL (pz_all (show pz_c 1 by unfold pz_c; omega) c3)
theorem ps_dup (Y : pz_Y p s m args c cc own nL D ad adV cy A) {K : pz_F} (hK : ∀ pc lo st M, K pc lo st M → pz_Ok p l e R s m args below meth c cells slots Q nL D ad cy A pc lo st M) {fl : Nat → Option (Nat × Nat)} {ci : Nat → Option pz_V} {ct : Bool → Nat → Option pz_C} {Rt : Option pz_V → pz_M → Prop} {rz : Bool} {pc len nx : Nat} {tg : List Nat} {lo : pz_L} {st : List pz_V} {M : pz_M}   (hw : pz_wf cc (pc, .dup, len, nx, tg) = true) (h : pz_stp fl ci ct K Rt rz (.dup) nx tg lo st M) : pz_Ok p l e R s m args below meth c cells slots Q nL D ad cy A pc lo st M := by
  obtain ⟨hx, hb, hml, hown, hts, hX⟩ := Y
  obtain ⟨hd, hn, hsl, htk, him⟩ := pz_wf_spec hw
  subst hn
  have hl1 : len = 1 := of_decide_eq_true hsl
  subst hl1
  intro H locs ls hP hS hM hL hst
  match st, h, hst with
  | [], h, _ => exact h.elim
  | v :: r, h, hst =>
    obtain ⟨h1, h2⟩ := pz_b_spec h
    obtain ⟨c1, c2⟩ := pz_tlm hst
    exact lv_dup hx hb hd (by rw [pz_v_cat]; exact Nat.eq_of_beq_eq_true h1) (hK _ _ _ _ h2 H locs ls hP hS hM hL (pz_all c1 (pz_all c1 c2)))
theorem ps_pop (Y : pz_Y p s m args c cc own nL D ad adV cy A) {K : pz_F} (hK : ∀ pc lo st M, K pc lo st M → pz_Ok p l e R s m args below meth c cells slots Q nL D ad cy A pc lo st M) {fl : Nat → Option (Nat × Nat)} {ci : Nat → Option pz_V} {ct : Bool → Nat → Option pz_C} {Rt : Option pz_V → pz_M → Prop} {rz : Bool} {pc len nx : Nat} {tg : List Nat} {lo : pz_L} {st : List pz_V} {M : pz_M}   (hw : pz_wf cc (pc, .pop, len, nx, tg) = true) (h : pz_stp fl ci ct K Rt rz (.pop) nx tg lo st M) : pz_Ok p l e R s m args below meth c cells slots Q nL D ad cy A pc lo st M := by
  obtain ⟨hx, hb, hml, hown, hts, hX⟩ := Y
  obtain ⟨hd, hn, hsl, htk, him⟩ := pz_wf_spec hw
  subst hn
  have hl1 : len = 1 := of_decide_eq_true hsl
  subst hl1
  intro H locs ls hP hS hM hL hst
  match st, h, hst with
  | [], h, _ => exact h.elim
  | v :: r, h, hst =>
    obtain ⟨h1, h2⟩ := pz_b_spec h
    obtain ⟨c1, c2⟩ := pz_tlm hst
    exact lv_pop hx hb hd (by rw [pz_v_cat]; exact Nat.eq_of_beq_eq_true h1) (hK _ _ _ _ h2 H locs ls hP hS hM hL c2)
theorem ps_dup2 (Y : pz_Y p s m args c cc own nL D ad adV cy A) {K : pz_F} (hK : ∀ pc lo st M, K pc lo st M → pz_Ok p l e R s m args below meth c cells slots Q nL D ad cy A pc lo st M) {fl : Nat → Option (Nat × Nat)} {ci : Nat → Option pz_V} {ct : Bool → Nat → Option pz_C} {Rt : Option pz_V → pz_M → Prop} {rz : Bool} {pc len nx : Nat} {tg : List Nat} {lo : pz_L} {st : List pz_V} {M : pz_M}   (hw : pz_wf cc (pc, .dup2, len, nx, tg) = true) (h : pz_stp fl ci ct K Rt rz (.dup2) nx tg lo st M) : pz_Ok p l e R s m args below meth c cells slots Q nL D ad cy A pc lo st M := by
  obtain ⟨hx, hb, hml, hown, hts, hX⟩ := Y
  obtain ⟨hd, hn, hsl, htk, him⟩ := pz_wf_spec hw
  subst hn
  have hl1 : len = 1 := of_decide_eq_true hsl
  subst hl1
  intro H locs ls hP hS hM hL hst
  match st, h, hst with
  | [], h, _ => exact h.elim
  | [v], h, _ => exact h.elim
  | v :: u :: r, h, hst =>
    obtain ⟨h1, h⟩ := pz_b_spec h
    obtain ⟨h2, h⟩ := pz_b_spec h
    obtain ⟨c1, c2⟩ := pz_tlm hst
    obtain ⟨d1, d2⟩ := pz_tlm c2
    exact lv_dup2_11 hx hb hd (by rw [pz_v_cat]; exact Nat.eq_of_beq_eq_true h1) (by rw [pz_v_cat]; exact Nat.eq_of_beq_eq_true h2) (hK _ _ _ _ h H locs ls hP hS hM hL (pz_all c1 (pz_all d1 (pz_all c1 (pz_all d1 d2)))))
theorem ps_goto (Y : pz_Y p s m args c cc own nL D ad adV cy A) {K : pz_F} (hK : ∀ pc lo st M, K pc lo st M → pz_Ok p l e R s m args below meth c cells slots Q nL D ad cy A pc lo st M) {fl : Nat → Option (Nat × Nat)} {ci : Nat → Option pz_V} {ct : Bool → Nat → Option pz_C} {Rt : Option pz_V → pz_M → Prop} {rz : Bool} {pc len nx : Nat} {tg : List Nat} {lo : pz_L} {st : List pz_V} {M : pz_M} {o : Int}  (hw : pz_wf cc (pc, .goto o, len, nx, tg) = true) (h : pz_stp fl ci ct K Rt rz (.goto o) nx tg lo st M) : pz_Ok p l e R s m args below meth c cells slots Q nL D ad cy A pc lo st M := by
  obtain ⟨hx, hb, hml, hown, hts, hX⟩ := Y
  obtain ⟨hd, hn, hsl, htk, him⟩ := pz_wf_spec hw
  subst hn
  have hl1 : len = 3 := of_decide_eq_true hsl
  subst hl1
  intro H locs ls hP hS hM hL hst
  match tg, htk, h with
  | [], htk, h => exact h.elim
  | _ :: _ :: _, htk, h => simp [pz_tok] at htk
  | [t], htk, h =>
    simp only [pz_tok, decide_eq_true_eq] at htk
    exact lv_goto hx hb hd htk (hK _ _ _ _ h H locs ls hP hS hM hL hst)
theorem ps_ifCond (Y : pz_Y p s m args c cc own nL D ad adV cy A) {K : pz_F} (hK : ∀ pc lo st M, K pc lo st M → pz_Ok p l e R s m args below meth c cells slots Q nL D ad cy A pc lo st M) {fl : Nat → Option (Nat × Nat)} {ci : Nat → Option pz_V} {ct : Bool → Nat → Option pz_C} {Rt : Option pz_V → pz_M → Prop} {rz : Bool} {pc len nx : Nat} {tg : List Nat} {lo : pz_L} {st : List pz_V} {M : pz_M} {b : Jvm.ClassFile.Cond} {o : Int}  (hw : pz_wf cc (pc, .ifCond b o, len, nx, tg) = true) (h : pz_stp fl ci ct K Rt rz (.ifCond b o) nx tg lo st M) : pz_Ok p l e R s m args below meth c cells slots Q nL D ad cy A pc lo st M := by
  obtain ⟨hx, hb, hml, hown, hts, hX⟩ := Y
  obtain ⟨hd, hn, hsl, htk, him⟩ := pz_wf_spec hw
  subst hn
  have hl1 : len = 3 := of_decide_eq_true hsl
  subst hl1
  intro H locs ls hP hS hM hL hst
  match tg, htk, h with
  | [], htk, h => exact h.elim
  | _ :: _ :: _, htk, h => simp [pz_tok] at htk
  | [t], htk, h =>
    have htk2 : (pc : Int) + o = (t : Int) := of_decide_eq_true htk
    clear htk
    obtain ⟨x, r, rfl, h⟩ := pz_1_spec h
    obtain ⟨cx1, c2⟩ := pz_tlm hst
    have c0 : pz_c 0 := by unfold pz_c; omega
    have e0 : (0 : Int32) = Int32.ofInt 0 := rfl
    cases b with
    | eq => exact lv_if_eq hx hb hd htk2 (fun q => hK _ _ _ _ (h.1 ((pz_eq cx1 c0).mp q)) H locs ls hP hS hM hL c2) (fun q => hK _ _ _ _ (h.2 (fun z => q ((pz_eq cx1 c0).mpr z))) H locs ls hP hS hM hL c2)
    | ne => exact lv_if_ne hx hb hd htk2 (fun q => hK _ _ _ _ (h.1 (fun z => q ((pz_eq cx1 c0).mpr z))) H locs ls hP hS hM hL c2) (fun q => hK _ _ _ _ (h.2 ((pz_eq cx1 c0).mp q)) H locs ls hP hS hM hL c2)
    | lt => exact lv_if_lt hx hb hd htk2 (fun q => hK _ _ _ _ (h.1 ((pz_lt cx1 c0).mp q)) H locs ls hP hS hM hL c2) (fun q => hK _ _ _ _ (h.2 (fun z => q ((pz_lt cx1 c0).mpr z))) H locs ls hP hS hM hL c2)
    | ge => exact lv_if_ge hx hb hd htk2 (fun q => hK _ _ _ _ (h.1 (by have := (pz_le c0 cx1).mp q; omega)) H locs ls hP hS hM hL c2) (fun q => hK _ _ _ _ (h.2 (Int.lt_of_not_ge (fun z => q ((pz_le c0 cx1).mpr z)))) H locs ls hP hS hM hL c2)
    | gt => exact lv_if_gt hx hb hd htk2 (fun q => hK _ _ _ _ (h.1 ((pz_lt c0 cx1).mp q)) H locs ls hP hS hM hL c2) (fun q => hK _ _ _ _ (h.2 (fun z => q ((pz_lt c0 cx1).mpr z))) H locs ls hP hS hM hL c2)
    | le => exact lv_if_le hx hb hd htk2 (fun q => hK _ _ _ _ (h.1 (by have := (pz_le cx1 c0).mp q; omega)) H locs ls hP hS hM hL c2) (fun q => hK _ _ _ _ (h.2 (Int.lt_of_not_ge (fun z => q ((pz_le cx1 c0).mpr z)))) H locs ls hP hS hM hL c2)

theorem ps_if_icmp (Y : pz_Y p s m args c cc own nL D ad adV cy A) {K : pz_F} (hK : ∀ pc lo st M, K pc lo st M → pz_Ok p l e R s m args below meth c cells slots Q nL D ad cy A pc lo st M) {fl : Nat → Option (Nat × Nat)} {ci : Nat → Option pz_V} {ct : Bool → Nat → Option pz_C} {Rt : Option pz_V → pz_M → Prop} {rz : Bool} {pc len nx : Nat} {tg : List Nat} {lo : pz_L} {st : List pz_V} {M : pz_M} {b : Jvm.ClassFile.Cond} {o : Int}  (hw : pz_wf cc (pc, .if_icmp b o, len, nx, tg) = true) (h : pz_stp fl ci ct K Rt rz (.if_icmp b o) nx tg lo st M) : pz_Ok p l e R s m args below meth c cells slots Q nL D ad cy A pc lo st M := by
  obtain ⟨hx, hb, hml, hown, hts, hX⟩ := Y
  obtain ⟨hd, hn, hsl, htk, him⟩ := pz_wf_spec hw
  subst hn
  have hl1 : len = 3 := of_decide_eq_true hsl
  subst hl1
  intro H locs ls hP hS hM hL hst
  match tg, htk, h with
  | [], htk, h => exact h.elim
  | _ :: _ :: _, htk, h => simp [pz_tok] at htk
  | [t], htk, h =>
    have htk2 : (pc : Int) + o = (t : Int) := of_decide_eq_true htk
    clear htk
    obtain ⟨x, y, r, rfl, h⟩ := pz_2_spec h
    obtain ⟨cy1, c1⟩ := pz_tlm hst
    obtain ⟨cx1, c2⟩ := pz_tlm c1
    cases b with
    | eq => exact lv_icmp_eq hx hb hd htk2 (fun q => hK _ _ _ _ (h.1 ((pz_eq cx1 cy1).mp q)) H locs ls hP hS hM hL c2) (fun q => hK _ _ _ _ (h.2 (fun z => q ((pz_eq cx1 cy1).mpr z))) H locs ls hP hS hM hL c2)
    | ne => exact lv_icmp_ne hx hb hd htk2 (fun q => hK _ _ _ _ (h.1 (fun z => q ((pz_eq cx1 cy1).mpr z))) H locs ls hP hS hM hL c2) (fun q => hK _ _ _ _ (h.2 ((pz_eq cx1 cy1).mp q)) H locs ls hP hS hM hL c2)
    | lt => exact lv_icmp_lt hx hb hd htk2 (fun q => hK _ _ _ _ (h.1 ((pz_lt cx1 cy1).mp q)) H locs ls hP hS hM hL c2) (fun q => hK _ _ _ _ (h.2 (fun z => q ((pz_lt cx1 cy1).mpr z))) H locs ls hP hS hM hL c2)
    | ge => exact lv_icmp_ge hx hb hd htk2 (fun q => hK _ _ _ _ (h.1 (by have := (pz_le cy1 cx1).mp q; omega)) H locs ls hP hS hM hL c2) (fun q => hK _ _ _ _ (h.2 (Int.lt_of_not_ge (fun z => q ((pz_le cy1 cx1).mpr z)))) H locs ls hP hS hM hL c2)
    | gt => exact lv_icmp_gt hx hb hd htk2 (fun q => hK _ _ _ _ (h.1 ((pz_lt cy1 cx1).mp q)) H locs ls hP hS hM hL c2) (fun q => hK _ _ _ _ (h.2 (fun z => q ((pz_lt cy1 cx1).mpr z))) H locs ls hP hS hM hL c2)
    | le => exact lv_icmp_le hx hb hd htk2 (fun q => hK _ _ _ _ (h.1 (by have := (pz_le cx1 cy1).mp q; omega)) H locs ls hP hS hM hL c2) (fun q => hK _ _ _ _ (h.2 (Int.lt_of_not_ge (fun z => q ((pz_le cx1 cy1).mpr z)))) H locs ls hP hS hM hL c2)

end PZT
end
section
section PZU
variable {p : Program} {l : Launch} {e : Env} {R : Room} {s : State} {m : MethodId} {args : Array Value} {below : List Frame} {meth : Method} {c : Code} {cells slots : Nat} {Q : State → Prop}
variable {cc : ByteArray} {own : String} {nL : Nat} {D : va_G} {ad adV : Nat → Nat} {cy : Nat → ClassId} {A : Nat → Prop}
theorem pz_sw_spec {x : Int} {K : Nat → Prop} : ∀ (ts : List Nat) (lo : Int), pz_sw x lo K ts → ∀ (j t : Nat), ts[j]? = some t → x = lo + j → K t
  | [], _, _, j, t, e, _ => by simp at e
  | a :: ts, lo, h, 0, t, e, hx => by
    simp at e; subst e
    exact h.1 (by omega)
  | a :: ts, lo, h, j + 1, t, e, hx => pz_sw_spec ts (lo + 1) h.2 j t (by simpa using e) (by push_cast at hx; omega)
theorem pz_off {x : Int} {K : Nat → Prop} {P : Prop} {pc : Nat} {d : Int} {dt : Nat} (hdt : (pc : Int) + d = dt) : ∀ (ps : List (Int × Int)) (ts : List Nat), pz_lk x K ps ts → pz_nk x P ps → (∀ h : P, P) → (ps.map (·.2)).map (fun o => (pc : Int) + o) = ts.map Int.ofNat → (∃ t : Nat, (pc : Int) + Op.lookupswitch.offset ps d x = t ∧ (K t ∨ (P ∧ t = dt)))
  | [], ts, _, h2, _, _ => ⟨dt, by simp [Op.lookupswitch.offset, hdt], Or.inr ⟨h2, rfl⟩⟩
  | q :: ps, [], _, _, _, e => by simp at e
  | q :: ps, t :: ts, h1, h2, hp, e => by
    simp only [List.map_cons, List.cons.injEq] at e
    by_cases hx : x = q.1
    · refine ⟨t, ?_, Or.inl (h1.1 hx)⟩
      subst hx
      simp [Op.lookupswitch.offset]
      exact e.1
    · obtain ⟨t2, e2, e3⟩ := pz_off hdt ps ts h1.2 (h2 hx) hp e.2
      refine ⟨t2, ?_, e3⟩
      have hx2 : ¬ q.1 = x := fun z => hx z.symm
      simp [Op.lookupswitch.offset, hx2] at e2 ⊢
      exact e2
theorem pz_al_spec {q : Nat × Nat} {t : Nat} {i : Int} {P : Prop} (h : pz_al q t i P) : q.1 = t ∧ 0 ≤ i ∧ i < (q.2 : Int) ∧ P := by
  unfold pz_al at h
  cases hb : Nat.beq q.1 t with
  | true => rw [hb] at h; exact ⟨Nat.eq_of_beq_eq_true hb, h⟩
  | false => rw [hb] at h; exact h.elim
theorem pz_aal_spec {kd : Nat} {i : Int} {K : Nat → Prop} (h : pz_aal kd i K) : (kd = 29 ∧ 0 ≤ i ∧ i < 12 ∧ K 5) ∨ (kd = 30 ∧ 0 ≤ i ∧ i < 6 ∧ K 0) := by
  unfold pz_aal at h
  split at h
  · exact Or.inl ⟨rfl, h⟩
  · exact Or.inr ⟨rfl, h⟩
  · exact h.elim
theorem pz_wse {ad : Nat → Nat} {cy : Nat → ClassId} {M : pz_M} {a kd : Nat} (hkd : pz_kd a = kd) (hlt : a < 206) (h13 : ¬ kd < 13) (h2 : (pz_ak kd).1 < 2) : (pz_ws ad cy M)[a]? = some (ad a, .inl (cy (pz_ak kd).1, (pz_ak kd).2, .inl (fun j => Int32.ofInt (M a j)))) := by
  rw [pz_ws_get hlt]
  unfold pz_en
  rw [hkd, if_neg h13, if_pos h2]
  rfl
theorem pz_wsq {ad : Nat → Nat} {cy : Nat → ClassId} {M : pz_M} {a kd : Nat} (hkd : pz_kd a = kd) (hlt : a < 206) (h13 : ¬ kd < 13) (h2 : ¬ (pz_ak kd).1 < 2) : (pz_ws ad cy M)[a]? = some (ad a, .inl (cy (pz_ak kd).1, (pz_ak kd).2, .inr (.inr (.inr (.inr (fun j => some (ad (pz_rf a j)))))))) := by
  rw [pz_ws_get hlt]
  unfold pz_en
  rw [hkd, if_neg h13, if_neg h2]
  rfl
theorem pz_wso {ad : Nat → Nat} {cy : Nat → ClassId} {M : pz_M} {a kd : Nat} (hkd : pz_kd a = kd) (hlt : a < 206) (h13 : kd < 13) : (pz_ws ad cy M)[a]? = some (ad a, .inr (kd, (List.range (pz_nf kd)).map (pz_fv ad M a kd))) := by
  rw [pz_ws_get hlt]
  unfold pz_en
  rw [hkd, if_pos h13]
  rfl
theorem pz_ak_of {kd t n : Nat} (h : pz_ak kd = (t, n)) (ht : t < 9) : 13 ≤ kd ∧ kd < 31 ∧ (t = 2 → kd = 29) ∧ (t = 3 → kd = 30) ∧ (kd = 29 → n = 12) ∧ (kd = 30 → n = 6) := by
  have h31 : kd < 31 ∨ 31 ≤ kd := Nat.lt_or_ge kd 31
  rcases h31 with h31 | h31
  · have key : ∀ k, k < 31 → ((pz_ak k).1 < 9 → 13 ≤ k ∧ ((pz_ak k).1 = 2 → k = 29) ∧ ((pz_ak k).1 = 3 → k = 30) ∧ (k = 29 → (pz_ak k).2 = 12) ∧ (k = 30 → (pz_ak k).2 = 6)) := by decide +kernel
    have k2 := key kd h31
    rw [h] at k2
    obtain ⟨a1, a2, a3, a4, a5⟩ := k2 ht
    exact ⟨a1, h31, a2, a3, a4, a5⟩
  · exfalso
    have e : pz_ak kd = (9, 0) := by
      unfold pz_ak
      split <;> first | omega | rfl
    rw [e] at h
    cases h
    omega

theorem ps_tableswitch (Y : pz_Y p s m args c cc own nL D ad adV cy A) {K : pz_F} (hK : ∀ pc lo st M, K pc lo st M → pz_Ok p l e R s m args below meth c cells slots Q nL D ad cy A pc lo st M) {fl : Nat → Option (Nat × Nat)} {ci : Nat → Option pz_V} {ct : Bool → Nat → Option pz_C} {Rt : Option pz_V → pz_M → Prop} {rz : Bool} {pc len nx : Nat} {tg : List Nat} {lo : pz_L} {st : List pz_V} {M : pz_M} {d low high : Int} {os : Array Int}  (hw : pz_wf cc (pc, .tableswitch d low high os, len, nx, tg) = true) (h : pz_stp fl ci ct K Rt rz (.tableswitch d low high os) nx tg lo st M) : pz_Ok p l e R s m args below meth c cells slots Q nL D ad cy A pc lo st M := by
  obtain ⟨hx, hb, hml, hown, hts, hX⟩ := Y
  obtain ⟨hd, hn, hsl, htk, him⟩ := pz_wf_spec hw
  subst hn
  intro H locs ls hP hS hM hL hst
  match tg, htk, h with
  | [], htk, h => exact h.elim
  | dt :: ts, htk, h =>
    obtain ⟨x, r, rfl, h1, h2⟩ := pz_1_spec h
    obtain ⟨c1, c2⟩ := pz_tlm hst
    simp only [pz_tok, Bool.and_eq_true, decide_eq_true_eq, List.map_cons, List.cons.injEq] at htk
    obtain ⟨⟨hdt, hts2⟩, hsz⟩ := htk
    have hti := pz_ti c1
    by_cases ho : x < low ∨ high < x
    · exact lv_tableOut hx hb hd (by rw [hti]; exact ho) hdt (hK _ _ _ _ (h2 ho) H locs ls hP hS hM hL c2)
    · have hj : (x - low).toNat < os.toList.length := by omega
      obtain ⟨off, hoff⟩ : ∃ off, os.toList[(x - low).toNat]? = some off := ⟨_, List.getElem?_eq_getElem hj⟩
      have e1 := congrArg (fun z : List Int => z[(x - low).toNat]?) hts2
      simp only [List.getElem?_map, hoff, Option.map_some] at e1
      cases ht : ts[(x - low).toNat]? with
      | none => rw [ht] at e1; cases e1
      | some t =>
        rw [ht] at e1
        simp only [Option.map_some, Option.some.injEq] at e1
        exact lv_tableIn hx hb hd (off := off) (by rw [hti]; omega) (by rw [hti]; omega) (by rw [hti, ← Array.getElem?_toList]; exact hoff) e1 (hK _ _ _ _ (pz_sw_spec ts low h1 _ t ht (by omega)) H locs ls hP hS hM hL c2)
theorem ps_lookupswitch (Y : pz_Y p s m args c cc own nL D ad adV cy A) {K : pz_F} (hK : ∀ pc lo st M, K pc lo st M → pz_Ok p l e R s m args below meth c cells slots Q nL D ad cy A pc lo st M) {fl : Nat → Option (Nat × Nat)} {ci : Nat → Option pz_V} {ct : Bool → Nat → Option pz_C} {Rt : Option pz_V → pz_M → Prop} {rz : Bool} {pc len nx : Nat} {tg : List Nat} {lo : pz_L} {st : List pz_V} {M : pz_M} {d : Int} {ps : Array (Int × Int)}  (hw : pz_wf cc (pc, .lookupswitch d ps, len, nx, tg) = true) (h : pz_stp fl ci ct K Rt rz (.lookupswitch d ps) nx tg lo st M) : pz_Ok p l e R s m args below meth c cells slots Q nL D ad cy A pc lo st M := by
  obtain ⟨hx, hb, hml, hown, hts, hX⟩ := Y
  obtain ⟨hd, hn, hsl, htk, him⟩ := pz_wf_spec hw
  subst hn
  intro H locs ls hP hS hM hL hst
  match tg, htk, h with
  | [], htk, h => exact h.elim
  | dt :: ts, htk, h =>
    obtain ⟨x, r, rfl, h1, h2⟩ := pz_1_spec h
    obtain ⟨c1, c2⟩ := pz_tlm hst
    simp only [pz_tok, Bool.and_eq_true, decide_eq_true_eq, List.map_cons, List.cons.injEq] at htk
    obtain ⟨⟨hdt, hts2⟩, hsz⟩ := htk
    have hti := pz_ti c1
    obtain ⟨t, e1, e2⟩ := pz_off (x := x) (d := d) (dt := dt) hdt ps.toList ts h1 h2 id hts2
    refine lv_lookup hx hb hd (off := Op.lookupswitch.offset ps.toList d x) (tgt := t) ?_ (by rw [hti]) e1 ?_
    · exact hsz
    · rcases e2 with e2 | ⟨e2, rfl⟩
      · exact hK _ _ _ _ e2 H locs ls hP hS hM hL c2
      · exact hK _ _ _ _ e2 H locs ls hP hS hM hL c2
theorem ps_getfield (Y : pz_Y p s m args c cc own nL D ad adV cy A) {K : pz_F} (hK : ∀ pc lo st M, K pc lo st M → pz_Ok p l e R s m args below meth c cells slots Q nL D ad cy A pc lo st M) {fl : Nat → Option (Nat × Nat)} {ci : Nat → Option pz_V} {ct : Bool → Nat → Option pz_C} {Rt : Option pz_V → pz_M → Prop} {rz : Bool} {pc len nx : Nat} {tg : List Nat} {lo : pz_L} {st : List pz_V} {M : pz_M} {i : Nat} (hfl : ∀ i q, fl i = some q → pz_flok own (i, q)) (hw : pz_wf cc (pc, .getfield i, len, nx, tg) = true) (h : pz_stp fl ci ct K Rt rz (.getfield i) nx tg lo st M) : pz_Ok p l e R s m args below meth c cells slots Q nL D ad cy A pc lo st M := by
  obtain ⟨hx, hb, hml, hown, hts, hX⟩ := Y
  obtain ⟨hd, hn, hsl, htk, him⟩ := pz_wf_spec hw
  subst hn
  have hl1 : len = 3 := of_decide_eq_true hsl
  subst hl1
  intro H locs ls hP hS hM hL hst
  have h : pz_getf (fl i) st M (fun st' => K (pc + 3) lo st' M) := h
  cases hf : fl i with
  | none => rw [hf] at h; exact h.elim
  | some q =>
    obtain ⟨k, j⟩ := q
    rw [hf] at h
    obtain ⟨kd, a, r, rfl, h⟩ := pz_r_spec h
    obtain ⟨hkk, h⟩ := pz_b_spec h
    have hkk := Nat.eq_of_beq_eq_true hkk
    subst hkk
    obtain ⟨c1, c2⟩ := pz_tlm hst
    obtain ⟨C, T, N, hcl, hkN, hlk⟩ := hfl i _ hf
    obtain ⟨k1, k2, ty0, k3⟩ := pz_cls hcl
    have hci : kd < 13 := (List.getElem?_eq_some_iff.mp hcl).1
    have hlt : a < 206 := pz_kd_lo c1.1 (by show kd ≠ 99; omega)
    have hN : N = pz_nf kd := (pz_pf_ok hcl hkN).1
    have hj : j < pz_nf kd := by rw [← hN]; exact hkN
    refine va_get (C := C) (T := T) (N := N) (fs := (List.range (pz_nf kd)).map (pz_fv ad M a kd)) hx hb hts k1 hown hX.1 hP a (pz_wso c1.1 hlt hci) hcl j hkN (hts _ hlk) (fun _ h => h) (pz_eo_get hj) hd ?_
    unfold pz_fv
    cases hr : pz_rk kd j with
    | some kr =>
      rw [hr] at h
      have hj28 : j < 28 := by
        have : ∀ k, k < 13 → pz_nf k ≤ 28 := by decide
        have := this kd hci
        omega
      obtain ⟨r1, r2⟩ := pz_rf_ok (a := a) (k := j) c1.1 (by show kd ≠ 99; omega) hr hj28 (fun z => absurd z (by show kd ≠ 29; omega)) (fun z => absurd z (by show kd ≠ 30; omega))
      exact hK _ _ _ _ h H locs ls hP hS hM hL (pz_all ⟨r1, (by show pz_rf a j < 231; omega)⟩ c2)
    | none =>
      rw [hr] at h
      exact hK _ _ _ _ (h _ rfl (hM a j).1 (hM a j).2) H locs ls hP hS hM hL (pz_all (hM a j) c2)
theorem ps_putfield (Y : pz_Y p s m args c cc own nL D ad adV cy A) {K : pz_F} (hK : ∀ pc lo st M, K pc lo st M → pz_Ok p l e R s m args below meth c cells slots Q nL D ad cy A pc lo st M) {fl : Nat → Option (Nat × Nat)} {ci : Nat → Option pz_V} {ct : Bool → Nat → Option pz_C} {Rt : Option pz_V → pz_M → Prop} {rz : Bool} {pc len nx : Nat} {tg : List Nat} {lo : pz_L} {st : List pz_V} {M : pz_M} {i : Nat} (hfl : ∀ i q, fl i = some q → pz_flok own (i, q)) (hw : pz_wf cc (pc, .putfield i, len, nx, tg) = true) (h : pz_stp fl ci ct K Rt rz (.putfield i) nx tg lo st M) : pz_Ok p l e R s m args below meth c cells slots Q nL D ad cy A pc lo st M := by
  obtain ⟨hx, hb, hml, hown, hts, hX⟩ := Y
  obtain ⟨hd, hn, hsl, htk, him⟩ := pz_wf_spec hw
  subst hn
  have hl1 : len = 3 := of_decide_eq_true hsl
  subst hl1
  intro H locs ls hP hS hM hL hst
  have h : pz_putf (fl i) st M (fun st' M' => K (pc + 3) lo st' M') := h
  cases hf : fl i with
  | none => rw [hf] at h; exact h.elim
  | some q =>
    obtain ⟨k, j⟩ := q
    rw [hf] at h
    match st, h, hst with
    | [], h, _ => exact h.elim
    | .inr _ :: _, h, _ => exact h.elim
    | [.inl _], h, _ => exact h.elim
    | .inl _ :: .inl _ :: _, h, _ => exact h.elim
    | .inl _ :: .inr (.inl _) :: _, h, _ => exact h.elim
    | .inl v :: .inr (.inr (kd, a)) :: r, h, hst =>
      obtain ⟨hkk, h⟩ := pz_b_spec h
      have hkk := Nat.eq_of_beq_eq_true hkk
      subst hkk
      obtain ⟨cv, c1⟩ := pz_tlm hst
      obtain ⟨c1, c2⟩ := pz_tlm c1
      obtain ⟨C, T, N, hcl, hkN, hlk⟩ := hfl i _ hf
      obtain ⟨k1, k2, ty0, k3⟩ := pz_cls hcl
      have hci : kd < 13 := (List.getElem?_eq_some_iff.mp hcl).1
      have hlt : a < 206 := pz_kd_lo c1.1 (by show kd ≠ 99; omega)
      obtain ⟨hN, p1, p2⟩ := pz_pf_ok hcl hkN
      have hj : j < pz_nf kd := by rw [← hN]; exact hkN
      have fin : ∀ (ty : FieldType), pz_rk kd j = none → (T j).2.2.2 = false → parseFieldDescriptor (T j).2.2.1 = some ty → narrow ty (.int (Int32.ofInt v)) = .int (Int32.ofInt v) → fits ty (.int (Int32.ofInt v)) = true → K (pc + 3) lo r (pz_u M a j v) → W p l e R s m args below meth c H locs cells slots Q (F0 m pc ls ((.inl v :: .inr (.inr (kd, a)) :: r).map (pz_v ad))) := by
        intro ty e1 e2 e3 e4 e5 h
        refine va_put (C := C) (T := T) (N := N) (fs := (List.range (pz_nf kd)).map (pz_fv ad M a kd)) hx hb hts k1 ty0 k3 k2 hown hX.1 hP (hX.D M) hS a (pz_wso c1.1 hlt hci) hcl j hkN (hts _ hlk) (fun _ h => h) e2 e3 e4 e5 (by simpa using hj) hd (fun H1 locs1 hP1 hD1 hS1 => ?_)
        rw [pz_ws_set (M := M) (k := j) (v := v) rfl (by
          unfold pz_en
          rw [show pz_kd a = kd from c1.1, if_pos hci, pz_eo_set e1]
          rfl)] at hP1
        exact hK _ _ _ _ h H1 locs1 ls hP1 hS1 (pz_cu hM cv) hL c2
      have h : pz_putk (pz_pf kd j) v (K (pc + 3) lo r (pz_u M a j v)) := h
      generalize hpf : pz_pf kd j = n at h p1 p2
      match n, h, p1, p2 with
      | 0, h, _, _ => exact h.elim
      | 1, h, p1, _ =>
        obtain ⟨q1, q2, q3⟩ := p1 rfl
        exact fin .int q3 q2 (by rw [q1]; rfl) rfl rfl h
      | 2, h, _, p2 =>
        obtain ⟨q1, q2, q3⟩ := p2 rfl
        rcases h.1 with hv | hv
        · exact fin .boolean q3 q2 (by rw [q1]; rfl) (by rw [hv]; rfl) (by rw [hv]; rfl) h.2
        · exact fin .boolean q3 q2 (by rw [q1]; rfl) (by rw [hv]; rfl) (by rw [hv]; rfl) h.2
      | n + 3, h, _, _ => exact h.elim
theorem ps_iaload (Y : pz_Y p s m args c cc own nL D ad adV cy A) {K : pz_F} (hK : ∀ pc lo st M, K pc lo st M → pz_Ok p l e R s m args below meth c cells slots Q nL D ad cy A pc lo st M) {fl : Nat → Option (Nat × Nat)} {ci : Nat → Option pz_V} {ct : Bool → Nat → Option pz_C} {Rt : Option pz_V → pz_M → Prop} {rz : Bool} {pc len nx : Nat} {tg : List Nat} {lo : pz_L} {st : List pz_V} {M : pz_M}   (hw : pz_wf cc (pc, .iaload, len, nx, tg) = true) (h : pz_stp fl ci ct K Rt rz (.iaload) nx tg lo st M) : pz_Ok p l e R s m args below meth c cells slots Q nL D ad cy A pc lo st M := by
  obtain ⟨hx, hb, hml, hown, hts, hX⟩ := Y
  obtain ⟨hd, hn, hsl, htk, him⟩ := pz_wf_spec hw
  subst hn
  have hl1 : len = 1 := of_decide_eq_true hsl
  subst hl1
  intro H locs ls hP hS hM hL hst
  obtain ⟨kd, a, i, r, rfl, h⟩ := pz_ri_spec h
  obtain ⟨c0, c1⟩ := pz_tlm hst
  obtain ⟨c1, c2⟩ := pz_tlm c1
  obtain ⟨hak, h0, h1, h⟩ := pz_al_spec h
  obtain ⟨k1, k2, -⟩ := pz_ak_of (kd := kd) (t := (pz_ak kd).1) (n := (pz_ak kd).2) rfl (by omega)
  have hlt : a < 206 := pz_kd_lo c1.1 (by show kd ≠ 99; omega)
  have hws := pz_wse (ad := ad) (cy := cy) (M := M) c1.1 hlt (show ¬ kd < 13 by omega) (show (pz_ak kd).1 < 2 by omega)
  rw [hak] at hws
  refine va_iald hx hb hX.1 hP a 0 hws rfl (pz_in h0 h1 c0) hd ?_
  rw [pz_clamp c0]
  exact hK _ _ _ _ (h _ rfl (hM _ _).1 (hM _ _).2) H locs ls hP hS hM hL (pz_all (hM _ _) c2)
theorem ps_baload (Y : pz_Y p s m args c cc own nL D ad adV cy A) {K : pz_F} (hK : ∀ pc lo st M, K pc lo st M → pz_Ok p l e R s m args below meth c cells slots Q nL D ad cy A pc lo st M) {fl : Nat → Option (Nat × Nat)} {ci : Nat → Option pz_V} {ct : Bool → Nat → Option pz_C} {Rt : Option pz_V → pz_M → Prop} {rz : Bool} {pc len nx : Nat} {tg : List Nat} {lo : pz_L} {st : List pz_V} {M : pz_M}   (hw : pz_wf cc (pc, .baload, len, nx, tg) = true) (h : pz_stp fl ci ct K Rt rz (.baload) nx tg lo st M) : pz_Ok p l e R s m args below meth c cells slots Q nL D ad cy A pc lo st M := by
  obtain ⟨hx, hb, hml, hown, hts, hX⟩ := Y
  obtain ⟨hd, hn, hsl, htk, him⟩ := pz_wf_spec hw
  subst hn
  have hl1 : len = 1 := of_decide_eq_true hsl
  subst hl1
  intro H locs ls hP hS hM hL hst
  obtain ⟨kd, a, i, r, rfl, h⟩ := pz_ri_spec h
  obtain ⟨c0, c1⟩ := pz_tlm hst
  obtain ⟨c1, c2⟩ := pz_tlm c1
  obtain ⟨hak, h0, h1, h⟩ := pz_al_spec h
  obtain ⟨k1, k2, -⟩ := pz_ak_of (kd := kd) (t := (pz_ak kd).1) (n := (pz_ak kd).2) rfl (by omega)
  have hlt : a < 206 := pz_kd_lo c1.1 (by show kd ≠ 99; omega)
  have hws := pz_wse (ad := ad) (cy := cy) (M := M) c1.1 hlt (show ¬ kd < 13 by omega) (show (pz_ak kd).1 < 2 by omega)
  rw [hak] at hws
  refine va_bald hx hb hX.1 hP a 1 hws rfl (pz_in h0 h1 c0) hd ?_
  rw [pz_clamp c0]
  exact hK _ _ _ _ (h _ rfl (hM _ _).1 (hM _ _).2) H locs ls hP hS hM hL (pz_all (hM _ _) c2)
theorem ps_aaload (Y : pz_Y p s m args c cc own nL D ad adV cy A) {K : pz_F} (hK : ∀ pc lo st M, K pc lo st M → pz_Ok p l e R s m args below meth c cells slots Q nL D ad cy A pc lo st M) {fl : Nat → Option (Nat × Nat)} {ci : Nat → Option pz_V} {ct : Bool → Nat → Option pz_C} {Rt : Option pz_V → pz_M → Prop} {rz : Bool} {pc len nx : Nat} {tg : List Nat} {lo : pz_L} {st : List pz_V} {M : pz_M}   (hw : pz_wf cc (pc, .aaload, len, nx, tg) = true) (h : pz_stp fl ci ct K Rt rz (.aaload) nx tg lo st M) : pz_Ok p l e R s m args below meth c cells slots Q nL D ad cy A pc lo st M := by
  obtain ⟨hx, hb, hml, hown, hts, hX⟩ := Y
  obtain ⟨hd, hn, hsl, htk, him⟩ := pz_wf_spec hw
  subst hn
  have hl1 : len = 1 := of_decide_eq_true hsl
  subst hl1
  intro H locs ls hP hS hM hL hst
  obtain ⟨kd, a, i, r, rfl, h8⟩ := pz_ri_spec h
  obtain ⟨c0, c1⟩ := pz_tlm hst
  obtain ⟨c1, c2⟩ := pz_tlm c1
  rcases pz_aal_spec h8 with ⟨rfl, h0, h1, h⟩ | ⟨rfl, h0, h1, h⟩
  · have c1k : pz_kd a = 29 := c1.1
    have hlt : a < 206 := pz_kd_lo c1k (by decide)
    have hws := pz_wsq (ad := ad) (cy := cy) (M := M) c1k hlt (by decide) (by decide)
    refine va_aldq hx hb hX.1 hP a 2 hws rfl (pz_in h0 h1 c0) hd ?_
    rw [pz_clamp c0]
    obtain ⟨r1, r2⟩ := pz_rf_ok (a := a) (k := i.toNat) c1k (by decide) (show pz_rk 29 i.toNat = some 5 by rfl) (by omega) (fun _ => by omega) (fun z => absurd z (by decide))
    exact hK _ _ _ _ h H locs ls hP hS hM hL (pz_all ⟨r1, (by show pz_rf a i.toNat < 231; omega)⟩ c2)
  · have c1k : pz_kd a = 30 := c1.1
    have hlt : a < 206 := pz_kd_lo c1k (by decide)
    have hws := pz_wsq (ad := ad) (cy := cy) (M := M) c1k hlt (by decide) (by decide)
    refine va_aldq hx hb hX.1 hP a 3 hws rfl (pz_in h0 h1 c0) hd ?_
    rw [pz_clamp c0]
    obtain ⟨r1, r2⟩ := pz_rf_ok (a := a) (k := i.toNat) c1k (by decide) (show pz_rk 30 i.toNat = some 0 by rfl) (by omega) (fun z => absurd z (by decide)) (fun _ => by omega)
    exact hK _ _ _ _ h H locs ls hP hS hM hL (pz_all ⟨r1, (by show pz_rf a i.toNat < 231; omega)⟩ c2)
theorem ps_iastore (Y : pz_Y p s m args c cc own nL D ad adV cy A) {K : pz_F} (hK : ∀ pc lo st M, K pc lo st M → pz_Ok p l e R s m args below meth c cells slots Q nL D ad cy A pc lo st M) {fl : Nat → Option (Nat × Nat)} {ci : Nat → Option pz_V} {ct : Bool → Nat → Option pz_C} {Rt : Option pz_V → pz_M → Prop} {rz : Bool} {pc len nx : Nat} {tg : List Nat} {lo : pz_L} {st : List pz_V} {M : pz_M}   (hw : pz_wf cc (pc, .iastore, len, nx, tg) = true) (h : pz_stp fl ci ct K Rt rz (.iastore) nx tg lo st M) : pz_Ok p l e R s m args below meth c cells slots Q nL D ad cy A pc lo st M := by
  obtain ⟨hx, hb, hml, hown, hts, hX⟩ := Y
  obtain ⟨hd, hn, hsl, htk, him⟩ := pz_wf_spec hw
  subst hn
  have hl1 : len = 1 := of_decide_eq_true hsl
  subst hl1
  intro H locs ls hP hS hM hL hst
  obtain ⟨kd, a, i, v, r, rfl, h⟩ := pz_rii_spec h
  obtain ⟨cv, c0⟩ := pz_tlm hst
  obtain ⟨c0, c1⟩ := pz_tlm c0
  obtain ⟨c1, c2⟩ := pz_tlm c1
  obtain ⟨hak, h0, h1, h⟩ := pz_al_spec h
  obtain ⟨k1, k2, -⟩ := pz_ak_of (kd := kd) (t := (pz_ak kd).1) (n := (pz_ak kd).2) rfl (by omega)
  have hlt : a < 206 := pz_kd_lo c1.1 (by show kd ≠ 99; omega)
  have hws := pz_wse (ad := ad) (cy := cy) (M := M) c1.1 hlt (show ¬ kd < 13 by omega) (show (pz_ak kd).1 < 2 by omega)
  rw [hak] at hws
  refine va_iast hx hb hX.1 hP (hX.D M) hS a 0 hws rfl (pz_in h0 h1 c0) hd (fun H1 locs1 hP1 hD1 hS1 => ?_)
  · 
    rw [pz_clamp c0, pz_upd, pz_ws_set (M := M) (k := i.toNat) (v := v) rfl (by
      unfold pz_en
      rw [show pz_kd a = kd from c1.1, if_neg (show ¬ kd < 13 by omega), if_pos (show (pz_ak kd).1 < 2 by omega)]
      unfold pz_ei
      rw [hak])] at hP1
    exact hK _ _ _ _ h H1 locs1 ls hP1 hS1 (pz_cu hM cv) hL c2
theorem ps_bastore (Y : pz_Y p s m args c cc own nL D ad adV cy A) {K : pz_F} (hK : ∀ pc lo st M, K pc lo st M → pz_Ok p l e R s m args below meth c cells slots Q nL D ad cy A pc lo st M) {fl : Nat → Option (Nat × Nat)} {ci : Nat → Option pz_V} {ct : Bool → Nat → Option pz_C} {Rt : Option pz_V → pz_M → Prop} {rz : Bool} {pc len nx : Nat} {tg : List Nat} {lo : pz_L} {st : List pz_V} {M : pz_M}   (hw : pz_wf cc (pc, .bastore, len, nx, tg) = true) (h : pz_stp fl ci ct K Rt rz (.bastore) nx tg lo st M) : pz_Ok p l e R s m args below meth c cells slots Q nL D ad cy A pc lo st M := by
  obtain ⟨hx, hb, hml, hown, hts, hX⟩ := Y
  obtain ⟨hd, hn, hsl, htk, him⟩ := pz_wf_spec hw
  subst hn
  have hl1 : len = 1 := of_decide_eq_true hsl
  subst hl1
  intro H locs ls hP hS hM hL hst
  obtain ⟨kd, a, i, v, r, rfl, h⟩ := pz_rii_spec h
  obtain ⟨cv, c0⟩ := pz_tlm hst
  obtain ⟨c0, c1⟩ := pz_tlm c0
  obtain ⟨c1, c2⟩ := pz_tlm c1
  obtain ⟨hak, h0, h1, hv1, hv2, h⟩ := pz_al_spec h
  obtain ⟨k1, k2, -⟩ := pz_ak_of (kd := kd) (t := (pz_ak kd).1) (n := (pz_ak kd).2) rfl (by omega)
  have hlt : a < 206 := pz_kd_lo c1.1 (by show kd ≠ 99; omega)
  have hws := pz_wse (ad := ad) (cy := cy) (M := M) c1.1 hlt (show ¬ kd < 13 by omega) (show (pz_ak kd).1 < 2 by omega)
  rw [hak] at hws
  refine va_bast hx hb hX.1 hP (hX.D M) hS a 1 hws rfl (pz_in h0 h1 c0) hd (fun H1 locs1 hP1 hD1 hS1 => ?_)
  · 
    have e8 : vp_nar .byte (Int32.ofInt v) = Int32.ofInt v := by
      rw [vp_nar_byte]
      have : (Int32.ofInt v).toInt8 = Int8.ofInt v := by simp
      rw [this, pz_bip hv1 hv2]
    rw [e8] at hP1
    rw [pz_clamp c0, pz_upd, pz_ws_set (M := M) (k := i.toNat) (v := v) rfl (by
      unfold pz_en
      rw [show pz_kd a = kd from c1.1, if_neg (show ¬ kd < 13 by omega), if_pos (show (pz_ak kd).1 < 2 by omega)]
      unfold pz_ei
      rw [hak])] at hP1
    exact hK _ _ _ _ h H1 locs1 ls hP1 hS1 (pz_cu hM cv) hL c2
theorem ps_arraylength (Y : pz_Y p s m args c cc own nL D ad adV cy A) {K : pz_F} (hK : ∀ pc lo st M, K pc lo st M → pz_Ok p l e R s m args below meth c cells slots Q nL D ad cy A pc lo st M) {fl : Nat → Option (Nat × Nat)} {ci : Nat → Option pz_V} {ct : Bool → Nat → Option pz_C} {Rt : Option pz_V → pz_M → Prop} {rz : Bool} {pc len nx : Nat} {tg : List Nat} {lo : pz_L} {st : List pz_V} {M : pz_M}   (hw : pz_wf cc (pc, .arraylength, len, nx, tg) = true) (h : pz_stp fl ci ct K Rt rz (.arraylength) nx tg lo st M) : pz_Ok p l e R s m args below meth c cells slots Q nL D ad cy A pc lo st M := by
  obtain ⟨hx, hb, hml, hown, hts, hX⟩ := Y
  obtain ⟨hd, hn, hsl, htk, him⟩ := pz_wf_spec hw
  subst hn
  have hl1 : len = 1 := of_decide_eq_true hsl
  subst hl1
  intro H locs ls hP hS hM hL hst
  obtain ⟨kd, a, r, rfl, h⟩ := pz_r_spec h
  obtain ⟨c1, c2⟩ := pz_tlm hst
  obtain ⟨h9, h⟩ := pz_b_spec h
  have h9 := Nat.le_of_ble_eq_true h9
  obtain ⟨k1, k2, k3, k4, k5, k6⟩ := pz_ak_of (kd := kd) (t := (pz_ak kd).1) (n := (pz_ak kd).2) rfl (by omega)
  have hlt : a < 206 := pz_kd_lo c1.1 (by show kd ≠ 99; omega)
  have key : ∀ k, k < 31 → ((pz_ak k).1 < 4 ∨ (pz_ak k).1 = 9) ∧ (pz_ak k).2 ≤ 4096 := by decide +kernel
  obtain ⟨key1, key2⟩ := key kd k2
  have hcn : pz_c (((pz_ak kd).2 : Nat) : Int) := ⟨by omega, by omega⟩
  have hv : Int32.ofNat (pz_ak kd).2 = Int32.ofInt ((pz_ak kd).2 : Int) := (Int32.ofInt_eq_ofNat).symm
  have h := hK _ _ _ _ h H locs ls hP hS hM hL (pz_all hcn c2)
  by_cases h2 : (pz_ak kd).1 < 2
  · have hws := pz_wse (ad := ad) (cy := cy) (M := M) c1.1 hlt (show ¬ kd < 13 by omega) h2
    have h3 : (pz_ak kd).1 = 0 ∨ (pz_ak kd).1 = 1 := by omega
    rcases h3 with h3 | h3
    · exact va_alen hx hb hX.1 hP a 0 hws (ty := .int) (by rw [h3]; rfl) hv hd h
    · exact va_alen hx hb hX.1 hP a 1 hws (ty := .byte) (by rw [h3]; rfl) hv hd h
  · have hws := pz_wsq (ad := ad) (cy := cy) (M := M) c1.1 hlt (show ¬ kd < 13 by omega) h2
    have h3 : (pz_ak kd).1 = 2 ∨ (pz_ak kd).1 = 3 := by omega
    rcases h3 with h3 | h3
    · exact va_alen hx hb hX.1 hP a 2 hws (ty := .object "TwelveChain$Link") (by rw [h3]; rfl) hv hd h
    · exact va_alen hx hb hX.1 hP a 3 hws (ty := .object "TwelveChain$Chain") (by rw [h3]; rfl) hv hd h
theorem ps_invokevirtual (Y : pz_Y p s m args c cc own nL D ad adV cy A) {K : pz_F} (hK : ∀ pc lo st M, K pc lo st M → pz_Ok p l e R s m args below meth c cells slots Q nL D ad cy A pc lo st M) {fl : Nat → Option (Nat × Nat)} {ci : Nat → Option pz_V} {ct : Bool → Nat → Option pz_C} {Rt : Option pz_V → pz_M → Prop} {rz : Bool} {pc len nx : Nat} {tg : List Nat} {lo : pz_L} {st : List pz_V} {M : pz_M} {i : Nat} (hcall : ∀ i k, ct true i = some k → pz_CR p l e R s m args below meth c cells slots Q cc nL D ad cy A (.invokevirtual i) k) (hw : pz_wf cc (pc, .invokevirtual i, len, nx, tg) = true) (h : pz_stp fl ci ct K Rt rz (.invokevirtual i) nx tg lo st M) : pz_Ok p l e R s m args below meth c cells slots Q nL D ad cy A pc lo st M := by
  obtain ⟨hx, hb, hml, hown, hts, hX⟩ := Y
  obtain ⟨hd, hn, hsl, htk, him⟩ := pz_wf_spec hw
  subst hn
  have hl1 : len = 3 := of_decide_eq_true hsl
  subst hl1
  intro H locs ls hP hS hM hL hst
  have h : pz_call (ct true) i lo st M (fun st' M' => K (pc + 3) lo st' M') := h
  unfold pz_call at h
  cases hk : ct true i with
  | none => rw [hk] at h; exact h.elim
  | some k =>
    rw [hk] at h
    obtain ⟨n, rk, pre, post⟩ := k
    obtain ⟨h1, h⟩ := pz_b_spec h
    obtain ⟨h2, h⟩ := pz_b_spec h
    obtain ⟨h3, h⟩ := h
    have h1 := Nat.le_of_ble_eq_true h1
    have h2 := Nat.le_of_ble_eq_true h2
    have est : (st.take n).reverse.reverse ++ st.drop n = st := by rw [List.reverse_reverse, List.take_append_drop]
    have k := hcall i _ hk H locs ls M (st.take n).reverse (st.drop n) pc hd hP hS hM (fun v hv => hst v (List.mem_of_mem_take (List.mem_reverse.mp hv))) hL.1 (by simp; omega) h2 h3 (fun r M' H' locs' e1 e2 hP' hS' hM' => ?_)
    · rw [est] at k; exact k
    · have hdr : ∀ v ∈ st.drop n, pz_cv v := fun v hv => hst v (List.mem_of_mem_drop hv)
      match rk, h, e2 with
      | 0, h, e2 =>
        subst e2
        exact hK _ _ _ _ (h M' e1) H' locs' ls hP' hS' hM' hL hdr
      | 1, h, e2 =>
        obtain ⟨x, rfl, cx⟩ := e2
        exact hK _ _ _ _ (h x M' cx.1 cx.2 e1) H' locs' ls hP' hS' hM' hL (pz_all cx hdr)
      | 2, h, e2 =>
        obtain ⟨x, rfl, cx⟩ := e2
        exact hK _ _ _ _ (h x M' cx.1 cx.2 e1) H' locs' ls hP' hS' hM' hL (pz_all cx hdr)
      | q + 3, h, e2 =>
        obtain ⟨x, rfl, cx⟩ := e2
        exact hK _ _ _ _ (h x M' cx.1 e1) H' locs' ls hP' hS' hM' hL (pz_all cx hdr)
theorem ps_invokestatic (Y : pz_Y p s m args c cc own nL D ad adV cy A) {K : pz_F} (hK : ∀ pc lo st M, K pc lo st M → pz_Ok p l e R s m args below meth c cells slots Q nL D ad cy A pc lo st M) {fl : Nat → Option (Nat × Nat)} {ci : Nat → Option pz_V} {ct : Bool → Nat → Option pz_C} {Rt : Option pz_V → pz_M → Prop} {rz : Bool} {pc len nx : Nat} {tg : List Nat} {lo : pz_L} {st : List pz_V} {M : pz_M} {i : Nat} (hcall : ∀ i k, ct false i = some k → pz_CR p l e R s m args below meth c cells slots Q cc nL D ad cy A (.invokestatic i) k) (hw : pz_wf cc (pc, .invokestatic i, len, nx, tg) = true) (h : pz_stp fl ci ct K Rt rz (.invokestatic i) nx tg lo st M) : pz_Ok p l e R s m args below meth c cells slots Q nL D ad cy A pc lo st M := by
  obtain ⟨hx, hb, hml, hown, hts, hX⟩ := Y
  obtain ⟨hd, hn, hsl, htk, him⟩ := pz_wf_spec hw
  subst hn
  have hl1 : len = 3 := of_decide_eq_true hsl
  subst hl1
  intro H locs ls hP hS hM hL hst
  have h : pz_call (ct false) i lo st M (fun st' M' => K (pc + 3) lo st' M') := h
  unfold pz_call at h
  cases hk : ct false i with
  | none => rw [hk] at h; exact h.elim
  | some k =>
    rw [hk] at h
    obtain ⟨n, rk, pre, post⟩ := k
    obtain ⟨h1, h⟩ := pz_b_spec h
    obtain ⟨h2, h⟩ := pz_b_spec h
    obtain ⟨h3, h⟩ := h
    have h1 := Nat.le_of_ble_eq_true h1
    have h2 := Nat.le_of_ble_eq_true h2
    have est : (st.take n).reverse.reverse ++ st.drop n = st := by rw [List.reverse_reverse, List.take_append_drop]
    have k := hcall i _ hk H locs ls M (st.take n).reverse (st.drop n) pc hd hP hS hM (fun v hv => hst v (List.mem_of_mem_take (List.mem_reverse.mp hv))) hL.1 (by simp; omega) h2 h3 (fun r M' H' locs' e1 e2 hP' hS' hM' => ?_)
    · rw [est] at k; exact k
    · have hdr : ∀ v ∈ st.drop n, pz_cv v := fun v hv => hst v (List.mem_of_mem_drop hv)
      match rk, h, e2 with
      | 0, h, e2 =>
        subst e2
        exact hK _ _ _ _ (h M' e1) H' locs' ls hP' hS' hM' hL hdr
      | 1, h, e2 =>
        obtain ⟨x, rfl, cx⟩ := e2
        exact hK _ _ _ _ (h x M' cx.1 cx.2 e1) H' locs' ls hP' hS' hM' hL (pz_all cx hdr)
      | 2, h, e2 =>
        obtain ⟨x, rfl, cx⟩ := e2
        exact hK _ _ _ _ (h x M' cx.1 cx.2 e1) H' locs' ls hP' hS' hM' hL (pz_all cx hdr)
      | q + 3, h, e2 =>
        obtain ⟨x, rfl, cx⟩ := e2
        exact hK _ _ _ _ (h x M' cx.1 e1) H' locs' ls hP' hS' hM' hL (pz_all cx hdr)
theorem ps_ireturn (Y : pz_Y p s m args c cc own nL D ad adV cy A) {K : pz_F} (hK : ∀ pc lo st M, K pc lo st M → pz_Ok p l e R s m args below meth c cells slots Q nL D ad cy A pc lo st M) {fl : Nat → Option (Nat × Nat)} {ci : Nat → Option pz_V} {ct : Bool → Nat → Option pz_C} {Rt : Option pz_V → pz_M → Prop} {rz : Bool} {pc len nx : Nat} {tg : List Nat} {lo : pz_L} {st : List pz_V} {M : pz_M}  (hRT : pz_RT p l e R s m args below meth c cells slots Q cc D ad cy A Rt rz) (hw : pz_wf cc (pc, .ireturn, len, nx, tg) = true) (h : pz_stp fl ci ct K Rt rz (.ireturn) nx tg lo st M) : pz_Ok p l e R s m args below meth c cells slots Q nL D ad cy A pc lo st M := by
  obtain ⟨hx, hb, hml, hown, hts, hX⟩ := Y
  obtain ⟨hd, hn, hsl, htk, him⟩ := pz_wf_spec hw
  subst hn
  have hl1 : len = 1 := of_decide_eq_true hsl
  subst hl1
  intro H locs ls hP hS hM hL hst
  match st, h, hst with
  | [], h, _ => exact h.elim
  | .inr _ :: _, h, _ => exact h.elim
  | .inl _ :: _ :: _, h, _ => exact h.elim
  | [.inl x], h, hst =>
    have hc := (pz_tlm hst).1
    cases rz with
    | true => exact hRT .ireturn (some (.inl x)) pc H locs ls M hd (Or.inl ⟨rfl, x, rfl, fun _ => h.1⟩) (fun v hv => by cases hv; exact hc) hP hS hM h.2
    | false => exact hRT .ireturn (some (.inl x)) pc H locs ls M hd (Or.inl ⟨rfl, x, rfl, fun z => by cases z⟩) (fun v hv => by cases hv; exact hc) hP hS hM h
theorem ps_lreturn (Y : pz_Y p s m args c cc own nL D ad adV cy A) {K : pz_F} (hK : ∀ pc lo st M, K pc lo st M → pz_Ok p l e R s m args below meth c cells slots Q nL D ad cy A pc lo st M) {fl : Nat → Option (Nat × Nat)} {ci : Nat → Option pz_V} {ct : Bool → Nat → Option pz_C} {Rt : Option pz_V → pz_M → Prop} {rz : Bool} {pc len nx : Nat} {tg : List Nat} {lo : pz_L} {st : List pz_V} {M : pz_M}  (hRT : pz_RT p l e R s m args below meth c cells slots Q cc D ad cy A Rt rz) (hw : pz_wf cc (pc, .lreturn, len, nx, tg) = true) (h : pz_stp fl ci ct K Rt rz (.lreturn) nx tg lo st M) : pz_Ok p l e R s m args below meth c cells slots Q nL D ad cy A pc lo st M := by
  obtain ⟨hx, hb, hml, hown, hts, hX⟩ := Y
  obtain ⟨hd, hn, hsl, htk, him⟩ := pz_wf_spec hw
  subst hn
  have hl1 : len = 1 := of_decide_eq_true hsl
  subst hl1
  intro H locs ls hP hS hM hL hst
  match st, h, hst with
  | [], h, _ => exact h.elim
  | .inl _ :: _, h, _ => exact h.elim
  | .inr (.inr _) :: _, h, _ => exact h.elim
  | .inr (.inl _) :: _ :: _, h, _ => exact h.elim
  | [.inr (.inl x)], h, hst =>
    have hc := (pz_tlm hst).1
    exact hRT .lreturn (some (.inr (.inl x))) pc H locs ls M hd (Or.inr (Or.inl ⟨rfl, x, rfl⟩)) (fun v hv => by cases hv; exact hc) hP hS hM h
theorem ps_areturn (Y : pz_Y p s m args c cc own nL D ad adV cy A) {K : pz_F} (hK : ∀ pc lo st M, K pc lo st M → pz_Ok p l e R s m args below meth c cells slots Q nL D ad cy A pc lo st M) {fl : Nat → Option (Nat × Nat)} {ci : Nat → Option pz_V} {ct : Bool → Nat → Option pz_C} {Rt : Option pz_V → pz_M → Prop} {rz : Bool} {pc len nx : Nat} {tg : List Nat} {lo : pz_L} {st : List pz_V} {M : pz_M}  (hRT : pz_RT p l e R s m args below meth c cells slots Q cc D ad cy A Rt rz) (hw : pz_wf cc (pc, .areturn, len, nx, tg) = true) (h : pz_stp fl ci ct K Rt rz (.areturn) nx tg lo st M) : pz_Ok p l e R s m args below meth c cells slots Q nL D ad cy A pc lo st M := by
  obtain ⟨hx, hb, hml, hown, hts, hX⟩ := Y
  obtain ⟨hd, hn, hsl, htk, him⟩ := pz_wf_spec hw
  subst hn
  have hl1 : len = 1 := of_decide_eq_true hsl
  subst hl1
  intro H locs ls hP hS hM hL hst
  match st, h, hst with
  | [], h, _ => exact h.elim
  | .inl _ :: _, h, _ => exact h.elim
  | .inr (.inl _) :: _, h, _ => exact h.elim
  | .inr (.inr _) :: _ :: _, h, _ => exact h.elim
  | [.inr (.inr x)], h, hst =>
    have hc := (pz_tlm hst).1
    exact hRT .areturn (some (.inr (.inr x))) pc H locs ls M hd (Or.inr (Or.inr (Or.inl ⟨rfl, x, rfl⟩))) (fun v hv => by cases hv; exact hc) hP hS hM h
end PZU
end
section
section PZW
variable {p : Program} {l : Launch} {e : Env} {R : Room} {s : State} {m : MethodId} {args : Array Value} {below : List Frame} {meth : Method} {c : Code} {cells slots : Nat} {Q : State → Prop}
variable {cc : ByteArray} {own : String} {nL : Nat} {D : va_G} {ad adV : Nat → Nat} {cy : Nat → ClassId} {A : Nat → Prop}
theorem pz_step (Y : pz_Y p s m args c cc own nL D ad adV cy A) {K : pz_F} (hK : ∀ pc lo st M, K pc lo st M → pz_Ok p l e R s m args below meth c cells slots Q nL D ad cy A pc lo st M) {fl : Nat → Option (Nat × Nat)} {ci : Nat → Option pz_V} {ct : Bool → Nat → Option pz_C} {Rt : Option pz_V → pz_M → Prop} {rz : Bool}
    (hfl : ∀ i q, fl i = some q → pz_flok own (i, q)) (hci : ∀ i v, ci i = some v → pz_ciok own i v)
    (hcv : ∀ i k, ct true i = some k → pz_CR p l e R s m args below meth c cells slots Q cc nL D ad cy A (.invokevirtual i) k) (hcs : ∀ i k, ct false i = some k → pz_CR p l e R s m args below meth c cells slots Q cc nL D ad cy A (.invokestatic i) k)
    (hRT : pz_RT p l e R s m args below meth c cells slots Q cc D ad cy A Rt rz)
    {pc len nx : Nat} {tg : List Nat} {lo : pz_L} {st : List pz_V} {M : pz_M} (I : Instr) (hw : pz_wf cc (pc, I, len, nx, tg) = true) (h : pz_stp fl ci ct K Rt rz I nx tg lo st M) : pz_Ok p l e R s m args below meth c cells slots Q nL D ad cy A pc lo st M := by
  cases I
  case iconst v => exact ps_iconst Y hK  hw h
  case bipush v => exact ps_bipush Y hK  hw h
  case sipush v => exact ps_sipush Y hK  hw h
  case lconst v => exact ps_lconst Y hK  hw h
  case ldc i => exact ps_ldc Y hK hci hw h
  case ldc_w i => exact ps_ldc_w Y hK hci hw h
  case ldc2_w i => exact ps_ldc2_w Y hK hci hw h
  case iload k => exact ps_iload Y hK  hw h
  case iload_n k => exact ps_iload_n Y hK  hw h
  case lload k => exact ps_lload Y hK  hw h
  case lload_n k => exact ps_lload_n Y hK  hw h
  case aload k => exact ps_aload Y hK  hw h
  case aload_n k => exact ps_aload_n Y hK  hw h
  case istore k => exact ps_istore Y hK  hw h
  case istore_n k => exact ps_istore_n Y hK  hw h
  case lstore k => exact ps_lstore Y hK  hw h
  case lstore_n k => exact ps_lstore_n Y hK  hw h
  case astore k => exact ps_astore Y hK  hw h
  case astore_n k => exact ps_astore_n Y hK  hw h
  case iinc k n => exact ps_iinc Y hK  hw h
  case iadd => exact ps_iadd Y hK  hw h
  case isub => exact ps_isub Y hK  hw h
  case imul => exact ps_imul Y hK  hw h
  case idiv => exact ps_idiv Y hK  hw h
  case irem => exact ps_irem Y hK  hw h
  case iand => exact ps_iand Y hK  hw h
  case ior => exact ps_ior Y hK  hw h
  case ixor => exact ps_ixor Y hK  hw h
  case ishl => exact ps_ishl Y hK  hw h
  case ishr => exact ps_ishr Y hK  hw h
  case iushr => exact ps_iushr Y hK  hw h
  case i2b => exact ps_i2b Y hK  hw h
  case i2l => exact ps_i2l Y hK  hw h
  case l2i => exact ps_l2i Y hK  hw h
  case ladd => exact ps_ladd Y hK  hw h
  case lsub => exact ps_lsub Y hK  hw h
  case lmul => exact ps_lmul Y hK  hw h
  case ldiv => exact ps_ldiv Y hK  hw h
  case lcmp => exact ps_lcmp Y hK  hw h
  case dup => exact ps_dup Y hK  hw h
  case pop => exact ps_pop Y hK  hw h
  case dup2 => exact ps_dup2 Y hK  hw h
  case goto o => exact ps_goto Y hK  hw h
  case ifCond b o => exact ps_ifCond Y hK  hw h
  case if_icmp b o => exact ps_if_icmp Y hK  hw h
  case tableswitch d low high os => exact ps_tableswitch Y hK  hw h
  case lookupswitch d ps => exact ps_lookupswitch Y hK  hw h
  case getfield i => exact ps_getfield Y hK hfl hw h
  case putfield i => exact ps_putfield Y hK hfl hw h
  case iaload => exact ps_iaload Y hK  hw h
  case baload => exact ps_baload Y hK  hw h
  case aaload => exact ps_aaload Y hK  hw h
  case iastore => exact ps_iastore Y hK  hw h
  case bastore => exact ps_bastore Y hK  hw h
  case arraylength => exact ps_arraylength Y hK  hw h
  case invokevirtual i => exact ps_invokevirtual Y hK hcv hw h
  case invokestatic i => exact ps_invokestatic Y hK hcs hw h
  case ireturn => exact ps_ireturn Y hK hRT hw h
  case lreturn => exact ps_lreturn Y hK hRT hw h
  case areturn => exact ps_areturn Y hK hRT hw h
  case return_ =>
    obtain ⟨hd, hn, hsl, htk, him⟩ := pz_wf_spec hw
    have hl1 : len = 1 := of_decide_eq_true hsl
    subst hl1
    intro H locs ls hP hS hM hL hst
    match st, h with
    | [], h => exact hRT .return_ none pc H locs ls M hd (Or.inr (Or.inr (Or.inr ⟨rfl, rfl⟩))) (fun v hv => by cases hv) hP hS hM h
    | _ :: _, h => exact False.elim h
  all_goals exact False.elim h
/-- many instructions -/
theorem pz_many (Y : pz_Y p s m args c cc own nL D ad adV cy A) {tb : List pz_E} {fl : Nat → Option (Nat × Nat)} {ci : Nat → Option pz_V} {ct : Bool → Nat → Option pz_C} {cut : Nat → Bool} {Rt : Option pz_V → pz_M → Prop} {rz : Bool}
    (htb : tb.all (fun q => pz_wf cc q) = true)
    (hfl : ∀ i q, fl i = some q → pz_flok own (i, q)) (hci : ∀ i v, ci i = some v → pz_ciok own i v)
    (hcv : ∀ i k, ct true i = some k → pz_CR p l e R s m args below meth c cells slots Q cc nL D ad cy A (.invokevirtual i) k) (hcs : ∀ i k, ct false i = some k → pz_CR p l e R s m args below meth c cells slots Q cc nL D ad cy A (.invokestatic i) k)
    (hRT : pz_RT p l e R s m args below meth c cells slots Q cc D ad cy A Rt rz) :
    ∀ (n pc : Nat) (lo : pz_L) (st : List pz_V) (M : pz_M), pz_run tb fl ci ct cut (pz_Ok p l e R s m args below meth c cells slots Q nL D ad cy A) Rt rz n pc lo st M → pz_Ok p l e R s m args below meth c cells slots Q nL D ad cy A pc lo st M := by
  intro n
  induction n with
  | zero => intro pc lo st M h; exact h
  | succ n ih =>
    intro pc lo st M h
    unfold pz_run at h
    cases hq : pz_at tb pc with
    | none => rw [hq] at h; exact False.elim h
    | some q =>
      rw [hq] at h
      have hm := List.mem_of_find?_eq_some hq
      have hq2 : tb.find? (fun q => Nat.beq q.1 pc) = some q := hq
      have hpc0 := List.find?_some hq2
      have hpc := Nat.eq_of_beq_eq_true (n := q.1) (m := pc) hpc0
      have hw := List.all_eq_true.mp htb q hm
      obtain ⟨pc2, I, len, nx, tg⟩ := q
      have hpc : pc2 = pc := hpc
      subst hpc
      refine pz_step Y (fun pc' lo' st' M' hk => ?_) hfl hci hcv hcs hRT I hw h
      cases hc : cut pc' with
      | true => rw [hc] at hk; exact hk
      | false => rw [hc] at hk; exact ih pc' lo' st' M' hk
/-- the same, for one who doesn't see the machine -/
def pz_Go (tb : List pz_E) (fl : Nat → Option (Nat × Nat)) (ci : Nat → Option pz_V) (ct : Bool → Nat → Option pz_C) (rz : Bool) (Ok : pz_F) (Rt : Option pz_V → pz_M → Prop) : Prop :=
  ∀ (cut : Nat → Bool) (n pc : Nat) (lo : pz_L) (st : List pz_V) (M : pz_M), pz_run tb fl ci ct cut Ok Rt rz n pc lo st M → Ok pc lo st M
end PZW
end
section
theorem pz_good {ws : List Cond} (h : ∀ w ∈ ws, w ∈ pz_tbl) : GoodIn pz_tbl ws := fun w hw => ⟨h w hw, good_of_word (List.mem_filter.mp (h w hw)).2⟩
theorem pz_blind (D : va_G) (ad adV : Nat → Nat) (cy : Nat → ClassId) (A : Nat → Prop) (av : List Value) (M : pz_M) : FrameBlind (va_Pc av (pz_G D ad adV cy A M)) :=
  fun _ U g mk q => ⟨q.1, q.2.1, pz_X.same (u := U) (U := U.calling g mk _) rfl q.2.2.1, q.2.2.2⟩
/-- a receiver's class: by its number among the classes, or a String -/
def pz_rcv (rc : Nat) (C : String) : Prop := (∃ T N, vwCl[rc]? = some (C, T, N)) ∨ (rc = 99 ∧ C = "java/lang/String")
/-- what is known of a virtual call's callee -/
def pz_cV (fr lo : Nat) (own : String) (i : Nat) (k : pz_C) : Prop :=
  ∃ (y : MethodName) (cc : ByteArray) (maxL : Nat) (ret : Option FieldType) (fr' lo' n rc : Nat), pz_H y cc maxL ret k fr' lo' ∧ fr' + 1 ≤ fr ∧ 8 + (maxL + 11) + lo' ≤ lo ∧ k.1 = n + 1 ∧
    (y.cls ≠ "java/lang/invoke/MethodHandle" ∧ y.cls ≠ "java/lang/invoke/VarHandle" ∧ (parseMethodDescriptor y.desc).map (fun d => d.parameters.length) = some n) ∧
    (.code y cc maxL ret ∈ pz_tbl ∧ .methodLink own i y ∈ pz_tbl ∧ .instanceMethod y ∈ pz_tbl ∧ .selects y.cls y y ∈ pz_tbl ∧ .initialized y.cls ∈ pz_tbl) ∧
    pz_rcv rc y.cls ∧ ∀ (a : List pz_V) (M : pz_M), a.length = k.1 → k.2.2.1 a M → ∃ id t, a = .inr (.inr (rc, id)) :: t
/-- of a static call's -/
def pz_cS (fr lo : Nat) (own : String) (i : Nat) (k : pz_C) : Prop :=
  ∃ (y : MethodName) (cc : ByteArray) (maxL : Nat) (ret : Option FieldType) (fr' lo' n : Nat), pz_H y cc maxL ret k fr' lo' ∧ fr' + 1 ≤ fr ∧ 8 + (maxL + 11) + lo' ≤ lo ∧ k.1 = n ∧
    (y.cls ≠ "java/lang/invoke/MethodHandle" ∧ y.cls ≠ "java/lang/invoke/VarHandle" ∧ (parseMethodDescriptor y.desc).map (fun d => d.parameters.length) = some n) ∧
    (.code y cc maxL ret ∈ pz_tbl ∧ .static y ∈ pz_tbl ∧ .initialized y.cls ∈ pz_tbl) ∧ (.methodLink own i y ∈ pz_tbl ∨ (own = RX1 ∧ i = 35 ∧ y = yX11_within))
section PZV
variable {p : Program} {l : Launch} {e : Env} {R : Room} {s : State} {m : MethodId} {args : Array Value} {below : List Frame} {meth : Method} {c : Code} {cells slots : Nat} {Q : State → Prop}
variable {cc : ByteArray} {own : String} {nL : Nat} {D : va_G} {ad adV : Nat → Nat} {cy : Nat → ClassId} {A : Nat → Prop}
theorem pz_fromRun {H : Heap} {locs : List Loc} {ls : Array Slot} {st0 rest : List Value} {pc rk : Nat} {post : Option pz_V → pz_M → Prop} {k9 : List Value → State}
    (hr : va_Run p l e R s m args below meth c H locs cells slots 0 0 (F0 m pc ls st0) rest (fun st o t => (∃ (r : Option pz_V) (M' : pz_M), post r M' ∧ pz_rr rk r ∧ o = .returned (r.map (pz_v ad)) ∧ pz_G D ad adV cy A M' t) ∧ va_F A st t) A) (hS : va_S A s.heap H locs)
    (kk : ∀ (r : Option pz_V) (M' : pz_M) (H' : Heap) (locs' : List Loc), post r M' → pz_rr rk r → va_P D vwCl (pz_ws ad cy M') H' → va_S A s.heap H' locs' → (∀ a k : Nat, pz_c (M' a k)) → W p l e R s m args below meth c H' locs' cells slots Q (F0 m (pc + 3) ls (r.toList.map (pz_v ad) ++ rest))) : W p l e R s m args below meth c H locs cells slots Q (F0 m pc ls st0) := by
  intro T hT X
  obtain ⟨v, st₀, t, T', L, h0, X', hL, e1, e2, ⟨⟨r, M', q1, q2, q3, q4⟩, q5⟩, st⟩ := hr T hT X
  have hv : v = r.map (pz_v ad) := by cases q3; rfl
  subst hv
  have hS' : va_S A s.heap T'.heap (locs ++ L) := by
    refine ⟨?_, fun q h1 h2 => ?_, fun x hx => ?_⟩
    · have a1 := hS.1
      have a2 := q5.1
      rw [h0] at a2
      rw [e1]
      omega
    · have a1 := hS.1
      have a3 := q5.2 q (by rw [h0]; omega) h2
      rw [e1, a3, h0]
      exact hS.2.1 q h1 h2
    · rcases List.mem_append.mp hx with hx | hx
      · exact hS.2.2 x hx
      · exact hL x hx
  obtain ⟨t2, a1, b1⟩ := kk r M' T'.heap (locs ++ L) q1 q2 (by rw [e1]; exact q4.1) hS' q4.2.2 T' rfl X'
  refine ⟨t2, st t2 ?_, b1⟩
  have e3 : (r.map (pz_v ad)).toList = r.toList.map (pz_v ad) := by cases r <;> rfl
  rw [e3]
  exact a1
theorem pz_crV (Y : pz_Y p s m args c cc own nL D ad adV cy A) (hcs : cells ≤ R.cells ∧ slots ≤ R.slots) {i : Nat} {k : pz_C} (h : pz_cV R.frames R.locals own i k) : pz_CR p l e R s m args below meth c cells slots Q cc nL D ad cy A (.invokevirtual i) k := by
  obtain ⟨hx, hb, hml, hown, hts, hX⟩ := Y
  obtain ⟨y, bytes, maxL, ret, fr', lo', n, rc, hH, hfr, hlo, hn, hd, ⟨w1, w2, w3, w4, w5⟩, hrc, hre⟩ := h
  intro H locs ls M As rest pc hdg hP hS hM hAs hls hlen hrest hpre kk
  obtain ⟨id, t, rfl⟩ := hre As M hlen hpre
  have hid := hAs _ List.mem_cons_self
  have hcell : ∃ cellB : Cell, H[ad id]? = some cellB ∧ cellB.vm.isStatics = false ∧ s.vm.findClass y.cls = some cellB.cls := by
    rcases hrc with ⟨T, N, hc⟩ | ⟨rfl, hc⟩
    · have h13 : rc < 13 := (List.getElem?_eq_some_iff.mp hc).1
      have hlt : id < 206 := pz_kd_lo hid.1 (by show rc ≠ 99; omega)
      exact va_recv hX.1 hP hc (pz_wso hid.1 hlt h13)
    · have hlo : ¬ id < 206 := fun q => by
        have key : ∀ a, a < 206 → pz_kd a ≠ 99 := by decide +kernel
        exact key id q hid.1
      have h231 : id < 231 := hid.2
      have := vk_recv (i := id - 206) (adK := fun i => ad (206 + i)) hX.2.2.2.1 (by omega) hS
      rw [hc]
      rw [show 206 + (id - 206) = id by omega] at this
      exact this
  have hmet := hH l D ad adV cy A (.inr (.inr (rc, id)) :: t) M hlen hpre hAs
  have hrun := va_runV (p := p) (e := e) (R := R) (s := s) (m := m) (args := args) (below := below) (meth := meth) (c := c) (H := H) (locs := locs) (cells := cells) (slots := slots) (nL := nL) (own := own) (C := y.cls) (index := i) (n := n) (b := ad id) (As := t.map (pz_v ad)) (rest := rest.map (pz_v ad)) (g := F0 m pc ls ((( .inr (.inr (rc, id)) :: t : List pz_V).reverse ++ rest).map (pz_v ad))) (Ts := pz_tbl)
    ⟨hx, hb, hml, hown, hts⟩ hmet
    (cwV n hts (pz_good (by
      intro w hw
      rcases List.mem_append.mp hw with hw | hw
      · simp only [List.mem_cons, List.not_mem_nil, or_false] at hw
        rcases hw with rfl | rfl | rfl | rfl
        · exact w2
        · exact w3
        · exact w4
        · exact w5
      · rcases List.mem_cons.mp hw with rfl | hw
        · exact w1
        · exact hw)) rfl rfl rfl ⟨rfl, hd⟩ ⟨hfr, hlo⟩)
    ⟨pz_blind D ad adV cy A _ M, hcell, fun U hU hW => ⟨rfl, by rw [hU]; exact hP, by rw [hU]; exact (hX.kept hS.2.1).warm hW, hM⟩⟩
    rfl (by have : ( .inr (.inr (rc, id)) :: t : List pz_V).length = n + 1 := by rw [hlen, hn]
            simpa using this) hls (by simp [pz_v]) (by show 2 * 0 + _ ≤ 8; rw [pz_cs_v]; omega) hdg ⟨by simpa using hcs.1, by simpa using hcs.2⟩
  exact pz_fromRun (rk := k.2.1) (k9 := fun _ => s) hrun hS kk
theorem pz_crS (Y : pz_Y p s m args c cc own nL D ad adV cy A) (hcs : cells ≤ R.cells ∧ slots ≤ R.slots) {i : Nat} {k : pz_C} (h : pz_cS R.frames R.locals own i k) : pz_CR p l e R s m args below meth c cells slots Q cc nL D ad cy A (.invokestatic i) k := by
  obtain ⟨hx, hb, hml, hown, hts, hX⟩ := Y
  obtain ⟨y, bytes, maxL, ret, fr', lo', n, hH, hfr, hlo, hn, hd, ⟨w1, w3, w5⟩, w2⟩ := h
  intro H locs ls M As rest pc hdg hP hS hM hAs hls hlen hrest hpre kk
  have hmet := hH l D ad adV cy A As M hlen hpre hAs
  have hpS : PreS s H (va_Pc (As.map (pz_v ad)) (pz_G D ad adV cy A M)) (As.map (pz_v ad)) := ⟨pz_blind D ad adV cy A _ M, fun U hU hW => ⟨rfl, by rw [hU]; exact hP, by rw [hU]; exact (hX.kept hS.2.1).warm hW, hM⟩⟩
  have hgood : GoodIn pz_tbl (Cond.code y bytes maxL ret :: pz_tbl) := pz_good (by
    intro w hw
    rcases List.mem_cons.mp hw with rfl | hw
    · exact w1
    · exact hw)
  rcases w2 with w2 | ⟨rfl, rfl, rfl⟩
  · have hrun := va_runS (p := p) (e := e) (R := R) (s := s) (m := m) (args := args) (below := below) (meth := meth) (c := c) (H := H) (locs := locs) (cells := cells) (slots := slots) (nL := nL) (own := own) (index := i) (n := n) (As := As.map (pz_v ad)) (rest := rest.map (pz_v ad)) (g := F0 m pc ls ((As.reverse ++ rest).map (pz_v ad))) (Ts := pz_tbl)
      ⟨hx, hb, hml, hown, hts⟩ hmet
      (va_cwS n hts (pz_good (by
        intro w hw
        rcases List.mem_append.mp hw with hw | hw
        · simp only [List.mem_cons, List.not_mem_nil, or_false] at hw
          rcases hw with rfl | rfl | rfl
          · exact w2
          · exact w3
          · exact w5
        · rcases List.mem_cons.mp hw with rfl | hw
          · exact w1
          · exact hw)) rfl rfl rfl hd ⟨hfr, hlo⟩)
      hpS rfl (by simp [hlen, hn]) hls (by simp) (by show 2 * 0 + _ ≤ 8; rw [pz_cs_v]; omega) hdg ⟨by simpa using hcs.1, by simpa using hcs.2⟩
    exact pz_fromRun (rk := k.2.1) (k9 := fun _ => s) hrun hS kk
  · have hrun := va_runSN (p := p) (e := e) (R := R) (s := s) (m := m) (args := args) (below := below) (meth := meth) (c := c) (H := H) (locs := locs) (cells := cells) (slots := slots) (nL := nL) (own := RX1) (host := "TwelveChain") (index := 35) (n := n) (As := As.map (pz_v ad)) (rest := rest.map (pz_v ad)) (g := F0 m pc ls ((As.reverse ++ rest).map (pz_v ad))) (Ts := pz_tbl)
      ⟨hx, hb, hml, hown, hts⟩ hmet
      ⟨va_cnB n hts hgood rfl rfl rfl hX.2.2.2.2.2.2 (hts _ w5) hd ⟨hfr, hlo⟩, hts _ w3, trivial⟩
      hpS rfl (by simp [hlen, hn]) hls (by simp) (by show 2 * 0 + _ ≤ 8; rw [pz_cs_v]; omega) hdg ⟨by simpa using hcs.1, by simpa using hcs.2⟩
    exact pz_fromRun (rk := k.2.1) (k9 := fun _ => s) hrun hS kk
end PZV
/-- the locals at a method's start -/
def pz_es : List pz_V → pz_L
  | [] => []
  | .inr (.inl x) :: t => some (.inr (.inl x)) :: none :: pz_es t
  | v :: t => some v :: pz_es t
def pz_ent (a : List pz_V) (n : Nat) : pz_L := pz_es a ++ List.replicate (n - (pz_es a).length) none
/-- what is answered, by the descriptor and by the contract -/
def pz_ret (ret : Option FieldType) (rk : Nat) (rz : Bool) : Prop := match rk with
  | 0 => ret = none
  | 1 => ret = some .int ∧ rz = false ∨ ret = some .boolean ∧ rz = true
  | 2 => ret = some .long
  | k + 3 => ∃ C T N, vwCl[k]? = some (C, T, N) ∧ ret = some (.object C)
end
section
def pz_kk (rk : Nat) : Option pz_V → Prop
  | none => rk = 0
  | some (.inl _) => rk = 1
  | some (.inr (.inl _)) => rk = 2
  | some (.inr (.inr q)) => rk = q.1 + 3
theorem pz_es_len (ad : Nat → Nat) : ∀ a : List pz_V, (lg_sl (a.map (pz_v ad))).length = (pz_es a).length
  | [] => rfl
  | .inl x :: t => by
    have := pz_es_len ad t
    simp [lg_sl, pz_es, pz_v, Value.category] at this ⊢
    omega
  | .inr (.inl x) :: t => by
    have := pz_es_len ad t
    simp [lg_sl, pz_es, pz_v, Value.category] at this ⊢
    omega
  | .inr (.inr q) :: t => by
    have := pz_es_len ad t
    simp [lg_sl, pz_es, pz_v, Value.category] at this ⊢
    omega
theorem pz_es_mem (ad : Nat → Nat) : ∀ (a : List pz_V) (n i : Nat) (v : pz_V), (pz_es a)[i]? = some (some v) → (n + i, pz_v ad v) ∈ lv_args n (a.map (pz_v ad)) ∧ v ∈ a
  | [], n, i, v, h => by simp [pz_es] at h
  | .inl x :: t, n, 0, v, h => by
    simp [pz_es] at h
    subst h
    exact ⟨List.mem_cons_self, List.mem_cons_self⟩
  | .inl x :: t, n, i + 1, v, h => by
    obtain ⟨q1, q2⟩ := pz_es_mem ad t (n + 1) i v (by simpa [pz_es] using h)
    refine ⟨List.mem_cons_of_mem _ ?_, List.mem_cons_of_mem _ q2⟩
    rw [show n + (i + 1) = n + 1 + i by omega]
    exact q1
  | .inr (.inl x) :: t, n, 0, v, h => by
    simp [pz_es] at h
    subst h
    exact ⟨List.mem_cons_self, List.mem_cons_self⟩
  | .inr (.inl x) :: t, n, 1, v, h => by simp [pz_es] at h
  | .inr (.inl x) :: t, n, i + 2, v, h => by
    obtain ⟨q1, q2⟩ := pz_es_mem ad t (n + 2) i v (by simpa [pz_es] using h)
    refine ⟨List.mem_cons_of_mem _ ?_, List.mem_cons_of_mem _ q2⟩
    rw [show n + (i + 2) = n + 2 + i by omega]
    exact q1
  | .inr (.inr q) :: t, n, 0, v, h => by
    simp [pz_es] at h
    subst h
    exact ⟨List.mem_cons_self, List.mem_cons_self⟩
  | .inr (.inr q) :: t, n, i + 1, v, h => by
    obtain ⟨q1, q2⟩ := pz_es_mem ad t (n + 1) i v (by simpa [pz_es] using h)
    refine ⟨List.mem_cons_of_mem _ ?_, List.mem_cons_of_mem _ q2⟩
    rw [show n + (i + 1) = n + 1 + i by omega]
    exact q1
theorem pz_entLV {ad : Nat → Nat} {a : List pz_V} {n : Nat} (h : (pz_es a).length ≤ n) (hc : ∀ v ∈ a, pz_cv v) : pz_LV ad ((lg_sl (a.map (pz_v ad)) ++ List.replicate (n - (lg_sl (a.map (pz_v ad))).length) Slot.unset).toArray) n (pz_ent a n) := by
  refine pz_LV.of (lv_entry (a.map (pz_v ad)) (by rw [pz_es_len]; exact h)) (by simp [pz_ent]; omega) (fun i v e => ?_)
  unfold pz_ent at e
  by_cases hi : i < (pz_es a).length
  · rw [List.getElem?_append_left hi] at e
    obtain ⟨q1, q2⟩ := pz_es_mem ad a 0 i v e
    rw [Nat.zero_add] at q1
    exact ⟨q1, hc v q2⟩
  · rw [List.getElem?_append_right (by omega)] at e
    rw [List.getElem?_replicate] at e
    split at e <;> cases e
/-- the copying of ints from one row to another -/
def pz_cpy (M : pz_M) (a1 sp a2 dp n : Nat) : pz_M := fun b j => if b = a2 ∧ dp ≤ j ∧ j < dp + n then M a1 (sp + (j - dp)) else M b j
def pz_kac : pz_C := (5, 0, fun a _ => ∃ (k1 a1 k2 a2 : Nat) (sp dp n : Int), a = [.inr (.inr (k1, a1)), .inl sp, .inr (.inr (k2, a2)), .inl dp, .inl n] ∧ (pz_ak k1).1 = 0 ∧ (pz_ak k2).1 = 0 ∧ 0 ≤ sp ∧ 0 ≤ dp ∧ 0 ≤ n ∧ sp + n ≤ ((pz_ak k1).2 : Int) ∧ dp + n ≤ ((pz_ak k2).2 : Int),
  fun a M r M' => ∃ (k1 a1 k2 a2 : Nat) (sp dp n : Int), a = [.inr (.inr (k1, a1)), .inl sp, .inr (.inr (k2, a2)), .inl dp, .inl n] ∧ r = none ∧ M' = pz_cpy M a1 sp.toNat a2 dp.toNat n.toNat)
theorem pz_acw : (Cond.native arraycopyName) ∈ pz_tbl ∧ (Cond.static arraycopyName) ∈ pz_tbl ∧ (Cond.initialized "java/lang/System") ∈ pz_tbl := by
  refine ⟨pz_tbl_in (by decide +kernel) (by decide +kernel), pz_tbl_in (by decide +kernel) (by decide +kernel), pz_tbl_in (by decide +kernel) (by decide +kernel)⟩
section PZA
variable {p : Program} {l : Launch} {e : Env} {R : Room} {s : State} {m : MethodId} {args : Array Value} {below : List Frame} {meth : Method} {c : Code} {cells slots : Nat} {Q : State → Prop}
variable {cc : ByteArray} {own : String} {nL : Nat} {D : va_G} {ad adV : Nat → Nat} {cy : Nat → ClassId} {A : Nat → Prop}
theorem pz_crA (Y : pz_Y p s m args c cc own nL D ad adV cy A) (hfr : 1 ≤ R.frames) (hlo : 60 ≤ R.locals) {i : Nat} (h : Cond.methodLink own i arraycopyName ∈ pz_tbl) : pz_CR p l e R s m args below meth c cells slots Q cc nL D ad cy A (.invokestatic i) pz_kac := by
  obtain ⟨hx, hb, hml, hown, hts, hX⟩ := Y
  intro H locs ls M As rest pc hdg hP hS hM hAs hls hlen hrest hpre kk
  obtain ⟨k1, a1, k2, a2, sp, dp, n, rfl, e1, e2, h1, h2, h3, h4, h5⟩ := hpre
  obtain ⟨c1, hAs⟩ := pz_tlm hAs
  obtain ⟨csp, hAs⟩ := pz_tlm hAs
  obtain ⟨c2, hAs⟩ := pz_tlm hAs
  obtain ⟨cdp, hAs⟩ := pz_tlm hAs
  obtain ⟨cn, -⟩ := pz_tlm hAs
  obtain ⟨x1, x2, -⟩ := pz_ak_of (kd := k1) (t := (pz_ak k1).1) (n := (pz_ak k1).2) rfl (by omega)
  obtain ⟨y1, y2, -⟩ := pz_ak_of (kd := k2) (t := (pz_ak k2).1) (n := (pz_ak k2).2) rfl (by omega)
  have c1k : pz_kd a1 = k1 := c1.1
  have c2k : pz_kd a2 = k2 := c2.1
  have hnf : nativeFrameWords "java/lang/System" "arraycopy" 5 ≤ 40 := by decide +kernel
  have l1 : a1 < 206 := pz_kd_lo c1k (by show k1 ≠ 99; omega)
  have l2 : a2 < 206 := pz_kd_lo c2k (by show k2 ≠ 99; omega)
  have w1 := pz_wse (ad := ad) (cy := cy) (M := M) c1k l1 (show ¬ k1 < 13 by omega) (show (pz_ak k1).1 < 2 by omega)
  have w2 := pz_wse (ad := ad) (cy := cy) (M := M) c2k l2 (show ¬ k2 < 13 by omega) (show (pz_ak k2).1 < 2 by omega)
  rw [e1] at w1
  rw [e2] at w2
  have n0 : ∀ x : Int, 0 ≤ x → pz_c x → ¬ Int32.ofInt x < 0 := fun x hx hc q => by
    have := (pz_lt hc (show pz_c 0 by unfold pz_c; omega)).mp q
    omega
  refine va_copyi (ls := ls) (rest := rest.map (pz_v ad)) (sp := Int32.ofInt sp) (dp := Int32.ofInt dp) (n := Int32.ofInt n) hx hb (by rw [hml, hls]) hown (hts _ h) (hts _ pz_acw.1) (hts _ pz_acw.2.1) (hts _ pz_acw.2.2) hX.1 hP (hX.D M) hS a1 a2 0 0 w1 w2 rfl rfl rfl (n0 sp h1 csp) (n0 dp h2 cdp) (n0 n h3 cn) (by rw [pz_clamp csp, pz_clamp cn]; omega) (by rw [pz_clamp cdp, pz_clamp cn]; omega) (fun _ _ => rfl) hfr (by rw [pz_cs_v]; omega) hdg (fun H1 locs1 hP1 hD1 hS1 => ?_)
  rw [pz_clamp csp, pz_clamp cdp, pz_clamp cn] at hP1
  have hw : (pz_ws ad cy M).set a2 (ad a2, .inl (cy 0, (pz_ak k2).2, .inl (va_cpy (fun j => Int32.ofInt (M a1 j)) (fun j => Int32.ofInt (M a2 j)) sp.toNat dp.toNat n.toNat))) = pz_ws ad cy (pz_cpy M a1 sp.toNat a2 dp.toNat n.toNat) := by
    apply List.ext_getElem?
    intro b
    by_cases hb : b = a2
    · subst hb
      rw [List.getElem?_set_self (by simp [pz_ws, l2]), pz_wse (M := pz_cpy M a1 sp.toNat b dp.toNat n.toNat) c2k l2 (show ¬ k2 < 13 by omega) (show (pz_ak k2).1 < 2 by omega), e2]
      have ef : (va_cpy (fun j => Int32.ofInt (M a1 j)) (fun j => Int32.ofInt (M b j)) sp.toNat dp.toNat n.toNat) = fun j => Int32.ofInt (pz_cpy M a1 sp.toNat b dp.toNat n.toNat b j) := by
        funext j
        unfold va_cpy pz_cpy
        by_cases hj : dp.toNat ≤ j ∧ j < dp.toNat + n.toNat
        · rw [if_pos hj, if_pos ⟨rfl, hj⟩]
        · rw [if_neg hj, if_neg (fun q => hj q.2)]
      rw [ef]
    · rw [List.getElem?_set_ne (Ne.symm hb)]
      by_cases hl : b < 206
      · rw [pz_ws_get hl, pz_ws_get hl]
        have eM : ∀ j, pz_cpy M a1 sp.toNat a2 dp.toNat n.toNat b j = M b j := fun j => by
          unfold pz_cpy
          rw [if_neg (fun q => hb q.1)]
        have e2 : pz_fv ad (pz_cpy M a1 sp.toNat a2 dp.toNat n.toNat) b = pz_fv ad M b := by
          funext k2 j
          unfold pz_fv
          cases pz_rk k2 j with
          | some _ => rfl
          | none => simp only [eM]
        unfold pz_en pz_eo pz_ei
        simp only [eM, e2]
      · simp [pz_ws, hl]
  rw [hw] at hP1
  exact kk none _ H1 locs1 ⟨k1, a1, k2, a2, sp, dp, n, rfl, rfl, rfl⟩ rfl hP1 hS1 (fun a k => by
    unfold pz_cpy
    split
    · exact hM _ _
    · exact hM _ _)
end PZA
theorem pz_mk {y : MethodName} {cc : ByteArray} {maxL : Nat} {ret : Option FieldType} {k : pz_C} {fr lo : Nat} {own : String} {tb : List pz_E} {fl : Nat → Option (Nat × Nat)} {ci : Nat → Option pz_V} {ct : Bool → Nat → Option pz_C} {rz : Bool}
    (hy : plainName y.cls = true) (hown : y.cls = own) (htb : tb.all (fun q => pz_wf cc q) = true) (hfl : ∀ i q, fl i = some q → pz_flok own (i, q)) (hci : ∀ i v, ci i = some v → pz_ciok own i v)
    (hcv : ∀ i k', ct true i = some k' → pz_cV fr lo own i k') (hcs : ∀ i k', ct false i = some k' → pz_cS fr lo own i k' ∨ (k' = pz_kac ∧ 1 ≤ fr ∧ 60 ≤ lo ∧ Cond.methodLink own i arraycopyName ∈ pz_tbl)) (hret : pz_ret ret k.2.1 rz)
    (hsz : ∀ (a : List pz_V) (M : pz_M), a.length = k.1 → k.2.2.1 a M → (pz_es a).length ≤ maxL)
    (vc : ∀ (a : List pz_V) (M : pz_M), a.length = k.1 → (∀ v ∈ a, pz_cv v) → (∀ b j : Nat, pz_c (M b j)) → k.2.2.1 a M → ∀ Ok : pz_F, pz_Go tb fl ci ct rz Ok (fun r M' => pz_kk k.2.1 r ∧ k.2.2.2 a M r M') → Ok 0 (pz_ent a maxL) [] M) : pz_H y cc maxL ret k fr lo := by
  intro l D ad adV cy A a M hlen hpre hcan
  refine Met.ofW (cc := cc) (maxL := maxL) (ret := ret) hy rfl ?_
  intro p e s m args below meth c s₁ B hml hv
  obtain ⟨rfl, hP, hX, hM⟩ := hv
  have hx := B.exec
  have hb := B.bytes
  have hr := B.returns
  have hts0 := atoms_spec (ws := .code y cc maxL ret :: pz_tbl) B.pre
  have hts : ∀ w ∈ pz_tbl, w.before (a.map (pz_v ad)).toArray s = true := fun w hw => hts0 w (List.mem_cons_of_mem _ hw)
  have hown2 : s.vm.findClass own = some m.cls := by rw [← hown]; exact findClass_of_methodNamed B.named
  have hlocks := B.notSynchronized
  have Y : pz_Y p s m (a.map (pz_v ad)).toArray c cc own maxL D ad adV cy A := ⟨hx, hb, hml, hown2, hts, hX⟩
  rw [lg_entry_eq]
  have hRT : pz_RT p l e { frames := fr, cells := 0, slots := 0, locals := lo } s m (a.map (pz_v ad)).toArray below meth c 0 0 (MQ below (fun _ st o t => (∃ (r : Option pz_V) (M' : pz_M), k.2.2.2 a M r M' ∧ pz_rr k.2.1 r ∧ o = .returned (r.map (pz_v ad)) ∧ pz_G D ad adV cy A M' t) ∧ va_F A st t) (a.map (pz_v ad)).toArray s 0 0 A) cc D ad cy A (fun r M' => pz_kk k.2.1 r ∧ k.2.2.2 a M r M') rz := by
    intro I r pc H locs ls M' hdg hok hcr hP' hS' hM' hpost
    have hfin : ∀ rr : pz_rr k.2.1 r, ∀ t : State, t.heap = H → s.WarmedH t.vm → (∃ (r' : Option pz_V) (M' : pz_M), k.2.2.2 a M r' M' ∧ pz_rr k.2.1 r' ∧ Outcome.returned (r.map (pz_v ad)) = .returned (r'.map (pz_v ad)) ∧ pz_G D ad adV cy A M' t) ∧ va_F A s t := by
      intro rr t ht hW
      refine ⟨⟨r, M', hpost.2, rr, rfl, by rw [ht]; exact hP', by rw [ht]; exact (hX.kept hS'.2.1).warm hW, hM'⟩, by rw [ht]; exact hS'.1, fun q h1 h2 => by rw [ht]; exact hS'.2.1 q h1 h2⟩
    rcases hok with ⟨rfl, x, rfl, hz⟩ | ⟨rfl, x, rfl⟩ | ⟨rfl, x, rfl⟩ | ⟨rfl, rfl⟩
    · have h1 : k.2.1 = 1 := hpost.1
      rw [h1] at hret hfin
      rcases hret with ⟨hret, hzz⟩ | ⟨hret, hzz⟩
      · exact W.zret (v := Int32.ofInt x) (ty := .int) hx hb (by rw [hr, hret]) rfl (fun t ht hW => by rw [h1]; exact hfin ⟨x, rfl, hcr _ rfl⟩ t ht hW) hS'.2.2 hdg
      · refine W.zret (v := Int32.ofInt x) (ty := .boolean) hx hb (by rw [hr, hret]) ?_ (fun t ht hW => by rw [h1]; exact hfin ⟨x, rfl, hcr _ rfl⟩ t ht hW) hS'.2.2 hdg
        rcases hz hzz with rfl | rfl <;> rfl
    · have h1 : k.2.1 = 2 := hpost.1
      rw [h1] at hret hfin
      have hret : ret = some .long := hret
      exact W.lret (v := Int64.ofInt x) hx hb (by rw [hr, hret]) (fun t ht hW => by rw [h1]; exact hfin ⟨x, rfl, hcr _ rfl⟩ t ht hW) hS'.2.2 hdg
    · have h1 : k.2.1 = x.1 + 3 := hpost.1
      rw [h1] at hret hfin
      obtain ⟨C, T, N, hc, hret⟩ := hret
      exact W.aret (v := .ref (ad x.2)) hx hb (by rw [hr, hret]) (Or.inl ⟨C, rfl⟩) (Or.inr ⟨_, rfl⟩) (fun t ht hW => by rw [h1]; exact hfin ⟨x.2, rfl, hcr _ rfl⟩ t ht hW) hS'.2.2 hdg
    · have h1 : k.2.1 = 0 := hpost.1
      rw [h1] at hret hfin
      have hret : ret = none := hret
      exact W.vret hx hb (by rw [hr, hret]) (fun t ht hW => by rw [h1]; exact hfin rfl t ht hW) hS'.2.2 hdg
  have hgo := vc a M hlen hcan hM hpre _ (fun cut n pc lo' st M' h => pz_many (R := { frames := fr, cells := 0, slots := 0, locals := lo }) (cells := 0) (slots := 0) Y htb hfl hci (fun i k' hk => pz_crV Y ⟨Nat.le_refl 0, Nat.le_refl 0⟩ (hcv i k' hk)) (fun i k' hk => by
    rcases hcs i k' hk with q | ⟨rfl, q1, q2, q3⟩
    · exact pz_crS Y ⟨Nat.le_refl 0, Nat.le_refl 0⟩ q
    · exact pz_crA Y q1 q2 q3) hRT n pc lo' st M' h)
  exact hgo s.heap [] _ hP va_S.rf hM (pz_entLV (hsz a M hlen hpre) hcan) (fun v hv => absurd hv List.not_mem_nil)
end
