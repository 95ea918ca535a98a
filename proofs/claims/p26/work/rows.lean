section
-- ===== PART A: goes FIRST, ahead of the names: the tables' words, and 'selects' of the private methods out of them =====
/-- a private method of a class that the tables say can be made, by its rows of tables_1 -/
def lw_okq (q : MethodName × Nat) : Prop := (q.1.cls ≠ "java/lang/invoke/MethodHandle" ∧ q.1.cls ≠ "java/lang/invoke/VarHandle") ∧ Cond.instantiable q.1.cls q.2 ∈ tables_1 ∧ Cond.privateMethod q.1 ∈ tables_1 ∧ Cond.instanceMethod q.1 ∈ tables_1
theorem lw_p0 : lw_okq (⟨"TwelveChain$Teller", "conditions", "()Z"⟩, 10) := ⟨⟨by decide +kernel, by decide +kernel⟩, List.mem_of_getElem? (i := 270) (by decide +kernel), List.mem_of_getElem? (i := 770) (by decide +kernel), List.mem_of_getElem? (i := 771) (by decide +kernel)⟩
theorem lw_p1 : lw_okq (⟨"TwelveChain$Teller", "condition", "()Z"⟩, 10) := ⟨⟨by decide +kernel, by decide +kernel⟩, List.mem_of_getElem? (i := 270) (by decide +kernel), List.mem_of_getElem? (i := 774) (by decide +kernel), List.mem_of_getElem? (i := 775) (by decide +kernel)⟩
theorem lw_p2 : lw_okq (⟨"TwelveChain", "highestLevel", "(I)I"⟩, 14) := ⟨⟨by decide +kernel, by decide +kernel⟩, List.mem_of_getElem? (i := 22) (by decide +kernel), List.mem_of_getElem? (i := 975) (by decide +kernel), List.mem_of_getElem? (i := 976) (by decide +kernel)⟩
theorem lw_p3 : lw_okq (⟨"TwelveChain", "heap", "(I)I"⟩, 14) := ⟨⟨by decide +kernel, by decide +kernel⟩, List.mem_of_getElem? (i := 22) (by decide +kernel), List.mem_of_getElem? (i := 1054) (by decide +kernel), List.mem_of_getElem? (i := 1055) (by decide +kernel)⟩
theorem lw_p4 : lw_okq (⟨"TwelveChainModel", "forgets", "()V"⟩, 28) := ⟨⟨by decide +kernel, by decide +kernel⟩, List.mem_of_getElem? (i := 1115) (by decide +kernel), List.mem_of_getElem? (i := 1210) (by decide +kernel), List.mem_of_getElem? (i := 1211) (by decide +kernel)⟩
theorem lw_p5 : lw_okq (⟨"TwelveChainModel", "isLink", "(I)Z"⟩, 28) := ⟨⟨by decide +kernel, by decide +kernel⟩, List.mem_of_getElem? (i := 1115) (by decide +kernel), List.mem_of_getElem? (i := 1225) (by decide +kernel), List.mem_of_getElem? (i := 1226) (by decide +kernel)⟩
theorem lw_p6 : lw_okq (⟨"TwelveChainModel", "next0", "()V"⟩, 28) := ⟨⟨by decide +kernel, by decide +kernel⟩, List.mem_of_getElem? (i := 1115) (by decide +kernel), List.mem_of_getElem? (i := 1244) (by decide +kernel), List.mem_of_getElem? (i := 1245) (by decide +kernel)⟩
theorem lw_p7 : lw_okq (⟨"TwelveChainModel", "see", "(I)I"⟩, 28) := ⟨⟨by decide +kernel, by decide +kernel⟩, List.mem_of_getElem? (i := 1115) (by decide +kernel), List.mem_of_getElem? (i := 1248) (by decide +kernel), List.mem_of_getElem? (i := 1249) (by decide +kernel)⟩
theorem lw_p8 : lw_okq (⟨"TwelveChainModel", "word", "()I"⟩, 28) := ⟨⟨by decide +kernel, by decide +kernel⟩, List.mem_of_getElem? (i := 1115) (by decide +kernel), List.mem_of_getElem? (i := 1255) (by decide +kernel), List.mem_of_getElem? (i := 1256) (by decide +kernel)⟩
theorem lw_p9 : lw_okq (⟨"TwelveChainModel", "lawWord", "()I"⟩, 28) := ⟨⟨by decide +kernel, by decide +kernel⟩, List.mem_of_getElem? (i := 1115) (by decide +kernel), List.mem_of_getElem? (i := 1259) (by decide +kernel), List.mem_of_getElem? (i := 1260) (by decide +kernel)⟩
theorem lw_p10 : lw_okq (⟨"TwelveChainModel", "is", "(Ljava/lang/String;)Z"⟩, 28) := ⟨⟨by decide +kernel, by decide +kernel⟩, List.mem_of_getElem? (i := 1115) (by decide +kernel), List.mem_of_getElem? (i := 1264) (by decide +kernel), List.mem_of_getElem? (i := 1265) (by decide +kernel)⟩
theorem lw_p11 : lw_okq (⟨"TwelveChainModel", "asked", "()I"⟩, 28) := ⟨⟨by decide +kernel, by decide +kernel⟩, List.mem_of_getElem? (i := 1115) (by decide +kernel), List.mem_of_getElem? (i := 1277) (by decide +kernel), List.mem_of_getElem? (i := 1278) (by decide +kernel)⟩
theorem lw_p12 : lw_okq (⟨"TwelveChainModel", "planWord", "()I"⟩, 28) := ⟨⟨by decide +kernel, by decide +kernel⟩, List.mem_of_getElem? (i := 1115) (by decide +kernel), List.mem_of_getElem? (i := 1290) (by decide +kernel), List.mem_of_getElem? (i := 1291) (by decide +kernel)⟩
theorem lw_p13 : lw_okq (⟨"TwelveChainModel", "readsLaw", "()Z"⟩, 28) := ⟨⟨by decide +kernel, by decide +kernel⟩, List.mem_of_getElem? (i := 1115) (by decide +kernel), List.mem_of_getElem? (i := 1304) (by decide +kernel), List.mem_of_getElem? (i := 1305) (by decide +kernel)⟩
theorem lw_p14 : lw_okq (⟨"TwelveChainModel", "aLine", "()Z"⟩, 28) := ⟨⟨by decide +kernel, by decide +kernel⟩, List.mem_of_getElem? (i := 1115) (by decide +kernel), List.mem_of_getElem? (i := 1308) (by decide +kernel), List.mem_of_getElem? (i := 1309) (by decide +kernel)⟩
theorem lw_p15 : lw_okq (⟨"TwelveChainModel", "bad", "(I)Z"⟩, 28) := ⟨⟨by decide +kernel, by decide +kernel⟩, List.mem_of_getElem? (i := 1115) (by decide +kernel), List.mem_of_getElem? (i := 1312) (by decide +kernel), List.mem_of_getElem? (i := 1313) (by decide +kernel)⟩
def lw_privs_1 : List (MethodName × Nat) := [(⟨"TwelveChain$Teller", "conditions", "()Z"⟩, 10), (⟨"TwelveChain$Teller", "condition", "()Z"⟩, 10), (⟨"TwelveChain", "highestLevel", "(I)I"⟩, 14), (⟨"TwelveChain", "heap", "(I)I"⟩, 14), (⟨"TwelveChainModel", "forgets", "()V"⟩, 28), (⟨"TwelveChainModel", "isLink", "(I)Z"⟩, 28), (⟨"TwelveChainModel", "next0", "()V"⟩, 28), (⟨"TwelveChainModel", "see", "(I)I"⟩, 28), (⟨"TwelveChainModel", "word", "()I"⟩, 28), (⟨"TwelveChainModel", "lawWord", "()I"⟩, 28), (⟨"TwelveChainModel", "is", "(Ljava/lang/String;)Z"⟩, 28), (⟨"TwelveChainModel", "asked", "()I"⟩, 28), (⟨"TwelveChainModel", "planWord", "()I"⟩, 28), (⟨"TwelveChainModel", "readsLaw", "()Z"⟩, 28), (⟨"TwelveChainModel", "aLine", "()Z"⟩, 28), (⟨"TwelveChainModel", "bad", "(I)Z"⟩, 28)]
theorem lw_r1 : ∀ q ∈ lw_privs_1, lw_okq q := List.forall_mem_cons.mpr ⟨lw_p0, List.forall_mem_cons.mpr ⟨lw_p1, List.forall_mem_cons.mpr ⟨lw_p2, List.forall_mem_cons.mpr ⟨lw_p3, List.forall_mem_cons.mpr ⟨lw_p4, List.forall_mem_cons.mpr ⟨lw_p5, List.forall_mem_cons.mpr ⟨lw_p6, List.forall_mem_cons.mpr ⟨lw_p7, List.forall_mem_cons.mpr ⟨lw_p8, List.forall_mem_cons.mpr ⟨lw_p9, List.forall_mem_cons.mpr ⟨lw_p10, List.forall_mem_cons.mpr ⟨lw_p11, List.forall_mem_cons.mpr ⟨lw_p12, List.forall_mem_cons.mpr ⟨lw_p13, List.forall_mem_cons.mpr ⟨lw_p14, List.forall_mem_cons.mpr ⟨lw_p15, fun _ h => absurd h List.not_mem_nil⟩⟩⟩⟩⟩⟩⟩⟩⟩⟩⟩⟩⟩⟩⟩⟩
theorem lw_p16 : lw_okq (⟨"TwelveChainModel", "sumUp", "()Z"⟩, 28) := ⟨⟨by decide +kernel, by decide +kernel⟩, List.mem_of_getElem? (i := 1115) (by decide +kernel), List.mem_of_getElem? (i := 1316) (by decide +kernel), List.mem_of_getElem? (i := 1317) (by decide +kernel)⟩
theorem lw_p17 : lw_okq (⟨"TwelveChainModel", "product", "()Z"⟩, 28) := ⟨⟨by decide +kernel, by decide +kernel⟩, List.mem_of_getElem? (i := 1115) (by decide +kernel), List.mem_of_getElem? (i := 1320) (by decide +kernel), List.mem_of_getElem? (i := 1321) (by decide +kernel)⟩
theorem lw_p18 : lw_okq (⟨"TwelveChainModel", "unit", "()Z"⟩, 28) := ⟨⟨by decide +kernel, by decide +kernel⟩, List.mem_of_getElem? (i := 1115) (by decide +kernel), List.mem_of_getElem? (i := 1324) (by decide +kernel), List.mem_of_getElem? (i := 1325) (by decide +kernel)⟩
theorem lw_p19 : lw_okq (⟨"TwelveChainModel", "lay", "(II)V"⟩, 28) := ⟨⟨by decide +kernel, by decide +kernel⟩, List.mem_of_getElem? (i := 1115) (by decide +kernel), List.mem_of_getElem? (i := 1328) (by decide +kernel), List.mem_of_getElem? (i := 1329) (by decide +kernel)⟩
theorem lw_p20 : lw_okq (⟨"TwelveChainModel", "any", "()Z"⟩, 28) := ⟨⟨by decide +kernel, by decide +kernel⟩, List.mem_of_getElem? (i := 1115) (by decide +kernel), List.mem_of_getElem? (i := 1332) (by decide +kernel), List.mem_of_getElem? (i := 1333) (by decide +kernel)⟩
theorem lw_p21 : lw_okq (⟨"TwelveChainModel", "every", "()Z"⟩, 28) := ⟨⟨by decide +kernel, by decide +kernel⟩, List.mem_of_getElem? (i := 1115) (by decide +kernel), List.mem_of_getElem? (i := 1336) (by decide +kernel), List.mem_of_getElem? (i := 1337) (by decide +kernel)⟩
theorem lw_p22 : lw_okq (⟨"TwelveChainModel", "oneTest", "()Z"⟩, 28) := ⟨⟨by decide +kernel, by decide +kernel⟩, List.mem_of_getElem? (i := 1115) (by decide +kernel), List.mem_of_getElem? (i := 1340) (by decide +kernel), List.mem_of_getElem? (i := 1341) (by decide +kernel)⟩
theorem lw_p23 : lw_okq (⟨"TwelveChainModel", "opens", "()Z"⟩, 28) := ⟨⟨by decide +kernel, by decide +kernel⟩, List.mem_of_getElem? (i := 1115) (by decide +kernel), List.mem_of_getElem? (i := 1344) (by decide +kernel), List.mem_of_getElem? (i := 1345) (by decide +kernel)⟩
theorem lw_p24 : lw_okq (⟨"TwelveChainModel", "need", "(I)Z"⟩, 28) := ⟨⟨by decide +kernel, by decide +kernel⟩, List.mem_of_getElem? (i := 1115) (by decide +kernel), List.mem_of_getElem? (i := 1348) (by decide +kernel), List.mem_of_getElem? (i := 1349) (by decide +kernel)⟩
theorem lw_p25 : lw_okq (⟨"TwelveChainModel", "readsRows", "()Z"⟩, 28) := ⟨⟨by decide +kernel, by decide +kernel⟩, List.mem_of_getElem? (i := 1115) (by decide +kernel), List.mem_of_getElem? (i := 1352) (by decide +kernel), List.mem_of_getElem? (i := 1353) (by decide +kernel)⟩
theorem lw_p26 : lw_okq (⟨"TwelveChainModel", "aRow", "()Z"⟩, 28) := ⟨⟨by decide +kernel, by decide +kernel⟩, List.mem_of_getElem? (i := 1115) (by decide +kernel), List.mem_of_getElem? (i := 1356) (by decide +kernel), List.mem_of_getElem? (i := 1357) (by decide +kernel)⟩
theorem lw_p27 : lw_okq (⟨"TwelveChainModel", "aPlan", "()Z"⟩, 28) := ⟨⟨by decide +kernel, by decide +kernel⟩, List.mem_of_getElem? (i := 1115) (by decide +kernel), List.mem_of_getElem? (i := 1360) (by decide +kernel), List.mem_of_getElem? (i := 1361) (by decide +kernel)⟩
theorem lw_p28 : lw_okq (⟨"TwelveChainModel", "told", "(IIII)Z"⟩, 28) := ⟨⟨by decide +kernel, by decide +kernel⟩, List.mem_of_getElem? (i := 1115) (by decide +kernel), List.mem_of_getElem? (i := 1364) (by decide +kernel), List.mem_of_getElem? (i := 1365) (by decide +kernel)⟩
theorem lw_p29 : lw_okq (⟨"TwelveChainModel", "number", "(III)Z"⟩, 28) := ⟨⟨by decide +kernel, by decide +kernel⟩, List.mem_of_getElem? (i := 1115) (by decide +kernel), List.mem_of_getElem? (i := 1368) (by decide +kernel), List.mem_of_getElem? (i := 1369) (by decide +kernel)⟩
theorem lw_p30 : lw_okq (⟨"TwelveChainModel", "aLink", "(I)Z"⟩, 28) := ⟨⟨by decide +kernel, by decide +kernel⟩, List.mem_of_getElem? (i := 1115) (by decide +kernel), List.mem_of_getElem? (i := 1372) (by decide +kernel), List.mem_of_getElem? (i := 1373) (by decide +kernel)⟩
theorem lw_p31 : lw_okq (⟨"TwelveChainModel", "aPhone", "()Z"⟩, 28) := ⟨⟨by decide +kernel, by decide +kernel⟩, List.mem_of_getElem? (i := 1115) (by decide +kernel), List.mem_of_getElem? (i := 1376) (by decide +kernel), List.mem_of_getElem? (i := 1377) (by decide +kernel)⟩
def lw_privs_2 : List (MethodName × Nat) := [(⟨"TwelveChainModel", "sumUp", "()Z"⟩, 28), (⟨"TwelveChainModel", "product", "()Z"⟩, 28), (⟨"TwelveChainModel", "unit", "()Z"⟩, 28), (⟨"TwelveChainModel", "lay", "(II)V"⟩, 28), (⟨"TwelveChainModel", "any", "()Z"⟩, 28), (⟨"TwelveChainModel", "every", "()Z"⟩, 28), (⟨"TwelveChainModel", "oneTest", "()Z"⟩, 28), (⟨"TwelveChainModel", "opens", "()Z"⟩, 28), (⟨"TwelveChainModel", "need", "(I)Z"⟩, 28), (⟨"TwelveChainModel", "readsRows", "()Z"⟩, 28), (⟨"TwelveChainModel", "aRow", "()Z"⟩, 28), (⟨"TwelveChainModel", "aPlan", "()Z"⟩, 28), (⟨"TwelveChainModel", "told", "(IIII)Z"⟩, 28), (⟨"TwelveChainModel", "number", "(III)Z"⟩, 28), (⟨"TwelveChainModel", "aLink", "(I)Z"⟩, 28), (⟨"TwelveChainModel", "aPhone", "()Z"⟩, 28)]
theorem lw_r2 : ∀ q ∈ lw_privs_2, lw_okq q := List.forall_mem_cons.mpr ⟨lw_p16, List.forall_mem_cons.mpr ⟨lw_p17, List.forall_mem_cons.mpr ⟨lw_p18, List.forall_mem_cons.mpr ⟨lw_p19, List.forall_mem_cons.mpr ⟨lw_p20, List.forall_mem_cons.mpr ⟨lw_p21, List.forall_mem_cons.mpr ⟨lw_p22, List.forall_mem_cons.mpr ⟨lw_p23, List.forall_mem_cons.mpr ⟨lw_p24, List.forall_mem_cons.mpr ⟨lw_p25, List.forall_mem_cons.mpr ⟨lw_p26, List.forall_mem_cons.mpr ⟨lw_p27, List.forall_mem_cons.mpr ⟨lw_p28, List.forall_mem_cons.mpr ⟨lw_p29, List.forall_mem_cons.mpr ⟨lw_p30, List.forall_mem_cons.mpr ⟨lw_p31, fun _ h => absurd h List.not_mem_nil⟩⟩⟩⟩⟩⟩⟩⟩⟩⟩⟩⟩⟩⟩⟩⟩
theorem lw_p32 : lw_okq (⟨"TwelveChainModel", "aRecord", "()Z"⟩, 28) := ⟨⟨by decide +kernel, by decide +kernel⟩, List.mem_of_getElem? (i := 1115) (by decide +kernel), List.mem_of_getElem? (i := 1380) (by decide +kernel), List.mem_of_getElem? (i := 1381) (by decide +kernel)⟩
theorem lw_p33 : lw_okq (⟨"TwelveChainModel", "putsText", "(I)I"⟩, 28) := ⟨⟨by decide +kernel, by decide +kernel⟩, List.mem_of_getElem? (i := 1115) (by decide +kernel), List.mem_of_getElem? (i := 1384) (by decide +kernel), List.mem_of_getElem? (i := 1385) (by decide +kernel)⟩
theorem lw_p34 : lw_okq (⟨"TwelveChainModel", "putsLaw", "()I"⟩, 28) := ⟨⟨by decide +kernel, by decide +kernel⟩, List.mem_of_getElem? (i := 1115) (by decide +kernel), List.mem_of_getElem? (i := 1388) (by decide +kernel), List.mem_of_getElem? (i := 1389) (by decide +kernel)⟩
theorem lw_p35 : lw_okq (⟨"TwelveChainModel", "puts", "(III)I"⟩, 28) := ⟨⟨by decide +kernel, by decide +kernel⟩, List.mem_of_getElem? (i := 1115) (by decide +kernel), List.mem_of_getElem? (i := 1392) (by decide +kernel), List.mem_of_getElem? (i := 1393) (by decide +kernel)⟩
theorem lw_p36 : lw_okq (⟨"TwelveChainModel", "putsPhones", "()I"⟩, 28) := ⟨⟨by decide +kernel, by decide +kernel⟩, List.mem_of_getElem? (i := 1115) (by decide +kernel), List.mem_of_getElem? (i := 1396) (by decide +kernel), List.mem_of_getElem? (i := 1397) (by decide +kernel)⟩
theorem lw_p37 : lw_okq (⟨"TwelveChainModel", "canAsk", "(I)Z"⟩, 28) := ⟨⟨by decide +kernel, by decide +kernel⟩, List.mem_of_getElem? (i := 1115) (by decide +kernel), List.mem_of_getElem? (i := 1412) (by decide +kernel), List.mem_of_getElem? (i := 1413) (by decide +kernel)⟩
theorem lw_p38 : lw_okq (⟨"TwelveChainModel", "isThere", "(I)Z"⟩, 28) := ⟨⟨by decide +kernel, by decide +kernel⟩, List.mem_of_getElem? (i := 1115) (by decide +kernel), List.mem_of_getElem? (i := 1416) (by decide +kernel), List.mem_of_getElem? (i := 1417) (by decide +kernel)⟩
theorem lw_p39 : lw_okq (⟨"TwelveChainModel", "isOut", "(I)Z"⟩, 28) := ⟨⟨by decide +kernel, by decide +kernel⟩, List.mem_of_getElem? (i := 1115) (by decide +kernel), List.mem_of_getElem? (i := 1420) (by decide +kernel), List.mem_of_getElem? (i := 1421) (by decide +kernel)⟩
theorem lw_p40 : lw_okq (⟨"TwelveChainModel", "hasMoved", "(I)Z"⟩, 28) := ⟨⟨by decide +kernel, by decide +kernel⟩, List.mem_of_getElem? (i := 1115) (by decide +kernel), List.mem_of_getElem? (i := 1424) (by decide +kernel), List.mem_of_getElem? (i := 1425) (by decide +kernel)⟩
theorem lw_p41 : lw_okq (⟨"TwelveChainModel", "keeps", "()V"⟩, 28) := ⟨⟨by decide +kernel, by decide +kernel⟩, List.mem_of_getElem? (i := 1115) (by decide +kernel), List.mem_of_getElem? (i := 1428) (by decide +kernel), List.mem_of_getElem? (i := 1429) (by decide +kernel)⟩
theorem lw_p42 : lw_okq (⟨"TwelveChainModel", "asks", "(II)I"⟩, 28) := ⟨⟨by decide +kernel, by decide +kernel⟩, List.mem_of_getElem? (i := 1115) (by decide +kernel), List.mem_of_getElem? (i := 1432) (by decide +kernel), List.mem_of_getElem? (i := 1433) (by decide +kernel)⟩
theorem lw_p43 : lw_okq (⟨"TwelveChainModel", "giveOf", "(I)I"⟩, 28) := ⟨⟨by decide +kernel, by decide +kernel⟩, List.mem_of_getElem? (i := 1115) (by decide +kernel), List.mem_of_getElem? (i := 1436) (by decide +kernel), List.mem_of_getElem? (i := 1437) (by decide +kernel)⟩
theorem lw_p44 : lw_okq (⟨"TwelveChainModel", "says", "(IIII)I"⟩, 28) := ⟨⟨by decide +kernel, by decide +kernel⟩, List.mem_of_getElem? (i := 1115) (by decide +kernel), List.mem_of_getElem? (i := 1440) (by decide +kernel), List.mem_of_getElem? (i := 1441) (by decide +kernel)⟩
theorem lw_p45 : lw_okq (⟨"TwelveChainModel", "lacksOf", "(I)I"⟩, 28) := ⟨⟨by decide +kernel, by decide +kernel⟩, List.mem_of_getElem? (i := 1115) (by decide +kernel), List.mem_of_getElem? (i := 1444) (by decide +kernel), List.mem_of_getElem? (i := 1445) (by decide +kernel)⟩
theorem lw_p46 : lw_okq (⟨"TwelveChainModel", "isBridged", "(I)Z"⟩, 28) := ⟨⟨by decide +kernel, by decide +kernel⟩, List.mem_of_getElem? (i := 1115) (by decide +kernel), List.mem_of_getElem? (i := 1451) (by decide +kernel), List.mem_of_getElem? (i := 1452) (by decide +kernel)⟩
theorem lw_p47 : lw_okq (⟨"TwelveChainModel", "bridgedOnes", "()I"⟩, 28) := ⟨⟨by decide +kernel, by decide +kernel⟩, List.mem_of_getElem? (i := 1115) (by decide +kernel), List.mem_of_getElem? (i := 1455) (by decide +kernel), List.mem_of_getElem? (i := 1456) (by decide +kernel)⟩
def lw_privs_3 : List (MethodName × Nat) := [(⟨"TwelveChainModel", "aRecord", "()Z"⟩, 28), (⟨"TwelveChainModel", "putsText", "(I)I"⟩, 28), (⟨"TwelveChainModel", "putsLaw", "()I"⟩, 28), (⟨"TwelveChainModel", "puts", "(III)I"⟩, 28), (⟨"TwelveChainModel", "putsPhones", "()I"⟩, 28), (⟨"TwelveChainModel", "canAsk", "(I)Z"⟩, 28), (⟨"TwelveChainModel", "isThere", "(I)Z"⟩, 28), (⟨"TwelveChainModel", "isOut", "(I)Z"⟩, 28), (⟨"TwelveChainModel", "hasMoved", "(I)Z"⟩, 28), (⟨"TwelveChainModel", "keeps", "()V"⟩, 28), (⟨"TwelveChainModel", "asks", "(II)I"⟩, 28), (⟨"TwelveChainModel", "giveOf", "(I)I"⟩, 28), (⟨"TwelveChainModel", "says", "(IIII)I"⟩, 28), (⟨"TwelveChainModel", "lacksOf", "(I)I"⟩, 28), (⟨"TwelveChainModel", "isBridged", "(I)Z"⟩, 28), (⟨"TwelveChainModel", "bridgedOnes", "()I"⟩, 28)]
theorem lw_r3 : ∀ q ∈ lw_privs_3, lw_okq q := List.forall_mem_cons.mpr ⟨lw_p32, List.forall_mem_cons.mpr ⟨lw_p33, List.forall_mem_cons.mpr ⟨lw_p34, List.forall_mem_cons.mpr ⟨lw_p35, List.forall_mem_cons.mpr ⟨lw_p36, List.forall_mem_cons.mpr ⟨lw_p37, List.forall_mem_cons.mpr ⟨lw_p38, List.forall_mem_cons.mpr ⟨lw_p39, List.forall_mem_cons.mpr ⟨lw_p40, List.forall_mem_cons.mpr ⟨lw_p41, List.forall_mem_cons.mpr ⟨lw_p42, List.forall_mem_cons.mpr ⟨lw_p43, List.forall_mem_cons.mpr ⟨lw_p44, List.forall_mem_cons.mpr ⟨lw_p45, List.forall_mem_cons.mpr ⟨lw_p46, List.forall_mem_cons.mpr ⟨lw_p47, fun _ h => absurd h List.not_mem_nil⟩⟩⟩⟩⟩⟩⟩⟩⟩⟩⟩⟩⟩⟩⟩⟩
theorem lw_p48 : lw_okq (⟨"TwelveChainModel", "endOf", "(II)I"⟩, 28) := ⟨⟨by decide +kernel, by decide +kernel⟩, List.mem_of_getElem? (i := 1115) (by decide +kernel), List.mem_of_getElem? (i := 1459) (by decide +kernel), List.mem_of_getElem? (i := 1460) (by decide +kernel)⟩
theorem lw_p49 : lw_okq (⟨"TwelveChainModel", "isReady", "(I)Z"⟩, 28) := ⟨⟨by decide +kernel, by decide +kernel⟩, List.mem_of_getElem? (i := 1115) (by decide +kernel), List.mem_of_getElem? (i := 1466) (by decide +kernel), List.mem_of_getElem? (i := 1467) (by decide +kernel)⟩
theorem lw_p50 : lw_okq (⟨"TwelveChainModel", "isSo", "(I)Z"⟩, 28) := ⟨⟨by decide +kernel, by decide +kernel⟩, List.mem_of_getElem? (i := 1115) (by decide +kernel), List.mem_of_getElem? (i := 1470) (by decide +kernel), List.mem_of_getElem? (i := 1471) (by decide +kernel)⟩
theorem lw_p51 : lw_okq (⟨"TwelveChainModel", "comesTo", "(III)I"⟩, 28) := ⟨⟨by decide +kernel, by decide +kernel⟩, List.mem_of_getElem? (i := 1115) (by decide +kernel), List.mem_of_getElem? (i := 1474) (by decide +kernel), List.mem_of_getElem? (i := 1475) (by decide +kernel)⟩
theorem lw_p52 : lw_okq (⟨"TwelveChainModel", "notes", "(III)V"⟩, 28) := ⟨⟨by decide +kernel, by decide +kernel⟩, List.mem_of_getElem? (i := 1115) (by decide +kernel), List.mem_of_getElem? (i := 1484) (by decide +kernel), List.mem_of_getElem? (i := 1485) (by decide +kernel)⟩
theorem lw_p53 : lw_okq (⟨"TwelveChainModel", "canBridge", "(I)Z"⟩, 28) := ⟨⟨by decide +kernel, by decide +kernel⟩, List.mem_of_getElem? (i := 1115) (by decide +kernel), List.mem_of_getElem? (i := 1492) (by decide +kernel), List.mem_of_getElem? (i := 1493) (by decide +kernel)⟩
theorem lw_p54 : lw_okq (⟨"TwelveChainModel", "bridges0", "(I)V"⟩, 28) := ⟨⟨by decide +kernel, by decide +kernel⟩, List.mem_of_getElem? (i := 1115) (by decide +kernel), List.mem_of_getElem? (i := 1496) (by decide +kernel), List.mem_of_getElem? (i := 1497) (by decide +kernel)⟩
theorem lw_p55 : lw_okq (⟨"TwelveChainModel", "canPay0", "(III)Z"⟩, 28) := ⟨⟨by decide +kernel, by decide +kernel⟩, List.mem_of_getElem? (i := 1115) (by decide +kernel), List.mem_of_getElem? (i := 1504) (by decide +kernel), List.mem_of_getElem? (i := 1505) (by decide +kernel)⟩
theorem lw_p56 : lw_okq (⟨"TwelveChainModel", "pays", "(III)V"⟩, 28) := ⟨⟨by decide +kernel, by decide +kernel⟩, List.mem_of_getElem? (i := 1115) (by decide +kernel), List.mem_of_getElem? (i := 1508) (by decide +kernel), List.mem_of_getElem? (i := 1509) (by decide +kernel)⟩
theorem lw_p57 : lw_okq (⟨"TwelveChainModel", "canPaper", "(I)Z"⟩, 28) := ⟨⟨by decide +kernel, by decide +kernel⟩, List.mem_of_getElem? (i := 1115) (by decide +kernel), List.mem_of_getElem? (i := 1516) (by decide +kernel), List.mem_of_getElem? (i := 1517) (by decide +kernel)⟩
theorem lw_p58 : lw_okq (⟨"TwelveChainModel", "getsReady", "(I)V"⟩, 28) := ⟨⟨by decide +kernel, by decide +kernel⟩, List.mem_of_getElem? (i := 1115) (by decide +kernel), List.mem_of_getElem? (i := 1520) (by decide +kernel), List.mem_of_getElem? (i := 1521) (by decide +kernel)⟩
theorem lw_p59 : lw_okq (⟨"TwelveChainModel", "aDay", "()I"⟩, 28) := ⟨⟨by decide +kernel, by decide +kernel⟩, List.mem_of_getElem? (i := 1115) (by decide +kernel), List.mem_of_getElem? (i := 1532) (by decide +kernel), List.mem_of_getElem? (i := 1533) (by decide +kernel)⟩
theorem lw_p60 : lw_okq (⟨"TwelveChainModel", "does", "(I)V"⟩, 28) := ⟨⟨by decide +kernel, by decide +kernel⟩, List.mem_of_getElem? (i := 1115) (by decide +kernel), List.mem_of_getElem? (i := 1536) (by decide +kernel), List.mem_of_getElem? (i := 1537) (by decide +kernel)⟩
theorem lw_p61 : lw_okq (⟨"TwelveChainModel", "readyOf", "(I)I"⟩, 28) := ⟨⟨by decide +kernel, by decide +kernel⟩, List.mem_of_getElem? (i := 1115) (by decide +kernel), List.mem_of_getElem? (i := 1540) (by decide +kernel), List.mem_of_getElem? (i := 1541) (by decide +kernel)⟩
theorem lw_p62 : lw_okq (⟨"TwelveChainModel", "falls", "(I)Z"⟩, 28) := ⟨⟨by decide +kernel, by decide +kernel⟩, List.mem_of_getElem? (i := 1115) (by decide +kernel), List.mem_of_getElem? (i := 1544) (by decide +kernel), List.mem_of_getElem? (i := 1545) (by decide +kernel)⟩
theorem lw_p63 : lw_okq (⟨"TwelveChainModel", "draw", "(I)I"⟩, 28) := ⟨⟨by decide +kernel, by decide +kernel⟩, List.mem_of_getElem? (i := 1115) (by decide +kernel), List.mem_of_getElem? (i := 1548) (by decide +kernel), List.mem_of_getElem? (i := 1549) (by decide +kernel)⟩
def lw_privs_4 : List (MethodName × Nat) := [(⟨"TwelveChainModel", "endOf", "(II)I"⟩, 28), (⟨"TwelveChainModel", "isReady", "(I)Z"⟩, 28), (⟨"TwelveChainModel", "isSo", "(I)Z"⟩, 28), (⟨"TwelveChainModel", "comesTo", "(III)I"⟩, 28), (⟨"TwelveChainModel", "notes", "(III)V"⟩, 28), (⟨"TwelveChainModel", "canBridge", "(I)Z"⟩, 28), (⟨"TwelveChainModel", "bridges0", "(I)V"⟩, 28), (⟨"TwelveChainModel", "canPay0", "(III)Z"⟩, 28), (⟨"TwelveChainModel", "pays", "(III)V"⟩, 28), (⟨"TwelveChainModel", "canPaper", "(I)Z"⟩, 28), (⟨"TwelveChainModel", "getsReady", "(I)V"⟩, 28), (⟨"TwelveChainModel", "aDay", "()I"⟩, 28), (⟨"TwelveChainModel", "does", "(I)V"⟩, 28), (⟨"TwelveChainModel", "readyOf", "(I)I"⟩, 28), (⟨"TwelveChainModel", "falls", "(I)Z"⟩, 28), (⟨"TwelveChainModel", "draw", "(I)I"⟩, 28)]
theorem lw_r4 : ∀ q ∈ lw_privs_4, lw_okq q := List.forall_mem_cons.mpr ⟨lw_p48, List.forall_mem_cons.mpr ⟨lw_p49, List.forall_mem_cons.mpr ⟨lw_p50, List.forall_mem_cons.mpr ⟨lw_p51, List.forall_mem_cons.mpr ⟨lw_p52, List.forall_mem_cons.mpr ⟨lw_p53, List.forall_mem_cons.mpr ⟨lw_p54, List.forall_mem_cons.mpr ⟨lw_p55, List.forall_mem_cons.mpr ⟨lw_p56, List.forall_mem_cons.mpr ⟨lw_p57, List.forall_mem_cons.mpr ⟨lw_p58, List.forall_mem_cons.mpr ⟨lw_p59, List.forall_mem_cons.mpr ⟨lw_p60, List.forall_mem_cons.mpr ⟨lw_p61, List.forall_mem_cons.mpr ⟨lw_p62, List.forall_mem_cons.mpr ⟨lw_p63, fun _ h => absurd h List.not_mem_nil⟩⟩⟩⟩⟩⟩⟩⟩⟩⟩⟩⟩⟩⟩⟩⟩
theorem lw_p64 : lw_okq (⟨"TwelveChainModel", "leaveOf", "(I)I"⟩, 28) := ⟨⟨by decide +kernel, by decide +kernel⟩, List.mem_of_getElem? (i := 1115) (by decide +kernel), List.mem_of_getElem? (i := 1554) (by decide +kernel), List.mem_of_getElem? (i := 1555) (by decide +kernel)⟩
theorem lw_p65 : lw_okq (⟨"TwelveChainModel", "leaves", "(I)V"⟩, 28) := ⟨⟨by decide +kernel, by decide +kernel⟩, List.mem_of_getElem? (i := 1115) (by decide +kernel), List.mem_of_getElem? (i := 1558) (by decide +kernel), List.mem_of_getElem? (i := 1559) (by decide +kernel)⟩
theorem lw_p66 : lw_okq (⟨"TwelveChainModel", "unreadies", "(I)V"⟩, 28) := ⟨⟨by decide +kernel, by decide +kernel⟩, List.mem_of_getElem? (i := 1115) (by decide +kernel), List.mem_of_getElem? (i := 1562) (by decide +kernel), List.mem_of_getElem? (i := 1563) (by decide +kernel)⟩
theorem lw_p67 : lw_okq (⟨"TwelveChainModel", "moves", "()I"⟩, 28) := ⟨⟨by decide +kernel, by decide +kernel⟩, List.mem_of_getElem? (i := 1115) (by decide +kernel), List.mem_of_getElem? (i := 1566) (by decide +kernel), List.mem_of_getElem? (i := 1567) (by decide +kernel)⟩
theorem lw_p68 : lw_okq (⟨"TwelveChainModel", "canMove", "(II)Z"⟩, 28) := ⟨⟨by decide +kernel, by decide +kernel⟩, List.mem_of_getElem? (i := 1115) (by decide +kernel), List.mem_of_getElem? (i := 1570) (by decide +kernel), List.mem_of_getElem? (i := 1571) (by decide +kernel)⟩
theorem lw_p69 : lw_okq (⟨"TwelveChainModel", "canPay", "(I)Z"⟩, 28) := ⟨⟨by decide +kernel, by decide +kernel⟩, List.mem_of_getElem? (i := 1115) (by decide +kernel), List.mem_of_getElem? (i := 1574) (by decide +kernel), List.mem_of_getElem? (i := 1575) (by decide +kernel)⟩
theorem lw_p70 : lw_okq (⟨"TwelveChainModel", "costOf", "(I)I"⟩, 28) := ⟨⟨by decide +kernel, by decide +kernel⟩, List.mem_of_getElem? (i := 1115) (by decide +kernel), List.mem_of_getElem? (i := 1578) (by decide +kernel), List.mem_of_getElem? (i := 1579) (by decide +kernel)⟩
theorem lw_p71 : lw_okq (⟨"TwelveChainModel", "recordsOf", "(III)I"⟩, 28) := ⟨⟨by decide +kernel, by decide +kernel⟩, List.mem_of_getElem? (i := 1115) (by decide +kernel), List.mem_of_getElem? (i := 1591) (by decide +kernel), List.mem_of_getElem? (i := 1592) (by decide +kernel)⟩
theorem lw_p72 : lw_okq (⟨"TwelveChainModel", "movedOnes", "()I"⟩, 28) := ⟨⟨by decide +kernel, by decide +kernel⟩, List.mem_of_getElem? (i := 1115) (by decide +kernel), List.mem_of_getElem? (i := 1603) (by decide +kernel), List.mem_of_getElem? (i := 1604) (by decide +kernel)⟩
theorem lw_p73 : lw_okq (⟨"TwelveChainModel", "latestMoved", "()I"⟩, 28) := ⟨⟨by decide +kernel, by decide +kernel⟩, List.mem_of_getElem? (i := 1115) (by decide +kernel), List.mem_of_getElem? (i := 1610) (by decide +kernel), List.mem_of_getElem? (i := 1611) (by decide +kernel)⟩
theorem lw_p74 : lw_okq (⟨"TwelveChainModel", "allBy", "(III)J"⟩, 28) := ⟨⟨by decide +kernel, by decide +kernel⟩, List.mem_of_getElem? (i := 1115) (by decide +kernel), List.mem_of_getElem? (i := 1618) (by decide +kernel), List.mem_of_getElem? (i := 1619) (by decide +kernel)⟩
theorem lw_p75 : lw_okq (⟨"TwelveChainModel", "readyBy", "(II)J"⟩, 28) := ⟨⟨by decide +kernel, by decide +kernel⟩, List.mem_of_getElem? (i := 1115) (by decide +kernel), List.mem_of_getElem? (i := 1623) (by decide +kernel), List.mem_of_getElem? (i := 1624) (by decide +kernel)⟩
theorem lw_p76 : lw_okq (⟨"TwelveChainModel", "hurriedBy", "(II)J"⟩, 28) := ⟨⟨by decide +kernel, by decide +kernel⟩, List.mem_of_getElem? (i := 1115) (by decide +kernel), List.mem_of_getElem? (i := 1649) (by decide +kernel), List.mem_of_getElem? (i := 1650) (by decide +kernel)⟩
theorem lw_p77 : lw_okq (⟨"TwelveChainModel", "leastBy", "(II)J"⟩, 28) := ⟨⟨by decide +kernel, by decide +kernel⟩, List.mem_of_getElem? (i := 1115) (by decide +kernel), List.mem_of_getElem? (i := 1658) (by decide +kernel), List.mem_of_getElem? (i := 1659) (by decide +kernel)⟩
theorem lw_p78 : lw_okq (⟨"TwelveChainModel", "bridgeable", "()I"⟩, 28) := ⟨⟨by decide +kernel, by decide +kernel⟩, List.mem_of_getElem? (i := 1115) (by decide +kernel), List.mem_of_getElem? (i := 1666) (by decide +kernel), List.mem_of_getElem? (i := 1667) (by decide +kernel)⟩
theorem lw_p79 : lw_okq (⟨"TwelveChainModel", "costsOf", "(I)I"⟩, 28) := ⟨⟨by decide +kernel, by decide +kernel⟩, List.mem_of_getElem? (i := 1115) (by decide +kernel), List.mem_of_getElem? (i := 1670) (by decide +kernel), List.mem_of_getElem? (i := 1671) (by decide +kernel)⟩
def lw_privs_5 : List (MethodName × Nat) := [(⟨"TwelveChainModel", "leaveOf", "(I)I"⟩, 28), (⟨"TwelveChainModel", "leaves", "(I)V"⟩, 28), (⟨"TwelveChainModel", "unreadies", "(I)V"⟩, 28), (⟨"TwelveChainModel", "moves", "()I"⟩, 28), (⟨"TwelveChainModel", "canMove", "(II)Z"⟩, 28), (⟨"TwelveChainModel", "canPay", "(I)Z"⟩, 28), (⟨"TwelveChainModel", "costOf", "(I)I"⟩, 28), (⟨"TwelveChainModel", "recordsOf", "(III)I"⟩, 28), (⟨"TwelveChainModel", "movedOnes", "()I"⟩, 28), (⟨"TwelveChainModel", "latestMoved", "()I"⟩, 28), (⟨"TwelveChainModel", "allBy", "(III)J"⟩, 28), (⟨"TwelveChainModel", "readyBy", "(II)J"⟩, 28), (⟨"TwelveChainModel", "hurriedBy", "(II)J"⟩, 28), (⟨"TwelveChainModel", "leastBy", "(II)J"⟩, 28), (⟨"TwelveChainModel", "bridgeable", "()I"⟩, 28), (⟨"TwelveChainModel", "costsOf", "(I)I"⟩, 28)]
theorem lw_r5 : ∀ q ∈ lw_privs_5, lw_okq q := List.forall_mem_cons.mpr ⟨lw_p64, List.forall_mem_cons.mpr ⟨lw_p65, List.forall_mem_cons.mpr ⟨lw_p66, List.forall_mem_cons.mpr ⟨lw_p67, List.forall_mem_cons.mpr ⟨lw_p68, List.forall_mem_cons.mpr ⟨lw_p69, List.forall_mem_cons.mpr ⟨lw_p70, List.forall_mem_cons.mpr ⟨lw_p71, List.forall_mem_cons.mpr ⟨lw_p72, List.forall_mem_cons.mpr ⟨lw_p73, List.forall_mem_cons.mpr ⟨lw_p74, List.forall_mem_cons.mpr ⟨lw_p75, List.forall_mem_cons.mpr ⟨lw_p76, List.forall_mem_cons.mpr ⟨lw_p77, List.forall_mem_cons.mpr ⟨lw_p78, List.forall_mem_cons.mpr ⟨lw_p79, fun _ h => absurd h List.not_mem_nil⟩⟩⟩⟩⟩⟩⟩⟩⟩⟩⟩⟩⟩⟩⟩⟩
theorem lw_p80 : lw_okq (⟨"TwelveChainModel", "givenBy", "(I)I"⟩, 28) := ⟨⟨by decide +kernel, by decide +kernel⟩, List.mem_of_getElem? (i := 1115) (by decide +kernel), List.mem_of_getElem? (i := 1678) (by decide +kernel), List.mem_of_getElem? (i := 1679) (by decide +kernel)⟩
theorem lw_p81 : lw_okq (⟨"TwelveChainModel", "isGiving", "(I)Z"⟩, 28) := ⟨⟨by decide +kernel, by decide +kernel⟩, List.mem_of_getElem? (i := 1115) (by decide +kernel), List.mem_of_getElem? (i := 1682) (by decide +kernel), List.mem_of_getElem? (i := 1683) (by decide +kernel)⟩
theorem lw_p82 : lw_okq (⟨"TwelveChainModel", "isRunning", "(I)Z"⟩, 28) := ⟨⟨by decide +kernel, by decide +kernel⟩, List.mem_of_getElem? (i := 1115) (by decide +kernel), List.mem_of_getElem? (i := 1709) (by decide +kernel), List.mem_of_getElem? (i := 1710) (by decide +kernel)⟩
theorem lw_p83 : lw_okq (⟨"TwelveChainModel", "laysSigns", "(II)V"⟩, 28) := ⟨⟨by decide +kernel, by decide +kernel⟩, List.mem_of_getElem? (i := 1115) (by decide +kernel), List.mem_of_getElem? (i := 1717) (by decide +kernel), List.mem_of_getElem? (i := 1718) (by decide +kernel)⟩
theorem lw_p84 : lw_okq (⟨"TwelveChainModel", "mostSigned", "()I"⟩, 28) := ⟨⟨by decide +kernel, by decide +kernel⟩, List.mem_of_getElem? (i := 1115) (by decide +kernel), List.mem_of_getElem? (i := 1722) (by decide +kernel), List.mem_of_getElem? (i := 1723) (by decide +kernel)⟩
theorem lw_p85 : lw_okq (⟨"TwelveChainModel", "signsNext", "(III)I"⟩, 28) := ⟨⟨by decide +kernel, by decide +kernel⟩, List.mem_of_getElem? (i := 1115) (by decide +kernel), List.mem_of_getElem? (i := 1726) (by decide +kernel), List.mem_of_getElem? (i := 1727) (by decide +kernel)⟩
theorem lw_p86 : lw_okq (⟨"TwelveChainModel", "greaterBy", "(I)I"⟩, 28) := ⟨⟨by decide +kernel, by decide +kernel⟩, List.mem_of_getElem? (i := 1115) (by decide +kernel), List.mem_of_getElem? (i := 1742) (by decide +kernel), List.mem_of_getElem? (i := 1743) (by decide +kernel)⟩
theorem lw_p87 : lw_okq (⟨"TwelveChainModel", "heapOf", "(I)I"⟩, 28) := ⟨⟨by decide +kernel, by decide +kernel⟩, List.mem_of_getElem? (i := 1115) (by decide +kernel), List.mem_of_getElem? (i := 1754) (by decide +kernel), List.mem_of_getElem? (i := 1755) (by decide +kernel)⟩
def lw_privs_6 : List (MethodName × Nat) := [(⟨"TwelveChainModel", "givenBy", "(I)I"⟩, 28), (⟨"TwelveChainModel", "isGiving", "(I)Z"⟩, 28), (⟨"TwelveChainModel", "isRunning", "(I)Z"⟩, 28), (⟨"TwelveChainModel", "laysSigns", "(II)V"⟩, 28), (⟨"TwelveChainModel", "mostSigned", "()I"⟩, 28), (⟨"TwelveChainModel", "signsNext", "(III)I"⟩, 28), (⟨"TwelveChainModel", "greaterBy", "(I)I"⟩, 28), (⟨"TwelveChainModel", "heapOf", "(I)I"⟩, 28)]
theorem lw_r6 : ∀ q ∈ lw_privs_6, lw_okq q := List.forall_mem_cons.mpr ⟨lw_p80, List.forall_mem_cons.mpr ⟨lw_p81, List.forall_mem_cons.mpr ⟨lw_p82, List.forall_mem_cons.mpr ⟨lw_p83, List.forall_mem_cons.mpr ⟨lw_p84, List.forall_mem_cons.mpr ⟨lw_p85, List.forall_mem_cons.mpr ⟨lw_p86, List.forall_mem_cons.mpr ⟨lw_p87, fun _ h => absurd h List.not_mem_nil⟩⟩⟩⟩⟩⟩⟩⟩
def lw_privs : List (MethodName × Nat) := lw_privs_1 ++ (lw_privs_2 ++ (lw_privs_3 ++ (lw_privs_4 ++ (lw_privs_5 ++ (lw_privs_6)))))
def lw_tbl : List Cond := k2_sels lw_privs ++ tables_1
theorem lw_privs_ok : ∀ q ∈ lw_privs, lw_okq q := by
  show ∀ q ∈ lw_privs_1 ++ (lw_privs_2 ++ (lw_privs_3 ++ (lw_privs_4 ++ (lw_privs_5 ++ (lw_privs_6))))), lw_okq q
  exact List.forall_mem_append.mpr ⟨lw_r1, List.forall_mem_append.mpr ⟨lw_r2, List.forall_mem_append.mpr ⟨lw_r3, List.forall_mem_append.mpr ⟨lw_r4, List.forall_mem_append.mpr ⟨lw_r5, lw_r6⟩⟩⟩⟩⟩

def RX0 : String := "TwelveChain$Chain"
def TX0 : u_T := fun k => match k with
  | 0 => ("TwelveChain$Chain", "thought", "Z", true)
  | 1 => ("TwelveChain$Chain", "links", "[LTwelveChain$Link;", true)
  | 2 => ("TwelveChain$Chain", "nobody", "LTwelveChain$Link;", true)
  | 3 => ("TwelveChain$Chain", "count", "I", false)
  | 4 => ("TwelveChain$Chain", "day", "I", false)
  | 5 => ("TwelveChain$Chain", "falls", "I", false)
  | 6 => ("TwelveChain$Chain", "state", "I", false)
  | _ => ("TwelveChain$Chain", "written", "I", false)
def tyX0 : Nat → FieldType := fun k => match k with
  | 0 => .boolean
  | 1 => .array (.object "TwelveChain$Link")
  | 2 => .object "TwelveChain$Link"
  | 3 => .int
  | 4 => .int
  | 5 => .int
  | 6 => .int
  | _ => .int
theorem nmX0 : ∀ a, a < 8 → ∀ b, b < 8 → a ≠ b → (TX0 a).2.1 ≠ (TX0 b).2.1 := by decide +kernel
theorem tyX0_ok : ∀ k, k < 8 → parseFieldDescriptor (TX0 k).2.2.1 = some (tyX0 k) := by decide +kernel
abbrev cX0_init : ByteArray := prog_2_method_1_code
def yX0_init : MethodName := ⟨RX0, "<init>", "(Z)V"⟩
abbrev cX0_take : ByteArray := prog_2_method_2_code
def yX0_take : MethodName := ⟨RX0, "take", "(LTwelveChain$Chain;)V"⟩
abbrev cX0_has : ByteArray := prog_2_method_3_code
def yX0_has : MethodName := ⟨RX0, "has", "(I)Z"⟩
abbrev cX0_at : ByteArray := prog_2_method_4_code
def yX0_at : MethodName := ⟨RX0, "at", "(I)LTwelveChain$Link;"⟩
abbrev cX0_all : ByteArray := prog_2_method_5_code
def yX0_all : MethodName := ⟨RX0, "all", "()I"⟩
abbrev cX0_happens : ByteArray := prog_2_method_6_code
def yX0_happens : MethodName := ⟨RX0, "happens", "(I)Z"⟩
abbrev cX0_lackOfMoney : ByteArray := prog_2_method_7_code
def yX0_lackOfMoney : MethodName := ⟨RX0, "lackOfMoney", "(I)I"⟩
abbrev cX0_canPay : ByteArray := prog_2_method_8_code
def yX0_canPay : MethodName := ⟨RX0, "canPay", "(I)Z"⟩
abbrev cX0_canBridge : ByteArray := prog_2_method_9_code
def yX0_canBridge : MethodName := ⟨RX0, "canBridge", "(I)Z"⟩
abbrev cX0_partEnd : ByteArray := prog_2_method_10_code
def yX0_partEnd : MethodName := ⟨RX0, "partEnd", "(I)I"⟩
abbrev cX0_lacks : ByteArray := prog_2_method_11_code
def yX0_lacks : MethodName := ⟨RX0, "lacks", "(I)I"⟩
abbrev cX0_parts : ByteArray := prog_2_method_12_code
def yX0_parts : MethodName := ⟨RX0, "parts", "()I"⟩
abbrev cX0_movedOnes : ByteArray := prog_2_method_13_code
def yX0_movedOnes : MethodName := ⟨RX0, "movedOnes", "()I"⟩
abbrev cX0_bridgedOnes : ByteArray := prog_2_method_14_code
def yX0_bridgedOnes : MethodName := ⟨RX0, "bridgedOnes", "()I"⟩
abbrev cX0_bridgeableOnes : ByteArray := prog_2_method_15_code
def yX0_bridgeableOnes : MethodName := ⟨RX0, "bridgeableOnes", "()I"⟩
abbrev cX0_latestMove : ByteArray := prog_2_method_16_code
def yX0_latestMove : MethodName := ⟨RX0, "latestMove", "()I"⟩
abbrev cX0_canGive : ByteArray := prog_2_method_17_code
def yX0_canGive : MethodName := ⟨RX0, "canGive", "(I)I"⟩
abbrev cX0_givenTo : ByteArray := prog_2_method_18_code
def yX0_givenTo : MethodName := ⟨RX0, "givenTo", "(I)I"⟩
abbrev cX0_named : ByteArray := prog_2_method_19_code
def yX0_named : MethodName := ⟨RX0, "named", "(II)I"⟩
def RX1 : String := "TwelveChain$Deeds"
def TX1 : u_T := fun k => match k with
  | 0 => ("TwelveChain$Deeds", "texts", "LTwelveChain$Texts;", true)
  | _ => ("TwelveChain$Deeds", "pages", "[I", true)
def tyX1 : Nat → FieldType := fun k => match k with
  | 0 => .object "TwelveChain$Texts"
  | _ => .array .int
theorem nmX1 : ∀ a, a < 2 → ∀ b, b < 2 → a ≠ b → (TX1 a).2.1 ≠ (TX1 b).2.1 := by decide +kernel
theorem tyX1_ok : ∀ k, k < 2 → parseFieldDescriptor (TX1 k).2.2.1 = some (tyX1 k) := by decide +kernel
abbrev cX1_init : ByteArray := prog_3_method_1_code
def yX1_init : MethodName := ⟨RX1, "<init>", "(LTwelveChain$Texts;[I)V"⟩
abbrev cX1_write : ByteArray := prog_3_method_2_code
def yX1_write : MethodName := ⟨RX1, "write", "(LTwelveChain$Chain;III)V"⟩
abbrev cX1_canAsk : ByteArray := prog_3_method_3_code
def yX1_canAsk : MethodName := ⟨RX1, "canAsk", "(LTwelveChain$Chain;II)Z"⟩
abbrev cX1_askFor : ByteArray := prog_3_method_4_code
def yX1_askFor : MethodName := ⟨RX1, "askFor", "(LTwelveChain$Chain;II)I"⟩
abbrev cX1_putBridge : ByteArray := prog_3_method_5_code
def yX1_putBridge : MethodName := ⟨RX1, "putBridge", "(LTwelveChain$Chain;I)V"⟩
abbrev cX1_canHandOver : ByteArray := prog_3_method_6_code
def yX1_canHandOver : MethodName := ⟨RX1, "canHandOver", "(LTwelveChain$Chain;III)Z"⟩
abbrev cX1_handOver : ByteArray := prog_3_method_7_code
def yX1_handOver : MethodName := ⟨RX1, "handOver", "(LTwelveChain$Chain;III)V"⟩
abbrev cX1_canGetReady : ByteArray := prog_3_method_8_code
def yX1_canGetReady : MethodName := ⟨RX1, "canGetReady", "(LTwelveChain$Chain;I)Z"⟩
abbrev cX1_getReady : ByteArray := prog_3_method_9_code
def yX1_getReady : MethodName := ⟨RX1, "getReady", "(LTwelveChain$Chain;I)V"⟩
abbrev cX1_comeIn : ByteArray := prog_3_method_10_code
def yX1_comeIn : MethodName := ⟨RX1, "comeIn", "(LTwelveChain$Chain;I)V"⟩
abbrev cX1_oneDay : ByteArray := prog_3_method_11_code
def yX1_oneDay : MethodName := ⟨RX1, "oneDay", "(LTwelveChain$Chain;)I"⟩
abbrev cX1_doPlanned : ByteArray := prog_3_method_12_code
def yX1_doPlanned : MethodName := ⟨RX1, "doPlanned", "(LTwelveChain$Chain;I)V"⟩
abbrev cX1_mayLeave : ByteArray := prog_3_method_13_code
def yX1_mayLeave : MethodName := ⟨RX1, "mayLeave", "(LTwelveChain$Chain;I)V"⟩
abbrev cX1_moveParts : ByteArray := prog_3_method_14_code
def yX1_moveParts : MethodName := ⟨RX1, "moveParts", "(LTwelveChain$Chain;)I"⟩
abbrev cX1_canMove : ByteArray := prog_3_method_15_code
def yX1_canMove : MethodName := ⟨RX1, "canMove", "(LTwelveChain$Chain;II)Z"⟩
abbrev cX1_movePart : ByteArray := prog_3_method_16_code
def yX1_movePart : MethodName := ⟨RX1, "movePart", "(LTwelveChain$Chain;II)I"⟩
abbrev cX1_payForBridges : ByteArray := prog_3_method_17_code
def yX1_payForBridges : MethodName := ⟨RX1, "payForBridges", "(LTwelveChain$Chain;)V"⟩
def RX2 : String := "TwelveChain$Kept"
def TX2 : u_T := fun k => match k with
  | 0 => ("TwelveChain$Kept", "before", "[LTwelveChain$Chain;", true)
  | 1 => ("TwelveChain$Kept", "next", "I", false)
  | _ => ("TwelveChain$Kept", "count", "I", false)
def tyX2 : Nat → FieldType := fun k => match k with
  | 0 => .array (.object "TwelveChain$Chain")
  | 1 => .int
  | _ => .int
theorem nmX2 : ∀ a, a < 3 → ∀ b, b < 3 → a ≠ b → (TX2 a).2.1 ≠ (TX2 b).2.1 := by decide +kernel
theorem tyX2_ok : ∀ k, k < 3 → parseFieldDescriptor (TX2 k).2.2.1 = some (tyX2 k) := by decide +kernel
abbrev cX2_init : ByteArray := prog_4_method_1_code
def yX2_init : MethodName := ⟨RX2, "<init>", "()V"⟩
abbrev cX2_forgetAll : ByteArray := prog_4_method_2_code
def yX2_forgetAll : MethodName := ⟨RX2, "forgetAll", "()V"⟩
abbrev cX2_keep : ByteArray := prog_4_method_3_code
def yX2_keep : MethodName := ⟨RX2, "keep", "(LTwelveChain$Chain;)V"⟩
abbrev cX2_goBack : ByteArray := prog_4_method_4_code
def yX2_goBack : MethodName := ⟨RX2, "goBack", "(LTwelveChain$Chain;)Z"⟩
def RX3 : String := "TwelveChain$Law"
def TX3 : u_T := fun k => match k with
  | 0 => ("TwelveChain$Law", "lines", "I", false)
  | 1 => ("TwelveChain$Law", "size", "I", false)
  | 2 => ("TwelveChain$Law", "words", "[I", true)
  | 3 => ("TwelveChain$Law", "starts", "[I", true)
  | 4 => ("TwelveChain$Law", "middles", "[I", true)
  | 5 => ("TwelveChain$Law", "ends", "[I", true)
  | 6 => ("TwelveChain$Law", "code", "[I", true)
  | _ => ("TwelveChain$Law", "stack", "[I", true)
def tyX3 : Nat → FieldType := fun k => match k with
  | 0 => .int
  | 1 => .int
  | 2 => .array .int
  | 3 => .array .int
  | 4 => .array .int
  | 5 => .array .int
  | 6 => .array .int
  | _ => .array .int
theorem nmX3 : ∀ a, a < 8 → ∀ b, b < 8 → a ≠ b → (TX3 a).2.1 ≠ (TX3 b).2.1 := by decide +kernel
theorem tyX3_ok : ∀ k, k < 8 → parseFieldDescriptor (TX3 k).2.2.1 = some (tyX3 k) := by decide +kernel
abbrev cX3_init : ByteArray := prog_5_method_1_code
def yX3_init : MethodName := ⟨RX3, "<init>", "()V"⟩
abbrev cX3_clear : ByteArray := prog_5_method_2_code
def yX3_clear : MethodName := ⟨RX3, "clear", "()V"⟩
abbrev cX3_take : ByteArray := prog_5_method_3_code
def yX3_take : MethodName := ⟨RX3, "take", "(LTwelveChain$Law;)V"⟩
abbrev cX3_put : ByteArray := prog_5_method_4_code
def yX3_put : MethodName := ⟨RX3, "put", "(I)V"⟩
abbrev cX3_addLine : ByteArray := prog_5_method_5_code
def yX3_addLine : MethodName := ⟨RX3, "addLine", "(III)V"⟩
abbrev cX3_tells : ByteArray := prog_5_method_6_code
def yX3_tells : MethodName := ⟨RX3, "tells", "(ILTwelveChain$Chain;I)I"⟩
abbrev cX3_untold : ByteArray := prog_5_method_7_code
def yX3_untold : MethodName := ⟨RX3, "untold", "(ILTwelveChain$Link;)I"⟩
abbrev cX3_held : ByteArray := prog_5_method_8_code
def yX3_held : MethodName := ⟨RX3, "held", "(II)I"⟩
abbrev cX3_worked : ByteArray := prog_5_method_9_code
def yX3_worked : MethodName := ⟨RX3, "worked", "(IILTwelveChain$Chain;I)I"⟩
abbrev cX3_joined : ByteArray := prog_5_method_10_code
def yX3_joined : MethodName := ⟨RX3, "joined", "(III)I"⟩
def RX4 : String := "TwelveChain$Likely"
def TX4 : u_T := fun k => match k with
  | 0 => ("TwelveChain$Likely", "law", "LTwelveChain$Law;", true)
  | 1 => ("TwelveChain$Likely", "left", "[I", true)
  | 2 => ("TwelveChain$Likely", "ready", "[I", true)
  | 3 => ("TwelveChain$Likely", "costs", "[I", true)
  | _ => ("TwelveChain$Likely", "spans", "[I", true)
def tyX4 : Nat → FieldType := fun k => match k with
  | 0 => .object "TwelveChain$Law"
  | 1 => .array .int
  | 2 => .array .int
  | 3 => .array .int
  | _ => .array .int
theorem nmX4 : ∀ a, a < 5 → ∀ b, b < 5 → a ≠ b → (TX4 a).2.1 ≠ (TX4 b).2.1 := by decide +kernel
theorem tyX4_ok : ∀ k, k < 5 → parseFieldDescriptor (TX4 k).2.2.1 = some (tyX4 k) := by decide +kernel
abbrev cX4_init : ByteArray := prog_6_method_1_code
def yX4_init : MethodName := ⟨RX4, "<init>", "(LTwelveChain$Law;)V"⟩
abbrev cX4_leftNext : ByteArray := prog_6_method_2_code
def yX4_leftNext : MethodName := ⟨RX4, "leftNext", "(II)I"⟩
abbrev cX4_leftAfter : ByteArray := prog_6_method_3_code
def yX4_leftAfter : MethodName := ⟨RX4, "leftAfter", "(II)I"⟩
abbrev cX4_chance : ByteArray := prog_6_method_4_code
def yX4_chance : MethodName := ⟨RX4, "chance", "(II)I"⟩
abbrev cX4_times : ByteArray := prog_6_method_5_code
def yX4_times : MethodName := ⟨RX4, "times", "(II)I"⟩
abbrev cX4_reckon : ByteArray := prog_6_method_6_code
def yX4_reckon : MethodName := ⟨RX4, "reckon", "(LTwelveChain$Chain;I)V"⟩
abbrev cX4_oneDayMore : ByteArray := prog_6_method_7_code
def yX4_oneDayMore : MethodName := ⟨RX4, "oneDayMore", "(LTwelveChain$Chain;)V"⟩
abbrev cX4_chanceOf : ByteArray := prog_6_method_8_code
def yX4_chanceOf : MethodName := ⟨RX4, "chanceOf", "(I)I"⟩
abbrev cX4_oddsWith : ByteArray := prog_6_method_9_code
def yX4_oddsWith : MethodName := ⟨RX4, "oddsWith", "(LTwelveChain$Chain;II)I"⟩
abbrev cX4_oddsOf : ByteArray := prog_6_method_10_code
def yX4_oddsOf : MethodName := ⟨RX4, "oddsOf", "(LTwelveChain$Chain;II)I"⟩
abbrev cX4_holder : ByteArray := prog_6_method_11_code
def yX4_holder : MethodName := ⟨RX4, "holder", "(LTwelveChain$Chain;)I"⟩
abbrev cX4_oddsHurried : ByteArray := prog_6_method_12_code
def yX4_oddsHurried : MethodName := ⟨RX4, "oddsHurried", "(LTwelveChain$Chain;II)I"⟩
abbrev cX4_reckonSpans : ByteArray := prog_6_method_13_code
def yX4_reckonSpans : MethodName := ⟨RX4, "reckonSpans", "(LTwelveChain$Chain;)V"⟩
abbrev cX4_leastOdds : ByteArray := prog_6_method_14_code
def yX4_leastOdds : MethodName := ⟨RX4, "leastOdds", "(LTwelveChain$Chain;I)I"⟩
abbrev cX4_cheapestBridges : ByteArray := prog_6_method_15_code
def yX4_cheapestBridges : MethodName := ⟨RX4, "cheapestBridges", "(LTwelveChain$Chain;I)I"⟩
abbrev cX4_costOf : ByteArray := prog_6_method_16_code
def yX4_costOf : MethodName := ⟨RX4, "costOf", "(LTwelveChain$Chain;I)I"⟩
def RX5 : String := "TwelveChain$Link"
def TX5 : u_T := fun k => match k with
  | 0 => ("TwelveChain$Link", "price", "I", false)
  | 1 => ("TwelveChain$Link", "purse", "I", false)
  | 2 => ("TwelveChain$Link", "worth", "I", false)
  | 3 => ("TwelveChain$Link", "slow", "I", false)
  | 4 => ("TwelveChain$Link", "ready", "I", false)
  | 5 => ("TwelveChain$Link", "out", "I", false)
  | 6 => ("TwelveChain$Link", "bridged", "I", false)
  | _ => ("TwelveChain$Link", "moved", "I", false)
def tyX5 : Nat → FieldType := fun k => match k with
  | 0 => .int
  | 1 => .int
  | 2 => .int
  | 3 => .int
  | 4 => .int
  | 5 => .int
  | 6 => .int
  | _ => .int
theorem nmX5 : ∀ a, a < 8 → ∀ b, b < 8 → a ≠ b → (TX5 a).2.1 ≠ (TX5 b).2.1 := by decide +kernel
theorem tyX5_ok : ∀ k, k < 8 → parseFieldDescriptor (TX5 k).2.2.1 = some (tyX5 k) := by decide +kernel
abbrev cX5_init : ByteArray := prog_7_method_1_code
def yX5_init : MethodName := ⟨RX5, "<init>", "()V"⟩
abbrev cX5_makeNew : ByteArray := prog_7_method_2_code
def yX5_makeNew : MethodName := ⟨RX5, "makeNew", "(IIII)V"⟩
abbrev cX5_take : ByteArray := prog_7_method_3_code
def yX5_take : MethodName := ⟨RX5, "take", "(LTwelveChain$Link;)V"⟩
abbrev cX5_isIn : ByteArray := prog_7_method_4_code
def yX5_isIn : MethodName := ⟨RX5, "isIn", "()Z"⟩
def RX6 : String := "TwelveChain$Rows"
def TX6 : u_T := fun k => match k with
  | 0 => ("TwelveChain$Rows", "count", "I", false)
  | _ => ("TwelveChain$Rows", "cells", "[I", true)
def tyX6 : Nat → FieldType := fun k => match k with
  | 0 => .int
  | _ => .array .int
theorem nmX6 : ∀ a, a < 2 → ∀ b, b < 2 → a ≠ b → (TX6 a).2.1 ≠ (TX6 b).2.1 := by decide +kernel
theorem tyX6_ok : ∀ k, k < 2 → parseFieldDescriptor (TX6 k).2.2.1 = some (tyX6 k) := by decide +kernel
abbrev cX6_init : ByteArray := prog_8_method_1_code
def yX6_init : MethodName := ⟨RX6, "<init>", "()V"⟩
abbrev cX6_take : ByteArray := prog_8_method_2_code
def yX6_take : MethodName := ⟨RX6, "take", "(LTwelveChain$Rows;)V"⟩
abbrev cX6_add : ByteArray := prog_8_method_3_code
def yX6_add : MethodName := ⟨RX6, "add", "(IIIII)V"⟩
abbrev cX6_cell : ByteArray := prog_8_method_4_code
def yX6_cell : MethodName := ⟨RX6, "cell", "(II)I"⟩
def RX7 : String := "TwelveChain$Tape"
def TX7 : u_T := fun k => match k with
  | 0 => ("TwelveChain$Tape", "bytes", "[B", true)
  | 1 => ("TwelveChain$Tape", "length", "I", false)
  | 2 => ("TwelveChain$Tape", "tokens", "[I", true)
  | 3 => ("TwelveChain$Tape", "numbers", "[I", true)
  | _ => ("TwelveChain$Tape", "places", "[I", true)
def tyX7 : Nat → FieldType := fun k => match k with
  | 0 => .array .byte
  | 1 => .int
  | 2 => .array .int
  | 3 => .array .int
  | _ => .array .int
theorem nmX7 : ∀ a, a < 5 → ∀ b, b < 5 → a ≠ b → (TX7 a).2.1 ≠ (TX7 b).2.1 := by decide +kernel
theorem tyX7_ok : ∀ k, k < 5 → parseFieldDescriptor (TX7 k).2.2.1 = some (tyX7 k) := by decide +kernel
abbrev cX7_init : ByteArray := prog_9_method_1_code
def yX7_init : MethodName := ⟨RX7, "<init>", "()V"⟩
abbrev cX7_put : ByteArray := prog_9_method_2_code
def yX7_put : MethodName := ⟨RX7, "put", "(I)V"⟩
abbrev cX7_scan : ByteArray := prog_9_method_3_code
def yX7_scan : MethodName := ⟨RX7, "scan", "()V"⟩
abbrev cX7_isLetter : ByteArray := prog_9_method_4_code
def yX7_isLetter : MethodName := ⟨RX7, "isLetter", "(I)Z"⟩
abbrev cX7_isDigit : ByteArray := prog_9_method_5_code
def yX7_isDigit : MethodName := ⟨RX7, "isDigit", "(I)Z"⟩
abbrev cX7_isSign : ByteArray := prog_9_method_6_code
def yX7_isSign : MethodName := ⟨RX7, "isSign", "(I)Z"⟩
abbrev cX7_takeWord : ByteArray := prog_9_method_7_code
def yX7_takeWord : MethodName := ⟨RX7, "takeWord", "(II)I"⟩
abbrev cX7_takeNumber : ByteArray := prog_9_method_8_code
def yX7_takeNumber : MethodName := ⟨RX7, "takeNumber", "(II)I"⟩
abbrev cX7_takeSign : ByteArray := prog_9_method_9_code
def yX7_takeSign : MethodName := ⟨RX7, "takeSign", "(II)I"⟩
abbrev cX7_wordOf : ByteArray := prog_9_method_10_code
def yX7_wordOf : MethodName := ⟨RX7, "wordOf", "(II)I"⟩
def RX8 : String := "TwelveChain$Telephone"
def TX8 : u_T := fun k => match k with
  | 0 => ("TwelveChain$Telephone", "known", "Z", false)
  | 1 => ("TwelveChain$Telephone", "earliest", "I", false)
  | 2 => ("TwelveChain$Telephone", "most", "I", false)
  | 3 => ("TwelveChain$Telephone", "count", "I", false)
  | 4 => ("TwelveChain$Telephone", "from", "[I", true)
  | 5 => ("TwelveChain$Telephone", "to", "[I", true)
  | 6 => ("TwelveChain$Telephone", "order", "[I", true)
  | _ => ("TwelveChain$Telephone", "minutes", "[I", true)
def tyX8 : Nat → FieldType := fun k => match k with
  | 0 => .boolean
  | 1 => .int
  | 2 => .int
  | 3 => .int
  | 4 => .array .int
  | 5 => .array .int
  | 6 => .array .int
  | _ => .array .int
theorem nmX8 : ∀ a, a < 8 → ∀ b, b < 8 → a ≠ b → (TX8 a).2.1 ≠ (TX8 b).2.1 := by decide +kernel
theorem tyX8_ok : ∀ k, k < 8 → parseFieldDescriptor (TX8 k).2.2.1 = some (tyX8 k) := by decide +kernel
abbrev cX8_init : ByteArray := prog_10_method_1_code
def yX8_init : MethodName := ⟨RX8, "<init>", "()V"⟩
abbrev cX8_forgetAll : ByteArray := prog_10_method_2_code
def yX8_forgetAll : MethodName := ⟨RX8, "forgetAll", "()V"⟩
abbrev cX8_plan : ByteArray := prog_10_method_3_code
def yX8_plan : MethodName := ⟨RX8, "plan", "(ILTwelveChain$Texts;)V"⟩
abbrev cX8_signer : ByteArray := prog_10_method_4_code
def yX8_signer : MethodName := ⟨RX8, "signer", "(I)I"⟩
abbrev cX8_findEarliest : ByteArray := prog_10_method_5_code
def yX8_findEarliest : MethodName := ⟨RX8, "findEarliest", "()V"⟩
abbrev cX8_findLatest : ByteArray := prog_10_method_6_code
def yX8_findLatest : MethodName := ⟨RX8, "findLatest", "()V"⟩
abbrev cX8_findOrder : ByteArray := prog_10_method_7_code
def yX8_findOrder : MethodName := ⟨RX8, "findOrder", "()V"⟩
def RX9 : String := "TwelveChain$Teller"
def TX9 : u_T := fun k => match k with
  | 0 => ("TwelveChain$Teller", "tape", "LTwelveChain$Tape;", true)
  | 1 => ("TwelveChain$Teller", "law", "LTwelveChain$Law;", true)
  | 2 => ("TwelveChain$Teller", "rows", "LTwelveChain$Rows;", true)
  | 3 => ("TwelveChain$Teller", "fault", "I", false)
  | 4 => ("TwelveChain$Teller", "place", "I", false)
  | 5 => ("TwelveChain$Teller", "at", "I", false)
  | 6 => ("TwelveChain$Teller", "token", "I", false)
  | 7 => ("TwelveChain$Teller", "number", "I", false)
  | 8 => ("TwelveChain$Teller", "links", "I", false)
  | _ => ("TwelveChain$Teller", "open", "I", false)
def tyX9 : Nat → FieldType := fun k => match k with
  | 0 => .object "TwelveChain$Tape"
  | 1 => .object "TwelveChain$Law"
  | 2 => .object "TwelveChain$Rows"
  | 3 => .int
  | 4 => .int
  | 5 => .int
  | 6 => .int
  | 7 => .int
  | 8 => .int
  | _ => .int
theorem nmX9 : ∀ a, a < 10 → ∀ b, b < 10 → a ≠ b → (TX9 a).2.1 ≠ (TX9 b).2.1 := by decide +kernel
theorem tyX9_ok : ∀ k, k < 10 → parseFieldDescriptor (TX9 k).2.2.1 = some (tyX9 k) := by decide +kernel
abbrev cX9_init : ByteArray := prog_11_method_1_code
def yX9_init : MethodName := ⟨RX9, "<init>", "(LTwelveChain$Tape;)V"⟩
abbrev cX9_tell : ByteArray := prog_11_method_2_code
def yX9_tell : MethodName := ⟨RX9, "tell", "(ILTwelveChain$Texts;I)I"⟩
abbrev cX9_lookAt : ByteArray := prog_11_method_3_code
def yX9_lookAt : MethodName := ⟨RX9, "lookAt", "(I)V"⟩
abbrev cX9_wrong : ByteArray := prog_11_method_4_code
def yX9_wrong : MethodName := ⟨RX9, "wrong", "(I)Z"⟩
abbrev cX9_accept : ByteArray := prog_11_method_5_code
def yX9_accept : MethodName := ⟨RX9, "accept", "(I)Z"⟩
abbrev cX9_numeral : ByteArray := prog_11_method_6_code
def yX9_numeral : MethodName := ⟨RX9, "numeral", "(II)I"⟩
abbrev cX9_lawLines : ByteArray := prog_11_method_7_code
def yX9_lawLines : MethodName := ⟨RX9, "lawLines", "()Z"⟩
abbrev cX9_conditions : ByteArray := prog_11_method_8_code
def yX9_conditions : MethodName := ⟨RX9, "conditions", "()Z"⟩
abbrev cX9_condition : ByteArray := prog_11_method_9_code
def yX9_condition : MethodName := ⟨RX9, "condition", "()Z"⟩
abbrev cX9_sum : ByteArray := prog_11_method_10_code
def yX9_sum : MethodName := ⟨RX9, "sum", "()Z"⟩
abbrev cX9_unit : ByteArray := prog_11_method_11_code
def yX9_unit : MethodName := ⟨RX9, "unit", "()Z"⟩
abbrev cX9_rowLines : ByteArray := prog_11_method_12_code
def yX9_rowLines : MethodName := ⟨RX9, "rowLines", "(I)Z"⟩
abbrev cX9_planLine : ByteArray := prog_11_method_13_code
def yX9_planLine : MethodName := ⟨RX9, "planLine", "()Z"⟩
abbrev cX9_otherLink : ByteArray := prog_11_method_14_code
def yX9_otherLink : MethodName := ⟨RX9, "otherLink", "(I)I"⟩
abbrev cX9_phoneLine : ByteArray := prog_11_method_15_code
def yX9_phoneLine : MethodName := ⟨RX9, "phoneLine", "()Z"⟩
abbrev cX9_recordLine : ByteArray := prog_11_method_16_code
def yX9_recordLine : MethodName := ⟨RX9, "recordLine", "()Z"⟩
def RX10 : String := "TwelveChain$Texts"
def TX10 : u_T := fun k => match k with
  | 0 => ("TwelveChain$Texts", "law", "LTwelveChain$Law;", true)
  | 1 => ("TwelveChain$Texts", "plan", "LTwelveChain$Rows;", true)
  | 2 => ("TwelveChain$Texts", "phones", "LTwelveChain$Rows;", true)
  | _ => ("TwelveChain$Texts", "records", "LTwelveChain$Rows;", true)
def tyX10 : Nat → FieldType := fun k => match k with
  | 0 => .object "TwelveChain$Law"
  | 1 => .object "TwelveChain$Rows"
  | 2 => .object "TwelveChain$Rows"
  | _ => .object "TwelveChain$Rows"
theorem nmX10 : ∀ a, a < 4 → ∀ b, b < 4 → a ≠ b → (TX10 a).2.1 ≠ (TX10 b).2.1 := by decide +kernel
theorem tyX10_ok : ∀ k, k < 4 → parseFieldDescriptor (TX10 k).2.2.1 = some (tyX10 k) := by decide +kernel
abbrev cX10_init : ByteArray := prog_12_method_1_code
def yX10_init : MethodName := ⟨RX10, "<init>", "()V"⟩
abbrev cX10_take : ByteArray := prog_12_method_2_code
def yX10_take : MethodName := ⟨RX10, "take", "(LTwelveChain$Texts;)V"⟩
abbrev cX10_rows : ByteArray := prog_12_method_3_code
def yX10_rows : MethodName := ⟨RX10, "rows", "(I)LTwelveChain$Rows;"⟩
abbrev cX10_phoneLine : ByteArray := prog_12_method_4_code
def yX10_phoneLine : MethodName := ⟨RX10, "phoneLine", "(I)I"⟩
abbrev cX10_phoneFrom : ByteArray := prog_12_method_5_code
def yX10_phoneFrom : MethodName := ⟨RX10, "phoneFrom", "(I)I"⟩
abbrev cX10_phoneTo : ByteArray := prog_12_method_6_code
def yX10_phoneTo : MethodName := ⟨RX10, "phoneTo", "(I)I"⟩
abbrev cX10_recordsOf : ByteArray := prog_12_method_7_code
def yX10_recordsOf : MethodName := ⟨RX10, "recordsOf", "(I)I"⟩
abbrev cX10_writers : ByteArray := prog_12_method_8_code
def yX10_writers : MethodName := ⟨RX10, "writers", "(II)I"⟩
def RX11 : String := "TwelveChain"
def TX11 : u_T := fun k => match k with
  | 0 => ("TwelveChain", "chain", "LTwelveChain$Chain;", true)
  | 1 => ("TwelveChain", "thought", "LTwelveChain$Chain;", true)
  | 2 => ("TwelveChain", "texts", "LTwelveChain$Texts;", true)
  | 3 => ("TwelveChain", "pages", "[I", true)
  | 4 => ("TwelveChain", "deeds", "LTwelveChain$Deeds;", true)
  | 5 => ("TwelveChain", "kept", "LTwelveChain$Kept;", true)
  | 6 => ("TwelveChain", "tape", "LTwelveChain$Tape;", true)
  | 7 => ("TwelveChain", "teller", "LTwelveChain$Teller;", true)
  | 8 => ("TwelveChain", "likely", "LTwelveChain$Likely;", true)
  | 9 => ("TwelveChain", "telephone", "LTwelveChain$Telephone;", true)
  | 10 => ("TwelveChain", "takenChain", "LTwelveChain$Chain;", true)
  | 11 => ("TwelveChain", "takenTexts", "LTwelveChain$Texts;", true)
  | 12 => ("TwelveChain", "takenPages", "[I", true)
  | _ => ("TwelveChain", "hasImage", "Z", false)
def tyX11 : Nat → FieldType := fun k => match k with
  | 0 => .object "TwelveChain$Chain"
  | 1 => .object "TwelveChain$Chain"
  | 2 => .object "TwelveChain$Texts"
  | 3 => .array .int
  | 4 => .object "TwelveChain$Deeds"
  | 5 => .object "TwelveChain$Kept"
  | 6 => .object "TwelveChain$Tape"
  | 7 => .object "TwelveChain$Teller"
  | 8 => .object "TwelveChain$Likely"
  | 9 => .object "TwelveChain$Telephone"
  | 10 => .object "TwelveChain$Chain"
  | 11 => .object "TwelveChain$Texts"
  | 12 => .array .int
  | _ => .boolean
theorem nmX11 : ∀ a, a < 14 → ∀ b, b < 14 → a ≠ b → (TX11 a).2.1 ≠ (TX11 b).2.1 := by decide +kernel
theorem tyX11_ok : ∀ k, k < 14 → parseFieldDescriptor (TX11 k).2.2.1 = some (tyX11 k) := by decide +kernel
abbrev cX11_init : ByteArray := prog_1_method_1_code
def yX11_init : MethodName := ⟨RX11, "<init>", "()V"⟩
abbrev cX11_state : ByteArray := prog_1_method_2_code
def yX11_state : MethodName := ⟨RX11, "state", "(I)I"⟩
abbrev cX11_link : ByteArray := prog_1_method_3_code
def yX11_link : MethodName := ⟨RX11, "link", "(IIII)I"⟩
abbrev cX11_set : ByteArray := prog_1_method_4_code
def yX11_set : MethodName := ⟨RX11, "set", "(III)Z"⟩
abbrev cX11_canHave : ByteArray := prog_1_method_5_code
def yX11_canHave : MethodName := ⟨RX11, "canHave", "(II)Z"⟩
abbrev cX11_within : ByteArray := prog_1_method_6_code
def yX11_within : MethodName := ⟨RX11, "within", "(III)Z"⟩
abbrev cX11_ask : ByteArray := prog_1_method_7_code
def yX11_ask : MethodName := ⟨RX11, "ask", "(II)I"⟩
abbrev cX11_bridge : ByteArray := prog_1_method_8_code
def yX11_bridge : MethodName := ⟨RX11, "bridge", "(I)Z"⟩
abbrev cX11_pay : ByteArray := prog_1_method_9_code
def yX11_pay : MethodName := ⟨RX11, "pay", "(III)Z"⟩
abbrev cX11_paper : ByteArray := prog_1_method_10_code
def yX11_paper : MethodName := ⟨RX11, "paper", "(I)Z"⟩
abbrev cX11_join : ByteArray := prog_1_method_11_code
def yX11_join : MethodName := ⟨RX11, "join", "(I)Z"⟩
abbrev cX11_days : ByteArray := prog_1_method_12_code
def yX11_days : MethodName := ⟨RX11, "days", "(I)I"⟩
abbrev cX11_feed : ByteArray := prog_1_method_13_code
def yX11_feed : MethodName := ⟨RX11, "feed", "(IIIII)I"⟩
abbrev cX11_end : ByteArray := prog_1_method_14_code
def yX11_end : MethodName := ⟨RX11, "end", "(I)Z"⟩
abbrev cX11_text : ByteArray := prog_1_method_15_code
def yX11_text : MethodName := ⟨RX11, "text", "(I)I"⟩
abbrev cX11_fault : ByteArray := prog_1_method_16_code
def yX11_fault : MethodName := ⟨RX11, "fault", "(I)I"⟩
abbrev cX11_of : ByteArray := prog_1_method_17_code
def yX11_of : MethodName := ⟨RX11, "of", "(II)I"⟩
abbrev cX11_phone : ByteArray := prog_1_method_18_code
def yX11_phone : MethodName := ⟨RX11, "phone", "(II)I"⟩
abbrev cX11_book : ByteArray := prog_1_method_19_code
def yX11_book : MethodName := ⟨RX11, "book", "(II)I"⟩
abbrev cX11_goes : ByteArray := prog_1_method_20_code
def yX11_goes : MethodName := ⟨RX11, "goes", "(II)I"⟩
abbrev cX11_odds : ByteArray := prog_1_method_21_code
def yX11_odds : MethodName := ⟨RX11, "odds", "(I)I"⟩
abbrev cX11_holds : ByteArray := prog_1_method_22_code
def yX11_holds : MethodName := ⟨RX11, "holds", "(II)I"⟩
abbrev cX11_many : ByteArray := prog_1_method_23_code
def yX11_many : MethodName := ⟨RX11, "many", "(II)I"⟩
abbrev cX11_bridges : ByteArray := prog_1_method_24_code
def yX11_bridges : MethodName := ⟨RX11, "bridges", "(III)I"⟩
abbrev cX11_share : ByteArray := prog_1_method_25_code
def yX11_share : MethodName := ⟨RX11, "share", "(II)I"⟩
abbrev cX11_highestLevel : ByteArray := prog_1_method_26_code
def yX11_highestLevel : MethodName := ⟨RX11, "highestLevel", "(I)I"⟩
abbrev cX11_along : ByteArray := prog_1_method_27_code
def yX11_along : MethodName := ⟨RX11, "along", "(III)I"⟩
abbrev cX11_choice : ByteArray := prog_1_method_28_code
def yX11_choice : MethodName := ⟨RX11, "choice", "(IIII)I"⟩
abbrev cX11_bluff : ByteArray := prog_1_method_29_code
def yX11_bluff : MethodName := ⟨RX11, "bluff", "(III)I"⟩
abbrev cX11_signs : ByteArray := prog_1_method_30_code
def yX11_signs : MethodName := ⟨RX11, "signs", "(I)I"⟩
abbrev cX11_money : ByteArray := prog_1_method_31_code
def yX11_money : MethodName := ⟨RX11, "money", "(II)I"⟩
abbrev cX11_ill : ByteArray := prog_1_method_32_code
def yX11_ill : MethodName := ⟨RX11, "ill", "(II)I"⟩
abbrev cX11_wrote : ByteArray := prog_1_method_33_code
def yX11_wrote : MethodName := ⟨RX11, "wrote", "()I"⟩
abbrev cX11_slowest : ByteArray := prog_1_method_34_code
def yX11_slowest : MethodName := ⟨RX11, "slowest", "()I"⟩
abbrev cX11_game : ByteArray := prog_1_method_35_code
def yX11_game : MethodName := ⟨RX11, "game", "(I)I"⟩
abbrev cX11_heap : ByteArray := prog_1_method_36_code
def yX11_heap : MethodName := ⟨RX11, "heap", "(I)I"⟩
abbrev cX11_soon : ByteArray := prog_1_method_37_code
def yX11_soon : MethodName := ⟨RX11, "soon", "(I)I"⟩
abbrev cX11_hurry : ByteArray := prog_1_method_38_code
def yX11_hurry : MethodName := ⟨RX11, "hurry", "(II)I"⟩
abbrev cX11_split : ByteArray := prog_1_method_39_code
def yX11_split : MethodName := ⟨RX11, "split", "(II)I"⟩
abbrev cX11_gap : ByteArray := prog_1_method_40_code
def yX11_gap : MethodName := ⟨RX11, "gap", "(I)I"⟩
abbrev cX11_runs : ByteArray := prog_1_method_41_code
def yX11_runs : MethodName := ⟨RX11, "runs", "(I)I"⟩
abbrev cX11_undo : ByteArray := prog_1_method_42_code
def yX11_undo : MethodName := ⟨RX11, "undo", "()Z"⟩
abbrev cX11_image : ByteArray := prog_1_method_43_code
def yX11_image : MethodName := ⟨RX11, "image", "(Z)Z"⟩
abbrev cX11_look : ByteArray := prog_1_method_44_code
def yX11_look : MethodName := ⟨RX11, "look", "(I)I"⟩
def RX12 : String := "TwelveChainModel"
def TX12 : u_T := fun k => match k with
  | 0 => ("TwelveChainModel", "w", "[I", true)
  | 1 => ("TwelveChainModel", "kept", "[I", true)
  | 2 => ("TwelveChainModel", "back", "[I", true)
  | 3 => ("TwelveChainModel", "lying", "[I", true)
  | 4 => ("TwelveChainModel", "backMany", "I", false)
  | 5 => ("TwelveChainModel", "hasImage", "Z", false)
  | 6 => ("TwelveChainModel", "freshLine", "[I", true)
  | 7 => ("TwelveChainModel", "freshStep", "[I", true)
  | 8 => ("TwelveChainModel", "freshRow", "[I", true)
  | 9 => ("TwelveChainModel", "tape", "[I", true)
  | 10 => ("TwelveChainModel", "pile", "[I", true)
  | 11 => ("TwelveChainModel", "facts", "[I", true)
  | 12 => ("TwelveChainModel", "reading", "I", false)
  | 13 => ("TwelveChainModel", "lines", "I", false)
  | 14 => ("TwelveChainModel", "steps", "I", false)
  | 15 => ("TwelveChainModel", "rows", "I", false)
  | 16 => ("TwelveChainModel", "taped", "I", false)
  | 17 => ("TwelveChainModel", "at", "I", false)
  | 18 => ("TwelveChainModel", "token", "I", false)
  | 19 => ("TwelveChainModel", "tokenAt", "I", false)
  | 20 => ("TwelveChainModel", "value", "I", false)
  | 21 => ("TwelveChainModel", "wrong", "I", false)
  | 22 => ("TwelveChainModel", "wrongAt", "I", false)
  | 23 => ("TwelveChainModel", "faultKind", "I", false)
  | 24 => ("TwelveChainModel", "depth", "I", false)
  | 25 => ("TwelveChainModel", "faultPlace", "I", false)
  | 26 => ("TwelveChainModel", "isTrue", "Z", false)
  | _ => ("TwelveChainModel", "done", "[I", true)
def tyX12 : Nat → FieldType := fun k => match k with
  | 0 => .array .int
  | 1 => .array .int
  | 2 => .array .int
  | 3 => .array .int
  | 4 => .int
  | 5 => .boolean
  | 6 => .array .int
  | 7 => .array .int
  | 8 => .array .int
  | 9 => .array .int
  | 10 => .array .int
  | 11 => .array .int
  | 12 => .int
  | 13 => .int
  | 14 => .int
  | 15 => .int
  | 16 => .int
  | 17 => .int
  | 18 => .int
  | 19 => .int
  | 20 => .int
  | 21 => .int
  | 22 => .int
  | 23 => .int
  | 24 => .int
  | 25 => .int
  | 26 => .boolean
  | _ => .array .int
theorem nmX12 : ∀ a, a < 28 → ∀ b, b < 28 → a ≠ b → (TX12 a).2.1 ≠ (TX12 b).2.1 := by decide +kernel
theorem tyX12_ok : ∀ k, k < 28 → parseFieldDescriptor (TX12 k).2.2.1 = some (tyX12 k) := by decide +kernel
abbrev cX12_init : ByteArray := prog_14_method_1_code
def yX12_init : MethodName := ⟨RX12, "<init>", "()V"⟩
abbrev cX12_isIn : ByteArray := prog_14_method_2_code
def yX12_isIn : MethodName := ⟨RX12, "isIn", "(III)Z"⟩
abbrev cX12_lesser : ByteArray := prog_14_method_3_code
def yX12_lesser : MethodName := ⟨RX12, "lesser", "(II)I"⟩
abbrev cX12_greater : ByteArray := prog_14_method_4_code
def yX12_greater : MethodName := ⟨RX12, "greater", "(II)I"⟩
abbrev cX12_held : ByteArray := prog_14_method_5_code
def yX12_held : MethodName := ⟨RX12, "held", "(III)I"⟩
abbrev cX12_isLink : ByteArray := prog_14_method_6_code
def yX12_isLink : MethodName := ⟨RX12, "isLink", "(I)Z"⟩
abbrev cX12_isReady : ByteArray := prog_14_method_7_code
def yX12_isReady : MethodName := ⟨RX12, "isReady", "(I)Z"⟩
abbrev cX12_isOut : ByteArray := prog_14_method_8_code
def yX12_isOut : MethodName := ⟨RX12, "isOut", "(I)Z"⟩
abbrev cX12_isBridged : ByteArray := prog_14_method_9_code
def yX12_isBridged : MethodName := ⟨RX12, "isBridged", "(I)Z"⟩
abbrev cX12_hasMoved : ByteArray := prog_14_method_10_code
def yX12_hasMoved : MethodName := ⟨RX12, "hasMoved", "(I)Z"⟩
abbrev cX12_isThere : ByteArray := prog_14_method_11_code
def yX12_isThere : MethodName := ⟨RX12, "isThere", "(I)Z"⟩
abbrev cX12_count : ByteArray := prog_14_method_12_code
def yX12_count : MethodName := ⟨RX12, "count", "(I)I"⟩
abbrev cX12_forgets : ByteArray := prog_14_method_13_code
def yX12_forgets : MethodName := ⟨RX12, "forgets", "()V"⟩
abbrev cX12_state : ByteArray := prog_14_method_14_code
def yX12_state : MethodName := ⟨RX12, "state", "(I)I"⟩
abbrev cX12_draw : ByteArray := prog_14_method_15_code
def yX12_draw : MethodName := ⟨RX12, "draw", "(I)I"⟩
abbrev cX12_link : ByteArray := prog_14_method_16_code
def yX12_link : MethodName := ⟨RX12, "link", "(IIII)I"⟩
abbrev cX12_canBe : ByteArray := prog_14_method_17_code
def yX12_canBe : MethodName := ⟨RX12, "canBe", "(II)Z"⟩
abbrev cX12_set : ByteArray := prog_14_method_18_code
def yX12_set : MethodName := ⟨RX12, "set", "(III)Z"⟩
abbrev cX12_feed : ByteArray := prog_14_method_19_code
def yX12_feed : MethodName := ⟨RX12, "feed", "(IIIII)I"⟩
abbrev cX12_end : ByteArray := prog_14_method_20_code
def yX12_end : MethodName := ⟨RX12, "end", "(I)Z"⟩
abbrev cX12_see : ByteArray := prog_14_method_21_code
def yX12_see : MethodName := ⟨RX12, "see", "(I)I"⟩
abbrev cX12_isLetter : ByteArray := prog_14_method_22_code
def yX12_isLetter : MethodName := ⟨RX12, "isLetter", "(I)Z"⟩
abbrev cX12_isDigit : ByteArray := prog_14_method_23_code
def yX12_isDigit : MethodName := ⟨RX12, "isDigit", "(I)Z"⟩
abbrev cX12_is : ByteArray := prog_14_method_24_code
def yX12_is : MethodName := ⟨RX12, "is", "(Ljava/lang/String;)Z"⟩
abbrev cX12_asked : ByteArray := prog_14_method_25_code
def yX12_asked : MethodName := ⟨RX12, "asked", "()I"⟩
abbrev cX12_lawWord : ByteArray := prog_14_method_26_code
def yX12_lawWord : MethodName := ⟨RX12, "lawWord", "()I"⟩
abbrev cX12_planWord : ByteArray := prog_14_method_27_code
def yX12_planWord : MethodName := ⟨RX12, "planWord", "()I"⟩
abbrev cX12_word : ByteArray := prog_14_method_28_code
def yX12_word : MethodName := ⟨RX12, "word", "()I"⟩
abbrev cX12_next0 : ByteArray := prog_14_method_29_code
def yX12_next0 : MethodName := ⟨RX12, "next0", "()V"⟩
abbrev cX12_bad : ByteArray := prog_14_method_30_code
def yX12_bad : MethodName := ⟨RX12, "bad", "(I)Z"⟩
abbrev cX12_need : ByteArray := prog_14_method_31_code
def yX12_need : MethodName := ⟨RX12, "need", "(I)Z"⟩
abbrev cX12_lay : ByteArray := prog_14_method_32_code
def yX12_lay : MethodName := ⟨RX12, "lay", "(II)V"⟩
abbrev cX12_opens : ByteArray := prog_14_method_33_code
def yX12_opens : MethodName := ⟨RX12, "opens", "()Z"⟩
abbrev cX12_sumUp : ByteArray := prog_14_method_34_code
def yX12_sumUp : MethodName := ⟨RX12, "sumUp", "()Z"⟩
abbrev cX12_product : ByteArray := prog_14_method_35_code
def yX12_product : MethodName := ⟨RX12, "product", "()Z"⟩
abbrev cX12_unit : ByteArray := prog_14_method_36_code
def yX12_unit : MethodName := ⟨RX12, "unit", "()Z"⟩
abbrev cX12_any : ByteArray := prog_14_method_37_code
def yX12_any : MethodName := ⟨RX12, "any", "()Z"⟩
abbrev cX12_every : ByteArray := prog_14_method_38_code
def yX12_every : MethodName := ⟨RX12, "every", "()Z"⟩
abbrev cX12_oneTest : ByteArray := prog_14_method_39_code
def yX12_oneTest : MethodName := ⟨RX12, "oneTest", "()Z"⟩
abbrev cX12_aLine : ByteArray := prog_14_method_40_code
def yX12_aLine : MethodName := ⟨RX12, "aLine", "()Z"⟩
abbrev cX12_readsLaw : ByteArray := prog_14_method_41_code
def yX12_readsLaw : MethodName := ⟨RX12, "readsLaw", "()Z"⟩
abbrev cX12_number : ByteArray := prog_14_method_42_code
def yX12_number : MethodName := ⟨RX12, "number", "(III)Z"⟩
abbrev cX12_told : ByteArray := prog_14_method_43_code
def yX12_told : MethodName := ⟨RX12, "told", "(IIII)Z"⟩
abbrev cX12_aLink : ByteArray := prog_14_method_44_code
def yX12_aLink : MethodName := ⟨RX12, "aLink", "(I)Z"⟩
abbrev cX12_aPlan : ByteArray := prog_14_method_45_code
def yX12_aPlan : MethodName := ⟨RX12, "aPlan", "()Z"⟩
abbrev cX12_aPhone : ByteArray := prog_14_method_46_code
def yX12_aPhone : MethodName := ⟨RX12, "aPhone", "()Z"⟩
abbrev cX12_aRecord : ByteArray := prog_14_method_47_code
def yX12_aRecord : MethodName := ⟨RX12, "aRecord", "()Z"⟩
abbrev cX12_aRow : ByteArray := prog_14_method_48_code
def yX12_aRow : MethodName := ⟨RX12, "aRow", "()Z"⟩
abbrev cX12_readsRows : ByteArray := prog_14_method_49_code
def yX12_readsRows : MethodName := ⟨RX12, "readsRows", "()Z"⟩
abbrev cX12_putsLaw : ByteArray := prog_14_method_50_code
def yX12_putsLaw : MethodName := ⟨RX12, "putsLaw", "()I"⟩
abbrev cX12_puts : ByteArray := prog_14_method_51_code
def yX12_puts : MethodName := ⟨RX12, "puts", "(III)I"⟩
abbrev cX12_putsPhones : ByteArray := prog_14_method_52_code
def yX12_putsPhones : MethodName := ⟨RX12, "putsPhones", "()I"⟩
abbrev cX12_putsText : ByteArray := prog_14_method_53_code
def yX12_putsText : MethodName := ⟨RX12, "putsText", "(I)I"⟩
abbrev cX12_text : ByteArray := prog_14_method_54_code
def yX12_text : MethodName := ⟨RX12, "text", "(I)I"⟩
abbrev cX12_fault : ByteArray := prog_14_method_55_code
def yX12_fault : MethodName := ⟨RX12, "fault", "(I)I"⟩
abbrev cX12_both : ByteArray := prog_14_method_56_code
def yX12_both : MethodName := ⟨RX12, "both", "(III)I"⟩
abbrev cX12_comesTo : ByteArray := prog_14_method_57_code
def yX12_comesTo : MethodName := ⟨RX12, "comesTo", "(III)I"⟩
abbrev cX12_isSo : ByteArray := prog_14_method_58_code
def yX12_isSo : MethodName := ⟨RX12, "isSo", "(I)Z"⟩
abbrev cX12_endOf : ByteArray := prog_14_method_59_code
def yX12_endOf : MethodName := ⟨RX12, "endOf", "(II)I"⟩
abbrev cX12_bridgedOnes : ByteArray := prog_14_method_60_code
def yX12_bridgedOnes : MethodName := ⟨RX12, "bridgedOnes", "()I"⟩
abbrev cX12_lacksOf : ByteArray := prog_14_method_61_code
def yX12_lacksOf : MethodName := ⟨RX12, "lacksOf", "(I)I"⟩
abbrev cX12_says : ByteArray := prog_14_method_62_code
def yX12_says : MethodName := ⟨RX12, "says", "(IIII)I"⟩
abbrev cX12_readyOf : ByteArray := prog_14_method_63_code
def yX12_readyOf : MethodName := ⟨RX12, "readyOf", "(I)I"⟩
abbrev cX12_leaveOf : ByteArray := prog_14_method_64_code
def yX12_leaveOf : MethodName := ⟨RX12, "leaveOf", "(I)I"⟩
abbrev cX12_giveOf : ByteArray := prog_14_method_65_code
def yX12_giveOf : MethodName := ⟨RX12, "giveOf", "(I)I"⟩
abbrev cX12_costOf : ByteArray := prog_14_method_66_code
def yX12_costOf : MethodName := ⟨RX12, "costOf", "(I)I"⟩
abbrev cX12_canPay : ByteArray := prog_14_method_67_code
def yX12_canPay : MethodName := ⟨RX12, "canPay", "(I)Z"⟩
abbrev cX12_keeps : ByteArray := prog_14_method_68_code
def yX12_keeps : MethodName := ⟨RX12, "keeps", "()V"⟩
abbrev cX12_undo : ByteArray := prog_14_method_69_code
def yX12_undo : MethodName := ⟨RX12, "undo", "()Z"⟩
abbrev cX12_notes : ByteArray := prog_14_method_70_code
def yX12_notes : MethodName := ⟨RX12, "notes", "(III)V"⟩
abbrev cX12_canAsk : ByteArray := prog_14_method_71_code
def yX12_canAsk : MethodName := ⟨RX12, "canAsk", "(I)Z"⟩
abbrev cX12_asks : ByteArray := prog_14_method_72_code
def yX12_asks : MethodName := ⟨RX12, "asks", "(II)I"⟩
abbrev cX12_canBridge : ByteArray := prog_14_method_73_code
def yX12_canBridge : MethodName := ⟨RX12, "canBridge", "(I)Z"⟩
abbrev cX12_bridges0 : ByteArray := prog_14_method_74_code
def yX12_bridges0 : MethodName := ⟨RX12, "bridges0", "(I)V"⟩
abbrev cX12_canPay0 : ByteArray := prog_14_method_75_code
def yX12_canPay0 : MethodName := ⟨RX12, "canPay0", "(III)Z"⟩
abbrev cX12_pays : ByteArray := prog_14_method_76_code
def yX12_pays : MethodName := ⟨RX12, "pays", "(III)V"⟩
abbrev cX12_canPaper : ByteArray := prog_14_method_77_code
def yX12_canPaper : MethodName := ⟨RX12, "canPaper", "(I)Z"⟩
abbrev cX12_getsReady : ByteArray := prog_14_method_78_code
def yX12_getsReady : MethodName := ⟨RX12, "getsReady", "(I)V"⟩
abbrev cX12_ask : ByteArray := prog_14_method_79_code
def yX12_ask : MethodName := ⟨RX12, "ask", "(II)I"⟩
abbrev cX12_bridge : ByteArray := prog_14_method_80_code
def yX12_bridge : MethodName := ⟨RX12, "bridge", "(I)Z"⟩
abbrev cX12_pay : ByteArray := prog_14_method_81_code
def yX12_pay : MethodName := ⟨RX12, "pay", "(III)Z"⟩
abbrev cX12_paper : ByteArray := prog_14_method_82_code
def yX12_paper : MethodName := ⟨RX12, "paper", "(I)Z"⟩
abbrev cX12_join : ByteArray := prog_14_method_83_code
def yX12_join : MethodName := ⟨RX12, "join", "(I)Z"⟩
abbrev cX12_does : ByteArray := prog_14_method_84_code
def yX12_does : MethodName := ⟨RX12, "does", "(I)V"⟩
abbrev cX12_falls : ByteArray := prog_14_method_85_code
def yX12_falls : MethodName := ⟨RX12, "falls", "(I)Z"⟩
abbrev cX12_unreadies : ByteArray := prog_14_method_86_code
def yX12_unreadies : MethodName := ⟨RX12, "unreadies", "(I)V"⟩
abbrev cX12_leaves : ByteArray := prog_14_method_87_code
def yX12_leaves : MethodName := ⟨RX12, "leaves", "(I)V"⟩
abbrev cX12_canMove : ByteArray := prog_14_method_88_code
def yX12_canMove : MethodName := ⟨RX12, "canMove", "(II)Z"⟩
abbrev cX12_moves : ByteArray := prog_14_method_89_code
def yX12_moves : MethodName := ⟨RX12, "moves", "()I"⟩
abbrev cX12_aDay : ByteArray := prog_14_method_90_code
def yX12_aDay : MethodName := ⟨RX12, "aDay", "()I"⟩
abbrev cX12_days : ByteArray := prog_14_method_91_code
def yX12_days : MethodName := ⟨RX12, "days", "(I)I"⟩
abbrev cX12_of : ByteArray := prog_14_method_92_code
def yX12_of : MethodName := ⟨RX12, "of", "(II)I"⟩
abbrev cX12_recordsOf : ByteArray := prog_14_method_93_code
def yX12_recordsOf : MethodName := ⟨RX12, "recordsOf", "(III)I"⟩
abbrev cX12_phone : ByteArray := prog_14_method_94_code
def yX12_phone : MethodName := ⟨RX12, "phone", "(II)I"⟩
abbrev cX12_book : ByteArray := prog_14_method_95_code
def yX12_book : MethodName := ⟨RX12, "book", "(II)I"⟩
abbrev cX12_movedOnes : ByteArray := prog_14_method_96_code
def yX12_movedOnes : MethodName := ⟨RX12, "movedOnes", "()I"⟩
abbrev cX12_latestMoved : ByteArray := prog_14_method_97_code
def yX12_latestMoved : MethodName := ⟨RX12, "latestMoved", "()I"⟩
abbrev cX12_goes : ByteArray := prog_14_method_98_code
def yX12_goes : MethodName := ⟨RX12, "goes", "(II)I"⟩
abbrev cX12_sureBy : ByteArray := prog_14_method_99_code
def yX12_sureBy : MethodName := ⟨RX12, "sureBy", "(II)J"⟩
abbrev cX12_readyBy : ByteArray := prog_14_method_100_code
def yX12_readyBy : MethodName := ⟨RX12, "readyBy", "(II)J"⟩
abbrev cX12_allBy : ByteArray := prog_14_method_101_code
def yX12_allBy : MethodName := ⟨RX12, "allBy", "(III)J"⟩
abbrev cX12_odds : ByteArray := prog_14_method_102_code
def yX12_odds : MethodName := ⟨RX12, "odds", "(I)I"⟩
abbrev cX12_holds : ByteArray := prog_14_method_103_code
def yX12_holds : MethodName := ⟨RX12, "holds", "(II)I"⟩
abbrev cX12_many : ByteArray := prog_14_method_104_code
def yX12_many : MethodName := ⟨RX12, "many", "(II)I"⟩
abbrev cX12_leastBy : ByteArray := prog_14_method_105_code
def yX12_leastBy : MethodName := ⟨RX12, "leastBy", "(II)J"⟩
abbrev cX12_soon : ByteArray := prog_14_method_106_code
def yX12_soon : MethodName := ⟨RX12, "soon", "(I)I"⟩
abbrev cX12_hurriedBy : ByteArray := prog_14_method_107_code
def yX12_hurriedBy : MethodName := ⟨RX12, "hurriedBy", "(II)J"⟩
abbrev cX12_hurry : ByteArray := prog_14_method_108_code
def yX12_hurry : MethodName := ⟨RX12, "hurry", "(II)I"⟩
abbrev cX12_split : ByteArray := prog_14_method_109_code
def yX12_split : MethodName := ⟨RX12, "split", "(II)I"⟩
abbrev cX12_costsOf : ByteArray := prog_14_method_110_code
def yX12_costsOf : MethodName := ⟨RX12, "costsOf", "(I)I"⟩
abbrev cX12_bridgeable : ByteArray := prog_14_method_111_code
def yX12_bridgeable : MethodName := ⟨RX12, "bridgeable", "()I"⟩
abbrev cX12_bridges : ByteArray := prog_14_method_112_code
def yX12_bridges : MethodName := ⟨RX12, "bridges", "(III)I"⟩
abbrev cX12_isGiving : ByteArray := prog_14_method_113_code
def yX12_isGiving : MethodName := ⟨RX12, "isGiving", "(I)Z"⟩
abbrev cX12_givenBy : ByteArray := prog_14_method_114_code
def yX12_givenBy : MethodName := ⟨RX12, "givenBy", "(I)I"⟩
abbrev cX12_share : ByteArray := prog_14_method_115_code
def yX12_share : MethodName := ⟨RX12, "share", "(II)I"⟩
abbrev cX12_along : ByteArray := prog_14_method_116_code
def yX12_along : MethodName := ⟨RX12, "along", "(III)I"⟩
abbrev cX12_downwards : ByteArray := prog_14_method_117_code
def yX12_downwards : MethodName := ⟨RX12, "downwards", "(II)I"⟩
abbrev cX12_choice : ByteArray := prog_14_method_118_code
def yX12_choice : MethodName := ⟨RX12, "choice", "(IIII)I"⟩
abbrev cX12_bluff : ByteArray := prog_14_method_119_code
def yX12_bluff : MethodName := ⟨RX12, "bluff", "(III)I"⟩
abbrev cX12_gap : ByteArray := prog_14_method_120_code
def yX12_gap : MethodName := ⟨RX12, "gap", "(I)I"⟩
abbrev cX12_isRunning : ByteArray := prog_14_method_121_code
def yX12_isRunning : MethodName := ⟨RX12, "isRunning", "(I)Z"⟩
abbrev cX12_runs : ByteArray := prog_14_method_122_code
def yX12_runs : MethodName := ⟨RX12, "runs", "(I)I"⟩
abbrev cX12_laysSigns : ByteArray := prog_14_method_123_code
def yX12_laysSigns : MethodName := ⟨RX12, "laysSigns", "(II)V"⟩
abbrev cX12_mostSigned : ByteArray := prog_14_method_124_code
def yX12_mostSigned : MethodName := ⟨RX12, "mostSigned", "()I"⟩
abbrev cX12_signsNext : ByteArray := prog_14_method_125_code
def yX12_signsNext : MethodName := ⟨RX12, "signsNext", "(III)I"⟩
abbrev cX12_signs : ByteArray := prog_14_method_126_code
def yX12_signs : MethodName := ⟨RX12, "signs", "(I)I"⟩
abbrev cX12_money : ByteArray := prog_14_method_127_code
def yX12_money : MethodName := ⟨RX12, "money", "(II)I"⟩
abbrev cX12_ill : ByteArray := prog_14_method_128_code
def yX12_ill : MethodName := ⟨RX12, "ill", "(II)I"⟩
abbrev cX12_greaterBy : ByteArray := prog_14_method_129_code
def yX12_greaterBy : MethodName := ⟨RX12, "greaterBy", "(I)I"⟩
abbrev cX12_wrote : ByteArray := prog_14_method_130_code
def yX12_wrote : MethodName := ⟨RX12, "wrote", "()I"⟩
abbrev cX12_slowest : ByteArray := prog_14_method_131_code
def yX12_slowest : MethodName := ⟨RX12, "slowest", "()I"⟩
abbrev cX12_heapOf : ByteArray := prog_14_method_132_code
def yX12_heapOf : MethodName := ⟨RX12, "heapOf", "(I)I"⟩
abbrev cX12_game : ByteArray := prog_14_method_133_code
def yX12_game : MethodName := ⟨RX12, "game", "(I)I"⟩
abbrev cX12_image : ByteArray := prog_14_method_134_code
def yX12_image : MethodName := ⟨RX12, "image", "(Z)Z"⟩
abbrev cX12_look : ByteArray := prog_14_method_135_code
def yX12_look : MethodName := ⟨RX12, "look", "(I)I"⟩
def RJ6 : String := "java/lang/Integer"
abbrev cJ6_bitCount_0f7a4 : ByteArray := prog_15_method_49_code
def yJ6_bitCount_0f7a4 : MethodName := ⟨RJ6, "bitCount", "(I)I"⟩
def RJ9 : String := "java/lang/Math"
abbrev cJ9_floorDiv_7cf53 : ByteArray := prog_16_method_47_code
def yJ9_floorDiv_7cf53 : MethodName := ⟨RJ9, "floorDiv", "(II)I"⟩
abbrev cJ9_max_7cf53 : ByteArray := prog_16_method_65_code
def yJ9_max_7cf53 : MethodName := ⟨RJ9, "max", "(II)I"⟩
abbrev cJ9_min_7cf53 : ByteArray := prog_16_method_69_code
def yJ9_min_7cf53 : MethodName := ⟨RJ9, "min", "(II)I"⟩
def RJ0 : String := "java/lang/String"
abbrev cJ0_length_8abf5 : ByteArray := prog_17_method_54_code
def yJ0_length_8abf5 : MethodName := ⟨RJ0, "length", "()I"⟩
abbrev cJ0_charAt_5068e : ByteArray := prog_17_method_56_code
def yJ0_charAt_5068e : MethodName := ⟨RJ0, "charAt", "(I)C"⟩
abbrev cJ0_coder_7d493 : ByteArray := prog_17_method_152_code
def yJ0_coder_7d493 : MethodName := ⟨RJ0, "coder", "()B"⟩
abbrev cJ0_isLatin1_aae02 : ByteArray := prog_17_method_154_code
def yJ0_isLatin1_aae02 : MethodName := ⟨RJ0, "isLatin1", "()Z"⟩
abbrev cJ0_checkIndex_df160 : ByteArray := prog_17_method_155_code
def yJ0_checkIndex_df160 : MethodName := ⟨RJ0, "checkIndex", "(II)V"⟩
def RJ1 : String := "java/lang/StringLatin1"
abbrev cJ1_charAt_3b067 : ByteArray := prog_18_method_2_code
def yJ1_charAt_3b067 : MethodName := ⟨RJ1, "charAt", "([BI)C"⟩
def RJ2 : String := "java/lang/StringUTF16"
abbrev cJ2_getChar_3b067 : ByteArray := prog_19_method_5_code
def yJ2_getChar_3b067 : MethodName := ⟨RJ2, "getChar", "([BI)C"⟩
abbrev cJ2_length_9d52b : ByteArray := prog_19_method_6_code
def yJ2_length_9d52b : MethodName := ⟨RJ2, "length", "([B)I"⟩
abbrev cJ2_charAt_3b067 : ByteArray := prog_19_method_83_code
def yJ2_charAt_3b067 : MethodName := ⟨RJ2, "charAt", "([BI)C"⟩
abbrev cJ2_checkIndex_2214a : ByteArray := prog_19_method_91_code
def yJ2_checkIndex_2214a : MethodName := ⟨RJ2, "checkIndex", "(I[B)V"⟩
def RJ10 : String := "java/lang/System"
def RJ3 : String := "jdk/internal/util/Preconditions"
abbrev cJ3_checkIndex_8e157 : ByteArray := prog_21_method_11_code
def yJ3_checkIndex_8e157 : MethodName := ⟨RJ3, "checkIndex", "(IILjava/util/function/BiFunction;)I"⟩
def RL : String := "TwelveChainLaw"
abbrev cL_law : ByteArray := code
def yL_law : MethodName := ⟨RL, "law", "([I)Z"⟩
abbrev vwCl : List vw_C := [(RX0, TX0, 8), (RX1, TX1, 2), (RX2, TX2, 3), (RX3, TX3, 8), (RX4, TX4, 5), (RX5, TX5, 8), (RX6, TX6, 2), (RX7, TX7, 5), (RX8, TX8, 8), (RX9, TX9, 10), (RX10, TX10, 4), (RX11, TX11, 14), (RX12, TX12, 28)]
end
section
/-! A PURE MACHINE: ints, longs, references by (kind, id); a memory of whole numbers by id and place; one instruction as a proposition -/
abbrev pz_V : Type := Int ⊕ (Int ⊕ (Nat × Nat))
abbrev pz_M : Type := Nat → Nat → Int
abbrev pz_L : Type := List (Option pz_V)
abbrev pz_F : Type := Nat → pz_L → List pz_V → pz_M → Prop
abbrev pz_E : Type := Nat × Instr × Nat × Nat × List Nat
abbrev pz_C : Type := Nat × Nat × (List pz_V → pz_M → Prop) × (List pz_V → pz_M → Option pz_V → pz_M → Prop)
/-- how long an instruction is -/
def pz_len : Instr → Nat
  | .iconst _ => 1 | .bipush _ => 2 | .sipush _ => 3 | .lconst _ => 1 | .ldc _ => 2 | .ldc_w _ => 3 | .ldc2_w _ => 3
  | .iload _ => 2 | .iload_n _ => 1 | .lload _ => 2 | .lload_n _ => 1 | .aload _ => 2 | .aload_n _ => 1
  | .istore _ => 2 | .istore_n _ => 1 | .lstore _ => 2 | .lstore_n _ => 1 | .astore _ => 2 | .astore_n _ => 1
  | .iinc _ _ => 3 | .goto _ => 3 | .ifCond _ _ => 3 | .if_icmp _ _ => 3 | .getfield _ => 3 | .putfield _ => 3 | .invokevirtual _ => 3 | .invokestatic _ => 3
  | _ => 1
def pz_tok (pc : Nat) : Instr → List Nat → Bool
  | .goto o, [t] => decide ((pc : Int) + o = (t : Int))
  | .ifCond _ o, [t] => decide ((pc : Int) + o = (t : Int))
  | .if_icmp _ o, [t] => decide ((pc : Int) + o = (t : Int))
  | .tableswitch d low high os, ts => decide ((d :: os.toList).map (fun o => (pc : Int) + o) = ts.map Int.ofNat) && decide (high - low + 1 = (os.toList.length : Int))
  | .lookupswitch d ps, ts => decide ((d :: ps.toList.map (·.2)).map (fun o => (pc : Int) + o) = ts.map Int.ofNat) && (ps.toList.zip (ps.toList.drop 1)).all (fun q => decide (q.1.1 < q.2.1))
  | .goto _, _ => false
  | .ifCond _ _, _ => false
  | .if_icmp _ _, _ => false
  | _, _ => true
def pz_imm : Instr → Bool
  | .iconst v => decide (-1 ≤ v) && decide (v ≤ 5)
  | .bipush v => decide (-128 ≤ v) && decide (v ≤ 127)
  | .sipush v => decide (-32768 ≤ v) && decide (v ≤ 32767)
  | .iinc _ v => decide (-128 ≤ v) && decide (v ≤ 127)
  | _ => true
def pz_sl : Instr → Nat → Nat → Bool
  | .tableswitch .., _, _ => true
  | .lookupswitch .., _, _ => true
  | I, n, _ => decide (n = pz_len I)
/-- a row of a method's table says what its bytes say -/
def pz_wf (cc : ByteArray) (q : pz_E) : Bool := decide (decode cc q.1 = .ok (q.2.1, q.2.2.1)) && (decide (q.2.2.2.1 = q.1 + q.2.2.1) && (pz_sl q.2.1 q.2.2.1 0 && (pz_tok q.1 q.2.1 q.2.2.2.2 && pz_imm q.2.1)))
def pz_at (tb : List pz_E) (pc : Nat) : Option pz_E := tb.find? (fun q => Nat.beq q.1 pc)
end
section
def t_X0_take : List pz_E := [(0, .iconst 0, 1, 1, []), (1, .istore_n 2, 1, 2, []), (2, .iload_n 2, 1, 3, []), (3, .bipush 12, 2, 5, []), (5, .if_icmp .ge 24, 3, 8, [29]), (8, .aload_n 0, 1, 9, []), (9, .getfield 11, 3, 12, []), (12, .iload_n 2, 1, 13, []), (13, .aaload, 1, 14, []), (14, .aload_n 1, 1, 15, []), (15, .getfield 11, 3, 18, []), (18, .iload_n 2, 1, 19, []), (19, .aaload, 1, 20, []), (20, .invokevirtual 26, 3, 23, []), (23, .iinc 2 1, 3, 26, []), (26, .goto (-24), 3, 29, [2]), (29, .aload_n 0, 1, 30, []), (30, .aload_n 1, 1, 31, []), (31, .getfield 30, 3, 34, []), (34, .putfield 30, 3, 37, []), (37, .aload_n 0, 1, 38, []), (38, .aload_n 1, 1, 39, []), (39, .getfield 34, 3, 42, []), (42, .putfield 34, 3, 45, []), (45, .aload_n 0, 1, 46, []), (46, .aload_n 1, 1, 47, []), (47, .getfield 37, 3, 50, []), (50, .putfield 37, 3, 53, []), (53, .aload_n 0, 1, 54, []), (54, .aload_n 1, 1, 55, []), (55, .getfield 40, 3, 58, []), (58, .putfield 40, 3, 61, []), (61, .aload_n 0, 1, 62, []), (62, .aload_n 1, 1, 63, []), (63, .getfield 43, 3, 66, []), (66, .putfield 43, 3, 69, []), (69, .return_, 1, 70, [])]
theorem t_X0_take_ok : t_X0_take.all (fun q => pz_wf cX0_take q) = true := by decide +kernel
def t_X0_has : List pz_E := [(0, .iload_n 1, 1, 1, []), (1, .ifCond .lt 15, 3, 4, [16]), (4, .iload_n 1, 1, 5, []), (5, .aload_n 0, 1, 6, []), (6, .getfield 30, 3, 9, []), (9, .if_icmp .ge 7, 3, 12, [16]), (12, .iconst 1, 1, 13, []), (13, .goto 4, 3, 16, [17]), (16, .iconst 0, 1, 17, []), (17, .ireturn, 1, 18, [])]
theorem t_X0_has_ok : t_X0_has.all (fun q => pz_wf cX0_has q) = true := by decide +kernel
def t_X0_at : List pz_E := [(0, .iload_n 1, 1, 1, []), (1, .ifCond .lt 18, 3, 4, [19]), (4, .iload_n 1, 1, 5, []), (5, .bipush 12, 2, 7, []), (7, .if_icmp .ge 12, 3, 10, [19]), (10, .aload_n 0, 1, 11, []), (11, .getfield 11, 3, 14, []), (14, .iload_n 1, 1, 15, []), (15, .aaload, 1, 16, []), (16, .goto 7, 3, 19, [23]), (19, .aload_n 0, 1, 20, []), (20, .getfield 18, 3, 23, []), (23, .areturn, 1, 24, [])]
theorem t_X0_at_ok : t_X0_at.all (fun q => pz_wf cX0_at q) = true := by decide +kernel
def t_X0_all : List pz_E := [(0, .iconst 1, 1, 1, []), (1, .aload_n 0, 1, 2, []), (2, .getfield 30, 3, 5, []), (5, .ishl, 1, 6, []), (6, .iconst 1, 1, 7, []), (7, .isub, 1, 8, []), (8, .ireturn, 1, 9, [])]
theorem t_X0_all_ok : t_X0_all.all (fun q => pz_wf cX0_all q) = true := by decide +kernel
def t_X0_happens : List pz_E := [(0, .aload_n 0, 1, 1, []), (1, .getfield 22, 3, 4, []), (4, .ifCond .eq 16, 3, 7, [20]), (7, .iload_n 1, 1, 8, []), (8, .sipush 500, 3, 11, []), (11, .if_icmp .lt 7, 3, 14, [18]), (14, .iconst 1, 1, 15, []), (15, .goto 4, 3, 18, [19]), (18, .iconst 0, 1, 19, []), (19, .ireturn, 1, 20, []), (20, .aload_n 0, 1, 21, []), (21, .aload_n 0, 1, 22, []), (22, .getfield 40, 3, 25, []), (25, .ldc 46, 2, 27, []), (27, .imul, 1, 28, []), (28, .ldc 47, 2, 30, []), (30, .iadd, 1, 31, []), (31, .putfield 40, 3, 34, []), (34, .aload_n 0, 1, 35, []), (35, .getfield 40, 3, 38, []), (38, .bipush 8, 2, 40, []), (40, .iushr, 1, 41, []), (41, .sipush 1000, 3, 44, []), (44, .irem, 1, 45, []), (45, .iload_n 1, 1, 46, []), (46, .if_icmp .ge 7, 3, 49, [53]), (49, .iconst 1, 1, 50, []), (50, .goto 4, 3, 53, [54]), (53, .iconst 0, 1, 54, []), (54, .ireturn, 1, 55, [])]
theorem t_X0_happens_ok : t_X0_happens.all (fun q => pz_wf cX0_happens q) = true := by decide +kernel
def t_X0_lackOfMoney : List pz_E := [(0, .iload_n 1, 1, 1, []), (1, .aload_n 0, 1, 2, []), (2, .getfield 30, 3, 5, []), (5, .iconst 1, 1, 6, []), (6, .isub, 1, 7, []), (7, .if_icmp .lt 5, 3, 10, [12]), (10, .iconst 0, 1, 11, []), (11, .ireturn, 1, 12, []), (12, .aload_n 0, 1, 13, []), (13, .iload_n 1, 1, 14, []), (14, .invokevirtual 48, 3, 17, []), (17, .getfield 52, 3, 20, []), (20, .iload_n 1, 1, 21, []), (21, .ifCond .le 14, 3, 24, [35]), (24, .aload_n 0, 1, 25, []), (25, .iload_n 1, 1, 26, []), (26, .invokevirtual 48, 3, 29, []), (29, .getfield 55, 3, 32, []), (32, .goto 4, 3, 35, [36]), (35, .iconst 0, 1, 36, []), (36, .iadd, 1, 37, []), (37, .istore_n 2, 1, 38, []), (38, .iconst 0, 1, 39, []), (39, .aload_n 0, 1, 40, []), (40, .iload_n 1, 1, 41, []), (41, .iconst 1, 1, 42, []), (42, .iadd, 1, 43, []), (43, .invokevirtual 48, 3, 46, []), (46, .getfield 55, 3, 49, []), (49, .iload_n 2, 1, 50, []), (50, .isub, 1, 51, []), (51, .invokestatic 58, 3, 54, []), (54, .ireturn, 1, 55, [])]
theorem t_X0_lackOfMoney_ok : t_X0_lackOfMoney.all (fun q => pz_wf cX0_lackOfMoney q) = true := by decide +kernel
def t_X0_canPay : List pz_E := [(0, .aload_n 0, 1, 1, []), (1, .iload_n 1, 1, 2, []), (2, .invokevirtual 64, 3, 5, []), (5, .ifCond .ne 7, 3, 8, [12]), (8, .iconst 1, 1, 9, []), (9, .goto 4, 3, 12, [13]), (12, .iconst 0, 1, 13, []), (13, .ireturn, 1, 14, [])]
theorem t_X0_canPay_ok : t_X0_canPay.all (fun q => pz_wf cX0_canPay q) = true := by decide +kernel
def t_X0_canBridge : List pz_E := [(0, .iload_n 1, 1, 1, []), (1, .ifCond .le 39, 3, 4, [40]), (4, .iload_n 1, 1, 5, []), (5, .aload_n 0, 1, 6, []), (6, .getfield 30, 3, 9, []), (9, .iconst 1, 1, 10, []), (10, .isub, 1, 11, []), (11, .if_icmp .ge 29, 3, 14, [40]), (14, .aload_n 0, 1, 15, []), (15, .iload_n 1, 1, 16, []), (16, .invokevirtual 48, 3, 19, []), (19, .getfield 68, 3, 22, []), (22, .ifCond .ne 18, 3, 25, [40]), (25, .aload_n 0, 1, 26, []), (26, .iload_n 1, 1, 27, []), (27, .invokevirtual 48, 3, 30, []), (30, .invokevirtual 71, 3, 33, []), (33, .ifCond .eq 7, 3, 36, [40]), (36, .iconst 1, 1, 37, []), (37, .goto 4, 3, 40, [41]), (40, .iconst 0, 1, 41, []), (41, .ireturn, 1, 42, [])]
theorem t_X0_canBridge_ok : t_X0_canBridge.all (fun q => pz_wf cX0_canBridge q) = true := by decide +kernel
def t_X0_partEnd : List pz_E := [(0, .iload_n 1, 1, 1, []), (1, .istore_n 2, 1, 2, []), (2, .iload_n 2, 1, 3, []), (3, .aload_n 0, 1, 4, []), (4, .getfield 30, 3, 7, []), (7, .iconst 1, 1, 8, []), (8, .isub, 1, 9, []), (9, .if_icmp .ge 20, 3, 12, [29]), (12, .iinc 2 1, 3, 15, []), (15, .aload_n 0, 1, 16, []), (16, .iload_n 2, 1, 17, []), (17, .invokevirtual 48, 3, 20, []), (20, .getfield 68, 3, 23, []), (23, .ifCond .eq (-21), 3, 26, [2]), (26, .goto 3, 3, 29, [29]), (29, .iload_n 2, 1, 30, []), (30, .ireturn, 1, 31, [])]
theorem t_X0_partEnd_ok : t_X0_partEnd.all (fun q => pz_wf cX0_partEnd q) = true := by decide +kernel
def t_X0_lacks : List pz_E := [(0, .iload_n 1, 1, 1, []), (1, .ifCond .lt 17, 3, 4, [18]), (4, .iload_n 1, 1, 5, []), (5, .aload_n 0, 1, 6, []), (6, .getfield 30, 3, 9, []), (9, .if_icmp .ge 9, 3, 12, [18]), (12, .iload_n 1, 1, 13, []), (13, .bipush 12, 2, 15, []), (15, .if_icmp .lt 5, 3, 18, [20]), (18, .iconst 0, 1, 19, []), (19, .ireturn, 1, 20, []), (20, .iconst 1, 1, 21, []), (21, .aload_n 0, 1, 22, []), (22, .getfield 11, 3, 25, []), (25, .iload_n 1, 1, 26, []), (26, .aaload, 1, 27, []), (27, .getfield 75, 3, 30, []), (30, .isub, 1, 31, []), (31, .istore_n 2, 1, 32, []), (32, .iload_n 1, 1, 33, []), (33, .iconst 1, 1, 34, []), (34, .isub, 1, 35, []), (35, .istore_n 3, 1, 36, []), (36, .iload_n 3, 1, 37, []), (37, .ifCond .lt 38, 3, 40, [75]), (40, .iload_n 2, 1, 41, []), (41, .iconst 1, 1, 42, []), (42, .aload_n 0, 1, 43, []), (43, .getfield 11, 3, 46, []), (46, .iload_n 3, 1, 47, []), (47, .aaload, 1, 48, []), (48, .getfield 75, 3, 51, []), (51, .isub, 1, 52, []), (52, .iadd, 1, 53, []), (53, .istore_n 2, 1, 54, []), (54, .aload_n 0, 1, 55, []), (55, .getfield 11, 3, 58, []), (58, .iload_n 3, 1, 59, []), (59, .aaload, 1, 60, []), (60, .getfield 68, 3, 63, []), (63, .ifCond .eq 6, 3, 66, [69]), (66, .goto 9, 3, 69, [75]), (69, .iinc 3 (-1), 3, 72, []), (72, .goto (-36), 3, 75, [36]), (75, .iload_n 1, 1, 76, []), (76, .iconst 1, 1, 77, []), (77, .iadd, 1, 78, []), (78, .istore_n 3, 1, 79, []), (79, .iload_n 3, 1, 80, []), (80, .aload_n 0, 1, 81, []), (81, .getfield 30, 3, 84, []), (84, .if_icmp .ge 44, 3, 87, [128]), (87, .iload_n 3, 1, 88, []), (88, .bipush 12, 2, 90, []), (90, .if_icmp .ge 38, 3, 93, [128]), (93, .iload_n 2, 1, 94, []), (94, .iconst 1, 1, 95, []), (95, .aload_n 0, 1, 96, []), (96, .getfield 11, 3, 99, []), (99, .iload_n 3, 1, 100, []), (100, .aaload, 1, 101, []), (101, .getfield 75, 3, 104, []), (104, .isub, 1, 105, []), (105, .iadd, 1, 106, []), (106, .istore_n 2, 1, 107, []), (107, .aload_n 0, 1, 108, []), (108, .getfield 11, 3, 111, []), (111, .iload_n 3, 1, 112, []), (112, .aaload, 1, 113, []), (113, .getfield 68, 3, 116, []), (116, .ifCond .eq 6, 3, 119, [122]), (119, .goto 9, 3, 122, [128]), (122, .iinc 3 1, 3, 125, []), (125, .goto (-46), 3, 128, [79]), (128, .iload_n 2, 1, 129, []), (129, .ireturn, 1, 130, [])]
theorem t_X0_lacks_ok : t_X0_lacks.all (fun q => pz_wf cX0_lacks q) = true := by decide +kernel
def t_X0_parts : List pz_E := [(0, .aload_n 0, 1, 1, []), (1, .getfield 30, 3, 4, []), (4, .ifCond .ne 7, 3, 7, [11]), (7, .iconst 0, 1, 8, []), (8, .goto 12, 3, 11, [20]), (11, .iconst 1, 1, 12, []), (12, .aload_n 0, 1, 13, []), (13, .invokevirtual 78, 3, 16, []), (16, .invokestatic 82, 3, 19, []), (19, .iadd, 1, 20, []), (20, .ireturn, 1, 21, [])]
theorem t_X0_parts_ok : t_X0_parts.all (fun q => pz_wf cX0_parts q) = true := by decide +kernel
def t_X0_movedOnes : List pz_E := [(0, .iconst 0, 1, 1, []), (1, .istore_n 1, 1, 2, []), (2, .iconst 0, 1, 3, []), (3, .istore_n 2, 1, 4, []), (4, .iload_n 2, 1, 5, []), (5, .aload_n 0, 1, 6, []), (6, .getfield 30, 3, 9, []), (9, .if_icmp .ge 31, 3, 12, [40]), (12, .iload_n 1, 1, 13, []), (13, .aload_n 0, 1, 14, []), (14, .iload_n 2, 1, 15, []), (15, .invokevirtual 48, 3, 18, []), (18, .getfield 87, 3, 21, []), (21, .iconst (-1), 1, 22, []), (22, .if_icmp .eq 9, 3, 25, [31]), (25, .iconst 1, 1, 26, []), (26, .iload_n 2, 1, 27, []), (27, .ishl, 1, 28, []), (28, .goto 4, 3, 31, [32]), (31, .iconst 0, 1, 32, []), (32, .ior, 1, 33, []), (33, .istore_n 1, 1, 34, []), (34, .iinc 2 1, 3, 37, []), (37, .goto (-33), 3, 40, [4]), (40, .iload_n 1, 1, 41, []), (41, .ireturn, 1, 42, [])]
theorem t_X0_movedOnes_ok : t_X0_movedOnes.all (fun q => pz_wf cX0_movedOnes q) = true := by decide +kernel
def t_X0_bridgedOnes : List pz_E := [(0, .iconst 0, 1, 1, []), (1, .istore_n 1, 1, 2, []), (2, .iconst 0, 1, 3, []), (3, .istore_n 2, 1, 4, []), (4, .iload_n 2, 1, 5, []), (5, .aload_n 0, 1, 6, []), (6, .getfield 30, 3, 9, []), (9, .if_icmp .ge 30, 3, 12, [39]), (12, .iload_n 1, 1, 13, []), (13, .aload_n 0, 1, 14, []), (14, .iload_n 2, 1, 15, []), (15, .invokevirtual 48, 3, 18, []), (18, .getfield 68, 3, 21, []), (21, .ifCond .eq 9, 3, 24, [30]), (24, .iconst 1, 1, 25, []), (25, .iload_n 2, 1, 26, []), (26, .ishl, 1, 27, []), (27, .goto 4, 3, 30, [31]), (30, .iconst 0, 1, 31, []), (31, .ior, 1, 32, []), (32, .istore_n 1, 1, 33, []), (33, .iinc 2 1, 3, 36, []), (36, .goto (-32), 3, 39, [4]), (39, .iload_n 1, 1, 40, []), (40, .ireturn, 1, 41, [])]
theorem t_X0_bridgedOnes_ok : t_X0_bridgedOnes.all (fun q => pz_wf cX0_bridgedOnes q) = true := by decide +kernel
def t_X0_bridgeableOnes : List pz_E := [(0, .iconst 0, 1, 1, []), (1, .istore_n 1, 1, 2, []), (2, .iconst 0, 1, 3, []), (3, .istore_n 2, 1, 4, []), (4, .iload_n 2, 1, 5, []), (5, .aload_n 0, 1, 6, []), (6, .getfield 30, 3, 9, []), (9, .if_icmp .ge 27, 3, 12, [36]), (12, .iload_n 1, 1, 13, []), (13, .aload_n 0, 1, 14, []), (14, .iload_n 2, 1, 15, []), (15, .invokevirtual 90, 3, 18, []), (18, .ifCond .eq 9, 3, 21, [27]), (21, .iconst 1, 1, 22, []), (22, .iload_n 2, 1, 23, []), (23, .ishl, 1, 24, []), (24, .goto 4, 3, 27, [28]), (27, .iconst 0, 1, 28, []), (28, .ior, 1, 29, []), (29, .istore_n 1, 1, 30, []), (30, .iinc 2 1, 3, 33, []), (33, .goto (-29), 3, 36, [4]), (36, .iload_n 1, 1, 37, []), (37, .ireturn, 1, 38, [])]
theorem t_X0_bridgeableOnes_ok : t_X0_bridgeableOnes.all (fun q => pz_wf cX0_bridgeableOnes q) = true := by decide +kernel
def t_X0_latestMove : List pz_E := [(0, .iconst (-1), 1, 1, []), (1, .istore_n 1, 1, 2, []), (2, .iconst 0, 1, 3, []), (3, .istore_n 2, 1, 4, []), (4, .iload_n 2, 1, 5, []), (5, .aload_n 0, 1, 6, []), (6, .getfield 30, 3, 9, []), (9, .if_icmp .ge 36, 3, 12, [45]), (12, .aload_n 0, 1, 13, []), (13, .iload_n 2, 1, 14, []), (14, .invokevirtual 48, 3, 17, []), (17, .getfield 87, 3, 20, []), (20, .iconst (-1), 1, 21, []), (21, .if_icmp .ne 5, 3, 24, [26]), (24, .iconst (-1), 1, 25, []), (25, .ireturn, 1, 26, []), (26, .iload_n 1, 1, 27, []), (27, .aload_n 0, 1, 28, []), (28, .iload_n 2, 1, 29, []), (29, .invokevirtual 48, 3, 32, []), (32, .getfield 87, 3, 35, []), (35, .invokestatic 58, 3, 38, []), (38, .istore_n 1, 1, 39, []), (39, .iinc 2 1, 3, 42, []), (42, .goto (-38), 3, 45, [4]), (45, .iload_n 1, 1, 46, []), (46, .ireturn, 1, 47, [])]
theorem t_X0_latestMove_ok : t_X0_latestMove.all (fun q => pz_wf cX0_latestMove q) = true := by decide +kernel
def t_X0_canGive : List pz_E := [(0, .aload_n 0, 1, 1, []), (1, .iload_n 1, 1, 2, []), (2, .invokevirtual 48, 3, 5, []), (5, .invokevirtual 71, 3, 8, []), (8, .ifCond .eq 18, 3, 11, [26]), (11, .iconst 0, 1, 12, []), (12, .aload_n 0, 1, 13, []), (13, .iload_n 1, 1, 14, []), (14, .invokevirtual 48, 3, 17, []), (17, .getfield 94, 3, 20, []), (20, .invokestatic 58, 3, 23, []), (23, .goto 4, 3, 26, [27]), (26, .iconst 0, 1, 27, []), (27, .ireturn, 1, 28, [])]
theorem t_X0_canGive_ok : t_X0_canGive.all (fun q => pz_wf cX0_canGive q) = true := by decide +kernel
def t_X0_givenTo : List pz_E := [(0, .iconst 0, 1, 1, []), (1, .istore_n 2, 1, 2, []), (2, .iconst 0, 1, 3, []), (3, .istore_n 3, 1, 4, []), (4, .iload_n 3, 1, 5, []), (5, .aload_n 0, 1, 6, []), (6, .getfield 30, 3, 9, []), (9, .if_icmp .ge 21, 3, 12, [30]), (12, .iload_n 2, 1, 13, []), (13, .iload_n 1, 1, 14, []), (14, .aload_n 0, 1, 15, []), (15, .iload_n 3, 1, 16, []), (16, .invokevirtual 97, 3, 19, []), (19, .invokestatic 100, 3, 22, []), (22, .iadd, 1, 23, []), (23, .istore_n 2, 1, 24, []), (24, .iinc 3 1, 3, 27, []), (27, .goto (-23), 3, 30, [4]), (30, .iload_n 2, 1, 31, []), (31, .ireturn, 1, 32, [])]
theorem t_X0_givenTo_ok : t_X0_givenTo.all (fun q => pz_wf cX0_givenTo q) = true := by decide +kernel
def t_X0_named : List pz_E := [(0, .iload_n 1, 1, 1, []), (1, .tableswitch 114 8 16 #[51, 53, 62, 71, 80, 89, 94, 99, 108], 51, 52, [115, 52, 54, 63, 72, 81, 90, 95, 100, 109]), (52, .iload_n 2, 1, 53, []), (53, .ireturn, 1, 54, []), (54, .aload_n 0, 1, 55, []), (55, .iload_n 2, 1, 56, []), (56, .invokevirtual 48, 3, 59, []), (59, .getfield 55, 3, 62, []), (62, .ireturn, 1, 63, []), (63, .aload_n 0, 1, 64, []), (64, .iload_n 2, 1, 65, []), (65, .invokevirtual 48, 3, 68, []), (68, .getfield 52, 3, 71, []), (71, .ireturn, 1, 72, []), (72, .aload_n 0, 1, 73, []), (73, .iload_n 2, 1, 74, []), (74, .invokevirtual 48, 3, 77, []), (77, .getfield 94, 3, 80, []), (80, .ireturn, 1, 81, []), (81, .aload_n 0, 1, 82, []), (82, .iload_n 2, 1, 83, []), (83, .invokevirtual 48, 3, 86, []), (86, .getfield 103, 3, 89, []), (89, .ireturn, 1, 90, []), (90, .aload_n 0, 1, 91, []), (91, .getfield 34, 3, 94, []), (94, .ireturn, 1, 95, []), (95, .aload_n 0, 1, 96, []), (96, .getfield 30, 3, 99, []), (99, .ireturn, 1, 100, []), (100, .aload_n 0, 1, 101, []), (101, .iload_n 2, 1, 102, []), (102, .invokevirtual 48, 3, 105, []), (105, .getfield 68, 3, 108, []), (108, .ireturn, 1, 109, []), (109, .aload_n 0, 1, 110, []), (110, .iload_n 2, 1, 111, []), (111, .invokevirtual 106, 3, 114, []), (114, .ireturn, 1, 115, []), (115, .iconst 0, 1, 116, []), (116, .ireturn, 1, 117, [])]
theorem t_X0_named_ok : t_X0_named.all (fun q => pz_wf cX0_named q) = true := by decide +kernel
def t_X1_write : List pz_E := [(0, .aload_n 1, 1, 1, []), (1, .getfield 19, 3, 4, []), (4, .iconst 4, 1, 5, []), (5, .imul, 1, 6, []), (6, .istore 5, 2, 8, []), (8, .aload_n 1, 1, 9, []), (9, .getfield 25, 3, 12, []), (12, .ifCond .ne 20, 3, 15, [32]), (15, .iload 5, 2, 17, []), (17, .ifCond .lt 15, 3, 20, [32]), (20, .iload 5, 2, 22, []), (22, .iconst 4, 1, 23, []), (23, .iadd, 1, 24, []), (24, .aload_n 0, 1, 25, []), (25, .getfield 15, 3, 28, []), (28, .arraylength, 1, 29, []), (29, .if_icmp .le 4, 3, 32, [33]), (32, .return_, 1, 33, []), (33, .aload_n 0, 1, 34, []), (34, .getfield 15, 3, 37, []), (37, .iload 5, 2, 39, []), (39, .aload_n 1, 1, 40, []), (40, .getfield 29, 3, 43, []), (43, .iastore, 1, 44, []), (44, .aload_n 0, 1, 45, []), (45, .getfield 15, 3, 48, []), (48, .iload 5, 2, 50, []), (50, .iconst 1, 1, 51, []), (51, .iadd, 1, 52, []), (52, .iload_n 2, 1, 53, []), (53, .iastore, 1, 54, []), (54, .aload_n 0, 1, 55, []), (55, .getfield 15, 3, 58, []), (58, .iload 5, 2, 60, []), (60, .iconst 2, 1, 61, []), (61, .iadd, 1, 62, []), (62, .iload_n 3, 1, 63, []), (63, .iastore, 1, 64, []), (64, .aload_n 0, 1, 65, []), (65, .getfield 15, 3, 68, []), (68, .iload 5, 2, 70, []), (70, .iconst 3, 1, 71, []), (71, .iadd, 1, 72, []), (72, .iload 4, 2, 74, []), (74, .iastore, 1, 75, []), (75, .aload_n 1, 1, 76, []), (76, .dup, 1, 77, []), (77, .getfield 19, 3, 80, []), (80, .iconst 1, 1, 81, []), (81, .iadd, 1, 82, []), (82, .putfield 19, 3, 85, []), (85, .return_, 1, 86, [])]
theorem t_X1_write_ok : t_X1_write.all (fun q => pz_wf cX1_write q) = true := by decide +kernel
def t_X1_canAsk : List pz_E := [(0, .iload_n 2, 1, 1, []), (1, .ifCond .lt 40, 3, 4, [41]), (4, .iload_n 2, 1, 5, []), (5, .aload_n 1, 1, 6, []), (6, .getfield 32, 3, 9, []), (9, .iconst 1, 1, 10, []), (10, .isub, 1, 11, []), (11, .if_icmp .ge 30, 3, 14, [41]), (14, .iload_n 3, 1, 15, []), (15, .iconst 1, 1, 16, []), (16, .bipush 99, 2, 18, []), (18, .invokestatic 35, 3, 21, []), (21, .ifCond .eq 20, 3, 24, [41]), (24, .aload_n 1, 1, 25, []), (25, .iload_n 2, 1, 26, []), (26, .iconst 1, 1, 27, []), (27, .iadd, 1, 28, []), (28, .invokevirtual 39, 3, 31, []), (31, .invokevirtual 43, 3, 34, []), (34, .ifCond .eq 7, 3, 37, [41]), (37, .iconst 1, 1, 38, []), (38, .goto 4, 3, 41, [42]), (41, .iconst 0, 1, 42, []), (42, .ireturn, 1, 43, [])]
theorem t_X1_canAsk_ok : t_X1_canAsk.all (fun q => pz_wf cX1_canAsk q) = true := by decide +kernel
def t_X1_askFor : List pz_E := [(0, .aload_n 1, 1, 1, []), (1, .iload_n 2, 1, 2, []), (2, .iconst 1, 1, 3, []), (3, .iadd, 1, 4, []), (4, .invokevirtual 39, 3, 7, []), (7, .astore 4, 2, 9, []), (9, .iload_n 3, 1, 10, []), (10, .aload 4, 2, 12, []), (12, .getfield 49, 3, 15, []), (15, .iconst 1, 1, 16, []), (16, .isub, 1, 17, []), (17, .invokestatic 52, 3, 20, []), (20, .aload_n 0, 1, 21, []), (21, .getfield 9, 3, 24, []), (24, .getfield 58, 3, 27, []), (27, .iconst 2, 1, 28, []), (28, .aload_n 1, 1, 29, []), (29, .iload_n 2, 1, 30, []), (30, .iconst 1, 1, 31, []), (31, .iadd, 1, 32, []), (32, .invokevirtual 64, 3, 35, []), (35, .invokestatic 52, 3, 38, []), (38, .istore 5, 2, 40, []), (40, .aload 4, 2, 42, []), (42, .dup, 1, 43, []), (43, .getfield 49, 3, 46, []), (46, .iload 5, 2, 48, []), (48, .isub, 1, 49, []), (49, .putfield 49, 3, 52, []), (52, .aload 4, 2, 54, []), (54, .sipush (-999), 3, 57, []), (57, .aload 4, 2, 59, []), (59, .getfield 70, 3, 62, []), (62, .iload 5, 2, 64, []), (64, .isub, 1, 65, []), (65, .invokestatic 73, 3, 68, []), (68, .putfield 70, 3, 71, []), (71, .aload_n 0, 1, 72, []), (72, .aload_n 1, 1, 73, []), (73, .iconst 0, 1, 74, []), (74, .iload_n 2, 1, 75, []), (75, .iconst 1, 1, 76, []), (76, .iadd, 1, 77, []), (77, .iload 5, 2, 79, []), (79, .invokevirtual 76, 3, 82, []), (82, .iload 5, 2, 84, []), (84, .ireturn, 1, 85, [])]
theorem t_X1_askFor_ok : t_X1_askFor.all (fun q => pz_wf cX1_askFor q) = true := by decide +kernel
def t_X1_putBridge : List pz_E := [(0, .aload_n 1, 1, 1, []), (1, .iload_n 2, 1, 2, []), (2, .invokevirtual 39, 3, 5, []), (5, .iconst 1, 1, 6, []), (6, .putfield 80, 3, 9, []), (9, .aload_n 0, 1, 10, []), (10, .aload_n 1, 1, 11, []), (11, .iconst 1, 1, 12, []), (12, .iload_n 2, 1, 13, []), (13, .iconst 0, 1, 14, []), (14, .invokevirtual 76, 3, 17, []), (17, .return_, 1, 18, [])]
theorem t_X1_putBridge_ok : t_X1_putBridge.all (fun q => pz_wf cX1_putBridge q) = true := by decide +kernel
def t_X1_canHandOver : List pz_E := [(0, .aload_n 1, 1, 1, []), (1, .iload_n 2, 1, 2, []), (2, .invokevirtual 83, 3, 5, []), (5, .ifCond .eq 65, 3, 8, [70]), (8, .aload_n 1, 1, 9, []), (9, .iload_n 3, 1, 10, []), (10, .invokevirtual 83, 3, 13, []), (13, .ifCond .eq 57, 3, 16, [70]), (16, .iload_n 2, 1, 17, []), (17, .iload_n 3, 1, 18, []), (18, .if_icmp .eq 52, 3, 21, [70]), (21, .iload 4, 2, 23, []), (23, .iconst 1, 1, 24, []), (24, .bipush 99, 2, 26, []), (26, .invokestatic 35, 3, 29, []), (29, .ifCond .eq 41, 3, 32, [70]), (32, .aload_n 1, 1, 33, []), (33, .iload_n 2, 1, 34, []), (34, .invokevirtual 39, 3, 37, []), (37, .getfield 87, 3, 40, []), (40, .iload 4, 2, 42, []), (42, .isub, 1, 43, []), (43, .sipush (-9999), 3, 46, []), (46, .if_icmp .lt 24, 3, 49, [70]), (49, .aload_n 1, 1, 50, []), (50, .iload_n 3, 1, 51, []), (51, .invokevirtual 39, 3, 54, []), (54, .getfield 87, 3, 57, []), (57, .iload 4, 2, 59, []), (59, .iadd, 1, 60, []), (60, .sipush 9999, 3, 63, []), (63, .if_icmp .gt 7, 3, 66, [70]), (66, .iconst 1, 1, 67, []), (67, .goto 4, 3, 70, [71]), (70, .iconst 0, 1, 71, []), (71, .ireturn, 1, 72, [])]
theorem t_X1_canHandOver_ok : t_X1_canHandOver.all (fun q => pz_wf cX1_canHandOver q) = true := by decide +kernel
def t_X1_handOver : List pz_E := [(0, .aload_n 1, 1, 1, []), (1, .iload_n 2, 1, 2, []), (2, .invokevirtual 39, 3, 5, []), (5, .dup, 1, 6, []), (6, .getfield 87, 3, 9, []), (9, .iload 4, 2, 11, []), (11, .isub, 1, 12, []), (12, .putfield 87, 3, 15, []), (15, .aload_n 1, 1, 16, []), (16, .iload_n 3, 1, 17, []), (17, .invokevirtual 39, 3, 20, []), (20, .dup, 1, 21, []), (21, .getfield 87, 3, 24, []), (24, .iload 4, 2, 26, []), (26, .iadd, 1, 27, []), (27, .putfield 87, 3, 30, []), (30, .aload_n 0, 1, 31, []), (31, .aload_n 1, 1, 32, []), (32, .iconst 2, 1, 33, []), (33, .iload_n 2, 1, 34, []), (34, .iload 4, 2, 36, []), (36, .invokevirtual 76, 3, 39, []), (39, .return_, 1, 40, [])]
theorem t_X1_handOver_ok : t_X1_handOver.all (fun q => pz_wf cX1_handOver q) = true := by decide +kernel
def t_X1_canGetReady : List pz_E := [(0, .aload_n 1, 1, 1, []), (1, .iload_n 2, 1, 2, []), (2, .invokevirtual 83, 3, 5, []), (5, .ifCond .eq 29, 3, 8, [34]), (8, .aload_n 1, 1, 9, []), (9, .iload_n 2, 1, 10, []), (10, .invokevirtual 39, 3, 13, []), (13, .getfield 90, 3, 16, []), (16, .ifCond .ne 18, 3, 19, [34]), (19, .aload_n 1, 1, 20, []), (20, .iload_n 2, 1, 21, []), (21, .invokevirtual 39, 3, 24, []), (24, .invokevirtual 43, 3, 27, []), (27, .ifCond .eq 7, 3, 30, [34]), (30, .iconst 1, 1, 31, []), (31, .goto 4, 3, 34, [35]), (34, .iconst 0, 1, 35, []), (35, .ireturn, 1, 36, [])]
theorem t_X1_canGetReady_ok : t_X1_canGetReady.all (fun q => pz_wf cX1_canGetReady q) = true := by decide +kernel
def t_X1_getReady : List pz_E := [(0, .aload_n 1, 1, 1, []), (1, .iload_n 2, 1, 2, []), (2, .invokevirtual 39, 3, 5, []), (5, .iconst 1, 1, 6, []), (6, .putfield 90, 3, 9, []), (9, .aload_n 0, 1, 10, []), (10, .aload_n 1, 1, 11, []), (11, .iconst 3, 1, 12, []), (12, .iload_n 2, 1, 13, []), (13, .iconst 0, 1, 14, []), (14, .invokevirtual 76, 3, 17, []), (17, .return_, 1, 18, [])]
theorem t_X1_getReady_ok : t_X1_getReady.all (fun q => pz_wf cX1_getReady q) = true := by decide +kernel
def t_X1_comeIn : List pz_E := [(0, .aload_n 1, 1, 1, []), (1, .iload_n 2, 1, 2, []), (2, .invokevirtual 39, 3, 5, []), (5, .iconst 0, 1, 6, []), (6, .putfield 93, 3, 9, []), (9, .aload_n 1, 1, 10, []), (10, .iload_n 2, 1, 11, []), (11, .invokevirtual 39, 3, 14, []), (14, .iconst 0, 1, 15, []), (15, .putfield 90, 3, 18, []), (18, .aload_n 0, 1, 19, []), (19, .aload_n 1, 1, 20, []), (20, .bipush 6, 2, 22, []), (22, .iload_n 2, 1, 23, []), (23, .iconst 0, 1, 24, []), (24, .invokevirtual 76, 3, 27, []), (27, .return_, 1, 28, [])]
theorem t_X1_comeIn_ok : t_X1_comeIn.all (fun q => pz_wf cX1_comeIn q) = true := by decide +kernel
def t_X1_oneDay : List pz_E := [(0, .iconst 0, 1, 1, []), (1, .istore_n 2, 1, 2, []), (2, .iload_n 2, 1, 3, []), (3, .aload_n 0, 1, 4, []), (4, .getfield 9, 3, 7, []), (7, .getfield 96, 3, 10, []), (10, .getfield 100, 3, 13, []), (13, .if_icmp .ge 34, 3, 16, [47]), (16, .aload_n 0, 1, 17, []), (17, .getfield 9, 3, 20, []), (20, .getfield 96, 3, 23, []), (23, .iload_n 2, 1, 24, []), (24, .iconst 0, 1, 25, []), (25, .invokevirtual 103, 3, 28, []), (28, .aload_n 1, 1, 29, []), (29, .getfield 29, 3, 32, []), (32, .if_icmp .ne 9, 3, 35, [41]), (35, .aload_n 0, 1, 36, []), (36, .aload_n 1, 1, 37, []), (37, .iload_n 2, 1, 38, []), (38, .invokevirtual 106, 3, 41, []), (41, .iinc 2 1, 3, 44, []), (44, .goto (-42), 3, 47, [2]), (47, .iconst 0, 1, 48, []), (48, .istore_n 2, 1, 49, []), (49, .iload_n 2, 1, 50, []), (50, .aload_n 1, 1, 51, []), (51, .getfield 32, 3, 54, []), (54, .if_icmp .ge 44, 3, 57, [98]), (57, .aload_n 0, 1, 58, []), (58, .aload_n 1, 1, 59, []), (59, .iload_n 2, 1, 60, []), (60, .invokevirtual 110, 3, 63, []), (63, .ifCond .eq 29, 3, 66, [92]), (66, .aload_n 1, 1, 67, []), (67, .aload_n 0, 1, 68, []), (68, .getfield 9, 3, 71, []), (71, .getfield 58, 3, 74, []), (74, .iconst 0, 1, 75, []), (75, .aload_n 1, 1, 76, []), (76, .iload_n 2, 1, 77, []), (77, .invokevirtual 64, 3, 80, []), (80, .invokevirtual 114, 3, 83, []), (83, .ifCond .eq 9, 3, 86, [92]), (86, .aload_n 0, 1, 87, []), (87, .aload_n 1, 1, 88, []), (88, .iload_n 2, 1, 89, []), (89, .invokevirtual 117, 3, 92, []), (92, .iinc 2 1, 3, 95, []), (95, .goto (-46), 3, 98, [49]), (98, .iconst 0, 1, 99, []), (99, .istore_n 2, 1, 100, []), (100, .iload_n 2, 1, 101, []), (101, .aload_n 1, 1, 102, []), (102, .getfield 32, 3, 105, []), (105, .if_icmp .ge 26, 3, 108, [131]), (108, .aload_n 1, 1, 109, []), (109, .iload_n 2, 1, 110, []), (110, .invokevirtual 39, 3, 113, []), (113, .invokevirtual 43, 3, 116, []), (116, .ifCond .eq 9, 3, 119, [125]), (119, .aload_n 0, 1, 120, []), (120, .aload_n 1, 1, 121, []), (121, .iload_n 2, 1, 122, []), (122, .invokevirtual 120, 3, 125, []), (125, .iinc 2 1, 3, 128, []), (128, .goto (-28), 3, 131, [100]), (131, .aload_n 0, 1, 132, []), (132, .aload_n 1, 1, 133, []), (133, .invokevirtual 123, 3, 136, []), (136, .istore_n 2, 1, 137, []), (137, .aload_n 0, 1, 138, []), (138, .aload_n 1, 1, 139, []), (139, .invokevirtual 127, 3, 142, []), (142, .aload_n 1, 1, 143, []), (143, .dup, 1, 144, []), (144, .getfield 29, 3, 147, []), (147, .iconst 1, 1, 148, []), (148, .iadd, 1, 149, []), (149, .putfield 29, 3, 152, []), (152, .iload_n 2, 1, 153, []), (153, .ireturn, 1, 154, [])]
theorem t_X1_oneDay_ok : t_X1_oneDay.all (fun q => pz_wf cX1_oneDay q) = true := by decide +kernel
def t_X1_doPlanned : List pz_E := [(0, .aload_n 0, 1, 1, []), (1, .getfield 9, 3, 4, []), (4, .getfield 96, 3, 7, []), (7, .iload_n 2, 1, 8, []), (8, .iconst 2, 1, 9, []), (9, .invokevirtual 103, 3, 12, []), (12, .istore_n 3, 1, 13, []), (13, .aload_n 0, 1, 14, []), (14, .getfield 9, 3, 17, []), (17, .getfield 96, 3, 20, []), (20, .iload_n 2, 1, 21, []), (21, .iconst 3, 1, 22, []), (22, .invokevirtual 103, 3, 25, []), (25, .istore 4, 2, 27, []), (27, .aload_n 0, 1, 28, []), (28, .getfield 9, 3, 31, []), (31, .getfield 96, 3, 34, []), (34, .iload_n 2, 1, 35, []), (35, .iconst 4, 1, 36, []), (36, .invokevirtual 103, 3, 39, []), (39, .istore 5, 2, 41, []), (41, .aload_n 0, 1, 42, []), (42, .getfield 9, 3, 45, []), (45, .getfield 96, 3, 48, []), (48, .iload_n 2, 1, 49, []), (49, .iconst 1, 1, 50, []), (50, .invokevirtual 103, 3, 53, []), (53, .tableswitch 93 18 20 #[27, 50, 67], 27, 80, [146, 80, 103, 120]), (80, .aload_n 0, 1, 81, []), (81, .aload_n 1, 1, 82, []), (82, .iload_n 3, 1, 83, []), (83, .iload 5, 2, 85, []), (85, .invokevirtual 131, 3, 88, []), (88, .ifCond .eq 73, 3, 91, [161]), (91, .aload_n 0, 1, 92, []), (92, .aload_n 1, 1, 93, []), (93, .iload_n 3, 1, 94, []), (94, .iload 5, 2, 96, []), (96, .invokevirtual 135, 3, 99, []), (99, .pop, 1, 100, []), (100, .goto 61, 3, 103, [161]), (103, .aload_n 1, 1, 104, []), (104, .iload_n 3, 1, 105, []), (105, .invokevirtual 139, 3, 108, []), (108, .ifCond .eq 53, 3, 111, [161]), (111, .aload_n 0, 1, 112, []), (112, .aload_n 1, 1, 113, []), (113, .iload_n 3, 1, 114, []), (114, .invokevirtual 142, 3, 117, []), (117, .goto 44, 3, 120, [161]), (120, .aload_n 0, 1, 121, []), (121, .aload_n 1, 1, 122, []), (122, .iload_n 3, 1, 123, []), (123, .iload 4, 2, 125, []), (125, .iload 5, 2, 127, []), (127, .invokevirtual 145, 3, 130, []), (130, .ifCond .eq 31, 3, 133, [161]), (133, .aload_n 0, 1, 134, []), (134, .aload_n 1, 1, 135, []), (135, .iload_n 3, 1, 136, []), (136, .iload 4, 2, 138, []), (138, .iload 5, 2, 140, []), (140, .invokevirtual 149, 3, 143, []), (143, .goto 18, 3, 146, [161]), (146, .aload_n 0, 1, 147, []), (147, .aload_n 1, 1, 148, []), (148, .iload_n 3, 1, 149, []), (149, .invokevirtual 110, 3, 152, []), (152, .ifCond .eq 9, 3, 155, [161]), (155, .aload_n 0, 1, 156, []), (156, .aload_n 1, 1, 157, []), (157, .iload_n 3, 1, 158, []), (158, .invokevirtual 117, 3, 161, []), (161, .return_, 1, 162, [])]
theorem t_X1_doPlanned_ok : t_X1_doPlanned.all (fun q => pz_wf cX1_doPlanned q) = true := by decide +kernel
def t_X1_mayLeave : List pz_E := [(0, .aload_n 0, 1, 1, []), (1, .getfield 9, 3, 4, []), (4, .getfield 58, 3, 7, []), (7, .iconst 1, 1, 8, []), (8, .aload_n 1, 1, 9, []), (9, .iload_n 2, 1, 10, []), (10, .invokevirtual 64, 3, 13, []), (13, .istore_n 3, 1, 14, []), (14, .iload_n 3, 1, 15, []), (15, .ifCond .eq 11, 3, 18, [26]), (18, .aload_n 1, 1, 19, []), (19, .iload_n 3, 1, 20, []), (20, .invokevirtual 114, 3, 23, []), (23, .ifCond .ne 4, 3, 26, [27]), (26, .return_, 1, 27, []), (27, .aload_n 1, 1, 28, []), (28, .iload_n 2, 1, 29, []), (29, .invokevirtual 39, 3, 32, []), (32, .iconst 1, 1, 33, []), (33, .putfield 93, 3, 36, []), (36, .aload_n 1, 1, 37, []), (37, .dup, 1, 38, []), (38, .getfield 152, 3, 41, []), (41, .iconst 1, 1, 42, []), (42, .iadd, 1, 43, []), (43, .putfield 152, 3, 46, []), (46, .aload_n 0, 1, 47, []), (47, .aload_n 1, 1, 48, []), (48, .iconst 4, 1, 49, []), (49, .iload_n 2, 1, 50, []), (50, .iconst 0, 1, 51, []), (51, .invokevirtual 76, 3, 54, []), (54, .iload_n 2, 1, 55, []), (55, .iconst 1, 1, 56, []), (56, .isub, 1, 57, []), (57, .istore 4, 2, 59, []), (59, .iload 4, 2, 61, []), (61, .iload_n 2, 1, 62, []), (62, .iconst 1, 1, 63, []), (63, .iadd, 1, 64, []), (64, .if_icmp .gt 32, 3, 67, [96]), (67, .aload_n 1, 1, 68, []), (68, .iload 4, 2, 70, []), (70, .invokevirtual 39, 3, 73, []), (73, .getfield 155, 3, 76, []), (76, .iconst (-1), 1, 77, []), (77, .if_icmp .ne 13, 3, 80, [90]), (80, .aload_n 1, 1, 81, []), (81, .iload 4, 2, 83, []), (83, .invokevirtual 39, 3, 86, []), (86, .iconst 0, 1, 87, []), (87, .putfield 90, 3, 90, []), (90, .iinc 4 1, 3, 93, []), (93, .goto (-34), 3, 96, [59]), (96, .return_, 1, 97, [])]
theorem t_X1_mayLeave_ok : t_X1_mayLeave.all (fun q => pz_wf cX1_mayLeave q) = true := by decide +kernel
def t_X1_moveParts : List pz_E := [(0, .iconst 0, 1, 1, []), (1, .istore_n 2, 1, 2, []), (2, .iconst 0, 1, 3, []), (3, .istore_n 3, 1, 4, []), (4, .aload_n 1, 1, 5, []), (5, .invokevirtual 158, 3, 8, []), (8, .istore 4, 2, 10, []), (10, .iload 4, 2, 12, []), (12, .ifCond .le 40, 3, 15, [52]), (15, .aload_n 1, 1, 16, []), (16, .iload_n 3, 1, 17, []), (17, .invokevirtual 162, 3, 20, []), (20, .istore 5, 2, 22, []), (22, .aload_n 1, 1, 23, []), (23, .iload_n 3, 1, 24, []), (24, .iload 5, 2, 26, []), (26, .invokestatic 166, 3, 29, []), (29, .ifCond .eq 14, 3, 32, [43]), (32, .iload_n 2, 1, 33, []), (33, .aload_n 0, 1, 34, []), (34, .aload_n 1, 1, 35, []), (35, .iload_n 3, 1, 36, []), (36, .iload 5, 2, 38, []), (38, .invokevirtual 169, 3, 41, []), (41, .iadd, 1, 42, []), (42, .istore_n 2, 1, 43, []), (43, .iload 5, 2, 45, []), (45, .istore_n 3, 1, 46, []), (46, .iinc 4 (-1), 3, 49, []), (49, .goto (-39), 3, 52, [10]), (52, .iload_n 2, 1, 53, []), (53, .ireturn, 1, 54, [])]
theorem t_X1_moveParts_ok : t_X1_moveParts.all (fun q => pz_wf cX1_moveParts q) = true := by decide +kernel
def t_X1_canMove : List pz_E := [(0, .iload_n 1, 1, 1, []), (1, .istore_n 3, 1, 2, []), (2, .iload_n 3, 1, 3, []), (3, .iload_n 2, 1, 4, []), (4, .if_icmp .gt 47, 3, 7, [51]), (7, .aload_n 0, 1, 8, []), (8, .iload_n 3, 1, 9, []), (9, .invokevirtual 39, 3, 12, []), (12, .astore 4, 2, 14, []), (14, .aload 4, 2, 16, []), (16, .getfield 90, 3, 19, []), (19, .ifCond .eq 24, 3, 22, [43]), (22, .aload 4, 2, 24, []), (24, .getfield 93, 3, 27, []), (27, .ifCond .ne 16, 3, 30, [43]), (30, .iload_n 3, 1, 31, []), (31, .iload_n 2, 1, 32, []), (32, .if_icmp .ge 13, 3, 35, [45]), (35, .aload_n 0, 1, 36, []), (36, .iload_n 3, 1, 37, []), (37, .invokevirtual 172, 3, 40, []), (40, .ifCond .ne 5, 3, 43, [45]), (43, .iconst 0, 1, 44, []), (44, .ireturn, 1, 45, []), (45, .iinc 3 1, 3, 48, []), (48, .goto (-46), 3, 51, [2]), (51, .iconst 1, 1, 52, []), (52, .ireturn, 1, 53, [])]
theorem t_X1_canMove_ok : t_X1_canMove.all (fun q => pz_wf cX1_canMove q) = true := by decide +kernel
def t_X1_movePart : List pz_E := [(0, .iconst 0, 1, 1, []), (1, .istore 4, 2, 3, []), (3, .iload_n 2, 1, 4, []), (4, .istore 5, 2, 6, []), (6, .iload 5, 2, 8, []), (8, .iload_n 3, 1, 9, []), (9, .if_icmp .gt 61, 3, 12, [70]), (12, .aload_n 1, 1, 13, []), (13, .iload 5, 2, 15, []), (15, .invokevirtual 39, 3, 18, []), (18, .astore 6, 2, 20, []), (20, .aload 6, 2, 22, []), (22, .getfield 155, 3, 25, []), (25, .iconst (-1), 1, 26, []), (26, .if_icmp .ne 38, 3, 29, [64]), (29, .iload 5, 2, 31, []), (31, .iload_n 3, 1, 32, []), (32, .if_icmp .lt 11, 3, 35, [43]), (35, .aload 6, 2, 37, []), (37, .getfield 80, 3, 40, []), (40, .ifCond .ne 24, 3, 43, [64]), (43, .aload 6, 2, 45, []), (45, .aload_n 1, 1, 46, []), (46, .getfield 29, 3, 49, []), (49, .putfield 155, 3, 52, []), (52, .aload_n 0, 1, 53, []), (53, .aload_n 1, 1, 54, []), (54, .iconst 5, 1, 55, []), (55, .iload 5, 2, 57, []), (57, .iconst 0, 1, 58, []), (58, .invokevirtual 76, 3, 61, []), (61, .iinc 4 1, 3, 64, []), (64, .iinc 5 1, 3, 67, []), (67, .goto (-61), 3, 70, [6]), (70, .iload 4, 2, 72, []), (72, .ireturn, 1, 73, [])]
theorem t_X1_movePart_ok : t_X1_movePart.all (fun q => pz_wf cX1_movePart q) = true := by decide +kernel
def t_X1_payForBridges : List pz_E := [(0, .iconst 0, 1, 1, []), (1, .istore_n 2, 1, 2, []), (2, .iload_n 2, 1, 3, []), (3, .aload_n 1, 1, 4, []), (4, .getfield 32, 3, 7, []), (7, .if_icmp .ge 57, 3, 10, [64]), (10, .aload_n 1, 1, 11, []), (11, .iload_n 2, 1, 12, []), (12, .invokevirtual 39, 3, 15, []), (15, .astore_n 3, 1, 16, []), (16, .aload_n 3, 1, 17, []), (17, .getfield 80, 3, 20, []), (20, .ifCond .eq 38, 3, 23, [58]), (23, .aload_n 3, 1, 24, []), (24, .invokevirtual 43, 3, 27, []), (27, .ifCond .eq 31, 3, 30, [58]), (30, .aload_n 3, 1, 31, []), (31, .sipush (-9999), 3, 34, []), (34, .aload_n 3, 1, 35, []), (35, .getfield 87, 3, 38, []), (38, .aload_n 0, 1, 39, []), (39, .getfield 9, 3, 42, []), (42, .getfield 58, 3, 45, []), (45, .iconst 3, 1, 46, []), (46, .aload_n 1, 1, 47, []), (47, .iload_n 2, 1, 48, []), (48, .invokevirtual 64, 3, 51, []), (51, .isub, 1, 52, []), (52, .invokestatic 73, 3, 55, []), (55, .putfield 87, 3, 58, []), (58, .iinc 2 1, 3, 61, []), (61, .goto (-59), 3, 64, [2]), (64, .return_, 1, 65, [])]
theorem t_X1_payForBridges_ok : t_X1_payForBridges.all (fun q => pz_wf cX1_payForBridges q) = true := by decide +kernel
def t_X2_forgetAll : List pz_E := [(0, .aload_n 0, 1, 1, []), (1, .iconst 0, 1, 2, []), (2, .putfield 20, 3, 5, []), (5, .return_, 1, 6, [])]
theorem t_X2_forgetAll_ok : t_X2_forgetAll.all (fun q => pz_wf cX2_forgetAll q) = true := by decide +kernel
def t_X2_keep : List pz_E := [(0, .aload_n 0, 1, 1, []), (1, .getfield 11, 3, 4, []), (4, .aload_n 0, 1, 5, []), (5, .getfield 24, 3, 8, []), (8, .aaload, 1, 9, []), (9, .aload_n 1, 1, 10, []), (10, .invokevirtual 27, 3, 13, []), (13, .aload_n 0, 1, 14, []), (14, .aload_n 0, 1, 15, []), (15, .getfield 24, 3, 18, []), (18, .iconst 1, 1, 19, []), (19, .iadd, 1, 20, []), (20, .bipush 6, 2, 22, []), (22, .irem, 1, 23, []), (23, .putfield 24, 3, 26, []), (26, .aload_n 0, 1, 27, []), (27, .aload_n 0, 1, 28, []), (28, .getfield 20, 3, 31, []), (31, .iconst 1, 1, 32, []), (32, .iadd, 1, 33, []), (33, .bipush 6, 2, 35, []), (35, .invokestatic 31, 3, 38, []), (38, .putfield 20, 3, 41, []), (41, .return_, 1, 42, [])]
theorem t_X2_keep_ok : t_X2_keep.all (fun q => pz_wf cX2_keep q) = true := by decide +kernel
def t_X2_goBack : List pz_E := [(0, .aload_n 0, 1, 1, []), (1, .getfield 20, 3, 4, []), (4, .ifCond .ne 5, 3, 7, [9]), (7, .iconst 0, 1, 8, []), (8, .ireturn, 1, 9, []), (9, .aload_n 0, 1, 10, []), (10, .dup, 1, 11, []), (11, .getfield 20, 3, 14, []), (14, .iconst 1, 1, 15, []), (15, .isub, 1, 16, []), (16, .putfield 20, 3, 19, []), (19, .aload_n 0, 1, 20, []), (20, .aload_n 0, 1, 21, []), (21, .getfield 24, 3, 24, []), (24, .bipush 6, 2, 26, []), (26, .iadd, 1, 27, []), (27, .iconst 1, 1, 28, []), (28, .isub, 1, 29, []), (29, .bipush 6, 2, 31, []), (31, .irem, 1, 32, []), (32, .putfield 24, 3, 35, []), (35, .aload_n 1, 1, 36, []), (36, .aload_n 0, 1, 37, []), (37, .getfield 11, 3, 40, []), (40, .aload_n 0, 1, 41, []), (41, .getfield 24, 3, 44, []), (44, .aaload, 1, 45, []), (45, .invokevirtual 27, 3, 48, []), (48, .iconst 1, 1, 49, []), (49, .ireturn, 1, 50, [])]
theorem t_X2_goBack_ok : t_X2_goBack.all (fun q => pz_wf cX2_goBack q) = true := by decide +kernel
def t_X3_clear : List pz_E := [(0, .aload_n 0, 1, 1, []), (1, .iconst 0, 1, 2, []), (2, .putfield 30, 3, 5, []), (5, .aload_n 0, 1, 6, []), (6, .iconst 0, 1, 7, []), (7, .putfield 34, 3, 10, []), (10, .return_, 1, 11, [])]
theorem t_X3_clear_ok : t_X3_clear.all (fun q => pz_wf cX3_clear q) = true := by decide +kernel
def t_X3_take : List pz_E := [(0, .aload_n 0, 1, 1, []), (1, .aload_n 1, 1, 2, []), (2, .getfield 30, 3, 5, []), (5, .putfield 30, 3, 8, []), (8, .aload_n 0, 1, 9, []), (9, .aload_n 1, 1, 10, []), (10, .getfield 34, 3, 13, []), (13, .putfield 34, 3, 16, []), (16, .aload_n 1, 1, 17, []), (17, .getfield 9, 3, 20, []), (20, .iconst 0, 1, 21, []), (21, .aload_n 0, 1, 22, []), (22, .getfield 9, 3, 25, []), (25, .iconst 0, 1, 26, []), (26, .bipush 16, 2, 28, []), (28, .invokestatic 37, 3, 31, []), (31, .aload_n 1, 1, 32, []), (32, .getfield 15, 3, 35, []), (35, .iconst 0, 1, 36, []), (36, .aload_n 0, 1, 37, []), (37, .getfield 15, 3, 40, []), (40, .iconst 0, 1, 41, []), (41, .bipush 16, 2, 43, []), (43, .invokestatic 37, 3, 46, []), (46, .aload_n 1, 1, 47, []), (47, .getfield 18, 3, 50, []), (50, .iconst 0, 1, 51, []), (51, .aload_n 0, 1, 52, []), (52, .getfield 18, 3, 55, []), (55, .iconst 0, 1, 56, []), (56, .bipush 16, 2, 58, []), (58, .invokestatic 37, 3, 61, []), (61, .aload_n 1, 1, 62, []), (62, .getfield 21, 3, 65, []), (65, .iconst 0, 1, 66, []), (66, .aload_n 0, 1, 67, []), (67, .getfield 21, 3, 70, []), (70, .iconst 0, 1, 71, []), (71, .bipush 16, 2, 73, []), (73, .invokestatic 37, 3, 76, []), (76, .aload_n 1, 1, 77, []), (77, .getfield 24, 3, 80, []), (80, .iconst 0, 1, 81, []), (81, .aload_n 0, 1, 82, []), (82, .getfield 24, 3, 85, []), (85, .iconst 0, 1, 86, []), (86, .sipush 400, 3, 89, []), (89, .invokestatic 37, 3, 92, []), (92, .return_, 1, 93, [])]
theorem t_X3_take_ok : t_X3_take.all (fun q => pz_wf cX3_take q) = true := by decide +kernel
def t_X3_put : List pz_E := [(0, .aload_n 0, 1, 1, []), (1, .getfield 34, 3, 4, []), (4, .sipush 400, 3, 7, []), (7, .if_icmp .ge 23, 3, 10, [30]), (10, .aload_n 0, 1, 11, []), (11, .getfield 24, 3, 14, []), (14, .aload_n 0, 1, 15, []), (15, .getfield 34, 3, 18, []), (18, .iload_n 1, 1, 19, []), (19, .iastore, 1, 20, []), (20, .aload_n 0, 1, 21, []), (21, .dup, 1, 22, []), (22, .getfield 34, 3, 25, []), (25, .iconst 1, 1, 26, []), (26, .iadd, 1, 27, []), (27, .putfield 34, 3, 30, []), (30, .return_, 1, 31, [])]
theorem t_X3_put_ok : t_X3_put.all (fun q => pz_wf cX3_put q) = true := by decide +kernel
def t_X3_addLine : List pz_E := [(0, .aload_n 0, 1, 1, []), (1, .getfield 30, 3, 4, []), (4, .bipush 16, 2, 6, []), (6, .if_icmp .ge 56, 3, 9, [62]), (9, .aload_n 0, 1, 10, []), (10, .getfield 9, 3, 13, []), (13, .aload_n 0, 1, 14, []), (14, .getfield 30, 3, 17, []), (17, .iload_n 1, 1, 18, []), (18, .iastore, 1, 19, []), (19, .aload_n 0, 1, 20, []), (20, .getfield 15, 3, 23, []), (23, .aload_n 0, 1, 24, []), (24, .getfield 30, 3, 27, []), (27, .iload_n 2, 1, 28, []), (28, .iastore, 1, 29, []), (29, .aload_n 0, 1, 30, []), (30, .getfield 18, 3, 33, []), (33, .aload_n 0, 1, 34, []), (34, .getfield 30, 3, 37, []), (37, .iload_n 3, 1, 38, []), (38, .iastore, 1, 39, []), (39, .aload_n 0, 1, 40, []), (40, .getfield 21, 3, 43, []), (43, .aload_n 0, 1, 44, []), (44, .getfield 30, 3, 47, []), (47, .aload_n 0, 1, 48, []), (48, .getfield 34, 3, 51, []), (51, .iastore, 1, 52, []), (52, .aload_n 0, 1, 53, []), (53, .dup, 1, 54, []), (54, .getfield 30, 3, 57, []), (57, .iconst 1, 1, 58, []), (58, .iadd, 1, 59, []), (59, .putfield 30, 3, 62, []), (62, .return_, 1, 63, [])]
theorem t_X3_addLine_ok : t_X3_addLine.all (fun q => pz_wf cX3_addLine q) = true := by decide +kernel
def t_X3_tells : List pz_E := [(0, .iconst 0, 1, 1, []), (1, .istore 4, 2, 3, []), (3, .iload 4, 2, 5, []), (5, .aload_n 0, 1, 6, []), (6, .getfield 30, 3, 9, []), (9, .if_icmp .ge 104, 3, 12, [113]), (12, .iload 4, 2, 14, []), (14, .bipush 16, 2, 16, []), (16, .if_icmp .ge 97, 3, 19, [113]), (19, .aload_n 0, 1, 20, []), (20, .getfield 18, 3, 23, []), (23, .iload 4, 2, 25, []), (25, .iaload, 1, 26, []), (26, .aload_n 0, 1, 27, []), (27, .getfield 21, 3, 30, []), (30, .iload 4, 2, 32, []), (32, .iaload, 1, 33, []), (33, .if_icmp .ne 7, 3, 36, [40]), (36, .iconst 1, 1, 37, []), (37, .goto 4, 3, 40, [41]), (40, .iconst 0, 1, 41, []), (41, .istore 5, 2, 43, []), (43, .aload_n 0, 1, 44, []), (44, .getfield 9, 3, 47, []), (47, .iload 4, 2, 49, []), (49, .iaload, 1, 50, []), (50, .iload_n 1, 1, 51, []), (51, .if_icmp .ne 56, 3, 54, [107]), (54, .iload 5, 2, 56, []), (56, .ifCond .ne 26, 3, 59, [82]), (59, .aload_n 0, 1, 60, []), (60, .aload_n 0, 1, 61, []), (61, .getfield 18, 3, 64, []), (64, .iload 4, 2, 66, []), (66, .iaload, 1, 67, []), (67, .aload_n 0, 1, 68, []), (68, .getfield 21, 3, 71, []), (71, .iload 4, 2, 73, []), (73, .iaload, 1, 74, []), (74, .aload_n 2, 1, 75, []), (75, .iload_n 3, 1, 76, []), (76, .invokevirtual 43, 3, 79, []), (79, .ifCond .eq 28, 3, 82, [107]), (82, .iload_n 1, 1, 83, []), (83, .aload_n 0, 1, 84, []), (84, .aload_n 0, 1, 85, []), (85, .getfield 15, 3, 88, []), (88, .iload 4, 2, 90, []), (90, .iaload, 1, 91, []), (91, .aload_n 0, 1, 92, []), (92, .getfield 18, 3, 95, []), (95, .iload 4, 2, 97, []), (97, .iaload, 1, 98, []), (98, .aload_n 2, 1, 99, []), (99, .iload_n 3, 1, 100, []), (100, .invokevirtual 43, 3, 103, []), (103, .invokestatic 47, 3, 106, []), (106, .ireturn, 1, 107, []), (107, .iinc 4 1, 3, 110, []), (110, .goto (-107), 3, 113, [3]), (113, .iload_n 1, 1, 114, []), (114, .iload_n 1, 1, 115, []), (115, .aload_n 2, 1, 116, []), (116, .iload_n 3, 1, 117, []), (117, .invokevirtual 51, 3, 120, []), (120, .invokestatic 57, 3, 123, []), (123, .invokestatic 47, 3, 126, []), (126, .ireturn, 1, 127, [])]
theorem t_X3_tells_ok : t_X3_tells.all (fun q => pz_wf cX3_tells q) = true := by decide +kernel
def t_X3_untold : List pz_E := [(0, .iload_n 0, 1, 1, []), (1, .tableswitch 54 0 3 #[31, 54, 43, 52], 31, 32, [55, 32, 55, 44, 53]), (32, .sipush 300, 3, 35, []), (35, .bipush 30, 2, 37, []), (37, .aload_n 1, 1, 38, []), (38, .getfield 61, 3, 41, []), (41, .imul, 1, 42, []), (42, .isub, 1, 43, []), (43, .ireturn, 1, 44, []), (44, .aload_n 1, 1, 45, []), (45, .getfield 66, 3, 48, []), (48, .iconst 4, 1, 49, []), (49, .invokestatic 69, 3, 52, []), (52, .ireturn, 1, 53, []), (53, .iconst 3, 1, 54, []), (54, .ireturn, 1, 55, []), (55, .iconst 0, 1, 56, []), (56, .ireturn, 1, 57, [])]
theorem t_X3_untold_ok : t_X3_untold.all (fun q => pz_wf cX3_untold q) = true := by decide +kernel
def t_X3_held : List pz_E := [(0, .iload_n 0, 1, 1, []), (1, .iconst 2, 1, 2, []), (2, .if_icmp .ne 9, 3, 5, [11]), (5, .sipush 999, 3, 8, []), (8, .goto 16, 3, 11, [24]), (11, .iload_n 0, 1, 12, []), (12, .iconst 3, 1, 13, []), (13, .if_icmp .ne 8, 3, 16, [21]), (16, .bipush 99, 2, 18, []), (18, .goto 6, 3, 21, [24]), (21, .sipush 1000, 3, 24, []), (24, .istore_n 2, 1, 25, []), (25, .iconst 0, 1, 26, []), (26, .iload_n 2, 1, 27, []), (27, .iload_n 1, 1, 28, []), (28, .invokestatic 74, 3, 31, []), (31, .invokestatic 77, 3, 34, []), (34, .ireturn, 1, 35, [])]
theorem t_X3_held_ok : t_X3_held.all (fun q => pz_wf cX3_held q) = true := by decide +kernel
def t_X3_worked : List pz_E := [(0, .iconst 0, 1, 1, []), (1, .istore 5, 2, 3, []), (3, .iload_n 1, 1, 4, []), (4, .istore 6, 2, 6, []), (6, .iload 6, 2, 8, []), (8, .iload_n 2, 1, 9, []), (9, .if_icmp .ge 173, 3, 12, [182]), (12, .iload 6, 2, 14, []), (14, .ifCond .lt 168, 3, 17, [182]), (17, .iload 6, 2, 19, []), (19, .aload_n 0, 1, 20, []), (20, .getfield 34, 3, 23, []), (23, .if_icmp .ge 159, 3, 26, [182]), (26, .aload_n 0, 1, 27, []), (27, .getfield 24, 3, 30, []), (30, .iload 6, 2, 32, []), (32, .iaload, 1, 33, []), (33, .iconst (-1), 1, 34, []), (34, .ixor, 1, 35, []), (35, .istore 7, 2, 37, []), (37, .iload 7, 2, 39, []), (39, .ifCond .lt 17, 3, 42, [56]), (42, .iload 7, 2, 44, []), (44, .bipush 8, 2, 46, []), (46, .if_icmp .lt 56, 3, 49, [102]), (49, .iload 7, 2, 51, []), (51, .bipush 16, 2, 53, []), (53, .if_icmp .gt 49, 3, 56, [102]), (56, .iload 5, 2, 58, []), (58, .aload_n 0, 1, 59, []), (59, .getfield 27, 3, 62, []), (62, .arraylength, 1, 63, []), (63, .if_icmp .ge 113, 3, 66, [176]), (66, .aload_n 0, 1, 67, []), (67, .getfield 27, 3, 70, []), (70, .iload 5, 2, 72, []), (72, .iload 7, 2, 74, []), (74, .ifCond .ge 13, 3, 77, [87]), (77, .aload_n 0, 1, 78, []), (78, .getfield 24, 3, 81, []), (81, .iload 6, 2, 83, []), (83, .iaload, 1, 84, []), (84, .goto 11, 3, 87, [95]), (87, .aload_n 3, 1, 88, []), (88, .iload 7, 2, 90, []), (90, .iload 4, 2, 92, []), (92, .invokevirtual 80, 3, 95, []), (95, .iastore, 1, 96, []), (96, .iinc 5 1, 3, 99, []), (99, .goto 77, 3, 102, [176]), (102, .iload 7, 2, 104, []), (104, .bipush 7, 2, 106, []), (106, .if_icmp .ne 31, 3, 109, [137]), (109, .iload 5, 2, 111, []), (111, .ifCond .le 65, 3, 114, [176]), (114, .aload_n 0, 1, 115, []), (115, .getfield 27, 3, 118, []), (118, .iload 5, 2, 120, []), (120, .iconst 1, 1, 121, []), (121, .isub, 1, 122, []), (122, .iconst 1, 1, 123, []), (123, .aload_n 0, 1, 124, []), (124, .getfield 27, 3, 127, []), (127, .iload 5, 2, 129, []), (129, .iconst 1, 1, 130, []), (130, .isub, 1, 131, []), (131, .iaload, 1, 132, []), (132, .isub, 1, 133, []), (133, .iastore, 1, 134, []), (134, .goto 42, 3, 137, [176]), (137, .iload 5, 2, 139, []), (139, .iconst 1, 1, 140, []), (140, .if_icmp .le 36, 3, 143, [176]), (143, .iinc 5 (-1), 3, 146, []), (146, .aload_n 0, 1, 147, []), (147, .getfield 27, 3, 150, []), (150, .iload 5, 2, 152, []), (152, .iconst 1, 1, 153, []), (153, .isub, 1, 154, []), (154, .iload 7, 2, 156, []), (156, .aload_n 0, 1, 157, []), (157, .getfield 27, 3, 160, []), (160, .iload 5, 2, 162, []), (162, .iconst 1, 1, 163, []), (163, .isub, 1, 164, []), (164, .iaload, 1, 165, []), (165, .aload_n 0, 1, 166, []), (166, .getfield 27, 3, 169, []), (169, .iload 5, 2, 171, []), (171, .iaload, 1, 172, []), (172, .invokestatic 83, 3, 175, []), (175, .iastore, 1, 176, []), (176, .iinc 6 1, 3, 179, []), (179, .goto (-173), 3, 182, [6]), (182, .iload 5, 2, 184, []), (184, .ifCond .le 15, 3, 187, [199]), (187, .aload_n 0, 1, 188, []), (188, .getfield 27, 3, 191, []), (191, .iload 5, 2, 193, []), (193, .iconst 1, 1, 194, []), (194, .isub, 1, 195, []), (195, .iaload, 1, 196, []), (196, .goto 4, 3, 199, [200]), (199, .iconst 0, 1, 200, []), (200, .ireturn, 1, 201, [])]
theorem t_X3_worked_ok : t_X3_worked.all (fun q => pz_wf cX3_worked q) = true := by decide +kernel
def t_X3_joined : List pz_E := [(0, .iload_n 0, 1, 1, []), (1, .lookupswitch 148 #[(5, 144), (6, 140), (42, 91), (43, 83), (45, 87), (47, 95), (60, 107), (61, 118), (62, 129)], 83, 84, [149, 145, 141, 92, 84, 88, 96, 108, 119, 130]), (84, .iload_n 1, 1, 85, []), (85, .iload_n 2, 1, 86, []), (86, .iadd, 1, 87, []), (87, .ireturn, 1, 88, []), (88, .iload_n 1, 1, 89, []), (89, .iload_n 2, 1, 90, []), (90, .isub, 1, 91, []), (91, .ireturn, 1, 92, []), (92, .iload_n 1, 1, 93, []), (93, .iload_n 2, 1, 94, []), (94, .imul, 1, 95, []), (95, .ireturn, 1, 96, []), (96, .iload_n 2, 1, 97, []), (97, .ifCond .ne 7, 3, 100, [104]), (100, .iconst 0, 1, 101, []), (101, .goto 6, 3, 104, [107]), (104, .iload_n 1, 1, 105, []), (105, .iload_n 2, 1, 106, []), (106, .idiv, 1, 107, []), (107, .ireturn, 1, 108, []), (108, .iload_n 1, 1, 109, []), (109, .iload_n 2, 1, 110, []), (110, .if_icmp .ge 7, 3, 113, [117]), (113, .iconst 1, 1, 114, []), (114, .goto 4, 3, 117, [118]), (117, .iconst 0, 1, 118, []), (118, .ireturn, 1, 119, []), (119, .iload_n 1, 1, 120, []), (120, .iload_n 2, 1, 121, []), (121, .if_icmp .ne 7, 3, 124, [128]), (124, .iconst 1, 1, 125, []), (125, .goto 4, 3, 128, [129]), (128, .iconst 0, 1, 129, []), (129, .ireturn, 1, 130, []), (130, .iload_n 1, 1, 131, []), (131, .iload_n 2, 1, 132, []), (132, .if_icmp .le 7, 3, 135, [139]), (135, .iconst 1, 1, 136, []), (136, .goto 4, 3, 139, [140]), (139, .iconst 0, 1, 140, []), (140, .ireturn, 1, 141, []), (141, .iload_n 1, 1, 142, []), (142, .iload_n 2, 1, 143, []), (143, .iand, 1, 144, []), (144, .ireturn, 1, 145, []), (145, .iload_n 1, 1, 146, []), (146, .iload_n 2, 1, 147, []), (147, .ior, 1, 148, []), (148, .ireturn, 1, 149, []), (149, .iconst 0, 1, 150, []), (150, .ireturn, 1, 151, [])]
theorem t_X3_joined_ok : t_X3_joined.all (fun q => pz_wf cX3_joined q) = true := by decide +kernel
def t_X4_leftNext : List pz_E := [(0, .iload_n 0, 1, 1, []), (1, .sipush 1000, 3, 4, []), (4, .iload_n 1, 1, 5, []), (5, .isub, 1, 6, []), (6, .imul, 1, 7, []), (7, .sipush 1000, 3, 10, []), (10, .idiv, 1, 11, []), (11, .ireturn, 1, 12, [])]
theorem t_X4_leftNext_ok : t_X4_leftNext.all (fun q => pz_wf cX4_leftNext q) = true := by decide +kernel
def t_X4_leftAfter : List pz_E := [(0, .ldc 28, 2, 2, []), (2, .istore_n 2, 1, 3, []), (3, .iconst 0, 1, 4, []), (4, .istore_n 3, 1, 5, []), (5, .iload_n 3, 1, 6, []), (6, .iload_n 1, 1, 7, []), (7, .if_icmp .ge 15, 3, 10, [22]), (10, .iload_n 2, 1, 11, []), (11, .iload_n 0, 1, 12, []), (12, .invokestatic 29, 3, 15, []), (15, .istore_n 2, 1, 16, []), (16, .iinc 3 1, 3, 19, []), (19, .goto (-14), 3, 22, [5]), (22, .iload_n 2, 1, 23, []), (23, .ireturn, 1, 24, [])]
theorem t_X4_leftAfter_ok : t_X4_leftAfter.all (fun q => pz_wf cX4_leftAfter q) = true := by decide +kernel
def t_X4_chance : List pz_E := [(0, .ldc 28, 2, 2, []), (2, .iload_n 0, 1, 3, []), (3, .iload_n 1, 1, 4, []), (4, .invokestatic 33, 3, 7, []), (7, .isub, 1, 8, []), (8, .ireturn, 1, 9, [])]
theorem t_X4_chance_ok : t_X4_chance.all (fun q => pz_wf cX4_chance q) = true := by decide +kernel
def t_X4_times : List pz_E := [(0, .iload_n 0, 1, 1, []), (1, .i2l, 1, 2, []), (2, .iload_n 1, 1, 3, []), (3, .i2l, 1, 4, []), (4, .lmul, 1, 5, []), (5, .ldc2_w 36, 3, 8, []), (8, .ldiv, 1, 9, []), (9, .l2i, 1, 10, []), (10, .ireturn, 1, 11, [])]
theorem t_X4_times_ok : t_X4_times.all (fun q => pz_wf cX4_times q) = true := by decide +kernel
def t_X4_reckon : List pz_E := [(0, .iconst 0, 1, 1, []), (1, .istore_n 3, 1, 2, []), (2, .iload_n 3, 1, 3, []), (3, .aload_n 1, 1, 4, []), (4, .getfield 38, 3, 7, []), (7, .if_icmp .ge 63, 3, 10, [70]), (10, .iload_n 3, 1, 11, []), (11, .bipush 12, 2, 13, []), (13, .if_icmp .ge 57, 3, 16, [70]), (16, .aload_n 0, 1, 17, []), (17, .getfield 15, 3, 20, []), (20, .iload_n 3, 1, 21, []), (21, .aload_n 0, 1, 22, []), (22, .getfield 24, 3, 25, []), (25, .iconst 0, 1, 26, []), (26, .aload_n 1, 1, 27, []), (27, .iload_n 3, 1, 28, []), (28, .invokevirtual 44, 3, 31, []), (31, .iastore, 1, 32, []), (32, .aload_n 0, 1, 33, []), (33, .getfield 18, 3, 36, []), (36, .iload_n 3, 1, 37, []), (37, .aload_n 0, 1, 38, []), (38, .getfield 24, 3, 41, []), (41, .iconst 3, 1, 42, []), (42, .aload_n 1, 1, 43, []), (43, .iload_n 3, 1, 44, []), (44, .invokevirtual 44, 3, 47, []), (47, .iastore, 1, 48, []), (48, .aload_n 0, 1, 49, []), (49, .getfield 9, 3, 52, []), (52, .iload_n 3, 1, 53, []), (53, .aload_n 0, 1, 54, []), (54, .getfield 15, 3, 57, []), (57, .iload_n 3, 1, 58, []), (58, .iaload, 1, 59, []), (59, .iload_n 2, 1, 60, []), (60, .invokestatic 33, 3, 63, []), (63, .iastore, 1, 64, []), (64, .iinc 3 1, 3, 67, []), (67, .goto (-65), 3, 70, [2]), (70, .return_, 1, 71, [])]
theorem t_X4_reckon_ok : t_X4_reckon.all (fun q => pz_wf cX4_reckon q) = true := by decide +kernel
def t_X4_oneDayMore : List pz_E := [(0, .iconst 0, 1, 1, []), (1, .istore_n 2, 1, 2, []), (2, .iload_n 2, 1, 3, []), (3, .aload_n 1, 1, 4, []), (4, .getfield 38, 3, 7, []), (7, .if_icmp .ge 36, 3, 10, [43]), (10, .iload_n 2, 1, 11, []), (11, .bipush 12, 2, 13, []), (13, .if_icmp .ge 30, 3, 16, [43]), (16, .aload_n 0, 1, 17, []), (17, .getfield 9, 3, 20, []), (20, .iload_n 2, 1, 21, []), (21, .aload_n 0, 1, 22, []), (22, .getfield 9, 3, 25, []), (25, .iload_n 2, 1, 26, []), (26, .iaload, 1, 27, []), (27, .aload_n 0, 1, 28, []), (28, .getfield 15, 3, 31, []), (31, .iload_n 2, 1, 32, []), (32, .iaload, 1, 33, []), (33, .invokestatic 29, 3, 36, []), (36, .iastore, 1, 37, []), (37, .iinc 2 1, 3, 40, []), (40, .goto (-38), 3, 43, [2]), (43, .return_, 1, 44, [])]
theorem t_X4_oneDayMore_ok : t_X4_oneDayMore.all (fun q => pz_wf cX4_oneDayMore q) = true := by decide +kernel
def t_X4_chanceOf : List pz_E := [(0, .iload_n 1, 1, 1, []), (1, .ifCond .lt 21, 3, 4, [22]), (4, .iload_n 1, 1, 5, []), (5, .bipush 12, 2, 7, []), (7, .if_icmp .ge 15, 3, 10, [22]), (10, .ldc 28, 2, 12, []), (12, .aload_n 0, 1, 13, []), (13, .getfield 9, 3, 16, []), (16, .iload_n 1, 1, 17, []), (17, .iaload, 1, 18, []), (18, .isub, 1, 19, []), (19, .goto 4, 3, 22, [23]), (22, .iconst 0, 1, 23, []), (23, .ireturn, 1, 24, [])]
theorem t_X4_chanceOf_ok : t_X4_chanceOf.all (fun q => pz_wf cX4_chanceOf q) = true := by decide +kernel
def t_X4_oddsWith : List pz_E := [(0, .aload_n 1, 1, 1, []), (1, .iload_n 3, 1, 2, []), (2, .invokevirtual 50, 3, 5, []), (5, .astore 4, 2, 7, []), (7, .aload 4, 2, 9, []), (9, .getfield 54, 3, 12, []), (12, .ifCond .eq 5, 3, 15, [17]), (15, .iconst 0, 1, 16, []), (16, .ireturn, 1, 17, []), (17, .aload 4, 2, 19, []), (19, .getfield 59, 3, 22, []), (22, .ifCond .eq 7, 3, 25, [29]), (25, .iload_n 2, 1, 26, []), (26, .goto 12, 3, 29, [38]), (29, .iload_n 2, 1, 30, []), (30, .aload_n 0, 1, 31, []), (31, .iload_n 3, 1, 32, []), (32, .invokevirtual 61, 3, 35, []), (35, .invokestatic 65, 3, 38, []), (38, .ireturn, 1, 39, [])]
theorem t_X4_oddsWith_ok : t_X4_oddsWith.all (fun q => pz_wf cX4_oddsWith q) = true := by decide +kernel
def t_X4_oddsOf : List pz_E := [(0, .ldc 28, 2, 2, []), (2, .istore 4, 2, 4, []), (4, .iload_n 2, 1, 5, []), (5, .istore 5, 2, 7, []), (7, .iload 5, 2, 9, []), (9, .iload_n 3, 1, 10, []), (10, .if_icmp .gt 20, 3, 13, [30]), (13, .aload_n 0, 1, 14, []), (14, .aload_n 1, 1, 15, []), (15, .iload 4, 2, 17, []), (17, .iload 5, 2, 19, []), (19, .invokevirtual 68, 3, 22, []), (22, .istore 4, 2, 24, []), (24, .iinc 5 1, 3, 27, []), (27, .goto (-20), 3, 30, [7]), (30, .iload 4, 2, 32, []), (32, .ireturn, 1, 33, [])]
theorem t_X4_oddsOf_ok : t_X4_oddsOf.all (fun q => pz_wf cX4_oddsOf q) = true := by decide +kernel
def t_X4_holder : List pz_E := [(0, .iconst (-1), 1, 1, []), (1, .istore_n 2, 1, 2, []), (2, .iconst 0, 1, 3, []), (3, .istore_n 3, 1, 4, []), (4, .iload_n 3, 1, 5, []), (5, .aload_n 1, 1, 6, []), (6, .getfield 38, 3, 9, []), (9, .if_icmp .ge 40, 3, 12, [49]), (12, .aload_n 1, 1, 13, []), (13, .iload_n 3, 1, 14, []), (14, .invokevirtual 50, 3, 17, []), (17, .getfield 59, 3, 20, []), (20, .ifCond .ne 23, 3, 23, [43]), (23, .iload_n 2, 1, 24, []), (24, .iconst (-1), 1, 25, []), (25, .if_icmp .eq 16, 3, 28, [41]), (28, .aload_n 0, 1, 29, []), (29, .iload_n 3, 1, 30, []), (30, .invokevirtual 61, 3, 33, []), (33, .aload_n 0, 1, 34, []), (34, .iload_n 2, 1, 35, []), (35, .invokevirtual 61, 3, 38, []), (38, .if_icmp .ge 5, 3, 41, [43]), (41, .iload_n 3, 1, 42, []), (42, .istore_n 2, 1, 43, []), (43, .iinc 3 1, 3, 46, []), (46, .goto (-42), 3, 49, [4]), (49, .iload_n 2, 1, 50, []), (50, .ireturn, 1, 51, [])]
theorem t_X4_holder_ok : t_X4_holder.all (fun q => pz_wf cX4_holder q) = true := by decide +kernel
def t_X4_oddsHurried : List pz_E := [(0, .aload_n 1, 1, 1, []), (1, .iload_n 2, 1, 2, []), (2, .invokevirtual 50, 3, 5, []), (5, .astore 4, 2, 7, []), (7, .iload_n 2, 1, 8, []), (8, .ifCond .lt 9, 3, 11, [17]), (11, .iload_n 2, 1, 12, []), (12, .bipush 12, 2, 14, []), (14, .if_icmp .lt 5, 3, 17, [19]), (17, .iconst 0, 1, 18, []), (18, .ireturn, 1, 19, []), (19, .aload 4, 2, 21, []), (21, .getfield 72, 3, 24, []), (24, .istore 5, 2, 26, []), (26, .aload_n 0, 1, 27, []), (27, .getfield 9, 3, 30, []), (30, .iload_n 2, 1, 31, []), (31, .iaload, 1, 32, []), (32, .istore 6, 2, 34, []), (34, .aload 4, 2, 36, []), (36, .iconst 0, 1, 37, []), (37, .putfield 72, 3, 40, []), (40, .aload_n 0, 1, 41, []), (41, .getfield 9, 3, 44, []), (44, .iload_n 2, 1, 45, []), (45, .aload_n 0, 1, 46, []), (46, .getfield 24, 3, 49, []), (49, .iconst 0, 1, 50, []), (50, .aload_n 1, 1, 51, []), (51, .iload_n 2, 1, 52, []), (52, .invokevirtual 44, 3, 55, []), (55, .iload_n 3, 1, 56, []), (56, .invokestatic 33, 3, 59, []), (59, .iastore, 1, 60, []), (60, .aload_n 0, 1, 61, []), (61, .aload_n 1, 1, 62, []), (62, .iconst 0, 1, 63, []), (63, .aload_n 1, 1, 64, []), (64, .getfield 38, 3, 67, []), (67, .iconst 1, 1, 68, []), (68, .isub, 1, 69, []), (69, .invokevirtual 75, 3, 72, []), (72, .istore 7, 2, 74, []), (74, .aload 4, 2, 76, []), (76, .iload 5, 2, 78, []), (78, .putfield 72, 3, 81, []), (81, .aload_n 0, 1, 82, []), (82, .getfield 9, 3, 85, []), (85, .iload_n 2, 1, 86, []), (86, .iload 6, 2, 88, []), (88, .iastore, 1, 89, []), (89, .iload 7, 2, 91, []), (91, .ireturn, 1, 92, [])]
theorem t_X4_oddsHurried_ok : t_X4_oddsHurried.all (fun q => pz_wf cX4_oddsHurried q) = true := by decide +kernel
def t_X4_reckonSpans : List pz_E := [(0, .iconst 0, 1, 1, []), (1, .istore_n 2, 1, 2, []), (2, .iload_n 2, 1, 3, []), (3, .aload_n 1, 1, 4, []), (4, .getfield 38, 3, 7, []), (7, .if_icmp .ge 66, 3, 10, [73]), (10, .ldc 28, 2, 12, []), (12, .istore_n 3, 1, 13, []), (13, .iload_n 2, 1, 14, []), (14, .istore 4, 2, 16, []), (16, .iload 4, 2, 18, []), (18, .aload_n 1, 1, 19, []), (19, .getfield 38, 3, 22, []), (22, .if_icmp .ge 45, 3, 25, [67]), (25, .aload_n 0, 1, 26, []), (26, .aload_n 1, 1, 27, []), (27, .iload_n 3, 1, 28, []), (28, .iload 4, 2, 30, []), (30, .invokevirtual 68, 3, 33, []), (33, .istore_n 3, 1, 34, []), (34, .iload_n 2, 1, 35, []), (35, .bipush 12, 2, 37, []), (37, .imul, 1, 38, []), (38, .iload 4, 2, 40, []), (40, .iadd, 1, 41, []), (41, .istore 5, 2, 43, []), (43, .iload 5, 2, 45, []), (45, .aload_n 0, 1, 46, []), (46, .getfield 21, 3, 49, []), (49, .arraylength, 1, 50, []), (50, .if_icmp .ge 11, 3, 53, [61]), (53, .aload_n 0, 1, 54, []), (54, .getfield 21, 3, 57, []), (57, .iload 5, 2, 59, []), (59, .iload_n 3, 1, 60, []), (60, .iastore, 1, 61, []), (61, .iinc 4 1, 3, 64, []), (64, .goto (-48), 3, 67, [16]), (67, .iinc 2 1, 3, 70, []), (70, .goto (-68), 3, 73, [2]), (73, .return_, 1, 74, [])]
theorem t_X4_reckonSpans_ok : t_X4_reckonSpans.all (fun q => pz_wf cX4_reckonSpans q) = true := by decide +kernel
def t_X4_leastOdds : List pz_E := [(0, .ldc 28, 2, 2, []), (2, .istore_n 3, 1, 3, []), (3, .iconst 0, 1, 4, []), (4, .istore 4, 2, 6, []), (6, .iconst 0, 1, 7, []), (7, .istore 5, 2, 9, []), (9, .iload 5, 2, 11, []), (11, .aload_n 1, 1, 12, []), (12, .getfield 38, 3, 15, []), (15, .if_icmp .ge 77, 3, 18, [92]), (18, .iload 4, 2, 20, []), (20, .bipush 12, 2, 22, []), (22, .imul, 1, 23, []), (23, .iload 5, 2, 25, []), (25, .iadd, 1, 26, []), (26, .istore 6, 2, 28, []), (28, .iload 5, 2, 30, []), (30, .aload_n 1, 1, 31, []), (31, .getfield 38, 3, 34, []), (34, .iconst 1, 1, 35, []), (35, .isub, 1, 36, []), (36, .if_icmp .eq 12, 3, 39, [48]), (39, .iload_n 2, 1, 40, []), (40, .iload 5, 2, 42, []), (42, .ishr, 1, 43, []), (43, .iconst 1, 1, 44, []), (44, .iand, 1, 45, []), (45, .ifCond .eq 7, 3, 48, [52]), (48, .iconst 1, 1, 49, []), (49, .goto 4, 3, 52, [53]), (52, .iconst 0, 1, 53, []), (53, .istore 7, 2, 55, []), (55, .iload 7, 2, 57, []), (57, .ifCond .eq 29, 3, 60, [86]), (60, .iload 6, 2, 62, []), (62, .aload_n 0, 1, 63, []), (63, .getfield 21, 3, 66, []), (66, .arraylength, 1, 67, []), (67, .if_icmp .ge 19, 3, 70, [86]), (70, .iload_n 3, 1, 71, []), (71, .aload_n 0, 1, 72, []), (72, .getfield 21, 3, 75, []), (75, .iload 6, 2, 77, []), (77, .iaload, 1, 78, []), (78, .invokestatic 78, 3, 81, []), (81, .istore_n 3, 1, 82, []), (82, .iload 5, 2, 84, []), (84, .istore 4, 2, 86, []), (86, .iinc 5 1, 3, 89, []), (89, .goto (-80), 3, 92, [9]), (92, .iload_n 3, 1, 93, []), (93, .ireturn, 1, 94, [])]
theorem t_X4_leastOdds_ok : t_X4_leastOdds.all (fun q => pz_wf cX4_leastOdds q) = true := by decide +kernel
def t_X4_cheapestBridges : List pz_E := [(0, .aload_n 1, 1, 1, []), (1, .invokevirtual 83, 3, 4, []), (4, .istore_n 3, 1, 5, []), (5, .aload_n 1, 1, 6, []), (6, .invokevirtual 87, 3, 9, []), (9, .istore 4, 2, 11, []), (11, .iconst (-1), 1, 12, []), (12, .istore 5, 2, 14, []), (14, .iconst 0, 1, 15, []), (15, .istore 6, 2, 17, []), (17, .aload_n 0, 1, 18, []), (18, .aload_n 1, 1, 19, []), (19, .invokevirtual 90, 3, 22, []), (22, .iconst 0, 1, 23, []), (23, .istore 7, 2, 25, []), (25, .iconst 1, 1, 26, []), (26, .iload_n 3, 1, 27, []), (27, .invokestatic 94, 3, 30, []), (30, .ishl, 1, 31, []), (31, .istore 8, 2, 33, []), (33, .iload 8, 2, 35, []), (35, .ifCond .le 93, 3, 38, [128]), (38, .aload_n 0, 1, 39, []), (39, .aload_n 1, 1, 40, []), (40, .iload 4, 2, 42, []), (42, .iload 7, 2, 44, []), (44, .ior, 1, 45, []), (45, .invokevirtual 99, 3, 48, []), (48, .iload_n 2, 1, 49, []), (49, .if_icmp .lt 65, 3, 52, [114]), (52, .aload_n 0, 1, 53, []), (53, .aload_n 1, 1, 54, []), (54, .iload 7, 2, 56, []), (56, .invokevirtual 103, 3, 59, []), (59, .istore 9, 2, 61, []), (61, .iload 7, 2, 63, []), (63, .invokestatic 94, 3, 66, []), (66, .iload 5, 2, 68, []), (68, .invokestatic 94, 3, 71, []), (71, .if_icmp .ge 7, 3, 74, [78]), (74, .iconst 1, 1, 75, []), (75, .goto 4, 3, 78, [79]), (78, .iconst 0, 1, 79, []), (79, .istore 10, 2, 81, []), (81, .iload 5, 2, 83, []), (83, .iconst (-1), 1, 84, []), (84, .if_icmp .eq 22, 3, 87, [106]), (87, .iload 9, 2, 89, []), (89, .iload 6, 2, 91, []), (91, .if_icmp .lt 15, 3, 94, [106]), (94, .iload 9, 2, 96, []), (96, .iload 6, 2, 98, []), (98, .if_icmp .ne 16, 3, 101, [114]), (101, .iload 10, 2, 103, []), (103, .ifCond .eq 11, 3, 106, [114]), (106, .iload 7, 2, 108, []), (108, .istore 5, 2, 110, []), (110, .iload 9, 2, 112, []), (112, .istore 6, 2, 114, []), (114, .iload 7, 2, 116, []), (116, .iload_n 3, 1, 117, []), (117, .isub, 1, 118, []), (118, .iload_n 3, 1, 119, []), (119, .iand, 1, 120, []), (120, .istore 7, 2, 122, []), (122, .iinc 8 (-1), 3, 125, []), (125, .goto (-92), 3, 128, [33]), (128, .iload 5, 2, 130, []), (130, .ireturn, 1, 131, [])]
theorem t_X4_cheapestBridges_ok : t_X4_cheapestBridges.all (fun q => pz_wf cX4_cheapestBridges q) = true := by decide +kernel
def t_X4_costOf : List pz_E := [(0, .iconst 0, 1, 1, []), (1, .istore_n 3, 1, 2, []), (2, .iconst 0, 1, 3, []), (3, .istore 4, 2, 5, []), (5, .iload 4, 2, 7, []), (7, .aload_n 1, 1, 8, []), (8, .getfield 38, 3, 11, []), (11, .if_icmp .ge 39, 3, 14, [50]), (14, .iload 4, 2, 16, []), (16, .bipush 12, 2, 18, []), (18, .if_icmp .ge 32, 3, 21, [50]), (21, .iload_n 3, 1, 22, []), (22, .iload_n 2, 1, 23, []), (23, .iload 4, 2, 25, []), (25, .ishr, 1, 26, []), (26, .iconst 1, 1, 27, []), (27, .iand, 1, 28, []), (28, .ifCond .eq 13, 3, 31, [41]), (31, .aload_n 0, 1, 32, []), (32, .getfield 18, 3, 35, []), (35, .iload 4, 2, 37, []), (37, .iaload, 1, 38, []), (38, .goto 4, 3, 41, [42]), (41, .iconst 0, 1, 42, []), (42, .iadd, 1, 43, []), (43, .istore_n 3, 1, 44, []), (44, .iinc 4 1, 3, 47, []), (47, .goto (-42), 3, 50, [5]), (50, .iload_n 3, 1, 51, []), (51, .ireturn, 1, 52, [])]
theorem t_X4_costOf_ok : t_X4_costOf.all (fun q => pz_wf cX4_costOf q) = true := by decide +kernel
def t_X5_makeNew : List pz_E := [(0, .aload_n 0, 1, 1, []), (1, .iload_n 1, 1, 2, []), (2, .putfield 15, 3, 5, []), (5, .aload_n 0, 1, 6, []), (6, .iload_n 2, 1, 7, []), (7, .putfield 18, 3, 10, []), (10, .aload_n 0, 1, 11, []), (11, .iload_n 3, 1, 12, []), (12, .putfield 21, 3, 15, []), (15, .aload_n 0, 1, 16, []), (16, .iload 4, 2, 18, []), (18, .putfield 24, 3, 21, []), (21, .aload_n 0, 1, 22, []), (22, .iconst 0, 1, 23, []), (23, .putfield 27, 3, 26, []), (26, .aload_n 0, 1, 27, []), (27, .iconst 0, 1, 28, []), (28, .putfield 30, 3, 31, []), (31, .aload_n 0, 1, 32, []), (32, .iconst 0, 1, 33, []), (33, .putfield 33, 3, 36, []), (36, .aload_n 0, 1, 37, []), (37, .iconst (-1), 1, 38, []), (38, .putfield 9, 3, 41, []), (41, .return_, 1, 42, [])]
theorem t_X5_makeNew_ok : t_X5_makeNew.all (fun q => pz_wf cX5_makeNew q) = true := by decide +kernel
def t_X5_take : List pz_E := [(0, .aload_n 0, 1, 1, []), (1, .aload_n 1, 1, 2, []), (2, .getfield 15, 3, 5, []), (5, .putfield 15, 3, 8, []), (8, .aload_n 0, 1, 9, []), (9, .aload_n 1, 1, 10, []), (10, .getfield 18, 3, 13, []), (13, .putfield 18, 3, 16, []), (16, .aload_n 0, 1, 17, []), (17, .aload_n 1, 1, 18, []), (18, .getfield 21, 3, 21, []), (21, .putfield 21, 3, 24, []), (24, .aload_n 0, 1, 25, []), (25, .aload_n 1, 1, 26, []), (26, .getfield 24, 3, 29, []), (29, .putfield 24, 3, 32, []), (32, .aload_n 0, 1, 33, []), (33, .aload_n 1, 1, 34, []), (34, .getfield 27, 3, 37, []), (37, .putfield 27, 3, 40, []), (40, .aload_n 0, 1, 41, []), (41, .aload_n 1, 1, 42, []), (42, .getfield 30, 3, 45, []), (45, .putfield 30, 3, 48, []), (48, .aload_n 0, 1, 49, []), (49, .aload_n 1, 1, 50, []), (50, .getfield 33, 3, 53, []), (53, .putfield 33, 3, 56, []), (56, .aload_n 0, 1, 57, []), (57, .aload_n 1, 1, 58, []), (58, .getfield 9, 3, 61, []), (61, .putfield 9, 3, 64, []), (64, .return_, 1, 65, [])]
theorem t_X5_take_ok : t_X5_take.all (fun q => pz_wf cX5_take q) = true := by decide +kernel
def t_X5_isIn : List pz_E := [(0, .aload_n 0, 1, 1, []), (1, .getfield 30, 3, 4, []), (4, .ifCond .ne 15, 3, 7, [19]), (7, .aload_n 0, 1, 8, []), (8, .getfield 9, 3, 11, []), (11, .iconst (-1), 1, 12, []), (12, .if_icmp .ne 7, 3, 15, [19]), (15, .iconst 1, 1, 16, []), (16, .goto 4, 3, 19, [20]), (19, .iconst 0, 1, 20, []), (20, .ireturn, 1, 21, [])]
theorem t_X5_isIn_ok : t_X5_isIn.all (fun q => pz_wf cX5_isIn q) = true := by decide +kernel
def t_X6_take : List pz_E := [(0, .aload_n 0, 1, 1, []), (1, .aload_n 1, 1, 2, []), (2, .getfield 15, 3, 5, []), (5, .putfield 15, 3, 8, []), (8, .aload_n 1, 1, 9, []), (9, .getfield 9, 3, 12, []), (12, .iconst 0, 1, 13, []), (13, .aload_n 0, 1, 14, []), (14, .getfield 9, 3, 17, []), (17, .iconst 0, 1, 18, []), (18, .aload_n 0, 1, 19, []), (19, .getfield 9, 3, 22, []), (22, .arraylength, 1, 23, []), (23, .invokestatic 19, 3, 26, []), (26, .return_, 1, 27, [])]
theorem t_X6_take_ok : t_X6_take.all (fun q => pz_wf cX6_take q) = true := by decide +kernel
def t_X6_add : List pz_E := [(0, .aload_n 0, 1, 1, []), (1, .getfield 15, 3, 4, []), (4, .bipush 16, 2, 6, []), (6, .if_icmp .ge 71, 3, 9, [77]), (9, .aload_n 0, 1, 10, []), (10, .getfield 15, 3, 13, []), (13, .iconst 5, 1, 14, []), (14, .imul, 1, 15, []), (15, .istore 6, 2, 17, []), (17, .aload_n 0, 1, 18, []), (18, .getfield 9, 3, 21, []), (21, .iload 6, 2, 23, []), (23, .iload_n 1, 1, 24, []), (24, .iastore, 1, 25, []), (25, .aload_n 0, 1, 26, []), (26, .getfield 9, 3, 29, []), (29, .iload 6, 2, 31, []), (31, .iconst 1, 1, 32, []), (32, .iadd, 1, 33, []), (33, .iload_n 2, 1, 34, []), (34, .iastore, 1, 35, []), (35, .aload_n 0, 1, 36, []), (36, .getfield 9, 3, 39, []), (39, .iload 6, 2, 41, []), (41, .iconst 2, 1, 42, []), (42, .iadd, 1, 43, []), (43, .iload_n 3, 1, 44, []), (44, .iastore, 1, 45, []), (45, .aload_n 0, 1, 46, []), (46, .getfield 9, 3, 49, []), (49, .iload 6, 2, 51, []), (51, .iconst 3, 1, 52, []), (52, .iadd, 1, 53, []), (53, .iload 4, 2, 55, []), (55, .iastore, 1, 56, []), (56, .aload_n 0, 1, 57, []), (57, .getfield 9, 3, 60, []), (60, .iload 6, 2, 62, []), (62, .iconst 4, 1, 63, []), (63, .iadd, 1, 64, []), (64, .iload 5, 2, 66, []), (66, .iastore, 1, 67, []), (67, .aload_n 0, 1, 68, []), (68, .dup, 1, 69, []), (69, .getfield 15, 3, 72, []), (72, .iconst 1, 1, 73, []), (73, .iadd, 1, 74, []), (74, .putfield 15, 3, 77, []), (77, .return_, 1, 78, [])]
theorem t_X6_add_ok : t_X6_add.all (fun q => pz_wf cX6_add q) = true := by decide +kernel
def t_X6_cell : List pz_E := [(0, .iload_n 1, 1, 1, []), (1, .ifCond .lt 33, 3, 4, [34]), (4, .iload_n 1, 1, 5, []), (5, .aload_n 0, 1, 6, []), (6, .getfield 15, 3, 9, []), (9, .if_icmp .ge 25, 3, 12, [34]), (12, .iload_n 2, 1, 13, []), (13, .ifCond .lt 21, 3, 16, [34]), (16, .iload_n 2, 1, 17, []), (17, .iconst 5, 1, 18, []), (18, .if_icmp .ge 16, 3, 21, [34]), (21, .aload_n 0, 1, 22, []), (22, .getfield 9, 3, 25, []), (25, .iload_n 1, 1, 26, []), (26, .iconst 5, 1, 27, []), (27, .imul, 1, 28, []), (28, .iload_n 2, 1, 29, []), (29, .iadd, 1, 30, []), (30, .iaload, 1, 31, []), (31, .goto 4, 3, 34, [35]), (34, .iconst (-1), 1, 35, []), (35, .ireturn, 1, 36, [])]
theorem t_X6_cell_ok : t_X6_cell.all (fun q => pz_wf cX6_cell q) = true := by decide +kernel
def t_X7_put : List pz_E := [(0, .bipush 24, 2, 2, []), (2, .istore_n 2, 1, 3, []), (3, .iload_n 2, 1, 4, []), (4, .ifCond .lt 42, 3, 7, [46]), (7, .aload_n 0, 1, 8, []), (8, .getfield 25, 3, 11, []), (11, .sipush 400, 3, 14, []), (14, .if_icmp .ge 26, 3, 17, [40]), (17, .aload_n 0, 1, 18, []), (18, .getfield 9, 3, 21, []), (21, .aload_n 0, 1, 22, []), (22, .getfield 25, 3, 25, []), (25, .iload_n 1, 1, 26, []), (26, .iload_n 2, 1, 27, []), (27, .ishr, 1, 28, []), (28, .i2b, 1, 29, []), (29, .bastore, 1, 30, []), (30, .aload_n 0, 1, 31, []), (31, .dup, 1, 32, []), (32, .getfield 25, 3, 35, []), (35, .iconst 1, 1, 36, []), (36, .iadd, 1, 37, []), (37, .putfield 25, 3, 40, []), (40, .iinc 2 (-8), 3, 43, []), (43, .goto (-40), 3, 46, [3]), (46, .return_, 1, 47, [])]
theorem t_X7_put_ok : t_X7_put.all (fun q => pz_wf cX7_put q) = true := by decide +kernel
def t_X7_scan : List pz_E := [(0, .iconst 0, 1, 1, []), (1, .istore_n 1, 1, 2, []), (2, .iconst 0, 1, 3, []), (3, .istore_n 2, 1, 4, []), (4, .iconst 0, 1, 5, []), (5, .istore_n 3, 1, 6, []), (6, .iload_n 3, 1, 7, []), (7, .aload_n 0, 1, 8, []), (8, .getfield 25, 3, 11, []), (11, .if_icmp .ge 94, 3, 14, [105]), (14, .iload_n 3, 1, 15, []), (15, .sipush 400, 3, 18, []), (18, .if_icmp .ge 87, 3, 21, [105]), (21, .aload_n 0, 1, 22, []), (22, .getfield 9, 3, 25, []), (25, .iload_n 3, 1, 26, []), (26, .baload, 1, 27, []), (27, .istore 4, 2, 29, []), (29, .iload_n 3, 1, 30, []), (30, .iload_n 2, 1, 31, []), (31, .if_icmp .lt 68, 3, 34, [99]), (34, .iload 4, 2, 36, []), (36, .bipush 32, 2, 38, []), (38, .if_icmp .eq 61, 3, 41, [99]), (41, .iload 4, 2, 43, []), (43, .bipush 10, 2, 45, []), (45, .if_icmp .eq 54, 3, 48, [99]), (48, .aload_n 0, 1, 49, []), (49, .getfield 22, 3, 52, []), (52, .iload_n 1, 1, 53, []), (53, .iload_n 3, 1, 54, []), (54, .iastore, 1, 55, []), (55, .iload 4, 2, 57, []), (57, .invokestatic 29, 3, 60, []), (60, .ifCond .eq 12, 3, 63, [72]), (63, .aload_n 0, 1, 64, []), (64, .iload_n 1, 1, 65, []), (65, .iload_n 3, 1, 66, []), (66, .invokevirtual 33, 3, 69, []), (69, .goto 26, 3, 72, [95]), (72, .iload 4, 2, 74, []), (74, .invokestatic 37, 3, 77, []), (77, .ifCond .eq 12, 3, 80, [89]), (80, .aload_n 0, 1, 81, []), (81, .iload_n 1, 1, 82, []), (82, .iload_n 3, 1, 83, []), (83, .invokevirtual 40, 3, 86, []), (86, .goto 9, 3, 89, [95]), (89, .aload_n 0, 1, 90, []), (90, .iload_n 1, 1, 91, []), (91, .iload_n 3, 1, 92, []), (92, .invokevirtual 43, 3, 95, []), (95, .istore_n 2, 1, 96, []), (96, .iinc 1 1, 3, 99, []), (99, .iinc 3 1, 3, 102, []), (102, .goto (-96), 3, 105, [6]), (105, .aload_n 0, 1, 106, []), (106, .getfield 15, 3, 109, []), (109, .iload_n 1, 1, 110, []), (110, .bipush 101, 2, 112, []), (112, .iastore, 1, 113, []), (113, .aload_n 0, 1, 114, []), (114, .getfield 22, 3, 117, []), (117, .iload_n 1, 1, 118, []), (118, .aload_n 0, 1, 119, []), (119, .getfield 25, 3, 122, []), (122, .iastore, 1, 123, []), (123, .return_, 1, 124, [])]
theorem t_X7_scan_ok : t_X7_scan.all (fun q => pz_wf cX7_scan q) = true := by decide +kernel
def t_X7_isLetter : List pz_E := [(0, .iload_n 0, 1, 1, []), (1, .bipush 97, 2, 3, []), (3, .if_icmp .lt 9, 3, 6, [12]), (6, .iload_n 0, 1, 7, []), (7, .bipush 122, 2, 9, []), (9, .if_icmp .le 15, 3, 12, [24]), (12, .iload_n 0, 1, 13, []), (13, .bipush 65, 2, 15, []), (15, .if_icmp .lt 13, 3, 18, [28]), (18, .iload_n 0, 1, 19, []), (19, .bipush 90, 2, 21, []), (21, .if_icmp .gt 7, 3, 24, [28]), (24, .iconst 1, 1, 25, []), (25, .goto 4, 3, 28, [29]), (28, .iconst 0, 1, 29, []), (29, .ireturn, 1, 30, [])]
theorem t_X7_isLetter_ok : t_X7_isLetter.all (fun q => pz_wf cX7_isLetter q) = true := by decide +kernel
def t_X7_isDigit : List pz_E := [(0, .iload_n 0, 1, 1, []), (1, .bipush 48, 2, 3, []), (3, .if_icmp .lt 13, 3, 6, [16]), (6, .iload_n 0, 1, 7, []), (7, .bipush 57, 2, 9, []), (9, .if_icmp .gt 7, 3, 12, [16]), (12, .iconst 1, 1, 13, []), (13, .goto 4, 3, 16, [17]), (16, .iconst 0, 1, 17, []), (17, .ireturn, 1, 18, [])]
theorem t_X7_isDigit_ok : t_X7_isDigit.all (fun q => pz_wf cX7_isDigit q) = true := by decide +kernel
def t_X7_isSign : List pz_E := [(0, .iload_n 0, 1, 1, []), (1, .bipush 40, 2, 3, []), (3, .if_icmp .lt 9, 3, 6, [12]), (6, .iload_n 0, 1, 7, []), (7, .bipush 43, 2, 9, []), (9, .if_icmp .le 27, 3, 12, [36]), (12, .iload_n 0, 1, 13, []), (13, .bipush 45, 2, 15, []), (15, .if_icmp .eq 21, 3, 18, [36]), (18, .iload_n 0, 1, 19, []), (19, .bipush 47, 2, 21, []), (21, .if_icmp .eq 15, 3, 24, [36]), (24, .iload_n 0, 1, 25, []), (25, .bipush 59, 2, 27, []), (27, .if_icmp .lt 13, 3, 30, [40]), (30, .iload_n 0, 1, 31, []), (31, .bipush 62, 2, 33, []), (33, .if_icmp .gt 7, 3, 36, [40]), (36, .iconst 1, 1, 37, []), (37, .goto 4, 3, 40, [41]), (40, .iconst 0, 1, 41, []), (41, .ireturn, 1, 42, [])]
theorem t_X7_isSign_ok : t_X7_isSign.all (fun q => pz_wf cX7_isSign q) = true := by decide +kernel
def t_X7_takeWord : List pz_E := [(0, .iload_n 2, 1, 1, []), (1, .iconst 1, 1, 2, []), (2, .iadd, 1, 3, []), (3, .istore_n 3, 1, 4, []), (4, .iload_n 3, 1, 5, []), (5, .aload_n 0, 1, 6, []), (6, .getfield 25, 3, 9, []), (9, .if_icmp .ge 28, 3, 12, [37]), (12, .iload_n 3, 1, 13, []), (13, .sipush 400, 3, 16, []), (16, .if_icmp .ge 21, 3, 19, [37]), (19, .aload_n 0, 1, 20, []), (20, .getfield 9, 3, 23, []), (23, .iload_n 3, 1, 24, []), (24, .baload, 1, 25, []), (25, .invokestatic 29, 3, 28, []), (28, .ifCond .eq 9, 3, 31, [37]), (31, .iinc 3 1, 3, 34, []), (34, .goto (-30), 3, 37, [4]), (37, .aload_n 0, 1, 38, []), (38, .getfield 15, 3, 41, []), (41, .iload_n 1, 1, 42, []), (42, .aload_n 0, 1, 43, []), (43, .iload_n 2, 1, 44, []), (44, .iload_n 3, 1, 45, []), (45, .invokevirtual 46, 3, 48, []), (48, .iastore, 1, 49, []), (49, .iload_n 3, 1, 50, []), (50, .ireturn, 1, 51, [])]
theorem t_X7_takeWord_ok : t_X7_takeWord.all (fun q => pz_wf cX7_takeWord q) = true := by decide +kernel
def t_X7_takeNumber : List pz_E := [(0, .iconst 0, 1, 1, []), (1, .istore_n 3, 1, 2, []), (2, .iload_n 2, 1, 3, []), (3, .istore 4, 2, 5, []), (5, .iload 4, 2, 7, []), (7, .aload_n 0, 1, 8, []), (8, .getfield 25, 3, 11, []), (11, .if_icmp .ge 46, 3, 14, [57]), (14, .iload 4, 2, 16, []), (16, .sipush 400, 3, 19, []), (19, .if_icmp .ge 38, 3, 22, [57]), (22, .aload_n 0, 1, 23, []), (23, .getfield 9, 3, 26, []), (26, .iload 4, 2, 28, []), (28, .baload, 1, 29, []), (29, .invokestatic 37, 3, 32, []), (32, .ifCond .eq 25, 3, 35, [57]), (35, .iload_n 3, 1, 36, []), (36, .bipush 10, 2, 38, []), (38, .imul, 1, 39, []), (39, .aload_n 0, 1, 40, []), (40, .getfield 9, 3, 43, []), (43, .iload 4, 2, 45, []), (45, .baload, 1, 46, []), (46, .iadd, 1, 47, []), (47, .bipush 48, 2, 49, []), (49, .isub, 1, 50, []), (50, .istore_n 3, 1, 51, []), (51, .iinc 4 1, 3, 54, []), (54, .goto (-49), 3, 57, [5]), (57, .aload_n 0, 1, 58, []), (58, .getfield 15, 3, 61, []), (61, .iload_n 1, 1, 62, []), (62, .iload 4, 2, 64, []), (64, .iload_n 2, 1, 65, []), (65, .isub, 1, 66, []), (66, .iconst 4, 1, 67, []), (67, .if_icmp .gt 8, 3, 70, [75]), (70, .bipush 100, 2, 72, []), (72, .goto 5, 3, 75, [77]), (75, .bipush 102, 2, 77, []), (77, .iastore, 1, 78, []), (78, .aload_n 0, 1, 79, []), (79, .getfield 19, 3, 82, []), (82, .iload_n 1, 1, 83, []), (83, .iload_n 3, 1, 84, []), (84, .iastore, 1, 85, []), (85, .iload 4, 2, 87, []), (87, .ireturn, 1, 88, [])]
theorem t_X7_takeNumber_ok : t_X7_takeNumber.all (fun q => pz_wf cX7_takeNumber q) = true := by decide +kernel
def t_X7_takeSign : List pz_E := [(0, .aload_n 0, 1, 1, []), (1, .getfield 15, 3, 4, []), (4, .iload_n 1, 1, 5, []), (5, .aload_n 0, 1, 6, []), (6, .getfield 9, 3, 9, []), (9, .iload_n 2, 1, 10, []), (10, .baload, 1, 11, []), (11, .invokestatic 49, 3, 14, []), (14, .ifCond .eq 12, 3, 17, [26]), (17, .aload_n 0, 1, 18, []), (18, .getfield 9, 3, 21, []), (21, .iload_n 2, 1, 22, []), (22, .baload, 1, 23, []), (23, .goto 5, 3, 26, [28]), (26, .bipush 102, 2, 28, []), (28, .iastore, 1, 29, []), (29, .iload_n 2, 1, 30, []), (30, .iconst 1, 1, 31, []), (31, .iadd, 1, 32, []), (32, .ireturn, 1, 33, [])]
theorem t_X7_takeSign_ok : t_X7_takeSign.all (fun q => pz_wf cX7_takeSign q) = true := by decide +kernel
def t_X7_wordOf : List pz_E := [(0, .iconst 0, 1, 1, []), (1, .istore_n 3, 1, 2, []), (2, .iload_n 1, 1, 3, []), (3, .istore 4, 2, 5, []), (5, .iconst 1, 1, 6, []), (6, .istore 5, 2, 8, []), (8, .iconst 0, 1, 9, []), (9, .istore 6, 2, 11, []), (11, .iload 6, 2, 13, []), (13, .ldc 52, 2, 15, []), (15, .invokevirtual 54, 3, 18, []), (18, .if_icmp .ge 83, 3, 21, [101]), (21, .ldc 52, 2, 23, []), (23, .iload 6, 2, 25, []), (25, .invokevirtual 59, 3, 28, []), (28, .istore 7, 2, 30, []), (30, .iload 7, 2, 32, []), (32, .bipush 32, 2, 34, []), (34, .if_icmp .ne 28, 3, 37, [62]), (37, .iload 5, 2, 39, []), (39, .ifCond .eq 11, 3, 42, [50]), (42, .iload 4, 2, 44, []), (44, .iload_n 2, 1, 45, []), (45, .if_icmp .ne 5, 3, 48, [50]), (48, .iload_n 3, 1, 49, []), (49, .ireturn, 1, 50, []), (50, .iinc 3 1, 3, 53, []), (53, .iload_n 1, 1, 54, []), (54, .istore 4, 2, 56, []), (56, .iconst 1, 1, 57, []), (57, .istore 5, 2, 59, []), (59, .goto 36, 3, 62, [95]), (62, .iload 5, 2, 64, []), (64, .ifCond .eq 25, 3, 67, [89]), (67, .iload 4, 2, 69, []), (69, .iload_n 2, 1, 70, []), (70, .if_icmp .ge 19, 3, 73, [89]), (73, .aload_n 0, 1, 74, []), (74, .getfield 9, 3, 77, []), (77, .iload 4, 2, 79, []), (79, .baload, 1, 80, []), (80, .iload 7, 2, 82, []), (82, .if_icmp .ne 7, 3, 85, [89]), (85, .iconst 1, 1, 86, []), (86, .goto 4, 3, 89, [90]), (89, .iconst 0, 1, 90, []), (90, .istore 5, 2, 92, []), (92, .iinc 4 1, 3, 95, []), (95, .iinc 6 1, 3, 98, []), (98, .goto (-87), 3, 101, [11]), (101, .bipush 102, 2, 103, []), (103, .ireturn, 1, 104, [])]
theorem t_X7_wordOf_ok : t_X7_wordOf.all (fun q => pz_wf cX7_wordOf q) = true := by decide +kernel
def t_X8_forgetAll : List pz_E := [(0, .aload_n 0, 1, 1, []), (1, .iconst 0, 1, 2, []), (2, .putfield 24, 3, 5, []), (5, .return_, 1, 6, [])]
theorem t_X8_forgetAll_ok : t_X8_forgetAll.all (fun q => pz_wf cX8_forgetAll q) = true := by decide +kernel
def t_X8_plan : List pz_E := [(0, .aload_n 0, 1, 1, []), (1, .getfield 24, 3, 4, []), (4, .ifCond .eq 4, 3, 7, [8]), (7, .return_, 1, 8, []), (8, .aload_n 0, 1, 9, []), (9, .iconst 1, 1, 10, []), (10, .putfield 24, 3, 13, []), (13, .aload_n 0, 1, 14, []), (14, .iload_n 1, 1, 15, []), (15, .bipush 12, 2, 17, []), (17, .invokestatic 28, 3, 20, []), (20, .putfield 34, 3, 23, []), (23, .iconst 0, 1, 24, []), (24, .istore_n 3, 1, 25, []), (25, .iload_n 3, 1, 26, []), (26, .aload_n 0, 1, 27, []), (27, .getfield 34, 3, 30, []), (30, .if_icmp .ge 31, 3, 33, [61]), (33, .aload_n 0, 1, 34, []), (34, .getfield 9, 3, 37, []), (37, .iload_n 3, 1, 38, []), (38, .aload_n 2, 1, 39, []), (39, .iload_n 3, 1, 40, []), (40, .invokevirtual 38, 3, 43, []), (43, .iastore, 1, 44, []), (44, .aload_n 0, 1, 45, []), (45, .getfield 15, 3, 48, []), (48, .iload_n 3, 1, 49, []), (49, .aload_n 2, 1, 50, []), (50, .iload_n 3, 1, 51, []), (51, .invokevirtual 44, 3, 54, []), (54, .iastore, 1, 55, []), (55, .iinc 3 1, 3, 58, []), (58, .goto (-33), 3, 61, [25]), (61, .aload_n 0, 1, 62, []), (62, .invokevirtual 47, 3, 65, []), (65, .aload_n 0, 1, 66, []), (66, .getfield 50, 3, 69, []), (69, .iconst (-1), 1, 70, []), (70, .if_icmp .eq 11, 3, 73, [81]), (73, .aload_n 0, 1, 74, []), (74, .invokevirtual 53, 3, 77, []), (77, .aload_n 0, 1, 78, []), (78, .invokevirtual 56, 3, 81, []), (81, .return_, 1, 82, [])]
theorem t_X8_plan_ok : t_X8_plan.all (fun q => pz_wf cX8_plan q) = true := by decide +kernel
def t_X8_signer : List pz_E := [(0, .aload_n 0, 1, 1, []), (1, .getfield 50, 3, 4, []), (4, .iconst (-1), 1, 5, []), (5, .if_icmp .eq 24, 3, 8, [29]), (8, .iload_n 1, 1, 9, []), (9, .ifCond .lt 20, 3, 12, [29]), (12, .iload_n 1, 1, 13, []), (13, .aload_n 0, 1, 14, []), (14, .getfield 34, 3, 17, []), (17, .if_icmp .ge 12, 3, 20, [29]), (20, .aload_n 0, 1, 21, []), (21, .getfield 18, 3, 24, []), (24, .iload_n 1, 1, 25, []), (25, .iaload, 1, 26, []), (26, .goto 4, 3, 29, [30]), (29, .iconst (-1), 1, 30, []), (30, .ireturn, 1, 31, [])]
theorem t_X8_signer_ok : t_X8_signer.all (fun q => pz_wf cX8_signer q) = true := by decide +kernel
def t_X8_findEarliest : List pz_E := [(0, .aload_n 0, 1, 1, []), (1, .iconst 0, 1, 2, []), (2, .putfield 59, 3, 5, []), (5, .aload_n 0, 1, 6, []), (6, .getfield 21, 3, 9, []), (9, .iconst 0, 1, 10, []), (10, .iconst 0, 1, 11, []), (11, .iastore, 1, 12, []), (12, .iconst 1, 1, 13, []), (13, .istore_n 1, 1, 14, []), (14, .iload_n 1, 1, 15, []), (15, .iconst 1, 1, 16, []), (16, .aload_n 0, 1, 17, []), (17, .getfield 34, 3, 20, []), (20, .ishl, 1, 21, []), (21, .if_icmp .ge 125, 3, 24, [146]), (24, .iconst (-1), 1, 25, []), (25, .istore_n 2, 1, 26, []), (26, .iconst 0, 1, 27, []), (27, .istore_n 3, 1, 28, []), (28, .iload_n 3, 1, 29, []), (29, .aload_n 0, 1, 30, []), (30, .getfield 34, 3, 33, []), (33, .if_icmp .ge 80, 3, 36, [113]), (36, .iload_n 1, 1, 37, []), (37, .iload_n 3, 1, 38, []), (38, .ishr, 1, 39, []), (39, .iconst 1, 1, 40, []), (40, .iand, 1, 41, []), (41, .ifCond .eq 16, 3, 44, [57]), (44, .aload_n 0, 1, 45, []), (45, .getfield 21, 3, 48, []), (48, .iload_n 1, 1, 49, []), (49, .iconst 1, 1, 50, []), (50, .iload_n 3, 1, 51, []), (51, .ishl, 1, 52, []), (52, .ixor, 1, 53, []), (53, .iaload, 1, 54, []), (54, .goto 4, 3, 57, [58]), (57, .iconst (-1), 1, 58, []), (58, .istore 4, 2, 60, []), (60, .iload 4, 2, 62, []), (62, .aload_n 0, 1, 63, []), (63, .getfield 9, 3, 66, []), (66, .iload_n 3, 1, 67, []), (67, .iaload, 1, 68, []), (68, .invokestatic 62, 3, 71, []), (71, .bipush 10, 2, 73, []), (73, .iadd, 1, 74, []), (74, .istore 5, 2, 76, []), (76, .iload 4, 2, 78, []), (78, .iconst (-1), 1, 79, []), (79, .if_icmp .eq 28, 3, 82, [107]), (82, .iload 5, 2, 84, []), (84, .aload_n 0, 1, 85, []), (85, .getfield 15, 3, 88, []), (88, .iload_n 3, 1, 89, []), (89, .iaload, 1, 90, []), (90, .if_icmp .gt 17, 3, 93, [107]), (93, .iload_n 2, 1, 94, []), (94, .iconst (-1), 1, 95, []), (95, .if_icmp .eq 9, 3, 98, [104]), (98, .iload 5, 2, 100, []), (100, .iload_n 2, 1, 101, []), (101, .if_icmp .ge 6, 3, 104, [107]), (104, .iload 5, 2, 106, []), (106, .istore_n 2, 1, 107, []), (107, .iinc 3 1, 3, 110, []), (110, .goto (-82), 3, 113, [28]), (113, .aload_n 0, 1, 114, []), (114, .getfield 21, 3, 117, []), (117, .iload_n 1, 1, 118, []), (118, .iload_n 2, 1, 119, []), (119, .iastore, 1, 120, []), (120, .iload_n 2, 1, 121, []), (121, .iconst (-1), 1, 122, []), (122, .if_icmp .eq 18, 3, 125, [140]), (125, .aload_n 0, 1, 126, []), (126, .aload_n 0, 1, 127, []), (127, .getfield 59, 3, 130, []), (130, .iload_n 1, 1, 131, []), (131, .invokestatic 65, 3, 134, []), (134, .invokestatic 62, 3, 137, []), (137, .putfield 59, 3, 140, []), (140, .iinc 1 1, 3, 143, []), (143, .goto (-129), 3, 146, [14]), (146, .aload_n 0, 1, 147, []), (147, .aload_n 0, 1, 148, []), (148, .getfield 21, 3, 151, []), (151, .iconst 1, 1, 152, []), (152, .aload_n 0, 1, 153, []), (153, .getfield 34, 3, 156, []), (156, .ishl, 1, 157, []), (157, .iconst 1, 1, 158, []), (158, .isub, 1, 159, []), (159, .iaload, 1, 160, []), (160, .putfield 50, 3, 163, []), (163, .return_, 1, 164, [])]
theorem t_X8_findEarliest_ok : t_X8_findEarliest.all (fun q => pz_wf cX8_findEarliest q) = true := by decide +kernel
def t_X8_findLatest : List pz_E := [(0, .aload_n 0, 1, 1, []), (1, .getfield 21, 3, 4, []), (4, .iconst 0, 1, 5, []), (5, .aload_n 0, 1, 6, []), (6, .getfield 50, 3, 9, []), (9, .iastore, 1, 10, []), (10, .iconst 1, 1, 11, []), (11, .istore_n 1, 1, 12, []), (12, .iload_n 1, 1, 13, []), (13, .iconst 1, 1, 14, []), (14, .aload_n 0, 1, 15, []), (15, .getfield 34, 3, 18, []), (18, .ishl, 1, 19, []), (19, .if_icmp .ge 98, 3, 22, [117]), (22, .iconst (-1), 1, 23, []), (23, .istore_n 2, 1, 24, []), (24, .iconst 0, 1, 25, []), (25, .istore_n 3, 1, 26, []), (26, .iload_n 3, 1, 27, []), (27, .aload_n 0, 1, 28, []), (28, .getfield 34, 3, 31, []), (31, .if_icmp .ge 73, 3, 34, [104]), (34, .iload_n 1, 1, 35, []), (35, .iload_n 3, 1, 36, []), (36, .ishr, 1, 37, []), (37, .iconst 1, 1, 38, []), (38, .iand, 1, 39, []), (39, .ifCond .eq 16, 3, 42, [55]), (42, .aload_n 0, 1, 43, []), (43, .getfield 21, 3, 46, []), (46, .iload_n 1, 1, 47, []), (47, .iconst 1, 1, 48, []), (48, .iload_n 3, 1, 49, []), (49, .ishl, 1, 50, []), (50, .ixor, 1, 51, []), (51, .iaload, 1, 52, []), (52, .goto 4, 3, 55, [56]), (55, .iconst (-1), 1, 56, []), (56, .istore 4, 2, 58, []), (58, .iload 4, 2, 60, []), (60, .aload_n 0, 1, 61, []), (61, .getfield 15, 3, 64, []), (64, .iload_n 3, 1, 65, []), (65, .iaload, 1, 66, []), (66, .invokestatic 28, 3, 69, []), (69, .bipush 10, 2, 71, []), (71, .isub, 1, 72, []), (72, .istore 5, 2, 74, []), (74, .iload 4, 2, 76, []), (76, .iconst (-1), 1, 77, []), (77, .if_icmp .eq 21, 3, 80, [98]), (80, .iload 5, 2, 82, []), (82, .aload_n 0, 1, 83, []), (83, .getfield 9, 3, 86, []), (86, .iload_n 3, 1, 87, []), (87, .iaload, 1, 88, []), (88, .if_icmp .lt 10, 3, 91, [98]), (91, .iload_n 2, 1, 92, []), (92, .iload 5, 2, 94, []), (94, .invokestatic 62, 3, 97, []), (97, .istore_n 2, 1, 98, []), (98, .iinc 3 1, 3, 101, []), (101, .goto (-75), 3, 104, [26]), (104, .aload_n 0, 1, 105, []), (105, .getfield 21, 3, 108, []), (108, .iload_n 1, 1, 109, []), (109, .iload_n 2, 1, 110, []), (110, .iastore, 1, 111, []), (111, .iinc 1 1, 3, 114, []), (114, .goto (-102), 3, 117, [12]), (117, .return_, 1, 118, [])]
theorem t_X8_findLatest_ok : t_X8_findLatest.all (fun q => pz_wf cX8_findLatest q) = true := by decide +kernel
def t_X8_findOrder : List pz_E := [(0, .iconst 0, 1, 1, []), (1, .istore_n 1, 1, 2, []), (2, .iconst 1, 1, 3, []), (3, .aload_n 0, 1, 4, []), (4, .getfield 34, 3, 7, []), (7, .ishl, 1, 8, []), (8, .iconst 1, 1, 9, []), (9, .isub, 1, 10, []), (10, .istore_n 2, 1, 11, []), (11, .iconst 0, 1, 12, []), (12, .istore_n 3, 1, 13, []), (13, .iload_n 3, 1, 14, []), (14, .aload_n 0, 1, 15, []), (15, .getfield 34, 3, 18, []), (18, .if_icmp .ge 113, 3, 21, [131]), (21, .iconst 0, 1, 22, []), (22, .istore 4, 2, 24, []), (24, .iload 4, 2, 26, []), (26, .aload_n 0, 1, 27, []), (27, .getfield 34, 3, 30, []), (30, .if_icmp .ge 95, 3, 33, [125]), (33, .iload_n 2, 1, 34, []), (34, .iload 4, 2, 36, []), (36, .ishr, 1, 37, []), (37, .iconst 1, 1, 38, []), (38, .iand, 1, 39, []), (39, .ifCond .eq 17, 3, 42, [56]), (42, .aload_n 0, 1, 43, []), (43, .getfield 21, 3, 46, []), (46, .iload_n 2, 1, 47, []), (47, .iconst 1, 1, 48, []), (48, .iload 4, 2, 50, []), (50, .ishl, 1, 51, []), (51, .ixor, 1, 52, []), (52, .iaload, 1, 53, []), (53, .goto 4, 3, 56, [57]), (56, .iconst (-1), 1, 57, []), (57, .istore 5, 2, 59, []), (59, .iload_n 1, 1, 60, []), (60, .aload_n 0, 1, 61, []), (61, .getfield 9, 3, 64, []), (64, .iload 4, 2, 66, []), (66, .iaload, 1, 67, []), (67, .invokestatic 62, 3, 70, []), (70, .bipush 10, 2, 72, []), (72, .iadd, 1, 73, []), (73, .istore 6, 2, 75, []), (75, .iload 5, 2, 77, []), (77, .iconst (-1), 1, 78, []), (78, .if_icmp .eq 41, 3, 81, [119]), (81, .iload 6, 2, 83, []), (83, .iload 5, 2, 85, []), (85, .aload_n 0, 1, 86, []), (86, .getfield 15, 3, 89, []), (89, .iload 4, 2, 91, []), (91, .iaload, 1, 92, []), (92, .invokestatic 28, 3, 95, []), (95, .if_icmp .gt 24, 3, 98, [119]), (98, .aload_n 0, 1, 99, []), (99, .getfield 18, 3, 102, []), (102, .iload_n 3, 1, 103, []), (103, .iload 4, 2, 105, []), (105, .iastore, 1, 106, []), (106, .iload 6, 2, 108, []), (108, .istore_n 1, 1, 109, []), (109, .iload_n 2, 1, 110, []), (110, .iconst 1, 1, 111, []), (111, .iload 4, 2, 113, []), (113, .ishl, 1, 114, []), (114, .ixor, 1, 115, []), (115, .istore_n 2, 1, 116, []), (116, .goto 9, 3, 119, [125]), (119, .iinc 4 1, 3, 122, []), (122, .goto (-98), 3, 125, [24]), (125, .iinc 3 1, 3, 128, []), (128, .goto (-115), 3, 131, [13]), (131, .return_, 1, 132, [])]
theorem t_X8_findOrder_ok : t_X8_findOrder.all (fun q => pz_wf cX8_findOrder q) = true := by decide +kernel
def t_X9_tell : List pz_E := [(0, .aload_n 0, 1, 1, []), (1, .iconst 0, 1, 2, []), (2, .putfield 33, 3, 5, []), (5, .aload_n 0, 1, 6, []), (6, .iconst (-1), 1, 7, []), (7, .putfield 25, 3, 10, []), (10, .aload_n 0, 1, 11, []), (11, .iconst 0, 1, 12, []), (12, .putfield 36, 3, 15, []), (15, .aload_n 0, 1, 16, []), (16, .iload_n 3, 1, 17, []), (17, .putfield 39, 3, 20, []), (20, .aload_n 0, 1, 21, []), (21, .getfield 29, 3, 24, []), (24, .invokevirtual 42, 3, 27, []), (27, .aload_n 0, 1, 28, []), (28, .getfield 29, 3, 31, []), (31, .iconst 0, 1, 32, []), (32, .putfield 47, 3, 35, []), (35, .aload_n 0, 1, 36, []), (36, .iconst 0, 1, 37, []), (37, .invokevirtual 50, 3, 40, []), (40, .iload_n 1, 1, 41, []), (41, .ifCond .ne 29, 3, 44, [70]), (44, .aload_n 0, 1, 45, []), (45, .invokevirtual 54, 3, 48, []), (48, .ifCond .eq 22, 3, 51, [70]), (51, .aload_n 2, 1, 52, []), (52, .getfield 58, 3, 55, []), (55, .aload_n 0, 1, 56, []), (56, .getfield 12, 3, 59, []), (59, .invokevirtual 61, 3, 62, []), (62, .aload_n 0, 1, 63, []), (63, .getfield 12, 3, 66, []), (66, .getfield 65, 3, 69, []), (69, .ireturn, 1, 70, []), (70, .iload_n 1, 1, 71, []), (71, .iconst 1, 1, 72, []), (72, .if_icmp .lt 36, 3, 75, [108]), (75, .iload_n 1, 1, 76, []), (76, .iconst 3, 1, 77, []), (77, .if_icmp .gt 31, 3, 80, [108]), (80, .aload_n 0, 1, 81, []), (81, .iload_n 1, 1, 82, []), (82, .invokevirtual 68, 3, 85, []), (85, .ifCond .eq 23, 3, 88, [108]), (88, .aload_n 2, 1, 89, []), (89, .iload_n 1, 1, 90, []), (90, .invokevirtual 72, 3, 93, []), (93, .aload_n 0, 1, 94, []), (94, .getfield 21, 3, 97, []), (97, .invokevirtual 75, 3, 100, []), (100, .aload_n 0, 1, 101, []), (101, .getfield 21, 3, 104, []), (104, .getfield 78, 3, 107, []), (107, .ireturn, 1, 108, []), (108, .iconst (-1), 1, 109, []), (109, .ireturn, 1, 110, [])]
theorem t_X9_tell_ok : t_X9_tell.all (fun q => pz_wf cX9_tell q) = true := by decide +kernel
def t_X9_lookAt : List pz_E := [(0, .iload_n 1, 1, 1, []), (1, .ifCond .lt 41, 3, 4, [42]), (4, .iload_n 1, 1, 5, []), (5, .sipush 400, 3, 8, []), (8, .if_icmp .gt 34, 3, 11, [42]), (11, .aload_n 0, 1, 12, []), (12, .iload_n 1, 1, 13, []), (13, .putfield 81, 3, 16, []), (16, .aload_n 0, 1, 17, []), (17, .aload_n 0, 1, 18, []), (18, .getfield 29, 3, 21, []), (21, .getfield 84, 3, 24, []), (24, .iload_n 1, 1, 25, []), (25, .iaload, 1, 26, []), (26, .putfield 88, 3, 29, []), (29, .aload_n 0, 1, 30, []), (30, .aload_n 0, 1, 31, []), (31, .getfield 29, 3, 34, []), (34, .getfield 91, 3, 37, []), (37, .iload_n 1, 1, 38, []), (38, .iaload, 1, 39, []), (39, .putfield 94, 3, 42, []), (42, .return_, 1, 43, [])]
theorem t_X9_lookAt_ok : t_X9_lookAt.all (fun q => pz_wf cX9_lookAt q) = true := by decide +kernel
def t_X9_wrong : List pz_E := [(0, .aload_n 0, 1, 1, []), (1, .iload_n 1, 1, 2, []), (2, .putfield 33, 3, 5, []), (5, .aload_n 0, 1, 6, []), (6, .aload_n 0, 1, 7, []), (7, .getfield 81, 3, 10, []), (10, .ifCond .lt 28, 3, 13, [38]), (13, .aload_n 0, 1, 14, []), (14, .getfield 81, 3, 17, []), (17, .sipush 400, 3, 20, []), (20, .if_icmp .gt 18, 3, 23, [38]), (23, .aload_n 0, 1, 24, []), (24, .getfield 29, 3, 27, []), (27, .getfield 97, 3, 30, []), (30, .aload_n 0, 1, 31, []), (31, .getfield 81, 3, 34, []), (34, .iaload, 1, 35, []), (35, .goto 4, 3, 38, [39]), (38, .iconst (-1), 1, 39, []), (39, .putfield 25, 3, 42, []), (42, .iconst 0, 1, 43, []), (43, .ireturn, 1, 44, [])]
theorem t_X9_wrong_ok : t_X9_wrong.all (fun q => pz_wf cX9_wrong q) = true := by decide +kernel
def t_X9_accept : List pz_E := [(0, .aload_n 0, 1, 1, []), (1, .getfield 88, 3, 4, []), (4, .iload_n 1, 1, 5, []), (5, .if_icmp .eq 9, 3, 8, [14]), (8, .aload_n 0, 1, 9, []), (9, .iconst 1, 1, 10, []), (10, .invokevirtual 100, 3, 13, []), (13, .ireturn, 1, 14, []), (14, .aload_n 0, 1, 15, []), (15, .aload_n 0, 1, 16, []), (16, .getfield 81, 3, 19, []), (19, .iconst 1, 1, 20, []), (20, .iadd, 1, 21, []), (21, .invokevirtual 50, 3, 24, []), (24, .iconst 1, 1, 25, []), (25, .ireturn, 1, 26, [])]
theorem t_X9_accept_ok : t_X9_accept.all (fun q => pz_wf cX9_accept q) = true := by decide +kernel
def t_X9_numeral : List pz_E := [(0, .aload_n 0, 1, 1, []), (1, .getfield 88, 3, 4, []), (4, .bipush 100, 2, 6, []), (6, .if_icmp .ne 19, 3, 9, [25]), (9, .aload_n 0, 1, 10, []), (10, .getfield 94, 3, 13, []), (13, .iload_n 1, 1, 14, []), (14, .if_icmp .lt 11, 3, 17, [25]), (17, .aload_n 0, 1, 18, []), (18, .getfield 94, 3, 21, []), (21, .iload_n 2, 1, 22, []), (22, .if_icmp .le 24, 3, 25, [46]), (25, .aload_n 0, 1, 26, []), (26, .aload_n 0, 1, 27, []), (27, .getfield 88, 3, 30, []), (30, .bipush 100, 2, 32, []), (32, .if_icmp .ne 7, 3, 35, [39]), (35, .iconst 2, 1, 36, []), (36, .goto 4, 3, 39, [40]), (39, .iconst 1, 1, 40, []), (40, .invokevirtual 100, 3, 43, []), (43, .pop, 1, 44, []), (44, .iconst (-1), 1, 45, []), (45, .ireturn, 1, 46, []), (46, .aload_n 0, 1, 47, []), (47, .getfield 94, 3, 50, []), (50, .istore_n 3, 1, 51, []), (51, .aload_n 0, 1, 52, []), (52, .aload_n 0, 1, 53, []), (53, .getfield 81, 3, 56, []), (56, .iconst 1, 1, 57, []), (57, .iadd, 1, 58, []), (58, .invokevirtual 50, 3, 61, []), (61, .iload_n 3, 1, 62, []), (62, .ireturn, 1, 63, [])]
theorem t_X9_numeral_ok : t_X9_numeral.all (fun q => pz_wf cX9_numeral q) = true := by decide +kernel
def t_X9_lawLines : List pz_E := [(0, .aload_n 0, 1, 1, []), (1, .getfield 12, 3, 4, []), (4, .invokevirtual 103, 3, 7, []), (7, .iconst 0, 1, 8, []), (8, .istore_n 1, 1, 9, []), (9, .iload_n 1, 1, 10, []), (10, .bipush 16, 2, 12, []), (12, .if_icmp .gt 135, 3, 15, [147]), (15, .aload_n 0, 1, 16, []), (16, .getfield 88, 3, 19, []), (19, .bipush 101, 2, 21, []), (21, .if_icmp .eq 126, 3, 24, [147]), (24, .aload_n 0, 1, 25, []), (25, .getfield 88, 3, 28, []), (28, .istore_n 2, 1, 29, []), (29, .iload_n 2, 1, 30, []), (30, .ifCond .lt 8, 3, 33, [38]), (33, .iload_n 2, 1, 34, []), (34, .iconst 3, 1, 35, []), (35, .if_icmp .le 9, 3, 38, [44]), (38, .aload_n 0, 1, 39, []), (39, .iconst 1, 1, 40, []), (40, .invokevirtual 100, 3, 43, []), (43, .ireturn, 1, 44, []), (44, .iload_n 1, 1, 45, []), (45, .bipush 16, 2, 47, []), (47, .if_icmp .ne 9, 3, 50, [56]), (50, .aload_n 0, 1, 51, []), (51, .iconst 3, 1, 52, []), (52, .invokevirtual 100, 3, 55, []), (55, .ireturn, 1, 56, []), (56, .aload_n 0, 1, 57, []), (57, .aload_n 0, 1, 58, []), (58, .getfield 81, 3, 61, []), (61, .iconst 1, 1, 62, []), (62, .iadd, 1, 63, []), (63, .invokevirtual 50, 3, 66, []), (66, .aload_n 0, 1, 67, []), (67, .getfield 12, 3, 70, []), (70, .getfield 106, 3, 73, []), (73, .istore_n 3, 1, 74, []), (74, .aload_n 0, 1, 75, []), (75, .invokevirtual 109, 3, 78, []), (78, .ifCond .ne 5, 3, 81, [83]), (81, .iconst 0, 1, 82, []), (82, .ireturn, 1, 83, []), (83, .aload_n 0, 1, 84, []), (84, .getfield 12, 3, 87, []), (87, .getfield 106, 3, 90, []), (90, .istore 4, 2, 92, []), (92, .aload_n 0, 1, 93, []), (93, .getfield 88, 3, 96, []), (96, .iconst 4, 1, 97, []), (97, .if_icmp .ne 22, 3, 100, [119]), (100, .aload_n 0, 1, 101, []), (101, .aload_n 0, 1, 102, []), (102, .getfield 81, 3, 105, []), (105, .iconst 1, 1, 106, []), (106, .iadd, 1, 107, []), (107, .invokevirtual 50, 3, 110, []), (110, .aload_n 0, 1, 111, []), (111, .invokevirtual 112, 3, 114, []), (114, .ifCond .ne 5, 3, 117, [119]), (117, .iconst 0, 1, 118, []), (118, .ireturn, 1, 119, []), (119, .aload_n 0, 1, 120, []), (120, .getfield 12, 3, 123, []), (123, .iload_n 2, 1, 124, []), (124, .iload_n 3, 1, 125, []), (125, .iload 4, 2, 127, []), (127, .invokevirtual 115, 3, 130, []), (130, .aload_n 0, 1, 131, []), (131, .bipush 59, 2, 133, []), (133, .invokevirtual 119, 3, 136, []), (136, .ifCond .ne 5, 3, 139, [141]), (139, .iconst 0, 1, 140, []), (140, .ireturn, 1, 141, []), (141, .iinc 1 1, 3, 144, []), (144, .goto (-135), 3, 147, [9]), (147, .iconst 1, 1, 148, []), (148, .ireturn, 1, 149, [])]
theorem t_X9_lawLines_ok : t_X9_lawLines.all (fun q => pz_wf cX9_lawLines q) = true := by decide +kernel
def t_X9_conditions : List pz_E := [(0, .iconst 0, 1, 1, []), (1, .istore_n 1, 1, 2, []), (2, .iconst 0, 1, 3, []), (3, .istore_n 2, 1, 4, []), (4, .iconst 0, 1, 5, []), (5, .istore_n 3, 1, 6, []), (6, .iload_n 3, 1, 7, []), (7, .sipush 400, 3, 10, []), (10, .if_icmp .ge 85, 3, 13, [95]), (13, .aload_n 0, 1, 14, []), (14, .invokevirtual 122, 3, 17, []), (17, .ifCond .ne 5, 3, 20, [22]), (20, .iconst 0, 1, 21, []), (21, .ireturn, 1, 22, []), (22, .iload_n 2, 1, 23, []), (23, .ifCond .eq 12, 3, 26, [35]), (26, .aload_n 0, 1, 27, []), (27, .getfield 12, 3, 30, []), (30, .bipush (-7), 2, 32, []), (32, .invokevirtual 125, 3, 35, []), (35, .aload_n 0, 1, 36, []), (36, .getfield 88, 3, 39, []), (39, .bipush 6, 2, 41, []), (41, .if_icmp .ne 7, 3, 44, [48]), (44, .iconst 1, 1, 45, []), (45, .goto 4, 3, 48, [49]), (48, .iconst 0, 1, 49, []), (49, .istore_n 2, 1, 50, []), (50, .iload_n 2, 1, 51, []), (51, .ifCond .ne 28, 3, 54, [79]), (54, .iload_n 1, 1, 55, []), (55, .ifCond .eq 12, 3, 58, [67]), (58, .aload_n 0, 1, 59, []), (59, .getfield 12, 3, 62, []), (62, .bipush (-6), 2, 64, []), (64, .invokevirtual 125, 3, 67, []), (67, .aload_n 0, 1, 68, []), (68, .getfield 88, 3, 71, []), (71, .iconst 5, 1, 72, []), (72, .if_icmp .eq 5, 3, 75, [77]), (75, .iconst 1, 1, 76, []), (76, .ireturn, 1, 77, []), (77, .iconst 1, 1, 78, []), (78, .istore_n 1, 1, 79, []), (79, .aload_n 0, 1, 80, []), (80, .aload_n 0, 1, 81, []), (81, .getfield 81, 3, 84, []), (84, .iconst 1, 1, 85, []), (85, .iadd, 1, 86, []), (86, .invokevirtual 50, 3, 89, []), (89, .iinc 3 1, 3, 92, []), (92, .goto (-86), 3, 95, [6]), (95, .iconst 0, 1, 96, []), (96, .ireturn, 1, 97, [])]
theorem t_X9_conditions_ok : t_X9_conditions.all (fun q => pz_wf cX9_conditions q) = true := by decide +kernel
def t_X9_condition : List pz_E := [(0, .aload_n 0, 1, 1, []), (1, .getfield 88, 3, 4, []), (4, .istore_n 1, 1, 5, []), (5, .iload_n 1, 1, 6, []), (6, .bipush 7, 2, 8, []), (8, .if_icmp .eq 9, 3, 11, [17]), (11, .iload_n 1, 1, 12, []), (12, .bipush 40, 2, 14, []), (14, .if_icmp .ne 104, 3, 17, [118]), (17, .aload_n 0, 1, 18, []), (18, .getfield 36, 3, 21, []), (21, .bipush 8, 2, 23, []), (23, .if_icmp .lt 9, 3, 26, [32]), (26, .aload_n 0, 1, 27, []), (27, .iconst 3, 1, 28, []), (28, .invokevirtual 100, 3, 31, []), (31, .ireturn, 1, 32, []), (32, .aload_n 0, 1, 33, []), (33, .dup, 1, 34, []), (34, .getfield 36, 3, 37, []), (37, .iconst 1, 1, 38, []), (38, .iadd, 1, 39, []), (39, .putfield 36, 3, 42, []), (42, .aload_n 0, 1, 43, []), (43, .aload_n 0, 1, 44, []), (44, .getfield 81, 3, 47, []), (47, .iconst 1, 1, 48, []), (48, .iadd, 1, 49, []), (49, .invokevirtual 50, 3, 52, []), (52, .iload_n 1, 1, 53, []), (53, .bipush 7, 2, 55, []), (55, .if_icmp .ne 10, 3, 58, [65]), (58, .aload_n 0, 1, 59, []), (59, .invokevirtual 122, 3, 62, []), (62, .goto 24, 3, 65, [86]), (65, .aload_n 0, 1, 66, []), (66, .invokevirtual 112, 3, 69, []), (69, .ifCond .eq 16, 3, 72, [85]), (72, .aload_n 0, 1, 73, []), (73, .bipush 41, 2, 75, []), (75, .invokevirtual 119, 3, 78, []), (78, .ifCond .eq 7, 3, 81, [85]), (81, .iconst 1, 1, 82, []), (82, .goto 4, 3, 85, [86]), (85, .iconst 0, 1, 86, []), (86, .istore_n 2, 1, 87, []), (87, .aload_n 0, 1, 88, []), (88, .dup, 1, 89, []), (89, .getfield 36, 3, 92, []), (92, .iconst 1, 1, 93, []), (93, .isub, 1, 94, []), (94, .putfield 36, 3, 97, []), (97, .iload_n 2, 1, 98, []), (98, .ifCond .eq 18, 3, 101, [116]), (101, .iload_n 1, 1, 102, []), (102, .bipush 7, 2, 104, []), (104, .if_icmp .ne 12, 3, 107, [116]), (107, .aload_n 0, 1, 108, []), (108, .getfield 12, 3, 111, []), (111, .bipush (-8), 2, 113, []), (113, .invokevirtual 125, 3, 116, []), (116, .iload_n 2, 1, 117, []), (117, .ireturn, 1, 118, []), (118, .aload_n 0, 1, 119, []), (119, .invokevirtual 109, 3, 122, []), (122, .ifCond .ne 5, 3, 125, [127]), (125, .iconst 0, 1, 126, []), (126, .ireturn, 1, 127, []), (127, .aload_n 0, 1, 128, []), (128, .getfield 88, 3, 131, []), (131, .istore_n 2, 1, 132, []), (132, .iload_n 2, 1, 133, []), (133, .bipush 60, 2, 135, []), (135, .if_icmp .eq 21, 3, 138, [156]), (138, .iload_n 2, 1, 139, []), (139, .bipush 61, 2, 141, []), (141, .if_icmp .eq 15, 3, 144, [156]), (144, .iload_n 2, 1, 145, []), (145, .bipush 62, 2, 147, []), (147, .if_icmp .eq 9, 3, 150, [156]), (150, .aload_n 0, 1, 151, []), (151, .iconst 1, 1, 152, []), (152, .invokevirtual 100, 3, 155, []), (155, .ireturn, 1, 156, []), (156, .aload_n 0, 1, 157, []), (157, .aload_n 0, 1, 158, []), (158, .getfield 81, 3, 161, []), (161, .iconst 1, 1, 162, []), (162, .iadd, 1, 163, []), (163, .invokevirtual 50, 3, 166, []), (166, .aload_n 0, 1, 167, []), (167, .invokevirtual 109, 3, 170, []), (170, .istore_n 3, 1, 171, []), (171, .aload_n 0, 1, 172, []), (172, .getfield 12, 3, 175, []), (175, .iload_n 2, 1, 176, []), (176, .iconst (-1), 1, 177, []), (177, .ixor, 1, 178, []), (178, .invokevirtual 125, 3, 181, []), (181, .iload_n 3, 1, 182, []), (182, .ireturn, 1, 183, [])]
theorem t_X9_condition_ok : t_X9_condition.all (fun q => pz_wf cX9_condition q) = true := by decide +kernel
def t_X9_sum : List pz_E := [(0, .iconst 0, 1, 1, []), (1, .istore_n 1, 1, 2, []), (2, .iconst 0, 1, 3, []), (3, .istore_n 2, 1, 4, []), (4, .iload_n 2, 1, 5, []), (5, .sipush 400, 3, 8, []), (8, .if_icmp .ge 178, 3, 11, [186]), (11, .aload_n 0, 1, 12, []), (12, .invokevirtual 128, 3, 15, []), (15, .ifCond .ne 5, 3, 18, [20]), (18, .iconst 0, 1, 19, []), (19, .ireturn, 1, 20, []), (20, .iconst 0, 1, 21, []), (21, .istore_n 3, 1, 22, []), (22, .iload_n 3, 1, 23, []), (23, .sipush 400, 3, 26, []), (26, .if_icmp .ge 105, 3, 29, [131]), (29, .aload_n 0, 1, 30, []), (30, .getfield 88, 3, 33, []), (33, .bipush 42, 2, 35, []), (35, .if_icmp .eq 12, 3, 38, [47]), (38, .aload_n 0, 1, 39, []), (39, .getfield 88, 3, 42, []), (42, .bipush 47, 2, 44, []), (44, .if_icmp .ne 87, 3, 47, [131]), (47, .aload_n 0, 1, 48, []), (48, .getfield 88, 3, 51, []), (51, .istore 4, 2, 53, []), (53, .aload_n 0, 1, 54, []), (54, .aload_n 0, 1, 55, []), (55, .getfield 81, 3, 58, []), (58, .iconst 1, 1, 59, []), (59, .iadd, 1, 60, []), (60, .invokevirtual 50, 3, 63, []), (63, .iload 4, 2, 65, []), (65, .bipush 47, 2, 67, []), (67, .if_icmp .ne 38, 3, 70, [105]), (70, .aload_n 0, 1, 71, []), (71, .getfield 88, 3, 74, []), (74, .bipush 100, 2, 76, []), (76, .if_icmp .ne 10, 3, 79, [86]), (79, .aload_n 0, 1, 80, []), (80, .getfield 94, 3, 83, []), (83, .ifCond .ne 22, 3, 86, [105]), (86, .aload_n 0, 1, 87, []), (87, .aload_n 0, 1, 88, []), (88, .getfield 88, 3, 91, []), (91, .bipush 100, 2, 93, []), (93, .if_icmp .ne 7, 3, 96, [100]), (96, .iconst 2, 1, 97, []), (97, .goto 4, 3, 100, [101]), (100, .iconst 1, 1, 101, []), (101, .invokevirtual 100, 3, 104, []), (104, .ireturn, 1, 105, []), (105, .aload_n 0, 1, 106, []), (106, .invokevirtual 128, 3, 109, []), (109, .ifCond .ne 5, 3, 112, [114]), (112, .iconst 0, 1, 113, []), (113, .ireturn, 1, 114, []), (114, .aload_n 0, 1, 115, []), (115, .getfield 12, 3, 118, []), (118, .iload 4, 2, 120, []), (120, .iconst (-1), 1, 121, []), (121, .ixor, 1, 122, []), (122, .invokevirtual 125, 3, 125, []), (125, .iinc 3 1, 3, 128, []), (128, .goto (-106), 3, 131, [22]), (131, .iload_n 1, 1, 132, []), (132, .ifCond .eq 13, 3, 135, [145]), (135, .aload_n 0, 1, 136, []), (136, .getfield 12, 3, 139, []), (139, .iload_n 1, 1, 140, []), (140, .iconst (-1), 1, 141, []), (141, .ixor, 1, 142, []), (142, .invokevirtual 125, 3, 145, []), (145, .aload_n 0, 1, 146, []), (146, .getfield 88, 3, 149, []), (149, .bipush 43, 2, 151, []), (151, .if_icmp .eq 14, 3, 154, [165]), (154, .aload_n 0, 1, 155, []), (155, .getfield 88, 3, 158, []), (158, .bipush 45, 2, 160, []), (160, .if_icmp .eq 5, 3, 163, [165]), (163, .iconst 1, 1, 164, []), (164, .ireturn, 1, 165, []), (165, .aload_n 0, 1, 166, []), (166, .getfield 88, 3, 169, []), (169, .istore_n 1, 1, 170, []), (170, .aload_n 0, 1, 171, []), (171, .aload_n 0, 1, 172, []), (172, .getfield 81, 3, 175, []), (175, .iconst 1, 1, 176, []), (176, .iadd, 1, 177, []), (177, .invokevirtual 50, 3, 180, []), (180, .iinc 2 1, 3, 183, []), (183, .goto (-179), 3, 186, [4]), (186, .iconst 0, 1, 187, []), (187, .ireturn, 1, 188, [])]
theorem t_X9_sum_ok : t_X9_sum.all (fun q => pz_wf cX9_sum q) = true := by decide +kernel
def t_X9_unit : List pz_E := [(0, .aload_n 0, 1, 1, []), (1, .getfield 88, 3, 4, []), (4, .bipush 100, 2, 6, []), (6, .if_icmp .ne 17, 3, 9, [23]), (9, .aload_n 0, 1, 10, []), (10, .getfield 12, 3, 13, []), (13, .aload_n 0, 1, 14, []), (14, .getfield 94, 3, 17, []), (17, .invokevirtual 125, 3, 20, []), (20, .goto 43, 3, 23, [63]), (23, .aload_n 0, 1, 24, []), (24, .getfield 88, 3, 27, []), (27, .bipush 8, 2, 29, []), (29, .if_icmp .lt 28, 3, 32, [57]), (32, .aload_n 0, 1, 33, []), (33, .getfield 88, 3, 36, []), (36, .bipush 16, 2, 38, []), (38, .if_icmp .gt 19, 3, 41, [57]), (41, .aload_n 0, 1, 42, []), (42, .getfield 12, 3, 45, []), (45, .aload_n 0, 1, 46, []), (46, .getfield 88, 3, 49, []), (49, .iconst (-1), 1, 50, []), (50, .ixor, 1, 51, []), (51, .invokevirtual 125, 3, 54, []), (54, .goto 9, 3, 57, [63]), (57, .aload_n 0, 1, 58, []), (58, .iconst 1, 1, 59, []), (59, .invokevirtual 100, 3, 62, []), (62, .ireturn, 1, 63, []), (63, .aload_n 0, 1, 64, []), (64, .aload_n 0, 1, 65, []), (65, .getfield 81, 3, 68, []), (68, .iconst 1, 1, 69, []), (69, .iadd, 1, 70, []), (70, .invokevirtual 50, 3, 73, []), (73, .iconst 1, 1, 74, []), (74, .ireturn, 1, 75, [])]
theorem t_X9_unit_ok : t_X9_unit.all (fun q => pz_wf cX9_unit q) = true := by decide +kernel
def t_X9_rowLines : List pz_E := [(0, .iload_n 1, 1, 1, []), (1, .iconst 1, 1, 2, []), (2, .if_icmp .ne 8, 3, 5, [10]), (5, .bipush 17, 2, 7, []), (7, .goto 15, 3, 10, [22]), (10, .iload_n 1, 1, 11, []), (11, .iconst 2, 1, 12, []), (12, .if_icmp .ne 8, 3, 15, [20]), (15, .bipush 8, 2, 17, []), (17, .goto 5, 3, 20, [22]), (20, .bipush 13, 2, 22, []), (22, .istore_n 2, 1, 23, []), (23, .aload_n 0, 1, 24, []), (24, .getfield 21, 3, 27, []), (27, .iconst 0, 1, 28, []), (28, .putfield 78, 3, 31, []), (31, .iconst 0, 1, 32, []), (32, .istore_n 3, 1, 33, []), (33, .iload_n 3, 1, 34, []), (34, .bipush 16, 2, 36, []), (36, .if_icmp .gt 100, 3, 39, [136]), (39, .aload_n 0, 1, 40, []), (40, .getfield 88, 3, 43, []), (43, .bipush 101, 2, 45, []), (45, .if_icmp .eq 91, 3, 48, [136]), (48, .aload_n 0, 1, 49, []), (49, .getfield 88, 3, 52, []), (52, .iload_n 2, 1, 53, []), (53, .if_icmp .eq 9, 3, 56, [62]), (56, .aload_n 0, 1, 57, []), (57, .iconst 1, 1, 58, []), (58, .invokevirtual 100, 3, 61, []), (61, .ireturn, 1, 62, []), (62, .iload_n 3, 1, 63, []), (63, .bipush 16, 2, 65, []), (65, .if_icmp .ne 9, 3, 68, [74]), (68, .aload_n 0, 1, 69, []), (69, .iconst 3, 1, 70, []), (70, .invokevirtual 100, 3, 73, []), (73, .ireturn, 1, 74, []), (74, .aload_n 0, 1, 75, []), (75, .aload_n 0, 1, 76, []), (76, .getfield 81, 3, 79, []), (79, .iconst 1, 1, 80, []), (80, .iadd, 1, 81, []), (81, .invokevirtual 50, 3, 84, []), (84, .iload_n 1, 1, 85, []), (85, .iconst 1, 1, 86, []), (86, .if_icmp .ne 10, 3, 89, [96]), (89, .aload_n 0, 1, 90, []), (90, .invokevirtual 131, 3, 93, []), (93, .goto 19, 3, 96, [112]), (96, .iload_n 1, 1, 97, []), (97, .iconst 2, 1, 98, []), (98, .if_icmp .ne 10, 3, 101, [108]), (101, .aload_n 0, 1, 102, []), (102, .invokevirtual 134, 3, 105, []), (105, .goto 7, 3, 108, [112]), (108, .aload_n 0, 1, 109, []), (109, .invokevirtual 137, 3, 112, []), (112, .istore 4, 2, 114, []), (114, .iload 4, 2, 116, []), (116, .ifCond .eq 12, 3, 119, [128]), (119, .aload_n 0, 1, 120, []), (120, .bipush 59, 2, 122, []), (122, .invokevirtual 119, 3, 125, []), (125, .ifCond .ne 5, 3, 128, [130]), (128, .iconst 0, 1, 129, []), (129, .ireturn, 1, 130, []), (130, .iinc 3 1, 3, 133, []), (133, .goto (-100), 3, 136, [33]), (136, .iconst 1, 1, 137, []), (137, .ireturn, 1, 138, [])]
theorem t_X9_rowLines_ok : t_X9_rowLines.all (fun q => pz_wf cX9_rowLines q) = true := by decide +kernel
def t_X9_planLine : List pz_E := [(0, .aload_n 0, 1, 1, []), (1, .iconst 0, 1, 2, []), (2, .sipush 999, 3, 5, []), (5, .invokevirtual 140, 3, 8, []), (8, .istore_n 1, 1, 9, []), (9, .iload_n 1, 1, 10, []), (10, .iconst (-1), 1, 11, []), (11, .if_icmp .ne 5, 3, 14, [16]), (14, .iconst 0, 1, 15, []), (15, .ireturn, 1, 16, []), (16, .aload_n 0, 1, 17, []), (17, .getfield 88, 3, 20, []), (20, .istore_n 2, 1, 21, []), (21, .iload_n 2, 1, 22, []), (22, .bipush 18, 2, 24, []), (24, .if_icmp .lt 9, 3, 27, [33]), (27, .iload_n 2, 1, 28, []), (28, .bipush 21, 2, 30, []), (30, .if_icmp .le 9, 3, 33, [39]), (33, .aload_n 0, 1, 34, []), (34, .iconst 1, 1, 35, []), (35, .invokevirtual 100, 3, 38, []), (38, .ireturn, 1, 39, []), (39, .aload_n 0, 1, 40, []), (40, .aload_n 0, 1, 41, []), (41, .getfield 81, 3, 44, []), (44, .iconst 1, 1, 45, []), (45, .iadd, 1, 46, []), (46, .invokevirtual 50, 3, 49, []), (49, .aload_n 0, 1, 50, []), (50, .iconst 0, 1, 51, []), (51, .aload_n 0, 1, 52, []), (52, .getfield 39, 3, 55, []), (55, .iconst 1, 1, 56, []), (56, .isub, 1, 57, []), (57, .invokevirtual 140, 3, 60, []), (60, .istore_n 3, 1, 61, []), (61, .iload_n 3, 1, 62, []), (62, .iconst (-1), 1, 63, []), (63, .if_icmp .ne 5, 3, 66, [68]), (66, .iconst 0, 1, 67, []), (67, .ireturn, 1, 68, []), (68, .iload_n 2, 1, 69, []), (69, .bipush 20, 2, 71, []), (71, .if_icmp .ne 11, 3, 74, [82]), (74, .aload_n 0, 1, 75, []), (75, .iload_n 3, 1, 76, []), (76, .invokevirtual 144, 3, 79, []), (79, .goto 4, 3, 82, [83]), (82, .iconst 0, 1, 83, []), (83, .istore 4, 2, 85, []), (85, .iload 4, 2, 87, []), (87, .iconst (-1), 1, 88, []), (88, .if_icmp .ne 5, 3, 91, [93]), (91, .iconst 0, 1, 92, []), (92, .ireturn, 1, 93, []), (93, .iload_n 2, 1, 94, []), (94, .bipush 18, 2, 96, []), (96, .if_icmp .eq 9, 3, 99, [105]), (99, .iload_n 2, 1, 100, []), (100, .bipush 20, 2, 102, []), (102, .if_icmp .ne 13, 3, 105, [115]), (105, .aload_n 0, 1, 106, []), (106, .iconst 1, 1, 107, []), (107, .bipush 99, 2, 109, []), (109, .invokevirtual 140, 3, 112, []), (112, .goto 4, 3, 115, [116]), (115, .iconst 0, 1, 116, []), (116, .istore 5, 2, 118, []), (118, .aload_n 0, 1, 119, []), (119, .getfield 21, 3, 122, []), (122, .iload_n 1, 1, 123, []), (123, .iload_n 2, 1, 124, []), (124, .iload_n 3, 1, 125, []), (125, .iload 4, 2, 127, []), (127, .iload 5, 2, 129, []), (129, .invokevirtual 148, 3, 132, []), (132, .iload 5, 2, 134, []), (134, .iconst (-1), 1, 135, []), (135, .if_icmp .eq 7, 3, 138, [142]), (138, .iconst 1, 1, 139, []), (139, .goto 4, 3, 142, [143]), (142, .iconst 0, 1, 143, []), (143, .ireturn, 1, 144, [])]
theorem t_X9_planLine_ok : t_X9_planLine.all (fun q => pz_wf cX9_planLine q) = true := by decide +kernel
def t_X9_otherLink : List pz_E := [(0, .aload_n 0, 1, 1, []), (1, .getfield 88, 3, 4, []), (4, .bipush 100, 2, 6, []), (6, .if_icmp .ne 19, 3, 9, [25]), (9, .aload_n 0, 1, 10, []), (10, .getfield 94, 3, 13, []), (13, .iload_n 1, 1, 14, []), (14, .if_icmp .ne 11, 3, 17, [25]), (17, .aload_n 0, 1, 18, []), (18, .iconst 2, 1, 19, []), (19, .invokevirtual 100, 3, 22, []), (22, .pop, 1, 23, []), (23, .iconst (-1), 1, 24, []), (24, .ireturn, 1, 25, []), (25, .aload_n 0, 1, 26, []), (26, .iconst 0, 1, 27, []), (27, .aload_n 0, 1, 28, []), (28, .getfield 39, 3, 31, []), (31, .iconst 1, 1, 32, []), (32, .isub, 1, 33, []), (33, .invokevirtual 140, 3, 36, []), (36, .ireturn, 1, 37, [])]
theorem t_X9_otherLink_ok : t_X9_otherLink.all (fun q => pz_wf cX9_otherLink q) = true := by decide +kernel
def t_X9_phoneLine : List pz_E := [(0, .aload_n 0, 1, 1, []), (1, .iconst 0, 1, 2, []), (2, .aload_n 0, 1, 3, []), (3, .getfield 39, 3, 6, []), (6, .iconst 1, 1, 7, []), (7, .isub, 1, 8, []), (8, .invokevirtual 140, 3, 11, []), (11, .istore_n 1, 1, 12, []), (12, .iload_n 1, 1, 13, []), (13, .iconst (-1), 1, 14, []), (14, .if_icmp .eq 12, 3, 17, [26]), (17, .aload_n 0, 1, 18, []), (18, .bipush 22, 2, 20, []), (20, .invokevirtual 119, 3, 23, []), (23, .ifCond .ne 5, 3, 26, [28]), (26, .iconst 0, 1, 27, []), (27, .ireturn, 1, 28, []), (28, .aload_n 0, 1, 29, []), (29, .iconst 0, 1, 30, []), (30, .sipush 240, 3, 33, []), (33, .invokevirtual 140, 3, 36, []), (36, .istore_n 2, 1, 37, []), (37, .iload_n 2, 1, 38, []), (38, .iconst (-1), 1, 39, []), (39, .if_icmp .eq 12, 3, 42, [51]), (42, .aload_n 0, 1, 43, []), (43, .bipush 23, 2, 45, []), (45, .invokevirtual 119, 3, 48, []), (48, .ifCond .ne 5, 3, 51, [53]), (51, .iconst 0, 1, 52, []), (52, .ireturn, 1, 53, []), (53, .aload_n 0, 1, 54, []), (54, .iload_n 2, 1, 55, []), (55, .iconst 1, 1, 56, []), (56, .iadd, 1, 57, []), (57, .sipush 240, 3, 60, []), (60, .invokevirtual 140, 3, 63, []), (63, .istore_n 3, 1, 64, []), (64, .aload_n 0, 1, 65, []), (65, .getfield 21, 3, 68, []), (68, .iload_n 1, 1, 69, []), (69, .iload_n 2, 1, 70, []), (70, .iload_n 3, 1, 71, []), (71, .iconst 0, 1, 72, []), (72, .iconst 0, 1, 73, []), (73, .invokevirtual 148, 3, 76, []), (76, .iload_n 3, 1, 77, []), (77, .iconst (-1), 1, 78, []), (78, .if_icmp .eq 7, 3, 81, [85]), (81, .iconst 1, 1, 82, []), (82, .goto 4, 3, 85, [86]), (85, .iconst 0, 1, 86, []), (86, .ireturn, 1, 87, [])]
theorem t_X9_phoneLine_ok : t_X9_phoneLine.all (fun q => pz_wf cX9_phoneLine q) = true := by decide +kernel
def t_X9_recordLine : List pz_E := [(0, .aload_n 0, 1, 1, []), (1, .iconst 0, 1, 2, []), (2, .sipush 999, 3, 5, []), (5, .invokevirtual 140, 3, 8, []), (8, .istore_n 1, 1, 9, []), (9, .iload_n 1, 1, 10, []), (10, .iconst (-1), 1, 11, []), (11, .if_icmp .eq 12, 3, 14, [23]), (14, .aload_n 0, 1, 15, []), (15, .bipush 8, 2, 17, []), (17, .invokevirtual 119, 3, 20, []), (20, .ifCond .ne 5, 3, 23, [25]), (23, .iconst 0, 1, 24, []), (24, .ireturn, 1, 25, []), (25, .aload_n 0, 1, 26, []), (26, .iconst 0, 1, 27, []), (27, .aload_n 0, 1, 28, []), (28, .getfield 39, 3, 31, []), (31, .iconst 1, 1, 32, []), (32, .isub, 1, 33, []), (33, .invokevirtual 140, 3, 36, []), (36, .istore_n 2, 1, 37, []), (37, .aload_n 0, 1, 38, []), (38, .getfield 21, 3, 41, []), (41, .iload_n 1, 1, 42, []), (42, .iload_n 2, 1, 43, []), (43, .iconst 0, 1, 44, []), (44, .iconst 0, 1, 45, []), (45, .iconst 0, 1, 46, []), (46, .invokevirtual 148, 3, 49, []), (49, .iload_n 2, 1, 50, []), (50, .iconst (-1), 1, 51, []), (51, .if_icmp .eq 7, 3, 54, [58]), (54, .iconst 1, 1, 55, []), (55, .goto 4, 3, 58, [59]), (58, .iconst 0, 1, 59, []), (59, .ireturn, 1, 60, [])]
theorem t_X9_recordLine_ok : t_X9_recordLine.all (fun q => pz_wf cX9_recordLine q) = true := by decide +kernel
end
section
def t_X10_take : List pz_E := [(0, .aload_n 0, 1, 1, []), (1, .getfield 12, 3, 4, []), (4, .aload_n 1, 1, 5, []), (5, .getfield 12, 3, 8, []), (8, .invokevirtual 31, 3, 11, []), (11, .aload_n 0, 1, 12, []), (12, .getfield 21, 3, 15, []), (15, .aload_n 1, 1, 16, []), (16, .getfield 21, 3, 19, []), (19, .invokevirtual 35, 3, 22, []), (22, .aload_n 0, 1, 23, []), (23, .getfield 25, 3, 26, []), (26, .aload_n 1, 1, 27, []), (27, .getfield 25, 3, 30, []), (30, .invokevirtual 35, 3, 33, []), (33, .aload_n 0, 1, 34, []), (34, .getfield 28, 3, 37, []), (37, .aload_n 1, 1, 38, []), (38, .getfield 28, 3, 41, []), (41, .invokevirtual 35, 3, 44, []), (44, .return_, 1, 45, [])]
theorem t_X10_take_ok : t_X10_take.all (fun q => pz_wf cX10_take q) = true := by decide +kernel
def t_X10_rows : List pz_E := [(0, .iload_n 1, 1, 1, []), (1, .iconst 1, 1, 2, []), (2, .if_icmp .ne 10, 3, 5, [12]), (5, .aload_n 0, 1, 6, []), (6, .getfield 21, 3, 9, []), (9, .goto 19, 3, 12, [28]), (12, .iload_n 1, 1, 13, []), (13, .iconst 2, 1, 14, []), (14, .if_icmp .ne 10, 3, 17, [24]), (17, .aload_n 0, 1, 18, []), (18, .getfield 25, 3, 21, []), (21, .goto 7, 3, 24, [28]), (24, .aload_n 0, 1, 25, []), (25, .getfield 28, 3, 28, []), (28, .areturn, 1, 29, [])]
theorem t_X10_rows_ok : t_X10_rows.all (fun q => pz_wf cX10_rows q) = true := by decide +kernel
def t_X10_phoneLine : List pz_E := [(0, .aload_n 0, 1, 1, []), (1, .getfield 25, 3, 4, []), (4, .getfield 38, 3, 7, []), (7, .iconst 1, 1, 8, []), (8, .isub, 1, 9, []), (9, .istore_n 2, 1, 10, []), (10, .iload_n 2, 1, 11, []), (11, .ifCond .lt 24, 3, 14, [35]), (14, .aload_n 0, 1, 15, []), (15, .getfield 25, 3, 18, []), (18, .iload_n 2, 1, 19, []), (19, .iconst 0, 1, 20, []), (20, .invokevirtual 42, 3, 23, []), (23, .iload_n 1, 1, 24, []), (24, .if_icmp .ne 5, 3, 27, [29]), (27, .iload_n 2, 1, 28, []), (28, .ireturn, 1, 29, []), (29, .iinc 2 (-1), 3, 32, []), (32, .goto (-22), 3, 35, [10]), (35, .iconst (-1), 1, 36, []), (36, .ireturn, 1, 37, [])]
theorem t_X10_phoneLine_ok : t_X10_phoneLine.all (fun q => pz_wf cX10_phoneLine q) = true := by decide +kernel
def t_X10_phoneFrom : List pz_E := [(0, .aload_n 0, 1, 1, []), (1, .iload_n 1, 1, 2, []), (2, .invokevirtual 46, 3, 5, []), (5, .istore_n 2, 1, 6, []), (6, .iload_n 2, 1, 7, []), (7, .iconst (-1), 1, 8, []), (8, .if_icmp .ne 7, 3, 11, [15]), (11, .iconst 0, 1, 12, []), (12, .goto 12, 3, 15, [24]), (15, .aload_n 0, 1, 16, []), (16, .getfield 25, 3, 19, []), (19, .iload_n 2, 1, 20, []), (20, .iconst 1, 1, 21, []), (21, .invokevirtual 42, 3, 24, []), (24, .ireturn, 1, 25, [])]
theorem t_X10_phoneFrom_ok : t_X10_phoneFrom.all (fun q => pz_wf cX10_phoneFrom q) = true := by decide +kernel
def t_X10_phoneTo : List pz_E := [(0, .aload_n 0, 1, 1, []), (1, .iload_n 1, 1, 2, []), (2, .invokevirtual 46, 3, 5, []), (5, .istore_n 2, 1, 6, []), (6, .iload_n 2, 1, 7, []), (7, .iconst (-1), 1, 8, []), (8, .if_icmp .ne 9, 3, 11, [17]), (11, .sipush 240, 3, 14, []), (14, .goto 12, 3, 17, [26]), (17, .aload_n 0, 1, 18, []), (18, .getfield 25, 3, 21, []), (21, .iload_n 2, 1, 22, []), (22, .iconst 2, 1, 23, []), (23, .invokevirtual 42, 3, 26, []), (26, .ireturn, 1, 27, [])]
theorem t_X10_phoneTo_ok : t_X10_phoneTo.all (fun q => pz_wf cX10_phoneTo q) = true := by decide +kernel
def t_X10_recordsOf : List pz_E := [(0, .iconst 0, 1, 1, []), (1, .istore_n 2, 1, 2, []), (2, .iconst 0, 1, 3, []), (3, .istore_n 3, 1, 4, []), (4, .iload_n 3, 1, 5, []), (5, .aload_n 0, 1, 6, []), (6, .getfield 28, 3, 9, []), (9, .getfield 38, 3, 12, []), (12, .if_icmp .ge 30, 3, 15, [42]), (15, .iload_n 2, 1, 16, []), (16, .aload_n 0, 1, 17, []), (17, .getfield 28, 3, 20, []), (20, .iload_n 3, 1, 21, []), (21, .iconst 1, 1, 22, []), (22, .invokevirtual 42, 3, 25, []), (25, .iload_n 1, 1, 26, []), (26, .if_icmp .ne 7, 3, 29, [33]), (29, .iconst 1, 1, 30, []), (30, .goto 4, 3, 33, [34]), (33, .iconst 0, 1, 34, []), (34, .iadd, 1, 35, []), (35, .istore_n 2, 1, 36, []), (36, .iinc 3 1, 3, 39, []), (39, .goto (-35), 3, 42, [4]), (42, .iload_n 2, 1, 43, []), (43, .ireturn, 1, 44, [])]
theorem t_X10_recordsOf_ok : t_X10_recordsOf.all (fun q => pz_wf cX10_recordsOf q) = true := by decide +kernel
def t_X10_writers : List pz_E := [(0, .iconst 0, 1, 1, []), (1, .istore_n 3, 1, 2, []), (2, .iconst 0, 1, 3, []), (3, .istore 4, 2, 5, []), (5, .iload 4, 2, 7, []), (7, .aload_n 0, 1, 8, []), (8, .getfield 28, 3, 11, []), (11, .getfield 38, 3, 14, []), (14, .if_icmp .ge 48, 3, 17, [62]), (17, .aload_n 0, 1, 18, []), (18, .getfield 28, 3, 21, []), (21, .iload 4, 2, 23, []), (23, .iconst 0, 1, 24, []), (24, .invokevirtual 42, 3, 27, []), (27, .istore 5, 2, 29, []), (29, .iload 5, 2, 31, []), (31, .iload_n 1, 1, 32, []), (32, .if_icmp .lt 24, 3, 35, [56]), (35, .iload 5, 2, 37, []), (37, .iload_n 2, 1, 38, []), (38, .if_icmp .gt 18, 3, 41, [56]), (41, .iload_n 3, 1, 42, []), (42, .iconst 1, 1, 43, []), (43, .aload_n 0, 1, 44, []), (44, .getfield 28, 3, 47, []), (47, .iload 4, 2, 49, []), (49, .iconst 1, 1, 50, []), (50, .invokevirtual 42, 3, 53, []), (53, .ishl, 1, 54, []), (54, .ior, 1, 55, []), (55, .istore_n 3, 1, 56, []), (56, .iinc 4 1, 3, 59, []), (59, .goto (-54), 3, 62, [5]), (62, .iload_n 3, 1, 63, []), (63, .ireturn, 1, 64, [])]
theorem t_X10_writers_ok : t_X10_writers.all (fun q => pz_wf cX10_writers q) = true := by decide +kernel
def t_X11_state : List pz_E := [(0, .aload_n 0, 1, 1, []), (1, .getfield 14, 3, 4, []), (4, .getfield 93, 3, 7, []), (7, .istore_n 2, 1, 8, []), (8, .aload_n 0, 1, 9, []), (9, .getfield 14, 3, 12, []), (12, .iload_n 1, 1, 13, []), (13, .putfield 93, 3, 16, []), (16, .aload_n 0, 1, 17, []), (17, .getfield 44, 3, 20, []), (20, .invokevirtual 97, 3, 23, []), (23, .iload_n 2, 1, 24, []), (24, .ireturn, 1, 25, [])]
theorem t_X11_state_ok : t_X11_state.all (fun q => pz_wf cX11_state q) = true := by decide +kernel
def t_X11_link : List pz_E := [(0, .aload_n 0, 1, 1, []), (1, .getfield 14, 3, 4, []), (4, .getfield 100, 3, 7, []), (7, .bipush 12, 2, 9, []), (9, .if_icmp .ge 36, 3, 12, [45]), (12, .iconst 0, 1, 13, []), (13, .iload_n 1, 1, 14, []), (14, .invokestatic 103, 3, 17, []), (17, .ifCond .eq 28, 3, 20, [45]), (20, .iconst 1, 1, 21, []), (21, .iload_n 2, 1, 22, []), (22, .invokestatic 103, 3, 25, []), (25, .ifCond .eq 20, 3, 28, [45]), (28, .iconst 2, 1, 29, []), (29, .iload_n 3, 1, 30, []), (30, .invokestatic 103, 3, 33, []), (33, .ifCond .eq 12, 3, 36, [45]), (36, .iconst 3, 1, 37, []), (37, .iload 4, 2, 39, []), (39, .invokestatic 103, 3, 42, []), (42, .ifCond .ne 5, 3, 45, [47]), (45, .iconst (-1), 1, 46, []), (46, .ireturn, 1, 47, []), (47, .aload_n 0, 1, 48, []), (48, .getfield 14, 3, 51, []), (51, .aload_n 0, 1, 52, []), (52, .getfield 14, 3, 55, []), (55, .getfield 100, 3, 58, []), (58, .invokevirtual 107, 3, 61, []), (61, .astore 5, 2, 63, []), (63, .aload 5, 2, 65, []), (65, .iload_n 1, 1, 66, []), (66, .iload_n 2, 1, 67, []), (67, .iload_n 3, 1, 68, []), (68, .iload 4, 2, 70, []), (70, .invokevirtual 111, 3, 73, []), (73, .aload_n 0, 1, 74, []), (74, .getfield 14, 3, 77, []), (77, .dup, 1, 78, []), (78, .getfield 100, 3, 81, []), (81, .iconst 1, 1, 82, []), (82, .iadd, 1, 83, []), (83, .putfield 100, 3, 86, []), (86, .aload_n 0, 1, 87, []), (87, .getfield 44, 3, 90, []), (90, .invokevirtual 97, 3, 93, []), (93, .aload_n 0, 1, 94, []), (94, .getfield 80, 3, 97, []), (97, .invokevirtual 117, 3, 100, []), (100, .aload_n 0, 1, 101, []), (101, .getfield 14, 3, 104, []), (104, .getfield 100, 3, 107, []), (107, .iconst 1, 1, 108, []), (108, .isub, 1, 109, []), (109, .ireturn, 1, 110, [])]
theorem t_X11_link_ok : t_X11_link.all (fun q => pz_wf cX11_link q) = true := by decide +kernel
def t_X11_set : List pz_E := [(0, .aload_n 0, 1, 1, []), (1, .getfield 14, 3, 4, []), (4, .iload_n 2, 1, 5, []), (5, .invokevirtual 118, 3, 8, []), (8, .ifCond .eq 11, 3, 11, [19]), (11, .iload_n 1, 1, 12, []), (12, .iload_n 3, 1, 13, []), (13, .invokestatic 103, 3, 16, []), (16, .ifCond .ne 5, 3, 19, [21]), (19, .iconst 0, 1, 20, []), (20, .ireturn, 1, 21, []), (21, .aload_n 0, 1, 22, []), (22, .getfield 14, 3, 25, []), (25, .iload_n 2, 1, 26, []), (26, .invokevirtual 107, 3, 29, []), (29, .astore 4, 2, 31, []), (31, .iload_n 1, 1, 32, []), (32, .tableswitch 68 0 3 #[32, 41, 50, 59], 32, 64, [100, 64, 73, 82, 91]), (64, .aload 4, 2, 66, []), (66, .iload_n 3, 1, 67, []), (67, .putfield 122, 3, 70, []), (70, .goto 36, 3, 73, [106]), (73, .aload 4, 2, 75, []), (75, .iload_n 3, 1, 76, []), (76, .putfield 125, 3, 79, []), (79, .goto 27, 3, 82, [106]), (82, .aload 4, 2, 84, []), (84, .iload_n 3, 1, 85, []), (85, .putfield 128, 3, 88, []), (88, .goto 18, 3, 91, [106]), (91, .aload 4, 2, 93, []), (93, .iload_n 3, 1, 94, []), (94, .putfield 131, 3, 97, []), (97, .goto 9, 3, 100, [106]), (100, .aload 4, 2, 102, []), (102, .iload_n 3, 1, 103, []), (103, .putfield 134, 3, 106, []), (106, .aload_n 0, 1, 107, []), (107, .getfield 44, 3, 110, []), (110, .invokevirtual 97, 3, 113, []), (113, .iconst 1, 1, 114, []), (114, .ireturn, 1, 115, [])]
theorem t_X11_set_ok : t_X11_set.all (fun q => pz_wf cX11_set q) = true := by decide +kernel
def t_X11_canHave : List pz_E := [(0, .iload_n 0, 1, 1, []), (1, .tableswitch 81 0 4 #[35, 44, 55, 66, 74], 35, 36, [82, 36, 45, 56, 67, 75]), (36, .iload_n 1, 1, 37, []), (37, .iconst 1, 1, 38, []), (38, .sipush 999, 3, 41, []), (41, .invokestatic 137, 3, 44, []), (44, .ireturn, 1, 45, []), (45, .iload_n 1, 1, 46, []), (46, .sipush (-9999), 3, 49, []), (49, .sipush 9999, 3, 52, []), (52, .invokestatic 137, 3, 55, []), (55, .ireturn, 1, 56, []), (56, .iload_n 1, 1, 57, []), (57, .sipush (-999), 3, 60, []), (60, .sipush 999, 3, 63, []), (63, .invokestatic 137, 3, 66, []), (66, .ireturn, 1, 67, []), (67, .iload_n 1, 1, 68, []), (68, .iconst 0, 1, 69, []), (69, .bipush 9, 2, 71, []), (71, .invokestatic 137, 3, 74, []), (74, .ireturn, 1, 75, []), (75, .iload_n 1, 1, 76, []), (76, .iconst 0, 1, 77, []), (77, .iconst 1, 1, 78, []), (78, .invokestatic 137, 3, 81, []), (81, .ireturn, 1, 82, []), (82, .iconst 0, 1, 83, []), (83, .ireturn, 1, 84, [])]
theorem t_X11_canHave_ok : t_X11_canHave.all (fun q => pz_wf cX11_canHave q) = true := by decide +kernel
def t_X11_within : List pz_E := [(0, .iload_n 0, 1, 1, []), (1, .iload_n 1, 1, 2, []), (2, .if_icmp .lt 12, 3, 5, [14]), (5, .iload_n 0, 1, 6, []), (6, .iload_n 2, 1, 7, []), (7, .if_icmp .gt 7, 3, 10, [14]), (10, .iconst 1, 1, 11, []), (11, .goto 4, 3, 14, [15]), (14, .iconst 0, 1, 15, []), (15, .ireturn, 1, 16, [])]
theorem t_X11_within_ok : t_X11_within.all (fun q => pz_wf cX11_within q) = true := by decide +kernel
def t_X11_ask : List pz_E := [(0, .aload_n 0, 1, 1, []), (1, .getfield 37, 3, 4, []), (4, .aload_n 0, 1, 5, []), (5, .getfield 14, 3, 8, []), (8, .iload_n 1, 1, 9, []), (9, .iload_n 2, 1, 10, []), (10, .invokevirtual 141, 3, 13, []), (13, .ifCond .ne 5, 3, 16, [18]), (16, .iconst (-1), 1, 17, []), (17, .ireturn, 1, 18, []), (18, .aload_n 0, 1, 19, []), (19, .getfield 44, 3, 22, []), (22, .aload_n 0, 1, 23, []), (23, .getfield 14, 3, 26, []), (26, .invokevirtual 145, 3, 29, []), (29, .aload_n 0, 1, 30, []), (30, .getfield 37, 3, 33, []), (33, .aload_n 0, 1, 34, []), (34, .getfield 14, 3, 37, []), (37, .iload_n 1, 1, 38, []), (38, .iload_n 2, 1, 39, []), (39, .invokevirtual 149, 3, 42, []), (42, .ireturn, 1, 43, [])]
theorem t_X11_ask_ok : t_X11_ask.all (fun q => pz_wf cX11_ask q) = true := by decide +kernel
def t_X11_bridge : List pz_E := [(0, .aload_n 0, 1, 1, []), (1, .getfield 14, 3, 4, []), (4, .iload_n 1, 1, 5, []), (5, .invokevirtual 153, 3, 8, []), (8, .ifCond .ne 5, 3, 11, [13]), (11, .iconst 0, 1, 12, []), (12, .ireturn, 1, 13, []), (13, .aload_n 0, 1, 14, []), (14, .getfield 44, 3, 17, []), (17, .aload_n 0, 1, 18, []), (18, .getfield 14, 3, 21, []), (21, .invokevirtual 145, 3, 24, []), (24, .aload_n 0, 1, 25, []), (25, .getfield 37, 3, 28, []), (28, .aload_n 0, 1, 29, []), (29, .getfield 14, 3, 32, []), (32, .iload_n 1, 1, 33, []), (33, .invokevirtual 156, 3, 36, []), (36, .iconst 1, 1, 37, []), (37, .ireturn, 1, 38, [])]
theorem t_X11_bridge_ok : t_X11_bridge.all (fun q => pz_wf cX11_bridge q) = true := by decide +kernel
def t_X11_pay : List pz_E := [(0, .aload_n 0, 1, 1, []), (1, .getfield 37, 3, 4, []), (4, .aload_n 0, 1, 5, []), (5, .getfield 14, 3, 8, []), (8, .iload_n 1, 1, 9, []), (9, .iload_n 2, 1, 10, []), (10, .iload_n 3, 1, 11, []), (11, .invokevirtual 160, 3, 14, []), (14, .ifCond .ne 5, 3, 17, [19]), (17, .iconst 0, 1, 18, []), (18, .ireturn, 1, 19, []), (19, .aload_n 0, 1, 20, []), (20, .getfield 44, 3, 23, []), (23, .aload_n 0, 1, 24, []), (24, .getfield 14, 3, 27, []), (27, .invokevirtual 145, 3, 30, []), (30, .aload_n 0, 1, 31, []), (31, .getfield 37, 3, 34, []), (34, .aload_n 0, 1, 35, []), (35, .getfield 14, 3, 38, []), (38, .iload_n 1, 1, 39, []), (39, .iload_n 2, 1, 40, []), (40, .iload_n 3, 1, 41, []), (41, .invokevirtual 164, 3, 44, []), (44, .iconst 1, 1, 45, []), (45, .ireturn, 1, 46, [])]
theorem t_X11_pay_ok : t_X11_pay.all (fun q => pz_wf cX11_pay q) = true := by decide +kernel
def t_X11_paper : List pz_E := [(0, .aload_n 0, 1, 1, []), (1, .getfield 37, 3, 4, []), (4, .aload_n 0, 1, 5, []), (5, .getfield 14, 3, 8, []), (8, .iload_n 1, 1, 9, []), (9, .invokevirtual 168, 3, 12, []), (12, .ifCond .ne 5, 3, 15, [17]), (15, .iconst 0, 1, 16, []), (16, .ireturn, 1, 17, []), (17, .aload_n 0, 1, 18, []), (18, .getfield 44, 3, 21, []), (21, .aload_n 0, 1, 22, []), (22, .getfield 14, 3, 25, []), (25, .invokevirtual 145, 3, 28, []), (28, .aload_n 0, 1, 29, []), (29, .getfield 37, 3, 32, []), (32, .aload_n 0, 1, 33, []), (33, .getfield 14, 3, 36, []), (36, .iload_n 1, 1, 37, []), (37, .invokevirtual 172, 3, 40, []), (40, .iconst 1, 1, 41, []), (41, .ireturn, 1, 42, [])]
theorem t_X11_paper_ok : t_X11_paper.all (fun q => pz_wf cX11_paper q) = true := by decide +kernel
def t_X11_join : List pz_E := [(0, .aload_n 0, 1, 1, []), (1, .getfield 14, 3, 4, []), (4, .iload_n 1, 1, 5, []), (5, .invokevirtual 118, 3, 8, []), (8, .ifCond .eq 17, 3, 11, [25]), (11, .aload_n 0, 1, 12, []), (12, .getfield 14, 3, 15, []), (15, .iload_n 1, 1, 16, []), (16, .invokevirtual 107, 3, 19, []), (19, .getfield 175, 3, 22, []), (22, .ifCond .ne 5, 3, 25, [27]), (25, .iconst 0, 1, 26, []), (26, .ireturn, 1, 27, []), (27, .aload_n 0, 1, 28, []), (28, .getfield 44, 3, 31, []), (31, .aload_n 0, 1, 32, []), (32, .getfield 14, 3, 35, []), (35, .invokevirtual 145, 3, 38, []), (38, .aload_n 0, 1, 39, []), (39, .getfield 37, 3, 42, []), (42, .aload_n 0, 1, 43, []), (43, .getfield 14, 3, 46, []), (46, .iload_n 1, 1, 47, []), (47, .invokevirtual 178, 3, 50, []), (50, .iconst 1, 1, 51, []), (51, .ireturn, 1, 52, [])]
theorem t_X11_join_ok : t_X11_join.all (fun q => pz_wf cX11_join q) = true := by decide +kernel
def t_X11_days : List pz_E := [(0, .iload_n 1, 1, 1, []), (1, .iconst 1, 1, 2, []), (2, .bipush 60, 2, 4, []), (4, .invokestatic 137, 3, 7, []), (7, .ifCond .eq 18, 3, 10, [25]), (10, .aload_n 0, 1, 11, []), (11, .getfield 14, 3, 14, []), (14, .getfield 181, 3, 17, []), (17, .iload_n 1, 1, 18, []), (18, .iadd, 1, 19, []), (19, .sipush 9999, 3, 22, []), (22, .if_icmp .le 5, 3, 25, [27]), (25, .iconst (-1), 1, 26, []), (26, .ireturn, 1, 27, []), (27, .iconst 0, 1, 28, []), (28, .istore_n 2, 1, 29, []), (29, .iconst 0, 1, 30, []), (30, .istore_n 3, 1, 31, []), (31, .iload_n 3, 1, 32, []), (32, .iload_n 1, 1, 33, []), (33, .if_icmp .ge 34, 3, 36, [67]), (36, .aload_n 0, 1, 37, []), (37, .getfield 44, 3, 40, []), (40, .aload_n 0, 1, 41, []), (41, .getfield 14, 3, 44, []), (44, .invokevirtual 145, 3, 47, []), (47, .iload_n 2, 1, 48, []), (48, .aload_n 0, 1, 49, []), (49, .getfield 37, 3, 52, []), (52, .aload_n 0, 1, 53, []), (53, .getfield 14, 3, 56, []), (56, .invokevirtual 184, 3, 59, []), (59, .iadd, 1, 60, []), (60, .istore_n 2, 1, 61, []), (61, .iinc 3 1, 3, 64, []), (64, .goto (-33), 3, 67, [31]), (67, .iload_n 2, 1, 68, []), (68, .ireturn, 1, 69, [])]
theorem t_X11_days_ok : t_X11_days.all (fun q => pz_wf cX11_days q) = true := by decide +kernel
def t_X11_feed : List pz_E := [(0, .aload_n 0, 1, 1, []), (1, .getfield 51, 3, 4, []), (4, .getfield 188, 3, 7, []), (7, .bipush 20, 2, 9, []), (9, .iadd, 1, 10, []), (10, .sipush 400, 3, 13, []), (13, .if_icmp .le 5, 3, 16, [18]), (16, .iconst (-1), 1, 17, []), (17, .ireturn, 1, 18, []), (18, .aload_n 0, 1, 19, []), (19, .getfield 51, 3, 22, []), (22, .iload_n 1, 1, 23, []), (23, .invokevirtual 191, 3, 26, []), (26, .aload_n 0, 1, 27, []), (27, .getfield 51, 3, 30, []), (30, .iload_n 2, 1, 31, []), (31, .invokevirtual 191, 3, 34, []), (34, .aload_n 0, 1, 35, []), (35, .getfield 51, 3, 38, []), (38, .iload_n 3, 1, 39, []), (39, .invokevirtual 191, 3, 42, []), (42, .aload_n 0, 1, 43, []), (43, .getfield 51, 3, 46, []), (46, .iload 4, 2, 48, []), (48, .invokevirtual 191, 3, 51, []), (51, .aload_n 0, 1, 52, []), (52, .getfield 51, 3, 55, []), (55, .iload 5, 2, 57, []), (57, .invokevirtual 191, 3, 60, []), (60, .aload_n 0, 1, 61, []), (61, .getfield 51, 3, 64, []), (64, .getfield 188, 3, 67, []), (67, .ireturn, 1, 68, [])]
theorem t_X11_feed_ok : t_X11_feed.all (fun q => pz_wf cX11_feed q) = true := by decide +kernel
def t_X11_end : List pz_E := [(0, .iload_n 1, 1, 1, []), (1, .iconst 0, 1, 2, []), (2, .aload_n 0, 1, 3, []), (3, .getfield 51, 3, 6, []), (6, .getfield 188, 3, 9, []), (9, .invokestatic 137, 3, 12, []), (12, .ifCond .ne 5, 3, 15, [17]), (15, .iconst 0, 1, 16, []), (16, .ireturn, 1, 17, []), (17, .aload_n 0, 1, 18, []), (18, .getfield 51, 3, 21, []), (21, .iload_n 1, 1, 22, []), (22, .putfield 188, 3, 25, []), (25, .iconst 1, 1, 26, []), (26, .ireturn, 1, 27, [])]
theorem t_X11_end_ok : t_X11_end.all (fun q => pz_wf cX11_end q) = true := by decide +kernel
def t_X11_text : List pz_E := [(0, .aload_n 0, 1, 1, []), (1, .getfield 60, 3, 4, []), (4, .iload_n 1, 1, 5, []), (5, .aload_n 0, 1, 6, []), (6, .getfield 24, 3, 9, []), (9, .aload_n 0, 1, 10, []), (10, .getfield 14, 3, 13, []), (13, .getfield 100, 3, 16, []), (16, .invokevirtual 195, 3, 19, []), (19, .istore_n 2, 1, 20, []), (20, .iload_n 2, 1, 21, []), (21, .iconst (-1), 1, 22, []), (22, .if_icmp .eq 15, 3, 25, [37]), (25, .iload_n 1, 1, 26, []), (26, .iconst 1, 1, 27, []), (27, .if_icmp .ne 10, 3, 30, [37]), (30, .aload_n 0, 1, 31, []), (31, .getfield 44, 3, 34, []), (34, .invokevirtual 97, 3, 37, []), (37, .iload_n 2, 1, 38, []), (38, .iconst (-1), 1, 39, []), (39, .if_icmp .eq 15, 3, 42, [54]), (42, .iload_n 1, 1, 43, []), (43, .iconst 2, 1, 44, []), (44, .if_icmp .ne 10, 3, 47, [54]), (47, .aload_n 0, 1, 48, []), (48, .getfield 80, 3, 51, []), (51, .invokevirtual 117, 3, 54, []), (54, .iload_n 2, 1, 55, []), (55, .ireturn, 1, 56, [])]
theorem t_X11_text_ok : t_X11_text.all (fun q => pz_wf cX11_text q) = true := by decide +kernel
def t_X11_fault : List pz_E := [(0, .iload_n 1, 1, 1, []), (1, .lookupswitch 43 #[(0, 27), (1, 35)], 27, 28, [44, 28, 36]), (28, .aload_n 0, 1, 29, []), (29, .getfield 60, 3, 32, []), (32, .getfield 199, 3, 35, []), (35, .ireturn, 1, 36, []), (36, .aload_n 0, 1, 37, []), (37, .getfield 60, 3, 40, []), (40, .getfield 202, 3, 43, []), (43, .ireturn, 1, 44, []), (44, .iconst (-1), 1, 45, []), (45, .ireturn, 1, 46, [])]
theorem t_X11_fault_ok : t_X11_fault.all (fun q => pz_wf cX11_fault q) = true := by decide +kernel
def t_X11_of : List pz_E := [(0, .aload_n 0, 1, 1, []), (1, .getfield 14, 3, 4, []), (4, .iload_n 1, 1, 5, []), (5, .invokevirtual 118, 3, 8, []), (8, .ifCond .ne 6, 3, 11, [14]), (11, .ldc 205, 2, 13, []), (13, .ireturn, 1, 14, []), (14, .aload_n 0, 1, 15, []), (15, .getfield 14, 3, 18, []), (18, .iload_n 1, 1, 19, []), (19, .invokevirtual 107, 3, 22, []), (22, .astore_n 3, 1, 23, []), (23, .iload_n 2, 1, 24, []), (24, .tableswitch 206 0 13 #[72, 77, 82, 87, 92, 97, 102, 107, 112, 129, 146, 163, 180, 197], 72, 96, [230, 96, 101, 106, 111, 116, 121, 126, 131, 136, 153, 170, 187, 204, 221]), (96, .aload_n 3, 1, 97, []), (97, .getfield 122, 3, 100, []), (100, .ireturn, 1, 101, []), (101, .aload_n 3, 1, 102, []), (102, .getfield 125, 3, 105, []), (105, .ireturn, 1, 106, []), (106, .aload_n 3, 1, 107, []), (107, .getfield 128, 3, 110, []), (110, .ireturn, 1, 111, []), (111, .aload_n 3, 1, 112, []), (112, .getfield 131, 3, 115, []), (115, .ireturn, 1, 116, []), (116, .aload_n 3, 1, 117, []), (117, .getfield 134, 3, 120, []), (120, .ireturn, 1, 121, []), (121, .aload_n 3, 1, 122, []), (122, .getfield 175, 3, 125, []), (125, .ireturn, 1, 126, []), (126, .aload_n 3, 1, 127, []), (127, .getfield 206, 3, 130, []), (130, .ireturn, 1, 131, []), (131, .aload_n 3, 1, 132, []), (132, .getfield 209, 3, 135, []), (135, .ireturn, 1, 136, []), (136, .aload_n 0, 1, 137, []), (137, .getfield 24, 3, 140, []), (140, .getfield 66, 3, 143, []), (143, .iconst 0, 1, 144, []), (144, .aload_n 0, 1, 145, []), (145, .getfield 14, 3, 148, []), (148, .iload_n 1, 1, 149, []), (149, .invokevirtual 212, 3, 152, []), (152, .ireturn, 1, 153, []), (153, .aload_n 0, 1, 154, []), (154, .getfield 24, 3, 157, []), (157, .getfield 66, 3, 160, []), (160, .iconst 1, 1, 161, []), (161, .aload_n 0, 1, 162, []), (162, .getfield 14, 3, 165, []), (165, .iload_n 1, 1, 166, []), (166, .invokevirtual 212, 3, 169, []), (169, .ireturn, 1, 170, []), (170, .aload_n 0, 1, 171, []), (171, .getfield 24, 3, 174, []), (174, .getfield 66, 3, 177, []), (177, .iconst 2, 1, 178, []), (178, .aload_n 0, 1, 179, []), (179, .getfield 14, 3, 182, []), (182, .iload_n 1, 1, 183, []), (183, .invokevirtual 212, 3, 186, []), (186, .ireturn, 1, 187, []), (187, .aload_n 0, 1, 188, []), (188, .getfield 24, 3, 191, []), (191, .getfield 66, 3, 194, []), (194, .iconst 3, 1, 195, []), (195, .aload_n 0, 1, 196, []), (196, .getfield 14, 3, 199, []), (199, .iload_n 1, 1, 200, []), (200, .invokevirtual 212, 3, 203, []), (203, .ireturn, 1, 204, []), (204, .aload_n 0, 1, 205, []), (205, .getfield 14, 3, 208, []), (208, .iload_n 1, 1, 209, []), (209, .invokevirtual 218, 3, 212, []), (212, .ifCond .eq 7, 3, 215, [219]), (215, .iconst 1, 1, 216, []), (216, .goto 4, 3, 219, [220]), (219, .iconst 0, 1, 220, []), (220, .ireturn, 1, 221, []), (221, .aload_n 0, 1, 222, []), (222, .getfield 14, 3, 225, []), (225, .iload_n 1, 1, 226, []), (226, .invokevirtual 221, 3, 229, []), (229, .ireturn, 1, 230, []), (230, .ldc 205, 2, 232, []), (232, .ireturn, 1, 233, [])]
theorem t_X11_of_ok : t_X11_of.all (fun q => pz_wf cX11_of q) = true := by decide +kernel
def t_X11_phone : List pz_E := [(0, .aload_n 0, 1, 1, []), (1, .getfield 14, 3, 4, []), (4, .iload_n 1, 1, 5, []), (5, .invokevirtual 118, 3, 8, []), (8, .ifCond .ne 5, 3, 11, [13]), (11, .iconst (-1), 1, 12, []), (12, .ireturn, 1, 13, []), (13, .iload_n 2, 1, 14, []), (14, .tableswitch 53 0 2 #[26, 35, 44], 26, 40, [67, 40, 49, 58]), (40, .aload_n 0, 1, 41, []), (41, .getfield 24, 3, 44, []), (44, .iload_n 1, 1, 45, []), (45, .invokevirtual 225, 3, 48, []), (48, .ireturn, 1, 49, []), (49, .aload_n 0, 1, 50, []), (50, .getfield 24, 3, 53, []), (53, .iload_n 1, 1, 54, []), (54, .invokevirtual 228, 3, 57, []), (57, .ireturn, 1, 58, []), (58, .aload_n 0, 1, 59, []), (59, .getfield 24, 3, 62, []), (62, .iload_n 1, 1, 63, []), (63, .invokevirtual 231, 3, 66, []), (66, .ireturn, 1, 67, []), (67, .iconst (-1), 1, 68, []), (68, .ireturn, 1, 69, [])]
theorem t_X11_phone_ok : t_X11_phone.all (fun q => pz_wf cX11_phone q) = true := by decide +kernel
def t_X11_book : List pz_E := [(0, .iload_n 1, 1, 1, []), (1, .iconst 0, 1, 2, []), (2, .aload_n 0, 1, 3, []), (3, .getfield 14, 3, 6, []), (6, .getfield 234, 3, 9, []), (9, .iconst 1, 1, 10, []), (10, .isub, 1, 11, []), (11, .invokestatic 137, 3, 14, []), (14, .ifCond .eq 12, 3, 17, [26]), (17, .iload_n 2, 1, 18, []), (18, .iconst 0, 1, 19, []), (19, .iconst 3, 1, 20, []), (20, .invokestatic 137, 3, 23, []), (23, .ifCond .ne 5, 3, 26, [28]), (26, .iconst (-1), 1, 27, []), (27, .ireturn, 1, 28, []), (28, .iload_n 1, 1, 29, []), (29, .iconst 4, 1, 30, []), (30, .imul, 1, 31, []), (31, .iload_n 2, 1, 32, []), (32, .iadd, 1, 33, []), (33, .istore_n 3, 1, 34, []), (34, .iload_n 3, 1, 35, []), (35, .aload_n 0, 1, 36, []), (36, .getfield 28, 3, 39, []), (39, .arraylength, 1, 40, []), (40, .if_icmp .ge 12, 3, 43, [52]), (43, .aload_n 0, 1, 44, []), (44, .getfield 28, 3, 47, []), (47, .iload_n 3, 1, 48, []), (48, .iaload, 1, 49, []), (49, .goto 4, 3, 52, [53]), (52, .iconst (-1), 1, 53, []), (53, .ireturn, 1, 54, [])]
theorem t_X11_book_ok : t_X11_book.all (fun q => pz_wf cX11_book q) = true := by decide +kernel
def t_X11_goes : List pz_E := [(0, .iload_n 1, 1, 1, []), (1, .iconst 1, 1, 2, []), (2, .bipush 99, 2, 4, []), (4, .invokestatic 137, 3, 7, []), (7, .ifCond .eq 12, 3, 10, [19]), (10, .iload_n 2, 1, 11, []), (11, .iconst 0, 1, 12, []), (12, .iconst 2, 1, 13, []), (13, .invokestatic 137, 3, 16, []), (16, .ifCond .ne 6, 3, 19, [22]), (19, .bipush (-2), 2, 21, []), (21, .ireturn, 1, 22, []), (22, .aload_n 0, 1, 23, []), (23, .getfield 18, 3, 26, []), (26, .aload_n 0, 1, 27, []), (27, .getfield 14, 3, 30, []), (30, .invokevirtual 237, 3, 33, []), (33, .iconst 0, 1, 34, []), (34, .istore_n 3, 1, 35, []), (35, .iload_n 3, 1, 36, []), (36, .iload_n 1, 1, 37, []), (37, .if_icmp .ge 21, 3, 40, [58]), (40, .aload_n 0, 1, 41, []), (41, .getfield 37, 3, 44, []), (44, .aload_n 0, 1, 45, []), (45, .getfield 18, 3, 48, []), (48, .invokevirtual 184, 3, 51, []), (51, .pop, 1, 52, []), (52, .iinc 3 1, 3, 55, []), (55, .goto (-20), 3, 58, [35]), (58, .iload_n 2, 1, 59, []), (59, .lookupswitch 44 #[(0, 25), (1, 36)], 25, 84, [103, 84, 95]), (84, .aload_n 0, 1, 85, []), (85, .getfield 18, 3, 88, []), (88, .invokevirtual 240, 3, 91, []), (91, .invokestatic 244, 3, 94, []), (94, .ireturn, 1, 95, []), (95, .aload_n 0, 1, 96, []), (96, .getfield 18, 3, 99, []), (99, .invokevirtual 249, 3, 102, []), (102, .ireturn, 1, 103, []), (103, .aload_n 0, 1, 104, []), (104, .getfield 18, 3, 107, []), (107, .getfield 252, 3, 110, []), (110, .ireturn, 1, 111, [])]
theorem t_X11_goes_ok : t_X11_goes.all (fun q => pz_wf cX11_goes q) = true := by decide +kernel
def t_X11_odds : List pz_E := [(0, .iload_n 1, 1, 1, []), (1, .iconst 1, 1, 2, []), (2, .bipush 60, 2, 4, []), (4, .invokestatic 137, 3, 7, []), (7, .ifCond .ne 5, 3, 10, [12]), (10, .iconst (-1), 1, 11, []), (11, .ireturn, 1, 12, []), (12, .aload_n 0, 1, 13, []), (13, .getfield 73, 3, 16, []), (16, .aload_n 0, 1, 17, []), (17, .getfield 14, 3, 20, []), (20, .iload_n 1, 1, 21, []), (21, .invokevirtual 255, 3, 24, []), (24, .aload_n 0, 1, 25, []), (25, .getfield 73, 3, 28, []), (28, .aload_n 0, 1, 29, []), (29, .getfield 14, 3, 32, []), (32, .iconst 0, 1, 33, []), (33, .aload_n 0, 1, 34, []), (34, .getfield 14, 3, 37, []), (37, .getfield 100, 3, 40, []), (40, .iconst 1, 1, 41, []), (41, .isub, 1, 42, []), (42, .invokevirtual 258, 3, 45, []), (45, .ireturn, 1, 46, [])]
theorem t_X11_odds_ok : t_X11_odds.all (fun q => pz_wf cX11_odds q) = true := by decide +kernel
def t_X11_holds : List pz_E := [(0, .iload_n 1, 1, 1, []), (1, .iconst 1, 1, 2, []), (2, .bipush 60, 2, 4, []), (4, .invokestatic 137, 3, 7, []), (7, .ifCond .eq 12, 3, 10, [19]), (10, .iload_n 2, 1, 11, []), (11, .iconst 0, 1, 12, []), (12, .iconst 1, 1, 13, []), (13, .invokestatic 137, 3, 16, []), (16, .ifCond .ne 5, 3, 19, [21]), (19, .iconst (-1), 1, 20, []), (20, .ireturn, 1, 21, []), (21, .aload_n 0, 1, 22, []), (22, .getfield 73, 3, 25, []), (25, .aload_n 0, 1, 26, []), (26, .getfield 14, 3, 29, []), (29, .iload_n 1, 1, 30, []), (30, .invokevirtual 255, 3, 33, []), (33, .aload_n 0, 1, 34, []), (34, .getfield 73, 3, 37, []), (37, .aload_n 0, 1, 38, []), (38, .getfield 14, 3, 41, []), (41, .invokevirtual 261, 3, 44, []), (44, .istore_n 3, 1, 45, []), (45, .iload_n 3, 1, 46, []), (46, .iconst (-1), 1, 47, []), (47, .if_icmp .eq 7, 3, 50, [54]), (50, .iload_n 2, 1, 51, []), (51, .ifCond .ne 7, 3, 54, [58]), (54, .iload_n 3, 1, 55, []), (55, .goto 11, 3, 58, [66]), (58, .aload_n 0, 1, 59, []), (59, .getfield 73, 3, 62, []), (62, .iload_n 3, 1, 63, []), (63, .invokevirtual 264, 3, 66, []), (66, .ireturn, 1, 67, [])]
theorem t_X11_holds_ok : t_X11_holds.all (fun q => pz_wf cX11_holds q) = true := by decide +kernel
def t_X11_many : List pz_E := [(0, .iload_n 1, 1, 1, []), (1, .iconst 0, 1, 2, []), (2, .sipush 1000, 3, 5, []), (5, .invokestatic 137, 3, 8, []), (8, .ifCond .eq 13, 3, 11, [21]), (11, .iload_n 2, 1, 12, []), (12, .iconst 1, 1, 13, []), (13, .bipush 60, 2, 15, []), (15, .invokestatic 137, 3, 18, []), (18, .ifCond .ne 5, 3, 21, [23]), (21, .iconst (-1), 1, 22, []), (22, .ireturn, 1, 23, []), (23, .iload_n 1, 1, 24, []), (24, .iload_n 2, 1, 25, []), (25, .invokestatic 267, 3, 28, []), (28, .istore_n 3, 1, 29, []), (29, .ldc_w 271, 3, 32, []), (32, .istore 4, 2, 34, []), (34, .iconst 0, 1, 35, []), (35, .istore 5, 2, 37, []), (37, .iload 5, 2, 39, []), (39, .bipush 60, 2, 41, []), (41, .if_icmp .ge 28, 3, 44, [69]), (44, .iload 4, 2, 46, []), (46, .iload_n 3, 1, 47, []), (47, .invokestatic 272, 3, 50, []), (50, .istore 4, 2, 52, []), (52, .iload 4, 2, 54, []), (54, .ldc_w 275, 3, 57, []), (57, .if_icmp .ge 6, 3, 60, [63]), (60, .iload 5, 2, 62, []), (62, .ireturn, 1, 63, []), (63, .iinc 5 1, 3, 66, []), (66, .goto (-29), 3, 69, [37]), (69, .bipush 60, 2, 71, []), (71, .ireturn, 1, 72, [])]
theorem t_X11_many_ok : t_X11_many.all (fun q => pz_wf cX11_many q) = true := by decide +kernel
def t_X11_bridges : List pz_E := [(0, .iload_n 1, 1, 1, []), (1, .iconst 1, 1, 2, []), (2, .bipush 60, 2, 4, []), (4, .invokestatic 137, 3, 7, []), (7, .ifCond .eq 23, 3, 10, [30]), (10, .iload_n 2, 1, 11, []), (11, .iconst 0, 1, 12, []), (12, .ldc_w 271, 3, 15, []), (15, .invokestatic 137, 3, 18, []), (18, .ifCond .eq 12, 3, 21, [30]), (21, .iload_n 3, 1, 22, []), (22, .iconst 0, 1, 23, []), (23, .iconst 1, 1, 24, []), (24, .invokestatic 137, 3, 27, []), (27, .ifCond .ne 5, 3, 30, [32]), (30, .iconst (-1), 1, 31, []), (31, .ireturn, 1, 32, []), (32, .aload_n 0, 1, 33, []), (33, .getfield 73, 3, 36, []), (36, .aload_n 0, 1, 37, []), (37, .getfield 14, 3, 40, []), (40, .iload_n 1, 1, 41, []), (41, .invokevirtual 255, 3, 44, []), (44, .aload_n 0, 1, 45, []), (45, .getfield 73, 3, 48, []), (48, .aload_n 0, 1, 49, []), (49, .getfield 14, 3, 52, []), (52, .iload_n 2, 1, 53, []), (53, .invokevirtual 276, 3, 56, []), (56, .istore 4, 2, 58, []), (58, .iload 4, 2, 60, []), (60, .iconst (-1), 1, 61, []), (61, .if_icmp .eq 8, 3, 64, [69]), (64, .iload_n 3, 1, 65, []), (65, .iconst 1, 1, 66, []), (66, .if_icmp .ne 8, 3, 69, [74]), (69, .iload 4, 2, 71, []), (71, .goto 18, 3, 74, [89]), (74, .iload_n 1, 1, 75, []), (75, .aload_n 0, 1, 76, []), (76, .getfield 73, 3, 79, []), (79, .aload_n 0, 1, 80, []), (80, .getfield 14, 3, 83, []), (83, .iload 4, 2, 85, []), (85, .invokevirtual 280, 3, 88, []), (88, .imul, 1, 89, []), (89, .ireturn, 1, 90, [])]
theorem t_X11_bridges_ok : t_X11_bridges.all (fun q => pz_wf cX11_bridges q) = true := by decide +kernel
def t_X11_share : List pz_E := [(0, .iload_n 1, 1, 1, []), (1, .iconst 0, 1, 2, []), (2, .sipush 9999, 3, 5, []), (5, .invokestatic 137, 3, 8, []), (8, .ifCond .eq 28, 3, 11, [36]), (11, .aload_n 0, 1, 12, []), (12, .getfield 14, 3, 15, []), (15, .iload_n 2, 1, 16, []), (16, .invokevirtual 118, 3, 19, []), (19, .ifCond .eq 17, 3, 22, [36]), (22, .aload_n 0, 1, 23, []), (23, .getfield 14, 3, 26, []), (26, .sipush 999, 3, 29, []), (29, .invokevirtual 283, 3, 32, []), (32, .iload_n 1, 1, 33, []), (33, .if_icmp .ge 5, 3, 36, [38]), (36, .iconst (-1), 1, 37, []), (37, .ireturn, 1, 38, []), (38, .aload_n 0, 1, 39, []), (39, .iload_n 1, 1, 40, []), (40, .invokevirtual 286, 3, 43, []), (43, .istore_n 3, 1, 44, []), (44, .iload_n 1, 1, 45, []), (45, .aload_n 0, 1, 46, []), (46, .getfield 14, 3, 49, []), (49, .iload_n 3, 1, 50, []), (50, .invokevirtual 283, 3, 53, []), (53, .isub, 1, 54, []), (54, .istore 4, 2, 56, []), (56, .iconst 0, 1, 57, []), (57, .istore 5, 2, 59, []), (59, .iload 5, 2, 61, []), (61, .iload_n 2, 1, 62, []), (62, .if_icmp .ge 25, 3, 65, [87]), (65, .aload_n 0, 1, 66, []), (66, .getfield 14, 3, 69, []), (69, .iload 5, 2, 71, []), (71, .invokevirtual 289, 3, 74, []), (74, .iload_n 3, 1, 75, []), (75, .if_icmp .le 6, 3, 78, [81]), (78, .iinc 4 (-1), 3, 81, []), (81, .iinc 5 1, 3, 84, []), (84, .goto (-25), 3, 87, [59]), (87, .aload_n 0, 1, 88, []), (88, .getfield 14, 3, 91, []), (91, .iload_n 2, 1, 92, []), (92, .invokevirtual 289, 3, 95, []), (95, .istore 5, 2, 97, []), (97, .iload 5, 2, 99, []), (99, .iload_n 3, 1, 100, []), (100, .if_icmp .le 14, 3, 103, [114]), (103, .iload 4, 2, 105, []), (105, .ifCond .le 9, 3, 108, [114]), (108, .iload_n 3, 1, 109, []), (109, .iconst 1, 1, 110, []), (110, .iadd, 1, 111, []), (111, .goto 9, 3, 114, [120]), (114, .iload_n 3, 1, 115, []), (115, .iload 5, 2, 117, []), (117, .invokestatic 292, 3, 120, []), (120, .ireturn, 1, 121, [])]
theorem t_X11_share_ok : t_X11_share.all (fun q => pz_wf cX11_share q) = true := by decide +kernel
def t_X11_highestLevel : List pz_E := [(0, .iconst 0, 1, 1, []), (1, .istore_n 2, 1, 2, []), (2, .sipush 999, 3, 5, []), (5, .istore_n 3, 1, 6, []), (6, .iconst 0, 1, 7, []), (7, .istore 4, 2, 9, []), (9, .iload 4, 2, 11, []), (11, .sipush 999, 3, 14, []), (14, .if_icmp .ge 47, 3, 17, [61]), (17, .iload_n 2, 1, 18, []), (18, .iload_n 3, 1, 19, []), (19, .if_icmp .ge 42, 3, 22, [61]), (22, .iload_n 2, 1, 23, []), (23, .iload_n 3, 1, 24, []), (24, .iadd, 1, 25, []), (25, .iconst 1, 1, 26, []), (26, .iadd, 1, 27, []), (27, .iconst 2, 1, 28, []), (28, .idiv, 1, 29, []), (29, .istore 5, 2, 31, []), (31, .aload_n 0, 1, 32, []), (32, .getfield 14, 3, 35, []), (35, .iload 5, 2, 37, []), (37, .invokevirtual 283, 3, 40, []), (40, .iload_n 1, 1, 41, []), (41, .if_icmp .gt 9, 3, 44, [50]), (44, .iload 5, 2, 46, []), (46, .istore_n 2, 1, 47, []), (47, .goto 8, 3, 50, [55]), (50, .iload 5, 2, 52, []), (52, .iconst 1, 1, 53, []), (53, .isub, 1, 54, []), (54, .istore_n 3, 1, 55, []), (55, .iinc 4 1, 3, 58, []), (58, .goto (-49), 3, 61, [9]), (61, .iload_n 2, 1, 62, []), (62, .ireturn, 1, 63, [])]
theorem t_X11_highestLevel_ok : t_X11_highestLevel.all (fun q => pz_wf cX11_highestLevel q) = true := by decide +kernel
def t_X11_along : List pz_E := [(0, .aload_n 0, 1, 1, []), (1, .getfield 14, 3, 4, []), (4, .iload_n 1, 1, 5, []), (5, .invokevirtual 118, 3, 8, []), (8, .ifCond .eq 23, 3, 11, [31]), (11, .iload_n 2, 1, 12, []), (12, .iconst 0, 1, 13, []), (13, .sipush 999, 3, 16, []), (16, .invokestatic 137, 3, 19, []), (19, .ifCond .eq 12, 3, 22, [31]), (22, .iload_n 3, 1, 23, []), (23, .iconst 0, 1, 24, []), (24, .iconst 1, 1, 25, []), (25, .invokestatic 137, 3, 28, []), (28, .ifCond .ne 5, 3, 31, [33]), (31, .iconst (-1), 1, 32, []), (32, .ireturn, 1, 33, []), (33, .iload_n 2, 1, 34, []), (34, .istore 4, 2, 36, []), (36, .iconst 0, 1, 37, []), (37, .istore 5, 2, 39, []), (39, .iload_n 1, 1, 40, []), (40, .istore 6, 2, 42, []), (42, .iload 6, 2, 44, []), (44, .aload_n 0, 1, 45, []), (45, .getfield 14, 3, 48, []), (48, .getfield 100, 3, 51, []), (51, .if_icmp .ge 70, 3, 54, [121]), (54, .aload_n 0, 1, 55, []), (55, .getfield 14, 3, 58, []), (58, .iload 6, 2, 60, []), (60, .invokevirtual 107, 3, 63, []), (63, .invokevirtual 297, 3, 66, []), (66, .ifCond .eq 49, 3, 69, [115]), (69, .iload 4, 2, 71, []), (71, .aload_n 0, 1, 72, []), (72, .getfield 24, 3, 75, []), (75, .getfield 66, 3, 78, []), (78, .iconst 2, 1, 79, []), (79, .aload_n 0, 1, 80, []), (80, .getfield 14, 3, 83, []), (83, .iload 6, 2, 85, []), (85, .invokevirtual 212, 3, 88, []), (88, .invokestatic 292, 3, 91, []), (91, .istore 7, 2, 93, []), (93, .iload 4, 2, 95, []), (95, .iload 7, 2, 97, []), (97, .isub, 1, 98, []), (98, .istore 4, 2, 100, []), (100, .iload 5, 2, 102, []), (102, .iload 7, 2, 104, []), (104, .ifCond .le 7, 3, 107, [111]), (107, .iconst 1, 1, 108, []), (108, .goto 4, 3, 111, [112]), (111, .iconst 0, 1, 112, []), (112, .iadd, 1, 113, []), (113, .istore 5, 2, 115, []), (115, .iinc 6 1, 3, 118, []), (118, .goto (-76), 3, 121, [42]), (121, .iload_n 3, 1, 122, []), (122, .ifCond .ne 8, 3, 125, [130]), (125, .iload 4, 2, 127, []), (127, .goto 5, 3, 130, [132]), (130, .iload 5, 2, 132, []), (132, .ireturn, 1, 133, [])]
theorem t_X11_along_ok : t_X11_along.all (fun q => pz_wf cX11_along q) = true := by decide +kernel
def t_X11_choice : List pz_E := [(0, .aload_n 0, 1, 1, []), (1, .getfield 14, 3, 4, []), (4, .iload_n 1, 1, 5, []), (5, .invokevirtual 118, 3, 8, []), (8, .ifCond .eq 35, 3, 11, [43]), (11, .iload_n 2, 1, 12, []), (12, .iconst 0, 1, 13, []), (13, .sipush 999, 3, 16, []), (16, .invokestatic 137, 3, 19, []), (19, .ifCond .eq 24, 3, 22, [43]), (22, .iload_n 3, 1, 23, []), (23, .iconst 0, 1, 24, []), (24, .sipush 1000, 3, 27, []), (27, .invokestatic 137, 3, 30, []), (30, .ifCond .eq 13, 3, 33, [43]), (33, .iload 4, 2, 35, []), (35, .iconst 0, 1, 36, []), (36, .iconst 1, 1, 37, []), (37, .invokestatic 137, 3, 40, []), (40, .ifCond .ne 6, 3, 43, [46]), (43, .ldc 205, 2, 45, []), (45, .ireturn, 1, 46, []), (46, .aload_n 0, 1, 47, []), (47, .getfield 14, 3, 50, []), (50, .iload_n 1, 1, 51, []), (51, .invokevirtual 107, 3, 54, []), (54, .getfield 128, 3, 57, []), (57, .istore 5, 2, 59, []), (59, .iload 5, 2, 61, []), (61, .iload_n 2, 1, 62, []), (62, .isub, 1, 63, []), (63, .istore 6, 2, 65, []), (65, .iconst 0, 1, 66, []), (66, .istore 7, 2, 68, []), (68, .iload_n 3, 1, 69, []), (69, .iload 5, 2, 71, []), (71, .imul, 1, 72, []), (72, .sipush 1000, 3, 75, []), (75, .iload_n 3, 1, 76, []), (76, .isub, 1, 77, []), (77, .iload 5, 2, 79, []), (79, .iload_n 2, 1, 80, []), (80, .isub, 1, 81, []), (81, .iconst 0, 1, 82, []), (82, .invokestatic 301, 3, 85, []), (85, .imul, 1, 86, []), (86, .iadd, 1, 87, []), (87, .sipush 1000, 3, 90, []), (90, .invokestatic 304, 3, 93, []), (93, .aload_n 0, 1, 94, []), (94, .getfield 24, 3, 97, []), (97, .getfield 66, 3, 100, []), (100, .iconst 3, 1, 101, []), (101, .aload_n 0, 1, 102, []), (102, .getfield 14, 3, 105, []), (105, .iload_n 1, 1, 106, []), (106, .invokevirtual 212, 3, 109, []), (109, .isub, 1, 110, []), (110, .istore 8, 2, 112, []), (112, .iload 8, 2, 114, []), (114, .iload 6, 2, 116, []), (116, .if_icmp .le 10, 3, 119, [126]), (119, .iload 8, 2, 121, []), (121, .istore 6, 2, 123, []), (123, .iconst 1, 1, 124, []), (124, .istore 7, 2, 126, []), (126, .iload 6, 2, 128, []), (128, .ifCond .ge 9, 3, 131, [137]), (131, .iconst 0, 1, 132, []), (132, .istore 6, 2, 134, []), (134, .iconst 2, 1, 135, []), (135, .istore 7, 2, 137, []), (137, .iload 4, 2, 139, []), (139, .ifCond .ne 8, 3, 142, [147]), (142, .iload 7, 2, 144, []), (144, .goto 5, 3, 147, [149]), (147, .iload 6, 2, 149, []), (149, .ireturn, 1, 150, [])]
theorem t_X11_choice_ok : t_X11_choice.all (fun q => pz_wf cX11_choice q) = true := by decide +kernel
def t_X11_bluff : List pz_E := [(0, .iload_n 1, 1, 1, []), (1, .iconst 0, 1, 2, []), (2, .sipush 1000, 3, 5, []), (5, .invokestatic 137, 3, 8, []), (8, .ifCond .eq 25, 3, 11, [33]), (11, .iload_n 2, 1, 12, []), (12, .iconst 0, 1, 13, []), (13, .sipush 1000, 3, 16, []), (16, .invokestatic 137, 3, 19, []), (19, .ifCond .eq 14, 3, 22, [33]), (22, .iload_n 3, 1, 23, []), (23, .iconst 0, 1, 24, []), (24, .sipush 1000, 3, 27, []), (27, .invokestatic 137, 3, 30, []), (30, .ifCond .ne 5, 3, 33, [35]), (33, .iconst (-1), 1, 34, []), (34, .ireturn, 1, 35, []), (35, .iload_n 1, 1, 36, []), (36, .iload_n 2, 1, 37, []), (37, .imul, 1, 38, []), (38, .istore 4, 2, 40, []), (40, .iload 4, 2, 42, []), (42, .sipush 1000, 3, 45, []), (45, .iload_n 1, 1, 46, []), (46, .isub, 1, 47, []), (47, .iload_n 3, 1, 48, []), (48, .imul, 1, 49, []), (49, .iadd, 1, 50, []), (50, .istore 5, 2, 52, []), (52, .iload 5, 2, 54, []), (54, .ifCond .le 18, 3, 57, [72]), (57, .iload 4, 2, 59, []), (59, .i2l, 1, 60, []), (60, .ldc2_w 307, 3, 63, []), (63, .lmul, 1, 64, []), (64, .iload 5, 2, 66, []), (66, .i2l, 1, 67, []), (67, .ldiv, 1, 68, []), (68, .l2i, 1, 69, []), (69, .goto 4, 3, 72, [73]), (72, .iconst (-1), 1, 73, []), (73, .ireturn, 1, 74, [])]
theorem t_X11_bluff_ok : t_X11_bluff.all (fun q => pz_wf cX11_bluff q) = true := by decide +kernel
def t_X11_signs : List pz_E := [(0, .aload_n 0, 1, 1, []), (1, .getfield 80, 3, 4, []), (4, .aload_n 0, 1, 5, []), (5, .getfield 14, 3, 8, []), (8, .getfield 100, 3, 11, []), (11, .aload_n 0, 1, 12, []), (12, .getfield 24, 3, 15, []), (15, .invokevirtual 309, 3, 18, []), (18, .iload_n 1, 1, 19, []), (19, .iconst 1, 1, 20, []), (20, .if_icmp .ne 11, 3, 23, [31]), (23, .aload_n 0, 1, 24, []), (24, .getfield 80, 3, 27, []), (27, .getfield 313, 3, 30, []), (30, .ireturn, 1, 31, []), (31, .iload_n 1, 1, 32, []), (32, .ifCond .ne 11, 3, 35, [43]), (35, .aload_n 0, 1, 36, []), (36, .getfield 80, 3, 39, []), (39, .getfield 316, 3, 42, []), (42, .ireturn, 1, 43, []), (43, .iload_n 1, 1, 44, []), (44, .bipush 10, 2, 46, []), (46, .bipush 21, 2, 48, []), (48, .invokestatic 137, 3, 51, []), (51, .ifCond .eq 17, 3, 54, [68]), (54, .aload_n 0, 1, 55, []), (55, .getfield 80, 3, 58, []), (58, .iload_n 1, 1, 59, []), (59, .bipush 10, 2, 61, []), (61, .isub, 1, 62, []), (62, .invokevirtual 319, 3, 65, []), (65, .goto 4, 3, 68, [69]), (68, .iconst (-1), 1, 69, []), (69, .ireturn, 1, 70, [])]
theorem t_X11_signs_ok : t_X11_signs.all (fun q => pz_wf cX11_signs q) = true := by decide +kernel
def t_X11_money : List pz_E := [(0, .iload_n 1, 1, 1, []), (1, .iconst 0, 1, 2, []), (2, .sipush 600, 3, 5, []), (5, .invokestatic 137, 3, 8, []), (8, .ifCond .eq 14, 3, 11, [22]), (11, .iload_n 2, 1, 12, []), (12, .iconst 0, 1, 13, []), (13, .sipush 600, 3, 16, []), (16, .invokestatic 137, 3, 19, []), (19, .ifCond .ne 5, 3, 22, [24]), (22, .iconst (-1), 1, 23, []), (23, .ireturn, 1, 24, []), (24, .iconst (-1), 1, 25, []), (25, .istore_n 3, 1, 26, []), (26, .iload_n 1, 1, 27, []), (27, .istore 4, 2, 29, []), (29, .iconst 0, 1, 30, []), (30, .istore 5, 2, 32, []), (32, .iload 5, 2, 34, []), (34, .aload_n 0, 1, 35, []), (35, .getfield 14, 3, 38, []), (38, .getfield 100, 3, 41, []), (41, .if_icmp .ge 38, 3, 44, [79]), (44, .iload 4, 2, 46, []), (46, .bipush 10, 2, 48, []), (48, .aload_n 0, 1, 49, []), (49, .getfield 14, 3, 52, []), (52, .iload 5, 2, 54, []), (54, .invokevirtual 107, 3, 57, []), (57, .getfield 131, 3, 60, []), (60, .iadd, 1, 61, []), (61, .iadd, 1, 62, []), (62, .istore 4, 2, 64, []), (64, .iload 4, 2, 66, []), (66, .iload_n 2, 1, 67, []), (67, .if_icmp .gt 6, 3, 70, [73]), (70, .iload 5, 2, 72, []), (72, .istore_n 3, 1, 73, []), (73, .iinc 5 1, 3, 76, []), (76, .goto (-44), 3, 79, [32]), (79, .iload_n 3, 1, 80, []), (80, .ireturn, 1, 81, [])]
theorem t_X11_money_ok : t_X11_money.all (fun q => pz_wf cX11_money q) = true := by decide +kernel
def t_X11_ill : List pz_E := [(0, .iload_n 1, 1, 1, []), (1, .iconst 0, 1, 2, []), (2, .sipush 999, 3, 5, []), (5, .invokestatic 137, 3, 8, []), (8, .ifCond .eq 13, 3, 11, [21]), (11, .iload_n 2, 1, 12, []), (12, .iconst 1, 1, 13, []), (13, .bipush 30, 2, 15, []), (15, .invokestatic 137, 3, 18, []), (18, .ifCond .ne 5, 3, 21, [23]), (21, .iconst (-1), 1, 22, []), (22, .ireturn, 1, 23, []), (23, .aload_n 0, 1, 24, []), (24, .getfield 14, 3, 27, []), (27, .invokevirtual 322, 3, 30, []), (30, .aload_n 0, 1, 31, []), (31, .getfield 24, 3, 34, []), (34, .iload_n 1, 1, 35, []), (35, .iload_n 1, 1, 36, []), (36, .iload_n 2, 1, 37, []), (37, .iadd, 1, 38, []), (38, .iconst 1, 1, 39, []), (39, .isub, 1, 40, []), (40, .invokevirtual 325, 3, 43, []), (43, .iconst (-1), 1, 44, []), (44, .ixor, 1, 45, []), (45, .iand, 1, 46, []), (46, .ireturn, 1, 47, [])]
theorem t_X11_ill_ok : t_X11_ill.all (fun q => pz_wf cX11_ill q) = true := by decide +kernel
def t_X11_wrote : List pz_E := [(0, .aload_n 0, 1, 1, []), (1, .getfield 14, 3, 4, []), (4, .getfield 100, 3, 7, []), (7, .iconst 2, 1, 8, []), (8, .if_icmp .ge 5, 3, 11, [13]), (11, .iconst (-1), 1, 12, []), (12, .ireturn, 1, 13, []), (13, .iconst (-1), 1, 14, []), (14, .istore_n 1, 1, 15, []), (15, .bipush 13, 2, 17, []), (17, .istore_n 2, 1, 18, []), (18, .iconst 0, 1, 19, []), (19, .istore_n 3, 1, 20, []), (20, .iconst 0, 1, 21, []), (21, .istore 4, 2, 23, []), (23, .iload 4, 2, 25, []), (25, .bipush 99, 2, 27, []), (27, .if_icmp .gt 66, 3, 30, [93]), (30, .iload_n 3, 1, 31, []), (31, .aload_n 0, 1, 32, []), (32, .getfield 24, 3, 35, []), (35, .iload 4, 2, 37, []), (37, .iload 4, 2, 39, []), (39, .invokevirtual 325, 3, 42, []), (42, .ior, 1, 43, []), (43, .istore_n 3, 1, 44, []), (44, .iload_n 3, 1, 45, []), (45, .aload_n 0, 1, 46, []), (46, .getfield 14, 3, 49, []), (49, .invokevirtual 322, 3, 52, []), (52, .iand, 1, 53, []), (53, .invokestatic 244, 3, 56, []), (56, .istore 5, 2, 58, []), (58, .iload 5, 2, 60, []), (60, .aload_n 0, 1, 61, []), (61, .getfield 14, 3, 64, []), (64, .getfield 100, 3, 67, []), (67, .iload 5, 2, 69, []), (69, .isub, 1, 70, []), (70, .invokestatic 301, 3, 73, []), (73, .istore 6, 2, 75, []), (75, .iload 6, 2, 77, []), (77, .iload_n 2, 1, 78, []), (78, .if_icmp .ge 9, 3, 81, [87]), (81, .iload 6, 2, 83, []), (83, .istore_n 2, 1, 84, []), (84, .iload 4, 2, 86, []), (86, .istore_n 1, 1, 87, []), (87, .iinc 4 1, 3, 90, []), (90, .goto (-67), 3, 93, [23]), (93, .iload_n 1, 1, 94, []), (94, .ireturn, 1, 95, [])]
theorem t_X11_wrote_ok : t_X11_wrote.all (fun q => pz_wf cX11_wrote q) = true := by decide +kernel
def t_X11_slowest : List pz_E := [(0, .iconst (-1), 1, 1, []), (1, .istore_n 1, 1, 2, []), (2, .iconst 0, 1, 3, []), (3, .istore_n 2, 1, 4, []), (4, .iconst 0, 1, 5, []), (5, .istore_n 3, 1, 6, []), (6, .iload_n 3, 1, 7, []), (7, .aload_n 0, 1, 8, []), (8, .getfield 14, 3, 11, []), (11, .getfield 100, 3, 14, []), (14, .if_icmp .ge 58, 3, 17, [72]), (17, .aload_n 0, 1, 18, []), (18, .getfield 14, 3, 21, []), (21, .iload_n 3, 1, 22, []), (22, .invokevirtual 107, 3, 25, []), (25, .getfield 209, 3, 28, []), (28, .iconst (-1), 1, 29, []), (29, .if_icmp .ne 37, 3, 32, [66]), (32, .aload_n 0, 1, 33, []), (33, .getfield 24, 3, 36, []), (36, .getfield 66, 3, 39, []), (39, .iconst 0, 1, 40, []), (40, .aload_n 0, 1, 41, []), (41, .getfield 14, 3, 44, []), (44, .iload_n 3, 1, 45, []), (45, .invokevirtual 212, 3, 48, []), (48, .istore 4, 2, 50, []), (50, .iload_n 1, 1, 51, []), (51, .iconst (-1), 1, 52, []), (52, .if_icmp .eq 9, 3, 55, [61]), (55, .iload 4, 2, 57, []), (57, .iload_n 2, 1, 58, []), (58, .if_icmp .ge 8, 3, 61, [66]), (61, .iload_n 3, 1, 62, []), (62, .istore_n 1, 1, 63, []), (63, .iload 4, 2, 65, []), (65, .istore_n 2, 1, 66, []), (66, .iinc 3 1, 3, 69, []), (69, .goto (-63), 3, 72, [6]), (72, .iload_n 1, 1, 73, []), (73, .ireturn, 1, 74, [])]
theorem t_X11_slowest_ok : t_X11_slowest.all (fun q => pz_wf cX11_slowest q) = true := by decide +kernel
def t_X11_game : List pz_E := [(0, .iload_n 1, 1, 1, []), (1, .iconst 0, 1, 2, []), (2, .iconst 1, 1, 3, []), (3, .invokestatic 137, 3, 6, []), (6, .ifCond .ne 5, 3, 9, [11]), (9, .iconst (-1), 1, 10, []), (10, .ireturn, 1, 11, []), (11, .iconst 0, 1, 12, []), (12, .istore_n 2, 1, 13, []), (13, .iconst 0, 1, 14, []), (14, .istore_n 3, 1, 15, []), (15, .iload_n 3, 1, 16, []), (16, .aload_n 0, 1, 17, []), (17, .getfield 14, 3, 20, []), (20, .getfield 100, 3, 23, []), (23, .if_icmp .ge 19, 3, 26, [42]), (26, .iload_n 2, 1, 27, []), (27, .aload_n 0, 1, 28, []), (28, .iload_n 3, 1, 29, []), (29, .invokevirtual 328, 3, 32, []), (32, .iconst 3, 1, 33, []), (33, .iand, 1, 34, []), (34, .ixor, 1, 35, []), (35, .istore_n 2, 1, 36, []), (36, .iinc 3 1, 3, 39, []), (39, .goto (-24), 3, 42, [15]), (42, .iconst 0, 1, 43, []), (43, .istore_n 3, 1, 44, []), (44, .iload_n 3, 1, 45, []), (45, .aload_n 0, 1, 46, []), (46, .getfield 14, 3, 49, []), (49, .getfield 100, 3, 52, []), (52, .if_icmp .ge 66, 3, 55, [118]), (55, .iconst 1, 1, 56, []), (56, .istore 4, 2, 58, []), (58, .iload 4, 2, 60, []), (60, .iconst 3, 1, 61, []), (61, .aload_n 0, 1, 62, []), (62, .iload_n 3, 1, 63, []), (63, .invokevirtual 328, 3, 66, []), (66, .invokestatic 292, 3, 69, []), (69, .if_icmp .gt 43, 3, 72, [112]), (72, .iload_n 2, 1, 73, []), (73, .aload_n 0, 1, 74, []), (74, .iload_n 3, 1, 75, []), (75, .invokevirtual 328, 3, 78, []), (78, .iconst 3, 1, 79, []), (79, .iand, 1, 80, []), (80, .ixor, 1, 81, []), (81, .aload_n 0, 1, 82, []), (82, .iload_n 3, 1, 83, []), (83, .invokevirtual 328, 3, 86, []), (86, .iload 4, 2, 88, []), (88, .isub, 1, 89, []), (89, .iconst 3, 1, 90, []), (90, .iand, 1, 91, []), (91, .ixor, 1, 92, []), (92, .ifCond .ne 14, 3, 95, [106]), (95, .iload_n 1, 1, 96, []), (96, .ifCond .ne 7, 3, 99, [103]), (99, .iload_n 3, 1, 100, []), (100, .goto 5, 3, 103, [105]), (103, .iload 4, 2, 105, []), (105, .ireturn, 1, 106, []), (106, .iinc 4 1, 3, 109, []), (109, .goto (-51), 3, 112, [58]), (112, .iinc 3 1, 3, 115, []), (115, .goto (-71), 3, 118, [44]), (118, .iconst (-1), 1, 119, []), (119, .ireturn, 1, 120, [])]
theorem t_X11_game_ok : t_X11_game.all (fun q => pz_wf cX11_game q) = true := by decide +kernel
def t_X11_heap : List pz_E := [(0, .aload_n 0, 1, 1, []), (1, .getfield 14, 3, 4, []), (4, .iload_n 1, 1, 5, []), (5, .invokevirtual 107, 3, 8, []), (8, .astore_n 2, 1, 9, []), (9, .aload_n 2, 1, 10, []), (10, .getfield 209, 3, 13, []), (13, .iconst (-1), 1, 14, []), (14, .if_icmp .ne 10, 3, 17, [24]), (17, .aload_n 2, 1, 18, []), (18, .getfield 131, 3, 21, []), (21, .goto 4, 3, 24, [25]), (24, .iconst 0, 1, 25, []), (25, .ireturn, 1, 26, [])]
theorem t_X11_heap_ok : t_X11_heap.all (fun q => pz_wf cX11_heap q) = true := by decide +kernel
def t_X11_soon : List pz_E := [(0, .iload_n 1, 1, 1, []), (1, .iconst 0, 1, 2, []), (2, .ldc_w 271, 3, 5, []), (5, .invokestatic 137, 3, 8, []), (8, .ifCond .ne 5, 3, 11, [13]), (11, .iconst (-1), 1, 12, []), (12, .ireturn, 1, 13, []), (13, .aload_n 0, 1, 14, []), (14, .getfield 73, 3, 17, []), (17, .aload_n 0, 1, 18, []), (18, .getfield 14, 3, 21, []), (21, .iconst 0, 1, 22, []), (22, .invokevirtual 255, 3, 25, []), (25, .iconst 1, 1, 26, []), (26, .istore_n 2, 1, 27, []), (27, .iload_n 2, 1, 28, []), (28, .bipush 60, 2, 30, []), (30, .if_icmp .gt 47, 3, 33, [77]), (33, .aload_n 0, 1, 34, []), (34, .getfield 73, 3, 37, []), (37, .aload_n 0, 1, 38, []), (38, .getfield 14, 3, 41, []), (41, .invokevirtual 331, 3, 44, []), (44, .aload_n 0, 1, 45, []), (45, .getfield 73, 3, 48, []), (48, .aload_n 0, 1, 49, []), (49, .getfield 14, 3, 52, []), (52, .iconst 0, 1, 53, []), (53, .aload_n 0, 1, 54, []), (54, .getfield 14, 3, 57, []), (57, .getfield 100, 3, 60, []), (60, .iconst 1, 1, 61, []), (61, .isub, 1, 62, []), (62, .invokevirtual 258, 3, 65, []), (65, .iload_n 1, 1, 66, []), (66, .if_icmp .lt 5, 3, 69, [71]), (69, .iload_n 2, 1, 70, []), (70, .ireturn, 1, 71, []), (71, .iinc 2 1, 3, 74, []), (74, .goto (-47), 3, 77, [27]), (77, .iconst (-1), 1, 78, []), (78, .ireturn, 1, 79, [])]
theorem t_X11_soon_ok : t_X11_soon.all (fun q => pz_wf cX11_soon q) = true := by decide +kernel
def t_X11_hurry : List pz_E := [(0, .iload_n 1, 1, 1, []), (1, .iconst 1, 1, 2, []), (2, .bipush 60, 2, 4, []), (4, .invokestatic 137, 3, 7, []), (7, .ifCond .eq 12, 3, 10, [19]), (10, .iload_n 2, 1, 11, []), (11, .iconst 0, 1, 12, []), (12, .iconst 1, 1, 13, []), (13, .invokestatic 137, 3, 16, []), (16, .ifCond .ne 5, 3, 19, [21]), (19, .iconst (-1), 1, 20, []), (20, .ireturn, 1, 21, []), (21, .iconst (-1), 1, 22, []), (22, .istore_n 3, 1, 23, []), (23, .iconst (-1), 1, 24, []), (24, .istore 4, 2, 26, []), (26, .aload_n 0, 1, 27, []), (27, .getfield 73, 3, 30, []), (30, .aload_n 0, 1, 31, []), (31, .getfield 14, 3, 34, []), (34, .iload_n 1, 1, 35, []), (35, .invokevirtual 255, 3, 38, []), (38, .iconst 0, 1, 39, []), (39, .istore 5, 2, 41, []), (41, .iload 5, 2, 43, []), (43, .aload_n 0, 1, 44, []), (44, .getfield 14, 3, 47, []), (47, .getfield 100, 3, 50, []), (50, .if_icmp .ge 39, 3, 53, [89]), (53, .aload_n 0, 1, 54, []), (54, .getfield 73, 3, 57, []), (57, .aload_n 0, 1, 58, []), (58, .getfield 14, 3, 61, []), (61, .iload 5, 2, 63, []), (63, .iload_n 1, 1, 64, []), (64, .invokevirtual 334, 3, 67, []), (67, .istore 6, 2, 69, []), (69, .iload 6, 2, 71, []), (71, .iload 4, 2, 73, []), (73, .if_icmp .le 10, 3, 76, [83]), (76, .iload 6, 2, 78, []), (78, .istore 4, 2, 80, []), (80, .iload 5, 2, 82, []), (82, .istore_n 3, 1, 83, []), (83, .iinc 5 1, 3, 86, []), (86, .goto (-45), 3, 89, [41]), (89, .iload_n 2, 1, 90, []), (90, .ifCond .ne 7, 3, 93, [97]), (93, .iload_n 3, 1, 94, []), (94, .goto 5, 3, 97, [99]), (97, .iload 4, 2, 99, []), (99, .ireturn, 1, 100, [])]
theorem t_X11_hurry_ok : t_X11_hurry.all (fun q => pz_wf cX11_hurry q) = true := by decide +kernel
def t_X11_split : List pz_E := [(0, .iload_n 1, 1, 1, []), (1, .iconst 1, 1, 2, []), (2, .bipush 60, 2, 4, []), (4, .invokestatic 137, 3, 7, []), (7, .ifCond .eq 12, 3, 10, [19]), (10, .iload_n 2, 1, 11, []), (11, .iconst 0, 1, 12, []), (12, .iconst 1, 1, 13, []), (13, .invokestatic 137, 3, 16, []), (16, .ifCond .ne 5, 3, 19, [21]), (19, .iconst (-1), 1, 20, []), (20, .ireturn, 1, 21, []), (21, .iconst (-1), 1, 22, []), (22, .istore_n 3, 1, 23, []), (23, .iconst (-1), 1, 24, []), (24, .istore 4, 2, 26, []), (26, .aload_n 0, 1, 27, []), (27, .getfield 14, 3, 30, []), (30, .invokevirtual 337, 3, 33, []), (33, .istore 5, 2, 35, []), (35, .aload_n 0, 1, 36, []), (36, .getfield 73, 3, 39, []), (39, .aload_n 0, 1, 40, []), (40, .getfield 14, 3, 43, []), (43, .iload_n 1, 1, 44, []), (44, .invokevirtual 255, 3, 47, []), (47, .aload_n 0, 1, 48, []), (48, .getfield 73, 3, 51, []), (51, .aload_n 0, 1, 52, []), (52, .getfield 14, 3, 55, []), (55, .invokevirtual 340, 3, 58, []), (58, .iconst 0, 1, 59, []), (59, .istore 6, 2, 61, []), (61, .iload 6, 2, 63, []), (63, .aload_n 0, 1, 64, []), (64, .getfield 14, 3, 67, []), (67, .getfield 100, 3, 70, []), (70, .if_icmp .ge 55, 3, 73, [125]), (73, .aload_n 0, 1, 74, []), (74, .getfield 14, 3, 77, []), (77, .iload 6, 2, 79, []), (79, .invokevirtual 153, 3, 82, []), (82, .ifCond .eq 37, 3, 85, [119]), (85, .aload_n 0, 1, 86, []), (86, .getfield 73, 3, 89, []), (89, .aload_n 0, 1, 90, []), (90, .getfield 14, 3, 93, []), (93, .iload 5, 2, 95, []), (95, .iconst 1, 1, 96, []), (96, .iload 6, 2, 98, []), (98, .ishl, 1, 99, []), (99, .ior, 1, 100, []), (100, .invokevirtual 343, 3, 103, []), (103, .istore 7, 2, 105, []), (105, .iload 7, 2, 107, []), (107, .iload 4, 2, 109, []), (109, .if_icmp .le 10, 3, 112, [119]), (112, .iload 7, 2, 114, []), (114, .istore 4, 2, 116, []), (116, .iload 6, 2, 118, []), (118, .istore_n 3, 1, 119, []), (119, .iinc 6 1, 3, 122, []), (122, .goto (-61), 3, 125, [61]), (125, .iload_n 2, 1, 126, []), (126, .ifCond .ne 7, 3, 129, [133]), (129, .iload_n 3, 1, 130, []), (130, .goto 5, 3, 133, [135]), (133, .iload 4, 2, 135, []), (135, .ireturn, 1, 136, [])]
theorem t_X11_split_ok : t_X11_split.all (fun q => pz_wf cX11_split q) = true := by decide +kernel
def t_X11_gap : List pz_E := [(0, .aload_n 0, 1, 1, []), (1, .getfield 14, 3, 4, []), (4, .iload_n 1, 1, 5, []), (5, .invokevirtual 118, 3, 8, []), (8, .ifCond .eq 14, 3, 11, [22]), (11, .aload_n 0, 1, 12, []), (12, .getfield 14, 3, 15, []), (15, .iload_n 1, 1, 16, []), (16, .invokevirtual 346, 3, 19, []), (19, .goto 4, 3, 22, [23]), (22, .iconst (-1), 1, 23, []), (23, .ireturn, 1, 24, [])]
theorem t_X11_gap_ok : t_X11_gap.all (fun q => pz_wf cX11_gap q) = true := by decide +kernel
def t_X11_runs : List pz_E := [(0, .iconst 0, 1, 1, []), (1, .istore_n 2, 1, 2, []), (2, .iconst (-1), 1, 3, []), (3, .istore_n 3, 1, 4, []), (4, .iconst (-1), 1, 5, []), (5, .istore 4, 2, 7, []), (7, .iconst 0, 1, 8, []), (8, .istore 5, 2, 10, []), (10, .iconst 0, 1, 11, []), (11, .istore 6, 2, 13, []), (13, .iload 6, 2, 15, []), (15, .aload_n 0, 1, 16, []), (16, .getfield 14, 3, 19, []), (19, .getfield 100, 3, 22, []), (22, .if_icmp .ge 114, 3, 25, [136]), (25, .aload_n 0, 1, 26, []), (26, .getfield 14, 3, 29, []), (29, .iload 6, 2, 31, []), (31, .invokevirtual 107, 3, 34, []), (34, .astore 7, 2, 36, []), (36, .aload 7, 2, 38, []), (38, .invokevirtual 297, 3, 41, []), (41, .ifCond .eq 19, 3, 44, [60]), (44, .aload_n 0, 1, 45, []), (45, .getfield 14, 3, 48, []), (48, .iload 6, 2, 50, []), (50, .invokevirtual 218, 3, 53, []), (53, .ifCond .eq 7, 3, 56, [60]), (56, .iconst 1, 1, 57, []), (57, .goto 4, 3, 60, [61]), (60, .iconst 0, 1, 61, []), (61, .istore 8, 2, 63, []), (63, .iload 8, 2, 65, []), (65, .ifCond .eq 10, 3, 68, [75]), (68, .iload 5, 2, 70, []), (70, .iconst 1, 1, 71, []), (71, .iadd, 1, 72, []), (72, .goto 4, 3, 75, [76]), (75, .iconst 0, 1, 76, []), (76, .istore 5, 2, 78, []), (78, .iload 5, 2, 80, []), (80, .iload_n 2, 1, 81, []), (81, .if_icmp .le 14, 3, 84, [95]), (84, .iload 5, 2, 86, []), (86, .istore_n 2, 1, 87, []), (87, .iload 6, 2, 89, []), (89, .iload 5, 2, 91, []), (91, .isub, 1, 92, []), (92, .iconst 1, 1, 93, []), (93, .iadd, 1, 94, []), (94, .istore_n 3, 1, 95, []), (95, .iload 8, 2, 97, []), (97, .ifCond .eq 33, 3, 100, [130]), (100, .iload 4, 2, 102, []), (102, .iconst (-1), 1, 103, []), (103, .if_icmp .eq 23, 3, 106, [126]), (106, .aload 7, 2, 108, []), (108, .getfield 125, 3, 111, []), (111, .aload_n 0, 1, 112, []), (112, .getfield 14, 3, 115, []), (115, .iload 4, 2, 117, []), (117, .invokevirtual 107, 3, 120, []), (120, .getfield 125, 3, 123, []), (123, .if_icmp .ge 7, 3, 126, [130]), (126, .iload 6, 2, 128, []), (128, .istore 4, 2, 130, []), (130, .iinc 6 1, 3, 133, []), (133, .goto (-120), 3, 136, [13]), (136, .iload_n 1, 1, 137, []), (137, .tableswitch 34 0 2 #[27, 29, 31], 27, 164, [171, 164, 166, 168]), (164, .iload_n 2, 1, 165, []), (165, .ireturn, 1, 166, []), (166, .iload_n 3, 1, 167, []), (167, .ireturn, 1, 168, []), (168, .iload 4, 2, 170, []), (170, .ireturn, 1, 171, []), (171, .iconst (-1), 1, 172, []), (172, .ireturn, 1, 173, [])]
theorem t_X11_runs_ok : t_X11_runs.all (fun q => pz_wf cX11_runs q) = true := by decide +kernel
def t_X11_undo : List pz_E := [(0, .aload_n 0, 1, 1, []), (1, .getfield 44, 3, 4, []), (4, .aload_n 0, 1, 5, []), (5, .getfield 14, 3, 8, []), (8, .invokevirtual 349, 3, 11, []), (11, .ireturn, 1, 12, [])]
theorem t_X11_undo_ok : t_X11_undo.all (fun q => pz_wf cX11_undo q) = true := by decide +kernel
def t_X11_image : List pz_E := [(0, .iload_n 1, 1, 1, []), (1, .ifCond .eq 50, 3, 4, [51]), (4, .aload_n 0, 1, 5, []), (5, .getfield 84, 3, 8, []), (8, .aload_n 0, 1, 9, []), (9, .getfield 14, 3, 12, []), (12, .invokevirtual 237, 3, 15, []), (15, .aload_n 0, 1, 16, []), (16, .getfield 87, 3, 19, []), (19, .aload_n 0, 1, 20, []), (20, .getfield 24, 3, 23, []), (23, .invokevirtual 353, 3, 26, []), (26, .aload_n 0, 1, 27, []), (27, .getfield 28, 3, 30, []), (30, .iconst 0, 1, 31, []), (31, .aload_n 0, 1, 32, []), (32, .getfield 90, 3, 35, []), (35, .iconst 0, 1, 36, []), (36, .aload_n 0, 1, 37, []), (37, .getfield 28, 3, 40, []), (40, .arraylength, 1, 41, []), (41, .invokestatic 356, 3, 44, []), (44, .aload_n 0, 1, 45, []), (45, .iconst 1, 1, 46, []), (46, .putfield 362, 3, 49, []), (49, .iconst 1, 1, 50, []), (50, .ireturn, 1, 51, []), (51, .aload_n 0, 1, 52, []), (52, .getfield 362, 3, 55, []), (55, .ifCond .ne 5, 3, 58, [60]), (58, .iconst 0, 1, 59, []), (59, .ireturn, 1, 60, []), (60, .aload_n 0, 1, 61, []), (61, .getfield 14, 3, 64, []), (64, .aload_n 0, 1, 65, []), (65, .getfield 84, 3, 68, []), (68, .invokevirtual 237, 3, 71, []), (71, .aload_n 0, 1, 72, []), (72, .getfield 24, 3, 75, []), (75, .aload_n 0, 1, 76, []), (76, .getfield 87, 3, 79, []), (79, .invokevirtual 353, 3, 82, []), (82, .aload_n 0, 1, 83, []), (83, .getfield 90, 3, 86, []), (86, .iconst 0, 1, 87, []), (87, .aload_n 0, 1, 88, []), (88, .getfield 28, 3, 91, []), (91, .iconst 0, 1, 92, []), (92, .aload_n 0, 1, 93, []), (93, .getfield 28, 3, 96, []), (96, .arraylength, 1, 97, []), (97, .invokestatic 356, 3, 100, []), (100, .aload_n 0, 1, 101, []), (101, .getfield 44, 3, 104, []), (104, .invokevirtual 97, 3, 107, []), (107, .aload_n 0, 1, 108, []), (108, .getfield 80, 3, 111, []), (111, .invokevirtual 117, 3, 114, []), (114, .iconst 1, 1, 115, []), (115, .ireturn, 1, 116, [])]
theorem t_X11_image_ok : t_X11_image.all (fun q => pz_wf cX11_image q) = true := by decide +kernel
def t_X11_look : List pz_E := [(0, .iload_n 1, 1, 1, []), (1, .tableswitch 183 0 12 #[67, 75, 83, 91, 99, 107, 115, 123, 131, 142, 153, 164, 175], 67, 68, [184, 68, 76, 84, 92, 100, 108, 116, 124, 132, 143, 154, 165, 176]), (68, .aload_n 0, 1, 69, []), (69, .getfield 14, 3, 72, []), (72, .getfield 100, 3, 75, []), (75, .ireturn, 1, 76, []), (76, .aload_n 0, 1, 77, []), (77, .getfield 14, 3, 80, []), (80, .getfield 181, 3, 83, []), (83, .ireturn, 1, 84, []), (84, .aload_n 0, 1, 85, []), (85, .getfield 14, 3, 88, []), (88, .getfield 252, 3, 91, []), (91, .ireturn, 1, 92, []), (92, .aload_n 0, 1, 93, []), (93, .getfield 14, 3, 96, []), (96, .invokevirtual 240, 3, 99, []), (99, .ireturn, 1, 100, []), (100, .aload_n 0, 1, 101, []), (101, .getfield 14, 3, 104, []), (104, .invokevirtual 337, 3, 107, []), (107, .ireturn, 1, 108, []), (108, .aload_n 0, 1, 109, []), (109, .getfield 14, 3, 112, []), (112, .invokevirtual 366, 3, 115, []), (115, .ireturn, 1, 116, []), (116, .aload_n 0, 1, 117, []), (117, .getfield 14, 3, 120, []), (120, .getfield 234, 3, 123, []), (123, .ireturn, 1, 124, []), (124, .aload_n 0, 1, 125, []), (125, .getfield 14, 3, 128, []), (128, .getfield 93, 3, 131, []), (131, .ireturn, 1, 132, []), (132, .aload_n 0, 1, 133, []), (133, .getfield 24, 3, 136, []), (136, .getfield 66, 3, 139, []), (139, .getfield 369, 3, 142, []), (142, .ireturn, 1, 143, []), (143, .aload_n 0, 1, 144, []), (144, .getfield 24, 3, 147, []), (147, .getfield 372, 3, 150, []), (150, .getfield 375, 3, 153, []), (153, .ireturn, 1, 154, []), (154, .aload_n 0, 1, 155, []), (155, .getfield 24, 3, 158, []), (158, .getfield 378, 3, 161, []), (161, .getfield 375, 3, 164, []), (164, .ireturn, 1, 165, []), (165, .aload_n 0, 1, 166, []), (166, .getfield 24, 3, 169, []), (169, .getfield 381, 3, 172, []), (172, .getfield 375, 3, 175, []), (175, .ireturn, 1, 176, []), (176, .aload_n 0, 1, 177, []), (177, .getfield 44, 3, 180, []), (180, .getfield 384, 3, 183, []), (183, .ireturn, 1, 184, []), (184, .iconst (-1), 1, 185, []), (185, .ireturn, 1, 186, [])]
theorem t_X11_look_ok : t_X11_look.all (fun q => pz_wf cX11_look q) = true := by decide +kernel
def t_X12_isIn : List pz_E := [(0, .iload_n 0, 1, 1, []), (1, .iload_n 1, 1, 2, []), (2, .if_icmp .lt 12, 3, 5, [14]), (5, .iload_n 0, 1, 6, []), (6, .iload_n 2, 1, 7, []), (7, .if_icmp .gt 7, 3, 10, [14]), (10, .iconst 1, 1, 11, []), (11, .goto 4, 3, 14, [15]), (14, .iconst 0, 1, 15, []), (15, .ireturn, 1, 16, [])]
theorem t_X12_isIn_ok : t_X12_isIn.all (fun q => pz_wf cX12_isIn q) = true := by decide +kernel
def t_X12_lesser : List pz_E := [(0, .iload_n 0, 1, 1, []), (1, .iload_n 1, 1, 2, []), (2, .if_icmp .ge 7, 3, 5, [9]), (5, .iload_n 0, 1, 6, []), (6, .goto 4, 3, 9, [10]), (9, .iload_n 1, 1, 10, []), (10, .ireturn, 1, 11, [])]
theorem t_X12_lesser_ok : t_X12_lesser.all (fun q => pz_wf cX12_lesser q) = true := by decide +kernel
def t_X12_greater : List pz_E := [(0, .iload_n 0, 1, 1, []), (1, .iload_n 1, 1, 2, []), (2, .if_icmp .le 7, 3, 5, [9]), (5, .iload_n 0, 1, 6, []), (6, .goto 4, 3, 9, [10]), (9, .iload_n 1, 1, 10, []), (10, .ireturn, 1, 11, [])]
theorem t_X12_greater_ok : t_X12_greater.all (fun q => pz_wf cX12_greater q) = true := by decide +kernel
def t_X12_held : List pz_E := [(0, .iload_n 1, 1, 1, []), (1, .iload_n 2, 1, 2, []), (2, .iload_n 0, 1, 3, []), (3, .invokestatic 47, 3, 6, []), (6, .invokestatic 51, 3, 9, []), (9, .ireturn, 1, 10, [])]
theorem t_X12_held_ok : t_X12_held.all (fun q => pz_wf cX12_held q) = true := by decide +kernel
def t_X12_isLink : List pz_E := [(0, .iload_n 1, 1, 1, []), (1, .iconst 0, 1, 2, []), (2, .aload_n 0, 1, 3, []), (3, .getfield 7, 3, 6, []), (6, .bipush 88, 2, 8, []), (8, .iaload, 1, 9, []), (9, .iconst 1, 1, 10, []), (10, .isub, 1, 11, []), (11, .invokestatic 54, 3, 14, []), (14, .ireturn, 1, 15, [])]
theorem t_X12_isLink_ok : t_X12_isLink.all (fun q => pz_wf cX12_isLink q) = true := by decide +kernel
def t_X12_isReady : List pz_E := [(0, .aload_n 0, 1, 1, []), (1, .getfield 7, 3, 4, []), (4, .bipush 40, 2, 6, []), (6, .iload_n 1, 1, 7, []), (7, .iadd, 1, 8, []), (8, .iaload, 1, 9, []), (9, .iconst 1, 1, 10, []), (10, .if_icmp .ne 7, 3, 13, [17]), (13, .iconst 1, 1, 14, []), (14, .goto 4, 3, 17, [18]), (17, .iconst 0, 1, 18, []), (18, .ireturn, 1, 19, [])]
theorem t_X12_isReady_ok : t_X12_isReady.all (fun q => pz_wf cX12_isReady q) = true := by decide +kernel
def t_X12_isOut : List pz_E := [(0, .aload_n 0, 1, 1, []), (1, .getfield 7, 3, 4, []), (4, .bipush 52, 2, 6, []), (6, .iload_n 1, 1, 7, []), (7, .iadd, 1, 8, []), (8, .iaload, 1, 9, []), (9, .iconst 1, 1, 10, []), (10, .if_icmp .ne 7, 3, 13, [17]), (13, .iconst 1, 1, 14, []), (14, .goto 4, 3, 17, [18]), (17, .iconst 0, 1, 18, []), (18, .ireturn, 1, 19, [])]
theorem t_X12_isOut_ok : t_X12_isOut.all (fun q => pz_wf cX12_isOut q) = true := by decide +kernel
def t_X12_isBridged : List pz_E := [(0, .aload_n 0, 1, 1, []), (1, .getfield 7, 3, 4, []), (4, .bipush 64, 2, 6, []), (6, .iload_n 1, 1, 7, []), (7, .iadd, 1, 8, []), (8, .iaload, 1, 9, []), (9, .iconst 1, 1, 10, []), (10, .if_icmp .ne 7, 3, 13, [17]), (13, .iconst 1, 1, 14, []), (14, .goto 4, 3, 17, [18]), (17, .iconst 0, 1, 18, []), (18, .ireturn, 1, 19, [])]
theorem t_X12_isBridged_ok : t_X12_isBridged.all (fun q => pz_wf cX12_isBridged q) = true := by decide +kernel
def t_X12_hasMoved : List pz_E := [(0, .aload_n 0, 1, 1, []), (1, .getfield 7, 3, 4, []), (4, .bipush 76, 2, 6, []), (6, .iload_n 1, 1, 7, []), (7, .iadd, 1, 8, []), (8, .iaload, 1, 9, []), (9, .iconst (-1), 1, 10, []), (10, .if_icmp .eq 7, 3, 13, [17]), (13, .iconst 1, 1, 14, []), (14, .goto 4, 3, 17, [18]), (17, .iconst 0, 1, 18, []), (18, .ireturn, 1, 19, [])]
theorem t_X12_hasMoved_ok : t_X12_hasMoved.all (fun q => pz_wf cX12_hasMoved q) = true := by decide +kernel
def t_X12_isThere : List pz_E := [(0, .aload_n 0, 1, 1, []), (1, .iload_n 1, 1, 2, []), (2, .invokevirtual 58, 3, 5, []), (5, .ifCond .eq 23, 3, 8, [28]), (8, .aload_n 0, 1, 9, []), (9, .iload_n 1, 1, 10, []), (10, .invokevirtual 62, 3, 13, []), (13, .ifCond .ne 15, 3, 16, [28]), (16, .aload_n 0, 1, 17, []), (17, .iload_n 1, 1, 18, []), (18, .invokevirtual 65, 3, 21, []), (21, .ifCond .ne 7, 3, 24, [28]), (24, .iconst 1, 1, 25, []), (25, .goto 4, 3, 28, [29]), (28, .iconst 0, 1, 29, []), (29, .ireturn, 1, 30, [])]
theorem t_X12_isThere_ok : t_X12_isThere.all (fun q => pz_wf cX12_isThere q) = true := by decide +kernel
def t_X12_count : List pz_E := [(0, .iconst 0, 1, 1, []), (1, .istore_n 1, 1, 2, []), (2, .iconst 0, 1, 3, []), (3, .istore_n 2, 1, 4, []), (4, .iload_n 2, 1, 5, []), (5, .bipush 12, 2, 7, []), (7, .if_icmp .ge 17, 3, 10, [24]), (10, .iload_n 1, 1, 11, []), (11, .iload_n 0, 1, 12, []), (12, .iload_n 2, 1, 13, []), (13, .ishr, 1, 14, []), (14, .iconst 1, 1, 15, []), (15, .iand, 1, 16, []), (16, .iadd, 1, 17, []), (17, .istore_n 1, 1, 18, []), (18, .iinc 2 1, 3, 21, []), (21, .goto (-17), 3, 24, [4]), (24, .iload_n 1, 1, 25, []), (25, .ireturn, 1, 26, [])]
theorem t_X12_count_ok : t_X12_count.all (fun q => pz_wf cX12_count q) = true := by decide +kernel
def t_X12_forgets : List pz_E := [(0, .aload_n 0, 1, 1, []), (1, .iconst 0, 1, 2, []), (2, .putfield 68, 3, 5, []), (5, .return_, 1, 6, [])]
theorem t_X12_forgets_ok : t_X12_forgets.all (fun q => pz_wf cX12_forgets q) = true := by decide +kernel
def t_X12_state : List pz_E := [(0, .aload_n 0, 1, 1, []), (1, .getfield 7, 3, 4, []), (4, .iconst 2, 1, 5, []), (5, .iaload, 1, 6, []), (6, .istore_n 2, 1, 7, []), (7, .aload_n 0, 1, 8, []), (8, .getfield 7, 3, 11, []), (11, .iconst 2, 1, 12, []), (12, .iload_n 1, 1, 13, []), (13, .iastore, 1, 14, []), (14, .aload_n 0, 1, 15, []), (15, .invokevirtual 71, 3, 18, []), (18, .iload_n 2, 1, 19, []), (19, .ireturn, 1, 20, [])]
theorem t_X12_state_ok : t_X12_state.all (fun q => pz_wf cX12_state q) = true := by decide +kernel
def t_X12_draw : List pz_E := [(0, .aload_n 0, 1, 1, []), (1, .getfield 7, 3, 4, []), (4, .iconst 2, 1, 5, []), (5, .ldc 74, 2, 7, []), (7, .aload_n 0, 1, 8, []), (8, .getfield 7, 3, 11, []), (11, .iconst 2, 1, 12, []), (12, .iaload, 1, 13, []), (13, .imul, 1, 14, []), (14, .ldc 75, 2, 16, []), (16, .iadd, 1, 17, []), (17, .iastore, 1, 18, []), (18, .aload_n 0, 1, 19, []), (19, .getfield 7, 3, 22, []), (22, .iconst 2, 1, 23, []), (23, .iaload, 1, 24, []), (24, .bipush 8, 2, 26, []), (26, .iushr, 1, 27, []), (27, .iload_n 1, 1, 28, []), (28, .irem, 1, 29, []), (29, .ireturn, 1, 30, [])]
theorem t_X12_draw_ok : t_X12_draw.all (fun q => pz_wf cX12_draw q) = true := by decide +kernel
def t_X12_link : List pz_E := [(0, .iload_n 1, 1, 1, []), (1, .iconst 1, 1, 2, []), (2, .sipush 999, 3, 5, []), (5, .invokestatic 54, 3, 8, []), (8, .ifCond .eq 52, 3, 11, [60]), (11, .iload_n 2, 1, 12, []), (12, .sipush (-9999), 3, 15, []), (15, .sipush 9999, 3, 18, []), (18, .invokestatic 54, 3, 21, []), (21, .ifCond .eq 39, 3, 24, [60]), (24, .iload_n 3, 1, 25, []), (25, .sipush (-999), 3, 28, []), (28, .sipush 999, 3, 31, []), (31, .invokestatic 54, 3, 34, []), (34, .ifCond .eq 26, 3, 37, [60]), (37, .iload 4, 2, 39, []), (39, .iconst 0, 1, 40, []), (40, .bipush 9, 2, 42, []), (42, .invokestatic 54, 3, 45, []), (45, .ifCond .eq 15, 3, 48, [60]), (48, .aload_n 0, 1, 49, []), (49, .getfield 7, 3, 52, []), (52, .bipush 88, 2, 54, []), (54, .iaload, 1, 55, []), (55, .bipush 12, 2, 57, []), (57, .if_icmp .ne 5, 3, 60, [62]), (60, .iconst (-1), 1, 61, []), (61, .ireturn, 1, 62, []), (62, .aload_n 0, 1, 63, []), (63, .getfield 7, 3, 66, []), (66, .bipush 88, 2, 68, []), (68, .iaload, 1, 69, []), (69, .istore 5, 2, 71, []), (71, .aload_n 0, 1, 72, []), (72, .getfield 7, 3, 75, []), (75, .iconst 4, 1, 76, []), (76, .iload 5, 2, 78, []), (78, .iadd, 1, 79, []), (79, .iload_n 1, 1, 80, []), (80, .iastore, 1, 81, []), (81, .aload_n 0, 1, 82, []), (82, .getfield 7, 3, 85, []), (85, .bipush 16, 2, 87, []), (87, .iload 5, 2, 89, []), (89, .iadd, 1, 90, []), (90, .iload_n 2, 1, 91, []), (91, .iastore, 1, 92, []), (92, .aload_n 0, 1, 93, []), (93, .getfield 7, 3, 96, []), (96, .bipush 28, 2, 98, []), (98, .iload 5, 2, 100, []), (100, .iadd, 1, 101, []), (101, .iload_n 3, 1, 102, []), (102, .iastore, 1, 103, []), (103, .aload_n 0, 1, 104, []), (104, .getfield 7, 3, 107, []), (107, .bipush 93, 2, 109, []), (109, .iload 5, 2, 111, []), (111, .iadd, 1, 112, []), (112, .iload 4, 2, 114, []), (114, .iastore, 1, 115, []), (115, .aload_n 0, 1, 116, []), (116, .getfield 7, 3, 119, []), (119, .bipush 40, 2, 121, []), (121, .iload 5, 2, 123, []), (123, .iadd, 1, 124, []), (124, .iconst 0, 1, 125, []), (125, .iastore, 1, 126, []), (126, .aload_n 0, 1, 127, []), (127, .getfield 7, 3, 130, []), (130, .bipush 52, 2, 132, []), (132, .iload 5, 2, 134, []), (134, .iadd, 1, 135, []), (135, .iconst 0, 1, 136, []), (136, .iastore, 1, 137, []), (137, .aload_n 0, 1, 138, []), (138, .getfield 7, 3, 141, []), (141, .bipush 64, 2, 143, []), (143, .iload 5, 2, 145, []), (145, .iadd, 1, 146, []), (146, .iconst 0, 1, 147, []), (147, .iastore, 1, 148, []), (148, .aload_n 0, 1, 149, []), (149, .getfield 7, 3, 152, []), (152, .bipush 76, 2, 154, []), (154, .iload 5, 2, 156, []), (156, .iadd, 1, 157, []), (157, .iconst (-1), 1, 158, []), (158, .iastore, 1, 159, []), (159, .aload_n 0, 1, 160, []), (160, .getfield 7, 3, 163, []), (163, .bipush 105, 2, 165, []), (165, .iconst 2, 1, 166, []), (166, .iload 5, 2, 168, []), (168, .imul, 1, 169, []), (169, .iadd, 1, 170, []), (170, .iconst 0, 1, 171, []), (171, .iastore, 1, 172, []), (172, .aload_n 0, 1, 173, []), (173, .getfield 7, 3, 176, []), (176, .bipush 105, 2, 178, []), (178, .iconst 2, 1, 179, []), (179, .iload 5, 2, 181, []), (181, .imul, 1, 182, []), (182, .iadd, 1, 183, []), (183, .iconst 1, 1, 184, []), (184, .iadd, 1, 185, []), (185, .sipush 240, 3, 188, []), (188, .iastore, 1, 189, []), (189, .aload_n 0, 1, 190, []), (190, .getfield 7, 3, 193, []), (193, .bipush 88, 2, 195, []), (195, .dup2, 1, 196, []), (196, .iaload, 1, 197, []), (197, .iconst 1, 1, 198, []), (198, .iadd, 1, 199, []), (199, .iastore, 1, 200, []), (200, .aload_n 0, 1, 201, []), (201, .invokevirtual 71, 3, 204, []), (204, .iload 5, 2, 206, []), (206, .ireturn, 1, 207, [])]
theorem t_X12_link_ok : t_X12_link.all (fun q => pz_wf cX12_link q) = true := by decide +kernel
def t_X12_canBe : List pz_E := [(0, .iload_n 0, 1, 1, []), (1, .tableswitch 81 0 4 #[35, 44, 55, 66, 74], 35, 36, [82, 36, 45, 56, 67, 75]), (36, .iload_n 1, 1, 37, []), (37, .iconst 1, 1, 38, []), (38, .sipush 999, 3, 41, []), (41, .invokestatic 54, 3, 44, []), (44, .ireturn, 1, 45, []), (45, .iload_n 1, 1, 46, []), (46, .sipush (-9999), 3, 49, []), (49, .sipush 9999, 3, 52, []), (52, .invokestatic 54, 3, 55, []), (55, .ireturn, 1, 56, []), (56, .iload_n 1, 1, 57, []), (57, .sipush (-999), 3, 60, []), (60, .sipush 999, 3, 63, []), (63, .invokestatic 54, 3, 66, []), (66, .ireturn, 1, 67, []), (67, .iload_n 1, 1, 68, []), (68, .iconst 0, 1, 69, []), (69, .bipush 9, 2, 71, []), (71, .invokestatic 54, 3, 74, []), (74, .ireturn, 1, 75, []), (75, .iload_n 1, 1, 76, []), (76, .iconst 0, 1, 77, []), (77, .iconst 1, 1, 78, []), (78, .invokestatic 54, 3, 81, []), (81, .ireturn, 1, 82, []), (82, .iconst 0, 1, 83, []), (83, .ireturn, 1, 84, [])]
theorem t_X12_canBe_ok : t_X12_canBe.all (fun q => pz_wf cX12_canBe q) = true := by decide +kernel
def t_X12_set : List pz_E := [(0, .aload_n 0, 1, 1, []), (1, .iload_n 2, 1, 2, []), (2, .invokevirtual 58, 3, 5, []), (5, .ifCond .eq 11, 3, 8, [16]), (8, .iload_n 1, 1, 9, []), (9, .iload_n 3, 1, 10, []), (10, .invokestatic 76, 3, 13, []), (13, .ifCond .ne 5, 3, 16, [18]), (16, .iconst 0, 1, 17, []), (17, .ireturn, 1, 18, []), (18, .aload_n 0, 1, 19, []), (19, .getfield 7, 3, 22, []), (22, .iload_n 1, 1, 23, []), (23, .ifCond .ne 7, 3, 26, [30]), (26, .iconst 4, 1, 27, []), (27, .goto 35, 3, 30, [62]), (30, .iload_n 1, 1, 31, []), (31, .iconst 1, 1, 32, []), (32, .if_icmp .ne 8, 3, 35, [40]), (35, .bipush 16, 2, 37, []), (37, .goto 25, 3, 40, [62]), (40, .iload_n 1, 1, 41, []), (41, .iconst 2, 1, 42, []), (42, .if_icmp .ne 8, 3, 45, [50]), (45, .bipush 28, 2, 47, []), (47, .goto 15, 3, 50, [62]), (50, .iload_n 1, 1, 51, []), (51, .iconst 3, 1, 52, []), (52, .if_icmp .ne 8, 3, 55, [60]), (55, .bipush 93, 2, 57, []), (57, .goto 5, 3, 60, [62]), (60, .bipush 40, 2, 62, []), (62, .iload_n 2, 1, 63, []), (63, .iadd, 1, 64, []), (64, .iload_n 3, 1, 65, []), (65, .iastore, 1, 66, []), (66, .aload_n 0, 1, 67, []), (67, .invokevirtual 71, 3, 70, []), (70, .iconst 1, 1, 71, []), (71, .ireturn, 1, 72, [])]
theorem t_X12_set_ok : t_X12_set.all (fun q => pz_wf cX12_set q) = true := by decide +kernel
def t_X12_feed : List pz_E := [(0, .aload_n 0, 1, 1, []), (1, .getfield 80, 3, 4, []), (4, .bipush 20, 2, 6, []), (6, .iadd, 1, 7, []), (7, .sipush 400, 3, 10, []), (10, .if_icmp .le 5, 3, 13, [15]), (13, .iconst (-1), 1, 14, []), (14, .ireturn, 1, 15, []), (15, .iconst 0, 1, 16, []), (16, .istore 6, 2, 18, []), (18, .iload 6, 2, 20, []), (20, .bipush 20, 2, 22, []), (22, .if_icmp .ge 93, 3, 25, [115]), (25, .iload 6, 2, 27, []), (27, .iconst 4, 1, 28, []), (28, .if_icmp .ge 7, 3, 31, [35]), (31, .iload_n 1, 1, 32, []), (32, .goto 39, 3, 35, [71]), (35, .iload 6, 2, 37, []), (37, .bipush 8, 2, 39, []), (39, .if_icmp .ge 7, 3, 42, [46]), (42, .iload_n 2, 1, 43, []), (43, .goto 28, 3, 46, [71]), (46, .iload 6, 2, 48, []), (48, .bipush 12, 2, 50, []), (50, .if_icmp .ge 7, 3, 53, [57]), (53, .iload_n 3, 1, 54, []), (54, .goto 17, 3, 57, [71]), (57, .iload 6, 2, 59, []), (59, .bipush 16, 2, 61, []), (61, .if_icmp .ge 8, 3, 64, [69]), (64, .iload 4, 2, 66, []), (66, .goto 5, 3, 69, [71]), (69, .iload 5, 2, 71, []), (71, .istore 7, 2, 73, []), (73, .aload_n 0, 1, 74, []), (74, .getfield 31, 3, 77, []), (77, .aload_n 0, 1, 78, []), (78, .getfield 80, 3, 81, []), (81, .iload 7, 2, 83, []), (83, .bipush 24, 2, 85, []), (85, .bipush 8, 2, 87, []), (87, .iload 6, 2, 89, []), (89, .iconst 4, 1, 90, []), (90, .irem, 1, 91, []), (91, .imul, 1, 92, []), (92, .isub, 1, 93, []), (93, .ishr, 1, 94, []), (94, .sipush 255, 3, 97, []), (97, .iand, 1, 98, []), (98, .iastore, 1, 99, []), (99, .aload_n 0, 1, 100, []), (100, .dup, 1, 101, []), (101, .getfield 80, 3, 104, []), (104, .iconst 1, 1, 105, []), (105, .iadd, 1, 106, []), (106, .putfield 80, 3, 109, []), (109, .iinc 6 1, 3, 112, []), (112, .goto (-94), 3, 115, [18]), (115, .aload_n 0, 1, 116, []), (116, .getfield 80, 3, 119, []), (119, .ireturn, 1, 120, [])]
theorem t_X12_feed_ok : t_X12_feed.all (fun q => pz_wf cX12_feed q) = true := by decide +kernel
def t_X12_end : List pz_E := [(0, .iload_n 1, 1, 1, []), (1, .iconst 0, 1, 2, []), (2, .aload_n 0, 1, 3, []), (3, .getfield 80, 3, 6, []), (6, .invokestatic 54, 3, 9, []), (9, .ifCond .ne 5, 3, 12, [14]), (12, .iconst 0, 1, 13, []), (13, .ireturn, 1, 14, []), (14, .aload_n 0, 1, 15, []), (15, .iload_n 1, 1, 16, []), (16, .putfield 80, 3, 19, []), (19, .iconst 1, 1, 20, []), (20, .ireturn, 1, 21, [])]
theorem t_X12_end_ok : t_X12_end.all (fun q => pz_wf cX12_end q) = true := by decide +kernel
def t_X12_see : List pz_E := [(0, .iload_n 1, 1, 1, []), (1, .aload_n 0, 1, 2, []), (2, .getfield 80, 3, 5, []), (5, .if_icmp .ge 12, 3, 8, [17]), (8, .aload_n 0, 1, 9, []), (9, .getfield 31, 3, 12, []), (12, .iload_n 1, 1, 13, []), (13, .iaload, 1, 14, []), (14, .goto 4, 3, 17, [18]), (17, .iconst (-1), 1, 18, []), (18, .ireturn, 1, 19, [])]
theorem t_X12_see_ok : t_X12_see.all (fun q => pz_wf cX12_see q) = true := by decide +kernel
def t_X12_isLetter : List pz_E := [(0, .iload_n 0, 1, 1, []), (1, .bipush 97, 2, 3, []), (3, .bipush 122, 2, 5, []), (5, .invokestatic 54, 3, 8, []), (8, .ifCond .ne 14, 3, 11, [22]), (11, .iload_n 0, 1, 12, []), (12, .bipush 65, 2, 14, []), (14, .bipush 90, 2, 16, []), (16, .invokestatic 54, 3, 19, []), (19, .ifCond .eq 7, 3, 22, [26]), (22, .iconst 1, 1, 23, []), (23, .goto 4, 3, 26, [27]), (26, .iconst 0, 1, 27, []), (27, .ireturn, 1, 28, [])]
theorem t_X12_isLetter_ok : t_X12_isLetter.all (fun q => pz_wf cX12_isLetter q) = true := by decide +kernel
def t_X12_isDigit : List pz_E := [(0, .iload_n 0, 1, 1, []), (1, .bipush 48, 2, 3, []), (3, .bipush 57, 2, 5, []), (5, .invokestatic 54, 3, 8, []), (8, .ireturn, 1, 9, [])]
theorem t_X12_isDigit_ok : t_X12_isDigit.all (fun q => pz_wf cX12_isDigit q) = true := by decide +kernel
def t_X12_is : List pz_E := [(0, .aload_n 0, 1, 1, []), (1, .getfield 83, 3, 4, []), (4, .aload_n 0, 1, 5, []), (5, .getfield 86, 3, 8, []), (8, .isub, 1, 9, []), (9, .aload_n 1, 1, 10, []), (10, .invokevirtual 89, 3, 13, []), (13, .if_icmp .ne 7, 3, 16, [20]), (16, .iconst 1, 1, 17, []), (17, .goto 4, 3, 20, [21]), (20, .iconst 0, 1, 21, []), (21, .istore_n 2, 1, 22, []), (22, .iconst 0, 1, 23, []), (23, .istore_n 3, 1, 24, []), (24, .iload_n 3, 1, 25, []), (25, .aload_n 1, 1, 26, []), (26, .invokevirtual 89, 3, 29, []), (29, .if_icmp .ge 38, 3, 32, [67]), (32, .iload_n 2, 1, 33, []), (33, .ifCond .eq 34, 3, 36, [67]), (36, .aload_n 0, 1, 37, []), (37, .getfield 31, 3, 40, []), (40, .aload_n 0, 1, 41, []), (41, .getfield 86, 3, 44, []), (44, .iload_n 3, 1, 45, []), (45, .iadd, 1, 46, []), (46, .iaload, 1, 47, []), (47, .aload_n 1, 1, 48, []), (48, .iload_n 3, 1, 49, []), (49, .invokevirtual 95, 3, 52, []), (52, .if_icmp .ne 7, 3, 55, [59]), (55, .iconst 1, 1, 56, []), (56, .goto 4, 3, 59, [60]), (59, .iconst 0, 1, 60, []), (60, .istore_n 2, 1, 61, []), (61, .iinc 3 1, 3, 64, []), (64, .goto (-40), 3, 67, [24]), (67, .iload_n 2, 1, 68, []), (68, .ireturn, 1, 69, [])]
theorem t_X12_is_ok : t_X12_is.all (fun q => pz_wf cX12_is q) = true := by decide +kernel
def t_X12_asked : List pz_E := [(0, .aload_n 0, 1, 1, []), (1, .ldc 99, 2, 3, []), (3, .invokevirtual 101, 3, 6, []), (6, .ifCond .eq 6, 3, 9, [12]), (9, .bipush 41, 2, 11, []), (11, .ireturn, 1, 12, []), (12, .aload_n 0, 1, 13, []), (13, .ldc 105, 2, 15, []), (15, .invokevirtual 101, 3, 18, []), (18, .ifCond .eq 6, 3, 21, [24]), (21, .bipush 42, 2, 23, []), (23, .ireturn, 1, 24, []), (24, .aload_n 0, 1, 25, []), (25, .ldc 107, 2, 27, []), (27, .invokevirtual 101, 3, 30, []), (30, .ifCond .eq 6, 3, 33, [36]), (33, .bipush 43, 2, 35, []), (35, .ireturn, 1, 36, []), (36, .aload_n 0, 1, 37, []), (37, .ldc 109, 2, 39, []), (39, .invokevirtual 101, 3, 42, []), (42, .ifCond .eq 6, 3, 45, [48]), (45, .bipush 44, 2, 47, []), (47, .ireturn, 1, 48, []), (48, .aload_n 0, 1, 49, []), (49, .ldc 111, 2, 51, []), (51, .invokevirtual 101, 3, 54, []), (54, .ifCond .eq 6, 3, 57, [60]), (57, .bipush 45, 2, 59, []), (59, .ireturn, 1, 60, []), (60, .aload_n 0, 1, 61, []), (61, .ldc 113, 2, 63, []), (63, .invokevirtual 101, 3, 66, []), (66, .ifCond .eq 6, 3, 69, [72]), (69, .bipush 46, 2, 71, []), (71, .ireturn, 1, 72, []), (72, .aload_n 0, 1, 73, []), (73, .ldc 115, 2, 75, []), (75, .invokevirtual 101, 3, 78, []), (78, .ifCond .eq 6, 3, 81, [84]), (81, .bipush 47, 2, 83, []), (83, .ireturn, 1, 84, []), (84, .aload_n 0, 1, 85, []), (85, .ldc 117, 2, 87, []), (87, .invokevirtual 101, 3, 90, []), (90, .ifCond .eq 6, 3, 93, [96]), (93, .bipush 48, 2, 95, []), (95, .ireturn, 1, 96, []), (96, .aload_n 0, 1, 97, []), (97, .ldc 119, 2, 99, []), (99, .invokevirtual 101, 3, 102, []), (102, .ifCond .eq 8, 3, 105, [110]), (105, .bipush 49, 2, 107, []), (107, .goto 4, 3, 110, [111]), (110, .iconst 1, 1, 111, []), (111, .ireturn, 1, 112, [])]
theorem t_X12_asked_ok : t_X12_asked.all (fun q => pz_wf cX12_asked q) = true := by decide +kernel
def t_X12_lawWord : List pz_E := [(0, .aload_n 0, 1, 1, []), (1, .ldc 121, 2, 3, []), (3, .invokevirtual 101, 3, 6, []), (6, .ifCond .eq 5, 3, 9, [11]), (9, .iconst 3, 1, 10, []), (10, .ireturn, 1, 11, []), (11, .aload_n 0, 1, 12, []), (12, .ldc 123, 2, 14, []), (14, .invokevirtual 101, 3, 17, []), (17, .ifCond .eq 5, 3, 20, [22]), (20, .iconst 4, 1, 21, []), (21, .ireturn, 1, 22, []), (22, .aload_n 0, 1, 23, []), (23, .ldc 125, 2, 25, []), (25, .invokevirtual 101, 3, 28, []), (28, .ifCond .eq 5, 3, 31, [33]), (31, .iconst 5, 1, 32, []), (32, .ireturn, 1, 33, []), (33, .aload_n 0, 1, 34, []), (34, .ldc 127, 2, 36, []), (36, .invokevirtual 101, 3, 39, []), (39, .ifCond .eq 6, 3, 42, [45]), (42, .bipush 6, 2, 44, []), (44, .ireturn, 1, 45, []), (45, .aload_n 0, 1, 46, []), (46, .ldc 129, 2, 48, []), (48, .invokevirtual 101, 3, 51, []), (51, .ifCond .eq 6, 3, 54, [57]), (54, .bipush 20, 2, 56, []), (56, .ireturn, 1, 57, []), (57, .aload_n 0, 1, 58, []), (58, .ldc 131, 2, 60, []), (60, .invokevirtual 101, 3, 63, []), (63, .ifCond .eq 6, 3, 66, [69]), (66, .bipush 21, 2, 68, []), (68, .ireturn, 1, 69, []), (69, .aload_n 0, 1, 70, []), (70, .ldc 133, 2, 72, []), (72, .invokevirtual 101, 3, 75, []), (75, .ifCond .eq 6, 3, 78, [81]), (78, .bipush 22, 2, 80, []), (80, .ireturn, 1, 81, []), (81, .aload_n 0, 1, 82, []), (82, .ldc 135, 2, 84, []), (84, .invokevirtual 101, 3, 87, []), (87, .ifCond .eq 8, 3, 90, [95]), (90, .bipush 23, 2, 92, []), (92, .goto 7, 3, 95, [99]), (95, .aload_n 0, 1, 96, []), (96, .invokevirtual 137, 3, 99, []), (99, .ireturn, 1, 100, [])]
theorem t_X12_lawWord_ok : t_X12_lawWord.all (fun q => pz_wf cX12_lawWord q) = true := by decide +kernel
def t_X12_planWord : List pz_E := [(0, .aload_n 0, 1, 1, []), (1, .ldc 140, 2, 3, []), (3, .invokevirtual 101, 3, 6, []), (6, .ifCond .eq 6, 3, 9, [12]), (9, .bipush 7, 2, 11, []), (11, .ireturn, 1, 12, []), (12, .aload_n 0, 1, 13, []), (13, .ldc 142, 2, 15, []), (15, .invokevirtual 101, 3, 18, []), (18, .ifCond .eq 6, 3, 21, [24]), (21, .bipush 8, 2, 23, []), (23, .ireturn, 1, 24, []), (24, .aload_n 0, 1, 25, []), (25, .ldc 144, 2, 27, []), (27, .invokevirtual 101, 3, 30, []), (30, .ifCond .eq 6, 3, 33, [36]), (33, .bipush 9, 2, 35, []), (35, .ireturn, 1, 36, []), (36, .aload_n 0, 1, 37, []), (37, .ldc 146, 2, 39, []), (39, .invokevirtual 101, 3, 42, []), (42, .ifCond .eq 6, 3, 45, [48]), (45, .bipush 10, 2, 47, []), (47, .ireturn, 1, 48, []), (48, .aload_n 0, 1, 49, []), (49, .ldc 148, 2, 51, []), (51, .invokevirtual 101, 3, 54, []), (54, .ifCond .eq 8, 3, 57, [62]), (57, .bipush 11, 2, 59, []), (59, .goto 4, 3, 62, [63]), (62, .iconst 1, 1, 63, []), (63, .ireturn, 1, 64, [])]
theorem t_X12_planWord_ok : t_X12_planWord.all (fun q => pz_wf cX12_planWord q) = true := by decide +kernel
def t_X12_word : List pz_E := [(0, .aload_n 0, 1, 1, []), (1, .getfield 150, 3, 4, []), (4, .tableswitch 82 0 2 #[28, 33, 38], 28, 32, [86, 32, 37, 42]), (32, .aload_n 0, 1, 33, []), (33, .invokevirtual 153, 3, 36, []), (36, .ireturn, 1, 37, []), (37, .aload_n 0, 1, 38, []), (38, .invokevirtual 156, 3, 41, []), (41, .ireturn, 1, 42, []), (42, .aload_n 0, 1, 43, []), (43, .ldc 99, 2, 45, []), (45, .invokevirtual 101, 3, 48, []), (48, .ifCond .eq 8, 3, 51, [56]), (51, .bipush 12, 2, 53, []), (53, .goto 32, 3, 56, [85]), (56, .aload_n 0, 1, 57, []), (57, .ldc 159, 2, 59, []), (59, .invokevirtual 101, 3, 62, []), (62, .ifCond .eq 8, 3, 65, [70]), (65, .bipush 13, 2, 67, []), (67, .goto 18, 3, 70, [85]), (70, .aload_n 0, 1, 71, []), (71, .ldc 161, 2, 73, []), (73, .invokevirtual 101, 3, 76, []), (76, .ifCond .eq 8, 3, 79, [84]), (79, .bipush 14, 2, 81, []), (81, .goto 4, 3, 84, [85]), (84, .iconst 1, 1, 85, []), (85, .ireturn, 1, 86, []), (86, .aload_n 0, 1, 87, []), (87, .ldc 113, 2, 89, []), (89, .invokevirtual 101, 3, 92, []), (92, .ifCond .eq 8, 3, 95, [100]), (95, .bipush 15, 2, 97, []), (97, .goto 18, 3, 100, [115]), (100, .aload_n 0, 1, 101, []), (101, .ldc 99, 2, 103, []), (103, .invokevirtual 101, 3, 106, []), (106, .ifCond .eq 8, 3, 109, [114]), (109, .bipush 12, 2, 111, []), (111, .goto 4, 3, 114, [115]), (114, .iconst 1, 1, 115, []), (115, .ireturn, 1, 116, [])]
theorem t_X12_word_ok : t_X12_word.all (fun q => pz_wf cX12_word q) = true := by decide +kernel
def t_X12_next0 : List pz_E := [(0, .aload_n 0, 1, 1, []), (1, .aload_n 0, 1, 2, []), (2, .getfield 83, 3, 5, []), (5, .invokevirtual 163, 3, 8, []), (8, .bipush 32, 2, 10, []), (10, .if_icmp .eq 16, 3, 13, [26]), (13, .aload_n 0, 1, 14, []), (14, .aload_n 0, 1, 15, []), (15, .getfield 83, 3, 18, []), (18, .invokevirtual 163, 3, 21, []), (21, .bipush 10, 2, 23, []), (23, .if_icmp .ne 16, 3, 26, [39]), (26, .aload_n 0, 1, 27, []), (27, .dup, 1, 28, []), (28, .getfield 83, 3, 31, []), (31, .iconst 1, 1, 32, []), (32, .iadd, 1, 33, []), (33, .putfield 83, 3, 36, []), (36, .goto (-36), 3, 39, [0]), (39, .aload_n 0, 1, 40, []), (40, .aload_n 0, 1, 41, []), (41, .getfield 83, 3, 44, []), (44, .putfield 86, 3, 47, []), (47, .aload_n 0, 1, 48, []), (48, .aload_n 0, 1, 49, []), (49, .getfield 83, 3, 52, []), (52, .invokevirtual 163, 3, 55, []), (55, .istore_n 1, 1, 56, []), (56, .iload_n 1, 1, 57, []), (57, .iconst (-1), 1, 58, []), (58, .if_icmp .ne 11, 3, 61, [69]), (61, .aload_n 0, 1, 62, []), (62, .iconst 0, 1, 63, []), (63, .putfield 167, 3, 66, []), (66, .goto 240, 3, 69, [306]), (69, .iload_n 1, 1, 70, []), (70, .invokestatic 170, 3, 73, []), (73, .ifCond .eq 41, 3, 76, [114]), (76, .aload_n 0, 1, 77, []), (77, .aload_n 0, 1, 78, []), (78, .getfield 83, 3, 81, []), (81, .invokevirtual 163, 3, 84, []), (84, .invokestatic 170, 3, 87, []), (87, .ifCond .eq 16, 3, 90, [103]), (90, .aload_n 0, 1, 91, []), (91, .dup, 1, 92, []), (92, .getfield 83, 3, 95, []), (95, .iconst 1, 1, 96, []), (96, .iadd, 1, 97, []), (97, .putfield 83, 3, 100, []), (100, .goto (-24), 3, 103, [76]), (103, .aload_n 0, 1, 104, []), (104, .aload_n 0, 1, 105, []), (105, .invokevirtual 173, 3, 108, []), (108, .putfield 167, 3, 111, []), (111, .goto 195, 3, 114, [306]), (114, .iload_n 1, 1, 115, []), (115, .invokestatic 176, 3, 118, []), (118, .ifCond .eq 96, 3, 121, [214]), (121, .aload_n 0, 1, 122, []), (122, .iconst 0, 1, 123, []), (123, .putfield 179, 3, 126, []), (126, .aload_n 0, 1, 127, []), (127, .aload_n 0, 1, 128, []), (128, .getfield 83, 3, 131, []), (131, .invokevirtual 163, 3, 134, []), (134, .invokestatic 176, 3, 137, []), (137, .ifCond .eq 52, 3, 140, [189]), (140, .aload_n 0, 1, 141, []), (141, .getfield 83, 3, 144, []), (144, .aload_n 0, 1, 145, []), (145, .getfield 86, 3, 148, []), (148, .iconst 4, 1, 149, []), (149, .iadd, 1, 150, []), (150, .if_icmp .ge 26, 3, 153, [176]), (153, .aload_n 0, 1, 154, []), (154, .bipush 10, 2, 156, []), (156, .aload_n 0, 1, 157, []), (157, .getfield 179, 3, 160, []), (160, .imul, 1, 161, []), (161, .aload_n 0, 1, 162, []), (162, .aload_n 0, 1, 163, []), (163, .getfield 83, 3, 166, []), (166, .invokevirtual 163, 3, 169, []), (169, .iadd, 1, 170, []), (170, .bipush 48, 2, 172, []), (172, .isub, 1, 173, []), (173, .putfield 179, 3, 176, []), (176, .aload_n 0, 1, 177, []), (177, .dup, 1, 178, []), (178, .getfield 83, 3, 181, []), (181, .iconst 1, 1, 182, []), (182, .iadd, 1, 183, []), (183, .putfield 83, 3, 186, []), (186, .goto (-60), 3, 189, [126]), (189, .aload_n 0, 1, 190, []), (190, .aload_n 0, 1, 191, []), (191, .getfield 83, 3, 194, []), (194, .aload_n 0, 1, 195, []), (195, .getfield 86, 3, 198, []), (198, .isub, 1, 199, []), (199, .iconst 5, 1, 200, []), (200, .if_icmp .ge 7, 3, 203, [207]), (203, .iconst 2, 1, 204, []), (204, .goto 4, 3, 207, [208]), (207, .iconst 1, 1, 208, []), (208, .putfield 167, 3, 211, []), (211, .goto 95, 3, 214, [306]), (214, .aload_n 0, 1, 215, []), (215, .dup, 1, 216, []), (216, .getfield 83, 3, 219, []), (219, .iconst 1, 1, 220, []), (220, .iadd, 1, 221, []), (221, .putfield 83, 3, 224, []), (224, .iload_n 1, 1, 225, []), (225, .bipush 59, 2, 227, []), (227, .if_icmp .eq 57, 3, 230, [284]), (230, .iload_n 1, 1, 231, []), (231, .bipush 43, 2, 233, []), (233, .if_icmp .eq 51, 3, 236, [284]), (236, .iload_n 1, 1, 237, []), (237, .bipush 45, 2, 239, []), (239, .if_icmp .eq 45, 3, 242, [284]), (242, .iload_n 1, 1, 243, []), (243, .bipush 42, 2, 245, []), (245, .if_icmp .eq 39, 3, 248, [284]), (248, .iload_n 1, 1, 249, []), (249, .bipush 47, 2, 251, []), (251, .if_icmp .eq 33, 3, 254, [284]), (254, .iload_n 1, 1, 255, []), (255, .bipush 40, 2, 257, []), (257, .if_icmp .eq 27, 3, 260, [284]), (260, .iload_n 1, 1, 261, []), (261, .bipush 41, 2, 263, []), (263, .if_icmp .eq 21, 3, 266, [284]), (266, .iload_n 1, 1, 267, []), (267, .bipush 60, 2, 269, []), (269, .if_icmp .eq 15, 3, 272, [284]), (272, .iload_n 1, 1, 273, []), (273, .bipush 61, 2, 275, []), (275, .if_icmp .eq 9, 3, 278, [284]), (278, .iload_n 1, 1, 279, []), (279, .bipush 62, 2, 281, []), (281, .if_icmp .ne 7, 3, 284, [288]), (284, .iconst 1, 1, 285, []), (285, .goto 4, 3, 288, [289]), (288, .iconst 0, 1, 289, []), (289, .istore_n 2, 1, 290, []), (290, .aload_n 0, 1, 291, []), (291, .iload_n 2, 1, 292, []), (292, .ifCond .eq 10, 3, 295, [302]), (295, .bipush 100, 2, 297, []), (297, .iload_n 1, 1, 298, []), (298, .iadd, 1, 299, []), (299, .goto 4, 3, 302, [303]), (302, .iconst 1, 1, 303, []), (303, .putfield 167, 3, 306, []), (306, .return_, 1, 307, [])]
theorem t_X12_next0_ok : t_X12_next0.all (fun q => pz_wf cX12_next0 q) = true := by decide +kernel
def t_X12_bad : List pz_E := [(0, .aload_n 0, 1, 1, []), (1, .iload_n 1, 1, 2, []), (2, .putfield 182, 3, 5, []), (5, .aload_n 0, 1, 6, []), (6, .aload_n 0, 1, 7, []), (7, .getfield 86, 3, 10, []), (10, .putfield 185, 3, 13, []), (13, .iconst 0, 1, 14, []), (14, .ireturn, 1, 15, [])]
theorem t_X12_bad_ok : t_X12_bad.all (fun q => pz_wf cX12_bad q) = true := by decide +kernel
def t_X12_need : List pz_E := [(0, .aload_n 0, 1, 1, []), (1, .getfield 167, 3, 4, []), (4, .iload_n 1, 1, 5, []), (5, .if_icmp .eq 9, 3, 8, [14]), (8, .aload_n 0, 1, 9, []), (9, .iconst 1, 1, 10, []), (10, .invokevirtual 188, 3, 13, []), (13, .ireturn, 1, 14, []), (14, .aload_n 0, 1, 15, []), (15, .invokevirtual 191, 3, 18, []), (18, .iconst 1, 1, 19, []), (19, .ireturn, 1, 20, [])]
theorem t_X12_need_ok : t_X12_need.all (fun q => pz_wf cX12_need q) = true := by decide +kernel
def t_X12_lay : List pz_E := [(0, .aload_n 0, 1, 1, []), (1, .getfield 25, 3, 4, []), (4, .iconst 2, 1, 5, []), (5, .aload_n 0, 1, 6, []), (6, .getfield 194, 3, 9, []), (9, .imul, 1, 10, []), (10, .iload_n 1, 1, 11, []), (11, .iastore, 1, 12, []), (12, .aload_n 0, 1, 13, []), (13, .getfield 25, 3, 16, []), (16, .iconst 2, 1, 17, []), (17, .aload_n 0, 1, 18, []), (18, .getfield 194, 3, 21, []), (21, .imul, 1, 22, []), (22, .iconst 1, 1, 23, []), (23, .iadd, 1, 24, []), (24, .iload_n 2, 1, 25, []), (25, .iastore, 1, 26, []), (26, .aload_n 0, 1, 27, []), (27, .dup, 1, 28, []), (28, .getfield 194, 3, 31, []), (31, .iconst 1, 1, 32, []), (32, .iadd, 1, 33, []), (33, .putfield 194, 3, 36, []), (36, .return_, 1, 37, [])]
theorem t_X12_lay_ok : t_X12_lay.all (fun q => pz_wf cX12_lay q) = true := by decide +kernel
def t_X12_opens : List pz_E := [(0, .aload_n 0, 1, 1, []), (1, .getfield 197, 3, 4, []), (4, .bipush 8, 2, 6, []), (6, .if_icmp .ne 9, 3, 9, [15]), (9, .aload_n 0, 1, 10, []), (10, .iconst 3, 1, 11, []), (11, .invokevirtual 188, 3, 14, []), (14, .ireturn, 1, 15, []), (15, .aload_n 0, 1, 16, []), (16, .dup, 1, 17, []), (17, .getfield 197, 3, 20, []), (20, .iconst 1, 1, 21, []), (21, .iadd, 1, 22, []), (22, .putfield 197, 3, 25, []), (25, .aload_n 0, 1, 26, []), (26, .invokevirtual 191, 3, 29, []), (29, .iconst 1, 1, 30, []), (30, .ireturn, 1, 31, [])]
theorem t_X12_opens_ok : t_X12_opens.all (fun q => pz_wf cX12_opens q) = true := by decide +kernel
def t_X12_sumUp : List pz_E := [(0, .aload_n 0, 1, 1, []), (1, .invokevirtual 200, 3, 4, []), (4, .ifCond .ne 5, 3, 7, [9]), (7, .iconst 0, 1, 8, []), (8, .ireturn, 1, 9, []), (9, .aload_n 0, 1, 10, []), (10, .getfield 167, 3, 13, []), (13, .sipush 143, 3, 16, []), (16, .if_icmp .eq 13, 3, 19, [29]), (19, .aload_n 0, 1, 20, []), (20, .getfield 167, 3, 23, []), (23, .sipush 145, 3, 26, []), (26, .if_icmp .ne 43, 3, 29, [69]), (29, .aload_n 0, 1, 30, []), (30, .getfield 167, 3, 33, []), (33, .sipush 143, 3, 36, []), (36, .if_icmp .ne 8, 3, 39, [44]), (39, .bipush 23, 2, 41, []), (41, .goto 5, 3, 44, [46]), (44, .bipush 24, 2, 46, []), (46, .istore_n 1, 1, 47, []), (47, .aload_n 0, 1, 48, []), (48, .invokevirtual 191, 3, 51, []), (51, .aload_n 0, 1, 52, []), (52, .invokevirtual 200, 3, 55, []), (55, .ifCond .ne 5, 3, 58, [60]), (58, .iconst 0, 1, 59, []), (59, .ireturn, 1, 60, []), (60, .aload_n 0, 1, 61, []), (61, .iload_n 1, 1, 62, []), (62, .iconst 0, 1, 63, []), (63, .invokevirtual 204, 3, 66, []), (66, .goto (-57), 3, 69, [9]), (69, .iconst 1, 1, 70, []), (70, .ireturn, 1, 71, [])]
theorem t_X12_sumUp_ok : t_X12_sumUp.all (fun q => pz_wf cX12_sumUp q) = true := by decide +kernel
def t_X12_product : List pz_E := [(0, .aload_n 0, 1, 1, []), (1, .invokevirtual 208, 3, 4, []), (4, .ifCond .ne 5, 3, 7, [9]), (7, .iconst 0, 1, 8, []), (8, .ireturn, 1, 9, []), (9, .aload_n 0, 1, 10, []), (10, .getfield 167, 3, 13, []), (13, .sipush 142, 3, 16, []), (16, .if_icmp .eq 13, 3, 19, [29]), (19, .aload_n 0, 1, 20, []), (20, .getfield 167, 3, 23, []), (23, .sipush 147, 3, 26, []), (26, .if_icmp .ne 89, 3, 29, [115]), (29, .aload_n 0, 1, 30, []), (30, .getfield 167, 3, 33, []), (33, .sipush 147, 3, 36, []), (36, .if_icmp .ne 7, 3, 39, [43]), (39, .iconst 1, 1, 40, []), (40, .goto 4, 3, 43, [44]), (43, .iconst 0, 1, 44, []), (44, .istore_n 1, 1, 45, []), (45, .aload_n 0, 1, 46, []), (46, .invokevirtual 191, 3, 49, []), (49, .iload_n 1, 1, 50, []), (50, .ifCond .eq 46, 3, 53, [96]), (53, .aload_n 0, 1, 54, []), (54, .getfield 179, 3, 57, []), (57, .istore_n 2, 1, 58, []), (58, .aload_n 0, 1, 59, []), (59, .getfield 167, 3, 62, []), (62, .iconst 2, 1, 63, []), (63, .if_icmp .eq 9, 3, 66, [72]), (66, .aload_n 0, 1, 67, []), (67, .iconst 1, 1, 68, []), (68, .invokevirtual 188, 3, 71, []), (71, .ireturn, 1, 72, []), (72, .iload_n 2, 1, 73, []), (73, .ifCond .ne 9, 3, 76, [82]), (76, .aload_n 0, 1, 77, []), (77, .iconst 2, 1, 78, []), (78, .invokevirtual 188, 3, 81, []), (81, .ireturn, 1, 82, []), (82, .aload_n 0, 1, 83, []), (83, .invokevirtual 191, 3, 86, []), (86, .aload_n 0, 1, 87, []), (87, .bipush 26, 2, 89, []), (89, .iload_n 2, 1, 90, []), (90, .invokevirtual 204, 3, 93, []), (93, .goto 19, 3, 96, [112]), (96, .aload_n 0, 1, 97, []), (97, .invokevirtual 208, 3, 100, []), (100, .ifCond .ne 5, 3, 103, [105]), (103, .iconst 0, 1, 104, []), (104, .ireturn, 1, 105, []), (105, .aload_n 0, 1, 106, []), (106, .bipush 25, 2, 108, []), (108, .iconst 0, 1, 109, []), (109, .invokevirtual 204, 3, 112, []), (112, .goto (-103), 3, 115, [9]), (115, .iconst 1, 1, 116, []), (116, .ireturn, 1, 117, [])]
theorem t_X12_product_ok : t_X12_product.all (fun q => pz_wf cX12_product q) = true := by decide +kernel
def t_X12_unit : List pz_E := [(0, .aload_n 0, 1, 1, []), (1, .getfield 167, 3, 4, []), (4, .bipush 41, 2, 6, []), (6, .bipush 49, 2, 8, []), (8, .invokestatic 54, 3, 11, []), (11, .istore_n 1, 1, 12, []), (12, .aload_n 0, 1, 13, []), (13, .getfield 167, 3, 16, []), (16, .iconst 2, 1, 17, []), (17, .if_icmp .eq 13, 3, 20, [30]), (20, .iload_n 1, 1, 21, []), (21, .ifCond .ne 9, 3, 24, [30]), (24, .aload_n 0, 1, 25, []), (25, .iconst 1, 1, 26, []), (26, .invokevirtual 188, 3, 29, []), (29, .ireturn, 1, 30, []), (30, .aload_n 0, 1, 31, []), (31, .iload_n 1, 1, 32, []), (32, .ifCond .eq 13, 3, 35, [45]), (35, .aload_n 0, 1, 36, []), (36, .getfield 167, 3, 39, []), (39, .bipush 40, 2, 41, []), (41, .isub, 1, 42, []), (42, .goto 4, 3, 45, [46]), (45, .iconst 0, 1, 46, []), (46, .aload_n 0, 1, 47, []), (47, .getfield 179, 3, 50, []), (50, .invokevirtual 204, 3, 53, []), (53, .aload_n 0, 1, 54, []), (54, .invokevirtual 191, 3, 57, []), (57, .iconst 1, 1, 58, []), (58, .ireturn, 1, 59, [])]
theorem t_X12_unit_ok : t_X12_unit.all (fun q => pz_wf cX12_unit q) = true := by decide +kernel
def t_X12_any : List pz_E := [(0, .aload_n 0, 1, 1, []), (1, .invokevirtual 211, 3, 4, []), (4, .ifCond .ne 5, 3, 7, [9]), (7, .iconst 0, 1, 8, []), (8, .ireturn, 1, 9, []), (9, .aload_n 0, 1, 10, []), (10, .getfield 167, 3, 13, []), (13, .iconst 4, 1, 14, []), (14, .if_icmp .ne 26, 3, 17, [40]), (17, .aload_n 0, 1, 18, []), (18, .invokevirtual 191, 3, 21, []), (21, .aload_n 0, 1, 22, []), (22, .invokevirtual 211, 3, 25, []), (25, .ifCond .ne 5, 3, 28, [30]), (28, .iconst 0, 1, 29, []), (29, .ireturn, 1, 30, []), (30, .aload_n 0, 1, 31, []), (31, .bipush 32, 2, 33, []), (33, .iconst 0, 1, 34, []), (34, .invokevirtual 204, 3, 37, []), (37, .goto (-28), 3, 40, [9]), (40, .iconst 1, 1, 41, []), (41, .ireturn, 1, 42, [])]
theorem t_X12_any_ok : t_X12_any.all (fun q => pz_wf cX12_any q) = true := by decide +kernel
def t_X12_every : List pz_E := [(0, .aload_n 0, 1, 1, []), (1, .invokevirtual 214, 3, 4, []), (4, .ifCond .ne 5, 3, 7, [9]), (7, .iconst 0, 1, 8, []), (8, .ireturn, 1, 9, []), (9, .aload_n 0, 1, 10, []), (10, .getfield 167, 3, 13, []), (13, .iconst 5, 1, 14, []), (14, .if_icmp .ne 26, 3, 17, [40]), (17, .aload_n 0, 1, 18, []), (18, .invokevirtual 191, 3, 21, []), (21, .aload_n 0, 1, 22, []), (22, .invokevirtual 214, 3, 25, []), (25, .ifCond .ne 5, 3, 28, [30]), (28, .iconst 0, 1, 29, []), (29, .ireturn, 1, 30, []), (30, .aload_n 0, 1, 31, []), (31, .bipush 31, 2, 33, []), (33, .iconst 0, 1, 34, []), (34, .invokevirtual 204, 3, 37, []), (37, .goto (-28), 3, 40, [9]), (40, .iconst 1, 1, 41, []), (41, .ireturn, 1, 42, [])]
theorem t_X12_every_ok : t_X12_every.all (fun q => pz_wf cX12_every q) = true := by decide +kernel
def t_X12_oneTest : List pz_E := [(0, .aload_n 0, 1, 1, []), (1, .getfield 167, 3, 4, []), (4, .bipush 6, 2, 6, []), (6, .if_icmp .ne 38, 3, 9, [44]), (9, .aload_n 0, 1, 10, []), (10, .invokevirtual 217, 3, 13, []), (13, .ifCond .eq 10, 3, 16, [23]), (16, .aload_n 0, 1, 17, []), (17, .invokevirtual 214, 3, 20, []), (20, .ifCond .ne 5, 3, 23, [25]), (23, .iconst 0, 1, 24, []), (24, .ireturn, 1, 25, []), (25, .aload_n 0, 1, 26, []), (26, .dup, 1, 27, []), (27, .getfield 197, 3, 30, []), (30, .iconst 1, 1, 31, []), (31, .isub, 1, 32, []), (32, .putfield 197, 3, 35, []), (35, .aload_n 0, 1, 36, []), (36, .bipush 30, 2, 38, []), (38, .iconst 0, 1, 39, []), (39, .invokevirtual 204, 3, 42, []), (42, .iconst 1, 1, 43, []), (43, .ireturn, 1, 44, []), (44, .aload_n 0, 1, 45, []), (45, .getfield 167, 3, 48, []), (48, .sipush 140, 3, 51, []), (51, .if_icmp .ne 41, 3, 54, [92]), (54, .aload_n 0, 1, 55, []), (55, .invokevirtual 217, 3, 58, []), (58, .ifCond .eq 20, 3, 61, [78]), (61, .aload_n 0, 1, 62, []), (62, .invokevirtual 220, 3, 65, []), (65, .ifCond .eq 13, 3, 68, [78]), (68, .aload_n 0, 1, 69, []), (69, .sipush 141, 3, 72, []), (72, .invokevirtual 223, 3, 75, []), (75, .ifCond .ne 5, 3, 78, [80]), (78, .iconst 0, 1, 79, []), (79, .ireturn, 1, 80, []), (80, .aload_n 0, 1, 81, []), (81, .dup, 1, 82, []), (82, .getfield 197, 3, 85, []), (85, .iconst 1, 1, 86, []), (86, .isub, 1, 87, []), (87, .putfield 197, 3, 90, []), (90, .iconst 1, 1, 91, []), (91, .ireturn, 1, 92, []), (92, .aload_n 0, 1, 93, []), (93, .invokevirtual 226, 3, 96, []), (96, .ifCond .ne 5, 3, 99, [101]), (99, .iconst 0, 1, 100, []), (100, .ireturn, 1, 101, []), (101, .aload_n 0, 1, 102, []), (102, .getfield 167, 3, 105, []), (105, .sipush 160, 3, 108, []), (108, .if_icmp .ne 8, 3, 111, [116]), (111, .bipush 27, 2, 113, []), (113, .goto 34, 3, 116, [147]), (116, .aload_n 0, 1, 117, []), (117, .getfield 167, 3, 120, []), (120, .sipush 161, 3, 123, []), (123, .if_icmp .ne 8, 3, 126, [131]), (126, .bipush 28, 2, 128, []), (128, .goto 19, 3, 131, [147]), (131, .aload_n 0, 1, 132, []), (132, .getfield 167, 3, 135, []), (135, .sipush 162, 3, 138, []), (138, .if_icmp .ne 8, 3, 141, [146]), (141, .bipush 29, 2, 143, []), (143, .goto 4, 3, 146, [147]), (146, .iconst (-1), 1, 147, []), (147, .istore_n 1, 1, 148, []), (148, .iload_n 1, 1, 149, []), (149, .iconst (-1), 1, 150, []), (150, .if_icmp .ne 9, 3, 153, [159]), (153, .aload_n 0, 1, 154, []), (154, .iconst 1, 1, 155, []), (155, .invokevirtual 188, 3, 158, []), (158, .ireturn, 1, 159, []), (159, .aload_n 0, 1, 160, []), (160, .invokevirtual 191, 3, 163, []), (163, .aload_n 0, 1, 164, []), (164, .invokevirtual 226, 3, 167, []), (167, .ifCond .ne 5, 3, 170, [172]), (170, .iconst 0, 1, 171, []), (171, .ireturn, 1, 172, []), (172, .aload_n 0, 1, 173, []), (173, .iload_n 1, 1, 174, []), (174, .iconst 0, 1, 175, []), (175, .invokevirtual 204, 3, 178, []), (178, .iconst 1, 1, 179, []), (179, .ireturn, 1, 180, [])]
theorem t_X12_oneTest_ok : t_X12_oneTest.all (fun q => pz_wf cX12_oneTest q) = true := by decide +kernel
def t_X12_aLine : List pz_E := [(0, .aload_n 0, 1, 1, []), (1, .getfield 167, 3, 4, []), (4, .bipush 20, 2, 6, []), (6, .bipush 23, 2, 8, []), (8, .invokestatic 54, 3, 11, []), (11, .ifCond .ne 9, 3, 14, [20]), (14, .aload_n 0, 1, 15, []), (15, .iconst 1, 1, 16, []), (16, .invokevirtual 188, 3, 19, []), (19, .ireturn, 1, 20, []), (20, .aload_n 0, 1, 21, []), (21, .getfield 229, 3, 24, []), (24, .bipush 16, 2, 26, []), (26, .if_icmp .ne 9, 3, 29, [35]), (29, .aload_n 0, 1, 30, []), (30, .iconst 3, 1, 31, []), (31, .invokevirtual 188, 3, 34, []), (34, .ireturn, 1, 35, []), (35, .aload_n 0, 1, 36, []), (36, .iconst 0, 1, 37, []), (37, .putfield 197, 3, 40, []), (40, .aload_n 0, 1, 41, []), (41, .getfield 22, 3, 44, []), (44, .iconst 4, 1, 45, []), (45, .aload_n 0, 1, 46, []), (46, .getfield 229, 3, 49, []), (49, .imul, 1, 50, []), (50, .iconst 3, 1, 51, []), (51, .iadd, 1, 52, []), (52, .aload_n 0, 1, 53, []), (53, .getfield 167, 3, 56, []), (56, .iastore, 1, 57, []), (57, .aload_n 0, 1, 58, []), (58, .invokevirtual 191, 3, 61, []), (61, .aload_n 0, 1, 62, []), (62, .getfield 22, 3, 65, []), (65, .iconst 4, 1, 66, []), (66, .aload_n 0, 1, 67, []), (67, .getfield 229, 3, 70, []), (70, .imul, 1, 71, []), (71, .aload_n 0, 1, 72, []), (72, .getfield 194, 3, 75, []), (75, .iastore, 1, 76, []), (76, .aload_n 0, 1, 77, []), (77, .invokevirtual 226, 3, 80, []), (80, .ifCond .ne 5, 3, 83, [85]), (83, .iconst 0, 1, 84, []), (84, .ireturn, 1, 85, []), (85, .aload_n 0, 1, 86, []), (86, .getfield 22, 3, 89, []), (89, .iconst 4, 1, 90, []), (90, .aload_n 0, 1, 91, []), (91, .getfield 229, 3, 94, []), (94, .imul, 1, 95, []), (95, .iconst 1, 1, 96, []), (96, .iadd, 1, 97, []), (97, .aload_n 0, 1, 98, []), (98, .getfield 194, 3, 101, []), (101, .iastore, 1, 102, []), (102, .aload_n 0, 1, 103, []), (103, .getfield 167, 3, 106, []), (106, .iconst 3, 1, 107, []), (107, .if_icmp .ne 16, 3, 110, [123]), (110, .aload_n 0, 1, 111, []), (111, .invokevirtual 191, 3, 114, []), (114, .aload_n 0, 1, 115, []), (115, .invokevirtual 220, 3, 118, []), (118, .ifCond .ne 5, 3, 121, [123]), (121, .iconst 0, 1, 122, []), (122, .ireturn, 1, 123, []), (123, .aload_n 0, 1, 124, []), (124, .getfield 22, 3, 127, []), (127, .iconst 4, 1, 128, []), (128, .aload_n 0, 1, 129, []), (129, .getfield 229, 3, 132, []), (132, .imul, 1, 133, []), (133, .iconst 2, 1, 134, []), (134, .iadd, 1, 135, []), (135, .aload_n 0, 1, 136, []), (136, .getfield 194, 3, 139, []), (139, .iastore, 1, 140, []), (140, .aload_n 0, 1, 141, []), (141, .sipush 159, 3, 144, []), (144, .invokevirtual 223, 3, 147, []), (147, .ireturn, 1, 148, [])]
theorem t_X12_aLine_ok : t_X12_aLine.all (fun q => pz_wf cX12_aLine q) = true := by decide +kernel
def t_X12_readsLaw : List pz_E := [(0, .aload_n 0, 1, 1, []), (1, .iconst 0, 1, 2, []), (2, .putfield 229, 3, 5, []), (5, .aload_n 0, 1, 6, []), (6, .iconst 0, 1, 7, []), (7, .putfield 194, 3, 10, []), (10, .iconst 1, 1, 11, []), (11, .istore_n 1, 1, 12, []), (12, .iload_n 1, 1, 13, []), (13, .ifCond .eq 36, 3, 16, [49]), (16, .aload_n 0, 1, 17, []), (17, .getfield 167, 3, 20, []), (20, .ifCond .eq 29, 3, 23, [49]), (23, .aload_n 0, 1, 24, []), (24, .invokevirtual 232, 3, 27, []), (27, .istore_n 1, 1, 28, []), (28, .aload_n 0, 1, 29, []), (29, .dup, 1, 30, []), (30, .getfield 229, 3, 33, []), (33, .iload_n 1, 1, 34, []), (34, .ifCond .eq 7, 3, 37, [41]), (37, .iconst 1, 1, 38, []), (38, .goto 4, 3, 41, [42]), (41, .iconst 0, 1, 42, []), (42, .iadd, 1, 43, []), (43, .putfield 229, 3, 46, []), (46, .goto (-34), 3, 49, [12]), (49, .iload_n 1, 1, 50, []), (50, .ireturn, 1, 51, [])]
theorem t_X12_readsLaw_ok : t_X12_readsLaw.all (fun q => pz_wf cX12_readsLaw q) = true := by decide +kernel
def t_X12_number : List pz_E := [(0, .aload_n 0, 1, 1, []), (1, .getfield 167, 3, 4, []), (4, .iconst 2, 1, 5, []), (5, .if_icmp .eq 9, 3, 8, [14]), (8, .aload_n 0, 1, 9, []), (9, .iconst 1, 1, 10, []), (10, .invokevirtual 188, 3, 13, []), (13, .ireturn, 1, 14, []), (14, .aload_n 0, 1, 15, []), (15, .getfield 179, 3, 18, []), (18, .iload_n 2, 1, 19, []), (19, .iload_n 3, 1, 20, []), (20, .invokestatic 54, 3, 23, []), (23, .ifCond .ne 9, 3, 26, [32]), (26, .aload_n 0, 1, 27, []), (27, .iconst 2, 1, 28, []), (28, .invokevirtual 188, 3, 31, []), (31, .ireturn, 1, 32, []), (32, .aload_n 0, 1, 33, []), (33, .getfield 28, 3, 36, []), (36, .iload_n 1, 1, 37, []), (37, .aload_n 0, 1, 38, []), (38, .getfield 179, 3, 41, []), (41, .iastore, 1, 42, []), (42, .aload_n 0, 1, 43, []), (43, .invokevirtual 191, 3, 46, []), (46, .iconst 1, 1, 47, []), (47, .ireturn, 1, 48, [])]
theorem t_X12_number_ok : t_X12_number.all (fun q => pz_wf cX12_number q) = true := by decide +kernel
def t_X12_told : List pz_E := [(0, .aload_n 0, 1, 1, []), (1, .iload_n 2, 1, 2, []), (2, .invokevirtual 223, 3, 5, []), (5, .ifCond .eq 18, 3, 8, [23]), (8, .aload_n 0, 1, 9, []), (9, .iload_n 1, 1, 10, []), (10, .iload_n 3, 1, 11, []), (11, .iload 4, 2, 13, []), (13, .invokevirtual 235, 3, 16, []), (16, .ifCond .eq 7, 3, 19, [23]), (19, .iconst 1, 1, 20, []), (20, .goto 4, 3, 23, [24]), (23, .iconst 0, 1, 24, []), (24, .ireturn, 1, 25, [])]
theorem t_X12_told_ok : t_X12_told.all (fun q => pz_wf cX12_told q) = true := by decide +kernel
def t_X12_aLink : List pz_E := [(0, .aload_n 0, 1, 1, []), (1, .iload_n 1, 1, 2, []), (2, .iconst 0, 1, 3, []), (3, .aload_n 0, 1, 4, []), (4, .getfield 7, 3, 7, []), (7, .bipush 88, 2, 9, []), (9, .iaload, 1, 10, []), (10, .iconst 1, 1, 11, []), (11, .isub, 1, 12, []), (12, .invokevirtual 235, 3, 15, []), (15, .ireturn, 1, 16, [])]
theorem t_X12_aLink_ok : t_X12_aLink.all (fun q => pz_wf cX12_aLink q) = true := by decide +kernel
def t_X12_aPlan : List pz_E := [(0, .iconst 5, 1, 1, []), (1, .aload_n 0, 1, 2, []), (2, .getfield 238, 3, 5, []), (5, .imul, 1, 6, []), (6, .istore_n 1, 1, 7, []), (7, .aload_n 0, 1, 8, []), (8, .iload_n 1, 1, 9, []), (9, .bipush 7, 2, 11, []), (11, .iconst 0, 1, 12, []), (12, .sipush 999, 3, 15, []), (15, .invokevirtual 241, 3, 18, []), (18, .ifCond .ne 5, 3, 21, [23]), (21, .iconst 0, 1, 22, []), (22, .ireturn, 1, 23, []), (23, .aload_n 0, 1, 24, []), (24, .getfield 167, 3, 27, []), (27, .bipush 8, 2, 29, []), (29, .bipush 11, 2, 31, []), (31, .invokestatic 54, 3, 34, []), (34, .ifCond .ne 9, 3, 37, [43]), (37, .aload_n 0, 1, 38, []), (38, .iconst 1, 1, 39, []), (39, .invokevirtual 188, 3, 42, []), (42, .ireturn, 1, 43, []), (43, .aload_n 0, 1, 44, []), (44, .getfield 167, 3, 47, []), (47, .istore_n 2, 1, 48, []), (48, .aload_n 0, 1, 49, []), (49, .getfield 28, 3, 52, []), (52, .iload_n 1, 1, 53, []), (53, .iconst 1, 1, 54, []), (54, .iadd, 1, 55, []), (55, .iload_n 2, 1, 56, []), (56, .iastore, 1, 57, []), (57, .aload_n 0, 1, 58, []), (58, .getfield 28, 3, 61, []), (61, .iload_n 1, 1, 62, []), (62, .iconst 3, 1, 63, []), (63, .iadd, 1, 64, []), (64, .iconst 0, 1, 65, []), (65, .iastore, 1, 66, []), (66, .aload_n 0, 1, 67, []), (67, .getfield 28, 3, 70, []), (70, .iload_n 1, 1, 71, []), (71, .iconst 4, 1, 72, []), (72, .iadd, 1, 73, []), (73, .iconst 0, 1, 74, []), (74, .iastore, 1, 75, []), (75, .aload_n 0, 1, 76, []), (76, .invokevirtual 191, 3, 79, []), (79, .aload_n 0, 1, 80, []), (80, .iload_n 1, 1, 81, []), (81, .iconst 2, 1, 82, []), (82, .iadd, 1, 83, []), (83, .invokevirtual 245, 3, 86, []), (86, .ifCond .ne 5, 3, 89, [91]), (89, .iconst 0, 1, 90, []), (90, .ireturn, 1, 91, []), (91, .iload_n 2, 1, 92, []), (92, .bipush 10, 2, 94, []), (94, .if_icmp .ne 32, 3, 97, [126]), (97, .aload_n 0, 1, 98, []), (98, .getfield 167, 3, 101, []), (101, .iconst 2, 1, 102, []), (102, .if_icmp .ne 24, 3, 105, [126]), (105, .aload_n 0, 1, 106, []), (106, .getfield 179, 3, 109, []), (109, .aload_n 0, 1, 110, []), (110, .getfield 28, 3, 113, []), (113, .iload_n 1, 1, 114, []), (114, .iconst 2, 1, 115, []), (115, .iadd, 1, 116, []), (116, .iaload, 1, 117, []), (117, .if_icmp .ne 9, 3, 120, [126]), (120, .aload_n 0, 1, 121, []), (121, .iconst 2, 1, 122, []), (122, .invokevirtual 188, 3, 125, []), (125, .ireturn, 1, 126, []), (126, .iload_n 2, 1, 127, []), (127, .bipush 10, 2, 129, []), (129, .if_icmp .ne 15, 3, 132, [144]), (132, .aload_n 0, 1, 133, []), (133, .iload_n 1, 1, 134, []), (134, .iconst 3, 1, 135, []), (135, .iadd, 1, 136, []), (136, .invokevirtual 245, 3, 139, []), (139, .ifCond .ne 5, 3, 142, [144]), (142, .iconst 0, 1, 143, []), (143, .ireturn, 1, 144, []), (144, .iload_n 2, 1, 145, []), (145, .bipush 9, 2, 147, []), (147, .if_icmp .eq 22, 3, 150, [169]), (150, .iload_n 2, 1, 151, []), (151, .bipush 11, 2, 153, []), (153, .if_icmp .eq 16, 3, 156, [169]), (156, .aload_n 0, 1, 157, []), (157, .iload_n 1, 1, 158, []), (158, .iconst 4, 1, 159, []), (159, .iadd, 1, 160, []), (160, .iconst 1, 1, 161, []), (161, .bipush 99, 2, 163, []), (163, .invokevirtual 235, 3, 166, []), (166, .ifCond .eq 7, 3, 169, [173]), (169, .iconst 1, 1, 170, []), (170, .goto 4, 3, 173, [174]), (173, .iconst 0, 1, 174, []), (174, .ireturn, 1, 175, [])]
theorem t_X12_aPlan_ok : t_X12_aPlan.all (fun q => pz_wf cX12_aPlan q) = true := by decide +kernel
def t_X12_aPhone : List pz_E := [(0, .iconst 3, 1, 1, []), (1, .aload_n 0, 1, 2, []), (2, .getfield 238, 3, 5, []), (5, .imul, 1, 6, []), (6, .istore_n 1, 1, 7, []), (7, .aload_n 0, 1, 8, []), (8, .bipush 12, 2, 10, []), (10, .invokevirtual 223, 3, 13, []), (13, .ifCond .eq 56, 3, 16, [69]), (16, .aload_n 0, 1, 17, []), (17, .iload_n 1, 1, 18, []), (18, .invokevirtual 245, 3, 21, []), (21, .ifCond .eq 48, 3, 24, [69]), (24, .aload_n 0, 1, 25, []), (25, .iload_n 1, 1, 26, []), (26, .iconst 1, 1, 27, []), (27, .iadd, 1, 28, []), (28, .bipush 13, 2, 30, []), (30, .iconst 0, 1, 31, []), (31, .sipush 240, 3, 34, []), (34, .invokevirtual 241, 3, 37, []), (37, .ifCond .eq 32, 3, 40, [69]), (40, .aload_n 0, 1, 41, []), (41, .iload_n 1, 1, 42, []), (42, .iconst 2, 1, 43, []), (43, .iadd, 1, 44, []), (44, .bipush 14, 2, 46, []), (46, .aload_n 0, 1, 47, []), (47, .getfield 28, 3, 50, []), (50, .iload_n 1, 1, 51, []), (51, .iconst 1, 1, 52, []), (52, .iadd, 1, 53, []), (53, .iaload, 1, 54, []), (54, .iconst 1, 1, 55, []), (55, .iadd, 1, 56, []), (56, .sipush 240, 3, 59, []), (59, .invokevirtual 241, 3, 62, []), (62, .ifCond .eq 7, 3, 65, [69]), (65, .iconst 1, 1, 66, []), (66, .goto 4, 3, 69, [70]), (69, .iconst 0, 1, 70, []), (70, .ireturn, 1, 71, [])]
theorem t_X12_aPhone_ok : t_X12_aPhone.all (fun q => pz_wf cX12_aPhone q) = true := by decide +kernel
def t_X12_aRecord : List pz_E := [(0, .aload_n 0, 1, 1, []), (1, .iconst 2, 1, 2, []), (2, .aload_n 0, 1, 3, []), (3, .getfield 238, 3, 6, []), (6, .imul, 1, 7, []), (7, .bipush 15, 2, 9, []), (9, .iconst 0, 1, 10, []), (10, .sipush 999, 3, 13, []), (13, .invokevirtual 241, 3, 16, []), (16, .ifCond .eq 31, 3, 19, [47]), (19, .aload_n 0, 1, 20, []), (20, .bipush 12, 2, 22, []), (22, .invokevirtual 223, 3, 25, []), (25, .ifCond .eq 22, 3, 28, [47]), (28, .aload_n 0, 1, 29, []), (29, .iconst 2, 1, 30, []), (30, .aload_n 0, 1, 31, []), (31, .getfield 238, 3, 34, []), (34, .imul, 1, 35, []), (35, .iconst 1, 1, 36, []), (36, .iadd, 1, 37, []), (37, .invokevirtual 245, 3, 40, []), (40, .ifCond .eq 7, 3, 43, [47]), (43, .iconst 1, 1, 44, []), (44, .goto 4, 3, 47, [48]), (47, .iconst 0, 1, 48, []), (48, .ireturn, 1, 49, [])]
theorem t_X12_aRecord_ok : t_X12_aRecord.all (fun q => pz_wf cX12_aRecord q) = true := by decide +kernel
def t_X12_aRow : List pz_E := [(0, .aload_n 0, 1, 1, []), (1, .getfield 150, 3, 4, []), (4, .iconst 1, 1, 5, []), (5, .if_icmp .ne 13, 3, 8, [18]), (8, .aload_n 0, 1, 9, []), (9, .invokevirtual 248, 3, 12, []), (12, .ifCond .eq 45, 3, 15, [57]), (15, .goto 28, 3, 18, [43]), (18, .aload_n 0, 1, 19, []), (19, .getfield 150, 3, 22, []), (22, .iconst 2, 1, 23, []), (23, .if_icmp .ne 13, 3, 26, [36]), (26, .aload_n 0, 1, 27, []), (27, .invokevirtual 251, 3, 30, []), (30, .ifCond .eq 27, 3, 33, [57]), (33, .goto 10, 3, 36, [43]), (36, .aload_n 0, 1, 37, []), (37, .invokevirtual 254, 3, 40, []), (40, .ifCond .eq 17, 3, 43, [57]), (43, .aload_n 0, 1, 44, []), (44, .sipush 159, 3, 47, []), (47, .invokevirtual 223, 3, 50, []), (50, .ifCond .eq 7, 3, 53, [57]), (53, .iconst 1, 1, 54, []), (54, .goto 4, 3, 57, [58]), (57, .iconst 0, 1, 58, []), (58, .ireturn, 1, 59, [])]
theorem t_X12_aRow_ok : t_X12_aRow.all (fun q => pz_wf cX12_aRow q) = true := by decide +kernel
end
section
def t_X12_readsRows : List pz_E := [(0, .aload_n 0, 1, 1, []), (1, .iconst 0, 1, 2, []), (2, .putfield 238, 3, 5, []), (5, .aload_n 0, 1, 6, []), (6, .getfield 150, 3, 9, []), (9, .iconst 1, 1, 10, []), (10, .if_icmp .ne 8, 3, 13, [18]), (13, .bipush 7, 2, 15, []), (15, .goto 18, 3, 18, [33]), (18, .aload_n 0, 1, 19, []), (19, .getfield 150, 3, 22, []), (22, .iconst 2, 1, 23, []), (23, .if_icmp .ne 8, 3, 26, [31]), (26, .bipush 12, 2, 28, []), (28, .goto 5, 3, 31, [33]), (31, .bipush 15, 2, 33, []), (33, .istore_n 1, 1, 34, []), (34, .iconst 1, 1, 35, []), (35, .istore_n 2, 1, 36, []), (36, .iload_n 2, 1, 37, []), (37, .ifCond .eq 65, 3, 40, [102]), (40, .aload_n 0, 1, 41, []), (41, .getfield 167, 3, 44, []), (44, .ifCond .eq 58, 3, 47, [102]), (47, .aload_n 0, 1, 48, []), (48, .getfield 167, 3, 51, []), (51, .iload_n 1, 1, 52, []), (52, .if_icmp .eq 9, 3, 55, [61]), (55, .aload_n 0, 1, 56, []), (56, .iconst 1, 1, 57, []), (57, .invokevirtual 188, 3, 60, []), (60, .ireturn, 1, 61, []), (61, .aload_n 0, 1, 62, []), (62, .getfield 238, 3, 65, []), (65, .bipush 16, 2, 67, []), (67, .if_icmp .ne 9, 3, 70, [76]), (70, .aload_n 0, 1, 71, []), (71, .iconst 3, 1, 72, []), (72, .invokevirtual 188, 3, 75, []), (75, .ireturn, 1, 76, []), (76, .aload_n 0, 1, 77, []), (77, .invokevirtual 257, 3, 80, []), (80, .istore_n 2, 1, 81, []), (81, .aload_n 0, 1, 82, []), (82, .dup, 1, 83, []), (83, .getfield 238, 3, 86, []), (86, .iload_n 2, 1, 87, []), (87, .ifCond .eq 7, 3, 90, [94]), (90, .iconst 1, 1, 91, []), (91, .goto 4, 3, 94, [95]), (94, .iconst 0, 1, 95, []), (95, .iadd, 1, 96, []), (96, .putfield 238, 3, 99, []), (99, .goto (-63), 3, 102, [36]), (102, .iload_n 2, 1, 103, []), (103, .ireturn, 1, 104, [])]
theorem t_X12_readsRows_ok : t_X12_readsRows.all (fun q => pz_wf cX12_readsRows q) = true := by decide +kernel
def t_X12_putsLaw : List pz_E := [(0, .aload_n 0, 1, 1, []), (1, .getfield 7, 3, 4, []), (4, .bipush 89, 2, 6, []), (6, .aload_n 0, 1, 7, []), (7, .getfield 229, 3, 10, []), (10, .iastore, 1, 11, []), (11, .iconst 0, 1, 12, []), (12, .istore_n 1, 1, 13, []), (13, .iload_n 1, 1, 14, []), (14, .aload_n 0, 1, 15, []), (15, .getfield 229, 3, 18, []), (18, .if_icmp .ge 87, 3, 21, [105]), (21, .aload_n 0, 1, 22, []), (22, .getfield 7, 3, 25, []), (25, .sipush 841, 3, 28, []), (28, .iload_n 1, 1, 29, []), (29, .iadd, 1, 30, []), (30, .aload_n 0, 1, 31, []), (31, .getfield 22, 3, 34, []), (34, .iconst 4, 1, 35, []), (35, .iload_n 1, 1, 36, []), (36, .imul, 1, 37, []), (37, .iaload, 1, 38, []), (38, .iastore, 1, 39, []), (39, .aload_n 0, 1, 40, []), (40, .getfield 7, 3, 43, []), (43, .sipush 857, 3, 46, []), (46, .iload_n 1, 1, 47, []), (47, .iadd, 1, 48, []), (48, .aload_n 0, 1, 49, []), (49, .getfield 22, 3, 52, []), (52, .iconst 4, 1, 53, []), (53, .iload_n 1, 1, 54, []), (54, .imul, 1, 55, []), (55, .iconst 1, 1, 56, []), (56, .iadd, 1, 57, []), (57, .iaload, 1, 58, []), (58, .iastore, 1, 59, []), (59, .aload_n 0, 1, 60, []), (60, .getfield 7, 3, 63, []), (63, .sipush 873, 3, 66, []), (66, .iload_n 1, 1, 67, []), (67, .iadd, 1, 68, []), (68, .aload_n 0, 1, 69, []), (69, .getfield 22, 3, 72, []), (72, .iconst 4, 1, 73, []), (73, .iload_n 1, 1, 74, []), (74, .imul, 1, 75, []), (75, .iconst 2, 1, 76, []), (76, .iadd, 1, 77, []), (77, .iaload, 1, 78, []), (78, .iastore, 1, 79, []), (79, .aload_n 0, 1, 80, []), (80, .getfield 7, 3, 83, []), (83, .sipush 889, 3, 86, []), (86, .iload_n 1, 1, 87, []), (87, .iadd, 1, 88, []), (88, .aload_n 0, 1, 89, []), (89, .getfield 22, 3, 92, []), (92, .iconst 4, 1, 93, []), (93, .iload_n 1, 1, 94, []), (94, .imul, 1, 95, []), (95, .iconst 3, 1, 96, []), (96, .iadd, 1, 97, []), (97, .iaload, 1, 98, []), (98, .iastore, 1, 99, []), (99, .iinc 1 1, 3, 102, []), (102, .goto (-89), 3, 105, [13]), (105, .iconst 0, 1, 106, []), (106, .istore_n 1, 1, 107, []), (107, .iload_n 1, 1, 108, []), (108, .iconst 2, 1, 109, []), (109, .aload_n 0, 1, 110, []), (110, .getfield 194, 3, 113, []), (113, .imul, 1, 114, []), (114, .if_icmp .ge 25, 3, 117, [139]), (117, .aload_n 0, 1, 118, []), (118, .getfield 7, 3, 121, []), (121, .sipush 905, 3, 124, []), (124, .iload_n 1, 1, 125, []), (125, .iadd, 1, 126, []), (126, .aload_n 0, 1, 127, []), (127, .getfield 25, 3, 130, []), (130, .iload_n 1, 1, 131, []), (131, .iaload, 1, 132, []), (132, .iastore, 1, 133, []), (133, .iinc 1 1, 3, 136, []), (136, .goto (-29), 3, 139, [107]), (139, .aload_n 0, 1, 140, []), (140, .getfield 229, 3, 143, []), (143, .ireturn, 1, 144, [])]
theorem t_X12_putsLaw_ok : t_X12_putsLaw.all (fun q => pz_wf cX12_putsLaw q) = true := by decide +kernel
def t_X12_puts : List pz_E := [(0, .aload_n 0, 1, 1, []), (1, .getfield 7, 3, 4, []), (4, .iload_n 1, 1, 5, []), (5, .aload_n 0, 1, 6, []), (6, .getfield 238, 3, 9, []), (9, .iastore, 1, 10, []), (10, .iconst 0, 1, 11, []), (11, .istore 4, 2, 13, []), (13, .iload 4, 2, 15, []), (15, .iload_n 3, 1, 16, []), (16, .aload_n 0, 1, 17, []), (17, .getfield 238, 3, 20, []), (20, .imul, 1, 21, []), (21, .if_icmp .ge 25, 3, 24, [46]), (24, .aload_n 0, 1, 25, []), (25, .getfield 7, 3, 28, []), (28, .iload_n 2, 1, 29, []), (29, .iload 4, 2, 31, []), (31, .iadd, 1, 32, []), (32, .aload_n 0, 1, 33, []), (33, .getfield 28, 3, 36, []), (36, .iload 4, 2, 38, []), (38, .iaload, 1, 39, []), (39, .iastore, 1, 40, []), (40, .iinc 4 1, 3, 43, []), (43, .goto (-30), 3, 46, [13]), (46, .aload_n 0, 1, 47, []), (47, .getfield 238, 3, 50, []), (50, .ireturn, 1, 51, [])]
theorem t_X12_puts_ok : t_X12_puts.all (fun q => pz_wf cX12_puts q) = true := by decide +kernel
def t_X12_putsPhones : List pz_E := [(0, .aload_n 0, 1, 1, []), (1, .getfield 7, 3, 4, []), (4, .bipush 91, 2, 6, []), (6, .aload_n 0, 1, 7, []), (7, .getfield 238, 3, 10, []), (10, .iastore, 1, 11, []), (11, .iconst 0, 1, 12, []), (12, .istore_n 1, 1, 13, []), (13, .iload_n 1, 1, 14, []), (14, .bipush 12, 2, 16, []), (16, .if_icmp .ge 37, 3, 19, [53]), (19, .aload_n 0, 1, 20, []), (20, .getfield 7, 3, 23, []), (23, .bipush 105, 2, 25, []), (25, .iconst 2, 1, 26, []), (26, .iload_n 1, 1, 27, []), (27, .imul, 1, 28, []), (28, .iadd, 1, 29, []), (29, .iconst 0, 1, 30, []), (30, .iastore, 1, 31, []), (31, .aload_n 0, 1, 32, []), (32, .getfield 7, 3, 35, []), (35, .bipush 105, 2, 37, []), (37, .iconst 2, 1, 38, []), (38, .iload_n 1, 1, 39, []), (39, .imul, 1, 40, []), (40, .iadd, 1, 41, []), (41, .iconst 1, 1, 42, []), (42, .iadd, 1, 43, []), (43, .sipush 240, 3, 46, []), (46, .iastore, 1, 47, []), (47, .iinc 1 1, 3, 50, []), (50, .goto (-37), 3, 53, [13]), (53, .iconst 0, 1, 54, []), (54, .istore_n 1, 1, 55, []), (55, .iload_n 1, 1, 56, []), (56, .aload_n 0, 1, 57, []), (57, .getfield 238, 3, 60, []), (60, .if_icmp .ge 67, 3, 63, [127]), (63, .aload_n 0, 1, 64, []), (64, .getfield 7, 3, 67, []), (67, .bipush 105, 2, 69, []), (69, .iconst 2, 1, 70, []), (70, .aload_n 0, 1, 71, []), (71, .getfield 28, 3, 74, []), (74, .iconst 3, 1, 75, []), (75, .iload_n 1, 1, 76, []), (76, .imul, 1, 77, []), (77, .iaload, 1, 78, []), (78, .imul, 1, 79, []), (79, .iadd, 1, 80, []), (80, .aload_n 0, 1, 81, []), (81, .getfield 28, 3, 84, []), (84, .iconst 3, 1, 85, []), (85, .iload_n 1, 1, 86, []), (86, .imul, 1, 87, []), (87, .iconst 1, 1, 88, []), (88, .iadd, 1, 89, []), (89, .iaload, 1, 90, []), (90, .iastore, 1, 91, []), (91, .aload_n 0, 1, 92, []), (92, .getfield 7, 3, 95, []), (95, .bipush 105, 2, 97, []), (97, .iconst 2, 1, 98, []), (98, .aload_n 0, 1, 99, []), (99, .getfield 28, 3, 102, []), (102, .iconst 3, 1, 103, []), (103, .iload_n 1, 1, 104, []), (104, .imul, 1, 105, []), (105, .iaload, 1, 106, []), (106, .imul, 1, 107, []), (107, .iadd, 1, 108, []), (108, .iconst 1, 1, 109, []), (109, .iadd, 1, 110, []), (110, .aload_n 0, 1, 111, []), (111, .getfield 28, 3, 114, []), (114, .iconst 3, 1, 115, []), (115, .iload_n 1, 1, 116, []), (116, .imul, 1, 117, []), (117, .iconst 2, 1, 118, []), (118, .iadd, 1, 119, []), (119, .iaload, 1, 120, []), (120, .iastore, 1, 121, []), (121, .iinc 1 1, 3, 124, []), (124, .goto (-69), 3, 127, [55]), (127, .aload_n 0, 1, 128, []), (128, .getfield 238, 3, 131, []), (131, .ireturn, 1, 132, [])]
theorem t_X12_putsPhones_ok : t_X12_putsPhones.all (fun q => pz_wf cX12_putsPhones q) = true := by decide +kernel
def t_X12_putsText : List pz_E := [(0, .iload_n 1, 1, 1, []), (1, .tableswitch 52 0 2 #[27, 32, 47], 27, 28, [53, 28, 33, 48]), (28, .aload_n 0, 1, 29, []), (29, .invokevirtual 260, 3, 32, []), (32, .ireturn, 1, 33, []), (33, .aload_n 0, 1, 34, []), (34, .invokevirtual 71, 3, 37, []), (37, .aload_n 0, 1, 38, []), (38, .bipush 90, 2, 40, []), (40, .sipush 129, 3, 43, []), (43, .iconst 5, 1, 44, []), (44, .invokevirtual 263, 3, 47, []), (47, .ireturn, 1, 48, []), (48, .aload_n 0, 1, 49, []), (49, .invokevirtual 267, 3, 52, []), (52, .ireturn, 1, 53, []), (53, .aload_n 0, 1, 54, []), (54, .bipush 92, 2, 56, []), (56, .sipush 209, 3, 59, []), (59, .iconst 2, 1, 60, []), (60, .invokevirtual 263, 3, 63, []), (63, .ireturn, 1, 64, [])]
theorem t_X12_putsText_ok : t_X12_putsText.all (fun q => pz_wf cX12_putsText q) = true := by decide +kernel
def t_X12_text : List pz_E := [(0, .aload_n 0, 1, 1, []), (1, .iconst 0, 1, 2, []), (2, .putfield 270, 3, 5, []), (5, .aload_n 0, 1, 6, []), (6, .iconst (-1), 1, 7, []), (7, .putfield 40, 3, 10, []), (10, .iload_n 1, 1, 11, []), (11, .iconst 0, 1, 12, []), (12, .iconst 3, 1, 13, []), (13, .invokestatic 54, 3, 16, []), (16, .ifCond .ne 10, 3, 19, [26]), (19, .aload_n 0, 1, 20, []), (20, .iconst 0, 1, 21, []), (21, .putfield 80, 3, 24, []), (24, .iconst (-1), 1, 25, []), (25, .ireturn, 1, 26, []), (26, .aload_n 0, 1, 27, []), (27, .iconst 0, 1, 28, []), (28, .putfield 182, 3, 31, []), (31, .aload_n 0, 1, 32, []), (32, .iconst 0, 1, 33, []), (33, .putfield 83, 3, 36, []), (36, .aload_n 0, 1, 37, []), (37, .iload_n 1, 1, 38, []), (38, .putfield 150, 3, 41, []), (41, .aload_n 0, 1, 42, []), (42, .invokevirtual 191, 3, 45, []), (45, .iload_n 1, 1, 46, []), (46, .ifCond .ne 10, 3, 49, [56]), (49, .aload_n 0, 1, 50, []), (50, .invokevirtual 273, 3, 53, []), (53, .goto 7, 3, 56, [60]), (56, .aload_n 0, 1, 57, []), (57, .invokevirtual 276, 3, 60, []), (60, .istore_n 2, 1, 61, []), (61, .aload_n 0, 1, 62, []), (62, .iconst 0, 1, 63, []), (63, .putfield 80, 3, 66, []), (66, .iload_n 2, 1, 67, []), (67, .ifCond .eq 9, 3, 70, [76]), (70, .aload_n 0, 1, 71, []), (71, .iload_n 1, 1, 72, []), (72, .invokevirtual 279, 3, 75, []), (75, .ireturn, 1, 76, []), (76, .aload_n 0, 1, 77, []), (77, .aload_n 0, 1, 78, []), (78, .getfield 182, 3, 81, []), (81, .putfield 270, 3, 84, []), (84, .aload_n 0, 1, 85, []), (85, .aload_n 0, 1, 86, []), (86, .getfield 185, 3, 89, []), (89, .putfield 40, 3, 92, []), (92, .iconst (-1), 1, 93, []), (93, .ireturn, 1, 94, [])]
theorem t_X12_text_ok : t_X12_text.all (fun q => pz_wf cX12_text q) = true := by decide +kernel
def t_X12_fault : List pz_E := [(0, .iload_n 1, 1, 1, []), (1, .ifCond .ne 10, 3, 4, [11]), (4, .aload_n 0, 1, 5, []), (5, .getfield 270, 3, 8, []), (8, .goto 16, 3, 11, [24]), (11, .iload_n 1, 1, 12, []), (12, .iconst 1, 1, 13, []), (13, .if_icmp .ne 10, 3, 16, [23]), (16, .aload_n 0, 1, 17, []), (17, .getfield 40, 3, 20, []), (20, .goto 4, 3, 23, [24]), (23, .iconst (-1), 1, 24, []), (24, .ireturn, 1, 25, [])]
theorem t_X12_fault_ok : t_X12_fault.all (fun q => pz_wf cX12_fault q) = true := by decide +kernel
def t_X12_both : List pz_E := [(0, .iload_n 0, 1, 1, []), (1, .tableswitch 100 23 31 #[51, 55, 59, 100, 63, 74, 85, 100, 96], 51, 52, [101, 52, 56, 60, 101, 64, 75, 86, 101, 97]), (52, .iload_n 1, 1, 53, []), (53, .iload_n 2, 1, 54, []), (54, .iadd, 1, 55, []), (55, .ireturn, 1, 56, []), (56, .iload_n 1, 1, 57, []), (57, .iload_n 2, 1, 58, []), (58, .isub, 1, 59, []), (59, .ireturn, 1, 60, []), (60, .iload_n 1, 1, 61, []), (61, .iload_n 2, 1, 62, []), (62, .imul, 1, 63, []), (63, .ireturn, 1, 64, []), (64, .iload_n 1, 1, 65, []), (65, .iload_n 2, 1, 66, []), (66, .if_icmp .ge 7, 3, 69, [73]), (69, .iconst 1, 1, 70, []), (70, .goto 4, 3, 73, [74]), (73, .iconst 0, 1, 74, []), (74, .ireturn, 1, 75, []), (75, .iload_n 1, 1, 76, []), (76, .iload_n 2, 1, 77, []), (77, .if_icmp .ne 7, 3, 80, [84]), (80, .iconst 1, 1, 81, []), (81, .goto 4, 3, 84, [85]), (84, .iconst 0, 1, 85, []), (85, .ireturn, 1, 86, []), (86, .iload_n 1, 1, 87, []), (87, .iload_n 2, 1, 88, []), (88, .if_icmp .le 7, 3, 91, [95]), (91, .iconst 1, 1, 92, []), (92, .goto 4, 3, 95, [96]), (95, .iconst 0, 1, 96, []), (96, .ireturn, 1, 97, []), (97, .iload_n 1, 1, 98, []), (98, .iload_n 2, 1, 99, []), (99, .iand, 1, 100, []), (100, .ireturn, 1, 101, []), (101, .iload_n 1, 1, 102, []), (102, .iload_n 2, 1, 103, []), (103, .ior, 1, 104, []), (104, .ireturn, 1, 105, [])]
theorem t_X12_both_ok : t_X12_both.all (fun q => pz_wf cX12_both q) = true := by decide +kernel
def t_X12_comesTo : List pz_E := [(0, .iconst 0, 1, 1, []), (1, .istore 4, 2, 3, []), (3, .iload_n 2, 1, 4, []), (4, .istore 5, 2, 6, []), (6, .iload 5, 2, 8, []), (8, .iload_n 3, 1, 9, []), (9, .if_icmp .ge 177, 3, 12, [186]), (12, .aload_n 0, 1, 13, []), (13, .getfield 7, 3, 16, []), (16, .sipush 905, 3, 19, []), (19, .sipush 820, 3, 22, []), (22, .iload_n 1, 1, 23, []), (23, .imul, 1, 24, []), (24, .iadd, 1, 25, []), (25, .iconst 2, 1, 26, []), (26, .iload 5, 2, 28, []), (28, .imul, 1, 29, []), (29, .iadd, 1, 30, []), (30, .iaload, 1, 31, []), (31, .istore 6, 2, 33, []), (33, .aload_n 0, 1, 34, []), (34, .getfield 7, 3, 37, []), (37, .sipush 905, 3, 40, []), (40, .sipush 820, 3, 43, []), (43, .iload_n 1, 1, 44, []), (44, .imul, 1, 45, []), (45, .iadd, 1, 46, []), (46, .iconst 2, 1, 47, []), (47, .iload 5, 2, 49, []), (49, .imul, 1, 50, []), (50, .iadd, 1, 51, []), (51, .iconst 1, 1, 52, []), (52, .iadd, 1, 53, []), (53, .iaload, 1, 54, []), (54, .istore 7, 2, 56, []), (56, .iload 6, 2, 58, []), (58, .bipush 23, 2, 60, []), (60, .if_icmp .ge 33, 3, 63, [93]), (63, .aload_n 0, 1, 64, []), (64, .getfield 34, 3, 67, []), (67, .iload 4, 2, 69, []), (69, .iload 6, 2, 71, []), (71, .ifCond .ne 8, 3, 74, [79]), (74, .iload 7, 2, 76, []), (76, .goto 10, 3, 79, [86]), (79, .aload_n 0, 1, 80, []), (80, .getfield 37, 3, 83, []), (83, .iload 6, 2, 85, []), (85, .iaload, 1, 86, []), (86, .iastore, 1, 87, []), (87, .iinc 4 1, 3, 90, []), (90, .goto 90, 3, 93, [180]), (93, .iload 6, 2, 95, []), (95, .bipush 26, 2, 97, []), (97, .if_icmp .ne 20, 3, 100, [117]), (100, .aload_n 0, 1, 101, []), (101, .getfield 34, 3, 104, []), (104, .iload 4, 2, 106, []), (106, .iconst 1, 1, 107, []), (107, .isub, 1, 108, []), (108, .dup2, 1, 109, []), (109, .iaload, 1, 110, []), (110, .iload 7, 2, 112, []), (112, .idiv, 1, 113, []), (113, .iastore, 1, 114, []), (114, .goto 66, 3, 117, [180]), (117, .iload 6, 2, 119, []), (119, .bipush 30, 2, 121, []), (121, .if_icmp .ne 26, 3, 124, [147]), (124, .aload_n 0, 1, 125, []), (125, .getfield 34, 3, 128, []), (128, .iload 4, 2, 130, []), (130, .iconst 1, 1, 131, []), (131, .isub, 1, 132, []), (132, .iconst 1, 1, 133, []), (133, .aload_n 0, 1, 134, []), (134, .getfield 34, 3, 137, []), (137, .iload 4, 2, 139, []), (139, .iconst 1, 1, 140, []), (140, .isub, 1, 141, []), (141, .iaload, 1, 142, []), (142, .isub, 1, 143, []), (143, .iastore, 1, 144, []), (144, .goto 36, 3, 147, [180]), (147, .iinc 4 (-1), 3, 150, []), (150, .aload_n 0, 1, 151, []), (151, .getfield 34, 3, 154, []), (154, .iload 4, 2, 156, []), (156, .iconst 1, 1, 157, []), (157, .isub, 1, 158, []), (158, .iload 6, 2, 160, []), (160, .aload_n 0, 1, 161, []), (161, .getfield 34, 3, 164, []), (164, .iload 4, 2, 166, []), (166, .iconst 1, 1, 167, []), (167, .isub, 1, 168, []), (168, .iaload, 1, 169, []), (169, .aload_n 0, 1, 170, []), (170, .getfield 34, 3, 173, []), (173, .iload 4, 2, 175, []), (175, .iaload, 1, 176, []), (176, .invokestatic 282, 3, 179, []), (179, .iastore, 1, 180, []), (180, .iinc 5 1, 3, 183, []), (183, .goto (-177), 3, 186, [6]), (186, .aload_n 0, 1, 187, []), (187, .getfield 34, 3, 190, []), (190, .iconst 0, 1, 191, []), (191, .iaload, 1, 192, []), (192, .ireturn, 1, 193, [])]
theorem t_X12_comesTo_ok : t_X12_comesTo.all (fun q => pz_wf cX12_comesTo q) = true := by decide +kernel
def t_X12_isSo : List pz_E := [(0, .aload_n 0, 1, 1, []), (1, .getfield 7, 3, 4, []), (4, .sipush 873, 3, 7, []), (7, .iload_n 1, 1, 8, []), (8, .iadd, 1, 9, []), (9, .iaload, 1, 10, []), (10, .aload_n 0, 1, 11, []), (11, .getfield 7, 3, 14, []), (14, .sipush 857, 3, 17, []), (17, .iload_n 1, 1, 18, []), (18, .iadd, 1, 19, []), (19, .iaload, 1, 20, []), (20, .if_icmp .eq 32, 3, 23, [52]), (23, .aload_n 0, 1, 24, []), (24, .iconst 0, 1, 25, []), (25, .aload_n 0, 1, 26, []), (26, .getfield 7, 3, 29, []), (29, .sipush 857, 3, 32, []), (32, .iload_n 1, 1, 33, []), (33, .iadd, 1, 34, []), (34, .iaload, 1, 35, []), (35, .aload_n 0, 1, 36, []), (36, .getfield 7, 3, 39, []), (39, .sipush 873, 3, 42, []), (42, .iload_n 1, 1, 43, []), (43, .iadd, 1, 44, []), (44, .iaload, 1, 45, []), (45, .invokevirtual 285, 3, 48, []), (48, .iconst 1, 1, 49, []), (49, .if_icmp .ne 7, 3, 52, [56]), (52, .iconst 1, 1, 53, []), (53, .goto 4, 3, 56, [57]), (56, .iconst 0, 1, 57, []), (57, .ireturn, 1, 58, [])]
theorem t_X12_isSo_ok : t_X12_isSo.all (fun q => pz_wf cX12_isSo q) = true := by decide +kernel
def t_X12_endOf : List pz_E := [(0, .iload_n 1, 1, 1, []), (1, .iconst 1, 1, 2, []), (2, .iadd, 1, 3, []), (3, .istore_n 3, 1, 4, []), (4, .iload_n 3, 1, 5, []), (5, .aload_n 0, 1, 6, []), (6, .getfield 7, 3, 9, []), (9, .bipush 88, 2, 11, []), (11, .iaload, 1, 12, []), (12, .iconst 1, 1, 13, []), (13, .isub, 1, 14, []), (14, .if_icmp .ge 17, 3, 17, [31]), (17, .iload_n 2, 1, 18, []), (18, .iload_n 3, 1, 19, []), (19, .ishr, 1, 20, []), (20, .iconst 1, 1, 21, []), (21, .iand, 1, 22, []), (22, .ifCond .ne 9, 3, 25, [31]), (25, .iinc 3 1, 3, 28, []), (28, .goto (-24), 3, 31, [4]), (31, .iload_n 3, 1, 32, []), (32, .aload_n 0, 1, 33, []), (33, .getfield 7, 3, 36, []), (36, .bipush 88, 2, 38, []), (38, .iaload, 1, 39, []), (39, .iconst 1, 1, 40, []), (40, .isub, 1, 41, []), (41, .invokestatic 47, 3, 44, []), (44, .ireturn, 1, 45, [])]
theorem t_X12_endOf_ok : t_X12_endOf.all (fun q => pz_wf cX12_endOf q) = true := by decide +kernel
def t_X12_bridgedOnes : List pz_E := [(0, .iconst 0, 1, 1, []), (1, .istore_n 1, 1, 2, []), (2, .iconst 0, 1, 3, []), (3, .istore_n 2, 1, 4, []), (4, .iload_n 2, 1, 5, []), (5, .aload_n 0, 1, 6, []), (6, .getfield 7, 3, 9, []), (9, .bipush 88, 2, 11, []), (11, .iaload, 1, 12, []), (12, .if_icmp .ge 27, 3, 15, [39]), (15, .iload_n 1, 1, 16, []), (16, .aload_n 0, 1, 17, []), (17, .iload_n 2, 1, 18, []), (18, .invokevirtual 288, 3, 21, []), (21, .ifCond .eq 9, 3, 24, [30]), (24, .iconst 1, 1, 25, []), (25, .iload_n 2, 1, 26, []), (26, .ishl, 1, 27, []), (27, .goto 4, 3, 30, [31]), (30, .iconst 0, 1, 31, []), (31, .ior, 1, 32, []), (32, .istore_n 1, 1, 33, []), (33, .iinc 2 1, 3, 36, []), (36, .goto (-32), 3, 39, [4]), (39, .iload_n 1, 1, 40, []), (40, .ireturn, 1, 41, [])]
theorem t_X12_bridgedOnes_ok : t_X12_bridgedOnes.all (fun q => pz_wf cX12_bridgedOnes q) = true := by decide +kernel
def t_X12_lacksOf : List pz_E := [(0, .iconst 0, 1, 1, []), (1, .iload_n 1, 1, 2, []), (2, .iconst 1, 1, 3, []), (3, .isub, 1, 4, []), (4, .invokestatic 51, 3, 7, []), (7, .istore_n 2, 1, 8, []), (8, .iload_n 2, 1, 9, []), (9, .ifCond .le 17, 3, 12, [26]), (12, .aload_n 0, 1, 13, []), (13, .iload_n 2, 1, 14, []), (14, .invokevirtual 288, 3, 17, []), (17, .ifCond .ne 9, 3, 20, [26]), (20, .iinc 2 (-1), 3, 23, []), (23, .goto (-15), 3, 26, [8]), (26, .aload_n 0, 1, 27, []), (27, .iload_n 1, 1, 28, []), (28, .invokevirtual 288, 3, 31, []), (31, .ifCond .ne 7, 3, 34, [38]), (34, .iload_n 1, 1, 35, []), (35, .ifCond .ne 15, 3, 38, [50]), (38, .aload_n 0, 1, 39, []), (39, .iload_n 1, 1, 40, []), (40, .aload_n 0, 1, 41, []), (41, .invokevirtual 291, 3, 44, []), (44, .invokevirtual 294, 3, 47, []), (47, .goto 12, 3, 50, [59]), (50, .aload_n 0, 1, 51, []), (51, .iload_n 2, 1, 52, []), (52, .aload_n 0, 1, 53, []), (53, .invokevirtual 291, 3, 56, []), (56, .invokevirtual 294, 3, 59, []), (59, .istore_n 3, 1, 60, []), (60, .iconst 0, 1, 61, []), (61, .istore 4, 2, 63, []), (63, .iload_n 2, 1, 64, []), (64, .istore 5, 2, 66, []), (66, .iload 5, 2, 68, []), (68, .iload_n 3, 1, 69, []), (69, .if_icmp .gt 28, 3, 72, [97]), (72, .iload 4, 2, 74, []), (74, .aload_n 0, 1, 75, []), (75, .iload 5, 2, 77, []), (77, .invokevirtual 297, 3, 80, []), (80, .ifCond .eq 7, 3, 83, [87]), (83, .iconst 0, 1, 84, []), (84, .goto 4, 3, 87, [88]), (87, .iconst 1, 1, 88, []), (88, .iadd, 1, 89, []), (89, .istore 4, 2, 91, []), (91, .iinc 5 1, 3, 94, []), (94, .goto (-28), 3, 97, [66]), (97, .iload 4, 2, 99, []), (99, .ireturn, 1, 100, [])]
theorem t_X12_lacksOf_ok : t_X12_lacksOf.all (fun q => pz_wf cX12_lacksOf q) = true := by decide +kernel
def t_X12_says : List pz_E := [(0, .aload_n 0, 1, 1, []), (1, .getfield 37, 3, 4, []), (4, .iconst 1, 1, 5, []), (5, .iload_n 2, 1, 6, []), (6, .iastore, 1, 7, []), (7, .aload_n 0, 1, 8, []), (8, .getfield 37, 3, 11, []), (11, .iconst 2, 1, 12, []), (12, .aload_n 0, 1, 13, []), (13, .getfield 7, 3, 16, []), (16, .iconst 4, 1, 17, []), (17, .iload_n 2, 1, 18, []), (18, .iadd, 1, 19, []), (19, .iaload, 1, 20, []), (20, .iastore, 1, 21, []), (21, .aload_n 0, 1, 22, []), (22, .getfield 37, 3, 25, []), (25, .iconst 3, 1, 26, []), (26, .aload_n 0, 1, 27, []), (27, .getfield 7, 3, 30, []), (30, .bipush 16, 2, 32, []), (32, .iload_n 2, 1, 33, []), (33, .iadd, 1, 34, []), (34, .iaload, 1, 35, []), (35, .iastore, 1, 36, []), (36, .aload_n 0, 1, 37, []), (37, .getfield 37, 3, 40, []), (40, .iconst 4, 1, 41, []), (41, .aload_n 0, 1, 42, []), (42, .getfield 7, 3, 45, []), (45, .bipush 28, 2, 47, []), (47, .iload_n 2, 1, 48, []), (48, .iadd, 1, 49, []), (49, .iaload, 1, 50, []), (50, .iastore, 1, 51, []), (51, .aload_n 0, 1, 52, []), (52, .getfield 37, 3, 55, []), (55, .iconst 5, 1, 56, []), (56, .aload_n 0, 1, 57, []), (57, .getfield 7, 3, 60, []), (60, .bipush 93, 2, 62, []), (62, .iload_n 2, 1, 63, []), (63, .iadd, 1, 64, []), (64, .iaload, 1, 65, []), (65, .iastore, 1, 66, []), (66, .aload_n 0, 1, 67, []), (67, .getfield 37, 3, 70, []), (70, .bipush 6, 2, 72, []), (72, .aload_n 0, 1, 73, []), (73, .getfield 7, 3, 76, []), (76, .iconst 0, 1, 77, []), (77, .iaload, 1, 78, []), (78, .iastore, 1, 79, []), (79, .aload_n 0, 1, 80, []), (80, .getfield 37, 3, 83, []), (83, .bipush 7, 2, 85, []), (85, .aload_n 0, 1, 86, []), (86, .getfield 7, 3, 89, []), (89, .bipush 88, 2, 91, []), (91, .iaload, 1, 92, []), (92, .iastore, 1, 93, []), (93, .aload_n 0, 1, 94, []), (94, .getfield 37, 3, 97, []), (97, .bipush 8, 2, 99, []), (99, .aload_n 0, 1, 100, []), (100, .getfield 7, 3, 103, []), (103, .bipush 64, 2, 105, []), (105, .iload_n 2, 1, 106, []), (106, .iadd, 1, 107, []), (107, .iaload, 1, 108, []), (108, .iastore, 1, 109, []), (109, .aload_n 0, 1, 110, []), (110, .getfield 37, 3, 113, []), (113, .bipush 9, 2, 115, []), (115, .aload_n 0, 1, 116, []), (116, .iload_n 2, 1, 117, []), (117, .invokevirtual 300, 3, 120, []), (120, .iastore, 1, 121, []), (121, .iconst 0, 1, 122, []), (122, .istore 5, 2, 124, []), (124, .iload 5, 2, 126, []), (126, .aload_n 0, 1, 127, []), (127, .getfield 7, 3, 130, []), (130, .bipush 89, 2, 132, []), (132, .iaload, 1, 133, []), (133, .if_icmp .ge 67, 3, 136, [200]), (136, .aload_n 0, 1, 137, []), (137, .getfield 7, 3, 140, []), (140, .sipush 889, 3, 143, []), (143, .iload 5, 2, 145, []), (145, .iadd, 1, 146, []), (146, .iaload, 1, 147, []), (147, .iload_n 1, 1, 148, []), (148, .if_icmp .ne 46, 3, 151, [194]), (151, .aload_n 0, 1, 152, []), (152, .iload 5, 2, 154, []), (154, .invokevirtual 303, 3, 157, []), (157, .ifCond .eq 37, 3, 160, [194]), (160, .aload_n 0, 1, 161, []), (161, .iconst 0, 1, 162, []), (162, .aload_n 0, 1, 163, []), (163, .getfield 7, 3, 166, []), (166, .sipush 841, 3, 169, []), (169, .iload 5, 2, 171, []), (171, .iadd, 1, 172, []), (172, .iaload, 1, 173, []), (173, .aload_n 0, 1, 174, []), (174, .getfield 7, 3, 177, []), (177, .sipush 857, 3, 180, []), (180, .iload 5, 2, 182, []), (182, .iadd, 1, 183, []), (183, .iaload, 1, 184, []), (184, .invokevirtual 285, 3, 187, []), (187, .iconst 0, 1, 188, []), (188, .iload 4, 2, 190, []), (190, .invokestatic 306, 3, 193, []), (193, .ireturn, 1, 194, []), (194, .iinc 5 1, 3, 197, []), (197, .goto (-73), 3, 200, [124]), (200, .iload_n 3, 1, 201, []), (201, .iconst 0, 1, 202, []), (202, .iload 4, 2, 204, []), (204, .invokestatic 306, 3, 207, []), (207, .ireturn, 1, 208, [])]
theorem t_X12_says_ok : t_X12_says.all (fun q => pz_wf cX12_says q) = true := by decide +kernel
def t_X12_readyOf : List pz_E := [(0, .aload_n 0, 1, 1, []), (1, .bipush 20, 2, 3, []), (3, .iload_n 1, 1, 4, []), (4, .sipush 300, 3, 7, []), (7, .bipush 30, 2, 9, []), (9, .aload_n 0, 1, 10, []), (10, .getfield 7, 3, 13, []), (13, .bipush 93, 2, 15, []), (15, .iload_n 1, 1, 16, []), (16, .iadd, 1, 17, []), (17, .iaload, 1, 18, []), (18, .imul, 1, 19, []), (19, .isub, 1, 20, []), (20, .sipush 1000, 3, 23, []), (23, .invokevirtual 309, 3, 26, []), (26, .ireturn, 1, 27, [])]
theorem t_X12_readyOf_ok : t_X12_readyOf.all (fun q => pz_wf cX12_readyOf q) = true := by decide +kernel
def t_X12_leaveOf : List pz_E := [(0, .aload_n 0, 1, 1, []), (1, .bipush 21, 2, 3, []), (3, .iload_n 1, 1, 4, []), (4, .iconst 0, 1, 5, []), (5, .sipush 1000, 3, 8, []), (8, .invokevirtual 309, 3, 11, []), (11, .ireturn, 1, 12, [])]
theorem t_X12_leaveOf_ok : t_X12_leaveOf.all (fun q => pz_wf cX12_leaveOf q) = true := by decide +kernel
def t_X12_giveOf : List pz_E := [(0, .aload_n 0, 1, 1, []), (1, .bipush 22, 2, 3, []), (3, .iload_n 1, 1, 4, []), (4, .aload_n 0, 1, 5, []), (5, .getfield 7, 3, 8, []), (8, .bipush 28, 2, 10, []), (10, .iload_n 1, 1, 11, []), (11, .iadd, 1, 12, []), (12, .iaload, 1, 13, []), (13, .ifCond .ge 7, 3, 16, [20]), (16, .iconst 0, 1, 17, []), (17, .goto 14, 3, 20, [31]), (20, .aload_n 0, 1, 21, []), (21, .getfield 7, 3, 24, []), (24, .bipush 28, 2, 26, []), (26, .iload_n 1, 1, 27, []), (27, .iadd, 1, 28, []), (28, .iaload, 1, 29, []), (29, .iconst 4, 1, 30, []), (30, .idiv, 1, 31, []), (31, .sipush 999, 3, 34, []), (34, .invokevirtual 309, 3, 37, []), (37, .ireturn, 1, 38, [])]
theorem t_X12_giveOf_ok : t_X12_giveOf.all (fun q => pz_wf cX12_giveOf q) = true := by decide +kernel
def t_X12_costOf : List pz_E := [(0, .aload_n 0, 1, 1, []), (1, .bipush 23, 2, 3, []), (3, .iload_n 1, 1, 4, []), (4, .iconst 3, 1, 5, []), (5, .bipush 99, 2, 7, []), (7, .invokevirtual 309, 3, 10, []), (10, .ireturn, 1, 11, [])]
theorem t_X12_costOf_ok : t_X12_costOf.all (fun q => pz_wf cX12_costOf q) = true := by decide +kernel
def t_X12_canPay : List pz_E := [(0, .iload_n 1, 1, 1, []), (1, .aload_n 0, 1, 2, []), (2, .getfield 7, 3, 5, []), (5, .bipush 88, 2, 7, []), (7, .iaload, 1, 8, []), (8, .iconst 1, 1, 9, []), (9, .isub, 1, 10, []), (10, .if_icmp .ne 5, 3, 13, [15]), (13, .iconst 1, 1, 14, []), (14, .ireturn, 1, 15, []), (15, .aload_n 0, 1, 16, []), (16, .getfield 7, 3, 19, []), (19, .iconst 4, 1, 20, []), (20, .iload_n 1, 1, 21, []), (21, .iadd, 1, 22, []), (22, .iconst 1, 1, 23, []), (23, .iadd, 1, 24, []), (24, .iaload, 1, 25, []), (25, .aload_n 0, 1, 26, []), (26, .getfield 7, 3, 29, []), (29, .bipush 16, 2, 31, []), (31, .iload_n 1, 1, 32, []), (32, .iadd, 1, 33, []), (33, .iaload, 1, 34, []), (34, .iload_n 1, 1, 35, []), (35, .ifCond .ne 7, 3, 38, [42]), (38, .iconst 0, 1, 39, []), (39, .goto 11, 3, 42, [50]), (42, .aload_n 0, 1, 43, []), (43, .getfield 7, 3, 46, []), (46, .iconst 4, 1, 47, []), (47, .iload_n 1, 1, 48, []), (48, .iadd, 1, 49, []), (49, .iaload, 1, 50, []), (50, .iadd, 1, 51, []), (51, .if_icmp .gt 7, 3, 54, [58]), (54, .iconst 1, 1, 55, []), (55, .goto 4, 3, 58, [59]), (58, .iconst 0, 1, 59, []), (59, .ireturn, 1, 60, [])]
theorem t_X12_canPay_ok : t_X12_canPay.all (fun q => pz_wf cX12_canPay q) = true := by decide +kernel
def t_X12_keeps : List pz_E := [(0, .aload_n 0, 1, 1, []), (1, .getfield 68, 3, 4, []), (4, .bipush 6, 2, 6, []), (6, .if_icmp .ne 43, 3, 9, [49]), (9, .iconst 0, 1, 10, []), (10, .istore_n 1, 1, 11, []), (11, .iload_n 1, 1, 12, []), (12, .sipush 440, 3, 15, []), (15, .if_icmp .ge 24, 3, 18, [39]), (18, .aload_n 0, 1, 19, []), (19, .getfield 16, 3, 22, []), (22, .iload_n 1, 1, 23, []), (23, .aload_n 0, 1, 24, []), (24, .getfield 16, 3, 27, []), (27, .iload_n 1, 1, 28, []), (28, .bipush 88, 2, 30, []), (30, .iadd, 1, 31, []), (31, .iaload, 1, 32, []), (32, .iastore, 1, 33, []), (33, .iinc 1 1, 3, 36, []), (36, .goto (-25), 3, 39, [11]), (39, .aload_n 0, 1, 40, []), (40, .dup, 1, 41, []), (41, .getfield 68, 3, 44, []), (44, .iconst 1, 1, 45, []), (45, .isub, 1, 46, []), (46, .putfield 68, 3, 49, []), (49, .iconst 0, 1, 50, []), (50, .istore_n 1, 1, 51, []), (51, .iload_n 1, 1, 52, []), (52, .bipush 88, 2, 54, []), (54, .if_icmp .ge 29, 3, 57, [83]), (57, .aload_n 0, 1, 58, []), (58, .getfield 16, 3, 61, []), (61, .bipush 88, 2, 63, []), (63, .aload_n 0, 1, 64, []), (64, .getfield 68, 3, 67, []), (67, .imul, 1, 68, []), (68, .iload_n 1, 1, 69, []), (69, .iadd, 1, 70, []), (70, .aload_n 0, 1, 71, []), (71, .getfield 7, 3, 74, []), (74, .iload_n 1, 1, 75, []), (75, .iaload, 1, 76, []), (76, .iastore, 1, 77, []), (77, .iinc 1 1, 3, 80, []), (80, .goto (-29), 3, 83, [51]), (83, .aload_n 0, 1, 84, []), (84, .dup, 1, 85, []), (85, .getfield 68, 3, 88, []), (88, .iconst 1, 1, 89, []), (89, .iadd, 1, 90, []), (90, .putfield 68, 3, 93, []), (93, .aload_n 0, 1, 94, []), (94, .iconst 1, 1, 95, []), (95, .putfield 313, 3, 98, []), (98, .return_, 1, 99, [])]
theorem t_X12_keeps_ok : t_X12_keeps.all (fun q => pz_wf cX12_keeps q) = true := by decide +kernel
def t_X12_undo : List pz_E := [(0, .aload_n 0, 1, 1, []), (1, .getfield 68, 3, 4, []), (4, .ifCond .ne 5, 3, 7, [9]), (7, .iconst 0, 1, 8, []), (8, .ireturn, 1, 9, []), (9, .aload_n 0, 1, 10, []), (10, .dup, 1, 11, []), (11, .getfield 68, 3, 14, []), (14, .iconst 1, 1, 15, []), (15, .isub, 1, 16, []), (16, .putfield 68, 3, 19, []), (19, .iconst 0, 1, 20, []), (20, .istore_n 1, 1, 21, []), (21, .iload_n 1, 1, 22, []), (22, .bipush 88, 2, 24, []), (24, .if_icmp .ge 29, 3, 27, [53]), (27, .aload_n 0, 1, 28, []), (28, .getfield 7, 3, 31, []), (31, .iload_n 1, 1, 32, []), (32, .aload_n 0, 1, 33, []), (33, .getfield 16, 3, 36, []), (36, .bipush 88, 2, 38, []), (38, .aload_n 0, 1, 39, []), (39, .getfield 68, 3, 42, []), (42, .imul, 1, 43, []), (43, .iload_n 1, 1, 44, []), (44, .iadd, 1, 45, []), (45, .iaload, 1, 46, []), (46, .iastore, 1, 47, []), (47, .iinc 1 1, 3, 50, []), (50, .goto (-29), 3, 53, [21]), (53, .iconst 1, 1, 54, []), (54, .ireturn, 1, 55, [])]
theorem t_X12_undo_ok : t_X12_undo.all (fun q => pz_wf cX12_undo q) = true := by decide +kernel
def t_X12_notes : List pz_E := [(0, .aload_n 0, 1, 1, []), (1, .getfield 313, 3, 4, []), (4, .ifCond .eq 15, 3, 7, [19]), (7, .aload_n 0, 1, 8, []), (8, .getfield 7, 3, 11, []), (11, .iconst 3, 1, 12, []), (12, .iaload, 1, 13, []), (13, .sipush 150, 3, 16, []), (16, .if_icmp .ne 4, 3, 19, [20]), (19, .return_, 1, 20, []), (20, .sipush 241, 3, 23, []), (23, .iconst 4, 1, 24, []), (24, .aload_n 0, 1, 25, []), (25, .getfield 7, 3, 28, []), (28, .iconst 3, 1, 29, []), (29, .iaload, 1, 30, []), (30, .imul, 1, 31, []), (31, .iadd, 1, 32, []), (32, .istore 4, 2, 34, []), (34, .aload_n 0, 1, 35, []), (35, .getfield 7, 3, 38, []), (38, .iload 4, 2, 40, []), (40, .aload_n 0, 1, 41, []), (41, .getfield 7, 3, 44, []), (44, .iconst 0, 1, 45, []), (45, .iaload, 1, 46, []), (46, .iastore, 1, 47, []), (47, .aload_n 0, 1, 48, []), (48, .getfield 7, 3, 51, []), (51, .iload 4, 2, 53, []), (53, .iconst 1, 1, 54, []), (54, .iadd, 1, 55, []), (55, .iload_n 1, 1, 56, []), (56, .iastore, 1, 57, []), (57, .aload_n 0, 1, 58, []), (58, .getfield 7, 3, 61, []), (61, .iload 4, 2, 63, []), (63, .iconst 2, 1, 64, []), (64, .iadd, 1, 65, []), (65, .iload_n 2, 1, 66, []), (66, .iastore, 1, 67, []), (67, .aload_n 0, 1, 68, []), (68, .getfield 7, 3, 71, []), (71, .iload 4, 2, 73, []), (73, .iconst 3, 1, 74, []), (74, .iadd, 1, 75, []), (75, .iload_n 3, 1, 76, []), (76, .iastore, 1, 77, []), (77, .aload_n 0, 1, 78, []), (78, .getfield 7, 3, 81, []), (81, .iconst 3, 1, 82, []), (82, .dup2, 1, 83, []), (83, .iaload, 1, 84, []), (84, .iconst 1, 1, 85, []), (85, .iadd, 1, 86, []), (86, .iastore, 1, 87, []), (87, .return_, 1, 88, [])]
theorem t_X12_notes_ok : t_X12_notes.all (fun q => pz_wf cX12_notes q) = true := by decide +kernel
def t_X12_canAsk : List pz_E := [(0, .aload_n 0, 1, 1, []), (1, .iload_n 1, 1, 2, []), (2, .invokevirtual 58, 3, 5, []), (5, .ifCond .eq 17, 3, 8, [22]), (8, .aload_n 0, 1, 9, []), (9, .iload_n 1, 1, 10, []), (10, .iconst 1, 1, 11, []), (11, .iadd, 1, 12, []), (12, .invokevirtual 317, 3, 15, []), (15, .ifCond .eq 7, 3, 18, [22]), (18, .iconst 1, 1, 19, []), (19, .goto 4, 3, 22, [23]), (22, .iconst 0, 1, 23, []), (23, .ireturn, 1, 24, [])]
theorem t_X12_canAsk_ok : t_X12_canAsk.all (fun q => pz_wf cX12_canAsk q) = true := by decide +kernel
def t_X12_asks : List pz_E := [(0, .iload_n 1, 1, 1, []), (1, .iconst 1, 1, 2, []), (2, .iadd, 1, 3, []), (3, .istore_n 3, 1, 4, []), (4, .aload_n 0, 1, 5, []), (5, .iload_n 3, 1, 6, []), (6, .invokevirtual 320, 3, 9, []), (9, .iload_n 2, 1, 10, []), (10, .invokestatic 47, 3, 13, []), (13, .aload_n 0, 1, 14, []), (14, .getfield 7, 3, 17, []), (17, .iconst 4, 1, 18, []), (18, .iload_n 3, 1, 19, []), (19, .iadd, 1, 20, []), (20, .iaload, 1, 21, []), (21, .iconst 1, 1, 22, []), (22, .isub, 1, 23, []), (23, .invokestatic 47, 3, 26, []), (26, .istore 4, 2, 28, []), (28, .aload_n 0, 1, 29, []), (29, .getfield 7, 3, 32, []), (32, .iconst 4, 1, 33, []), (33, .iload_n 3, 1, 34, []), (34, .iadd, 1, 35, []), (35, .dup2, 1, 36, []), (36, .iaload, 1, 37, []), (37, .iload 4, 2, 39, []), (39, .isub, 1, 40, []), (40, .iastore, 1, 41, []), (41, .aload_n 0, 1, 42, []), (42, .getfield 7, 3, 45, []), (45, .bipush 28, 2, 47, []), (47, .iload_n 3, 1, 48, []), (48, .iadd, 1, 49, []), (49, .sipush (-999), 3, 52, []), (52, .aload_n 0, 1, 53, []), (53, .getfield 7, 3, 56, []), (56, .bipush 28, 2, 58, []), (58, .iload_n 3, 1, 59, []), (59, .iadd, 1, 60, []), (60, .iaload, 1, 61, []), (61, .iload 4, 2, 63, []), (63, .isub, 1, 64, []), (64, .invokestatic 51, 3, 67, []), (67, .iastore, 1, 68, []), (68, .aload_n 0, 1, 69, []), (69, .iconst 0, 1, 70, []), (70, .iload_n 3, 1, 71, []), (71, .iload 4, 2, 73, []), (73, .invokevirtual 323, 3, 76, []), (76, .iload 4, 2, 78, []), (78, .ireturn, 1, 79, [])]
theorem t_X12_asks_ok : t_X12_asks.all (fun q => pz_wf cX12_asks q) = true := by decide +kernel
def t_X12_canBridge : List pz_E := [(0, .aload_n 0, 1, 1, []), (1, .iload_n 1, 1, 2, []), (2, .invokevirtual 317, 3, 5, []), (5, .ifCond .eq 32, 3, 8, [37]), (8, .iload_n 1, 1, 9, []), (9, .ifCond .le 28, 3, 12, [37]), (12, .iload_n 1, 1, 13, []), (13, .aload_n 0, 1, 14, []), (14, .getfield 7, 3, 17, []), (17, .bipush 88, 2, 19, []), (19, .iaload, 1, 20, []), (20, .iconst 1, 1, 21, []), (21, .isub, 1, 22, []), (22, .if_icmp .ge 15, 3, 25, [37]), (25, .aload_n 0, 1, 26, []), (26, .iload_n 1, 1, 27, []), (27, .invokevirtual 288, 3, 30, []), (30, .ifCond .ne 7, 3, 33, [37]), (33, .iconst 1, 1, 34, []), (34, .goto 4, 3, 37, [38]), (37, .iconst 0, 1, 38, []), (38, .ireturn, 1, 39, [])]
theorem t_X12_canBridge_ok : t_X12_canBridge.all (fun q => pz_wf cX12_canBridge q) = true := by decide +kernel
def t_X12_bridges0 : List pz_E := [(0, .aload_n 0, 1, 1, []), (1, .getfield 7, 3, 4, []), (4, .bipush 64, 2, 6, []), (6, .iload_n 1, 1, 7, []), (7, .iadd, 1, 8, []), (8, .iconst 1, 1, 9, []), (9, .iastore, 1, 10, []), (10, .aload_n 0, 1, 11, []), (11, .iconst 1, 1, 12, []), (12, .iload_n 1, 1, 13, []), (13, .iconst 0, 1, 14, []), (14, .invokevirtual 323, 3, 17, []), (17, .return_, 1, 18, [])]
theorem t_X12_bridges0_ok : t_X12_bridges0.all (fun q => pz_wf cX12_bridges0 q) = true := by decide +kernel
def t_X12_canPay0 : List pz_E := [(0, .aload_n 0, 1, 1, []), (1, .iload_n 1, 1, 2, []), (2, .invokevirtual 58, 3, 5, []), (5, .ifCond .eq 54, 3, 8, [59]), (8, .aload_n 0, 1, 9, []), (9, .iload_n 2, 1, 10, []), (10, .invokevirtual 58, 3, 13, []), (13, .ifCond .eq 46, 3, 16, [59]), (16, .iload_n 1, 1, 17, []), (17, .iload_n 2, 1, 18, []), (18, .if_icmp .eq 41, 3, 21, [59]), (21, .aload_n 0, 1, 22, []), (22, .getfield 7, 3, 25, []), (25, .bipush 16, 2, 27, []), (27, .iload_n 1, 1, 28, []), (28, .iadd, 1, 29, []), (29, .iaload, 1, 30, []), (30, .iload_n 3, 1, 31, []), (31, .isub, 1, 32, []), (32, .sipush (-9999), 3, 35, []), (35, .if_icmp .lt 24, 3, 38, [59]), (38, .aload_n 0, 1, 39, []), (39, .getfield 7, 3, 42, []), (42, .bipush 16, 2, 44, []), (44, .iload_n 2, 1, 45, []), (45, .iadd, 1, 46, []), (46, .iaload, 1, 47, []), (47, .iload_n 3, 1, 48, []), (48, .iadd, 1, 49, []), (49, .sipush 9999, 3, 52, []), (52, .if_icmp .gt 7, 3, 55, [59]), (55, .iconst 1, 1, 56, []), (56, .goto 4, 3, 59, [60]), (59, .iconst 0, 1, 60, []), (60, .ireturn, 1, 61, [])]
theorem t_X12_canPay0_ok : t_X12_canPay0.all (fun q => pz_wf cX12_canPay0 q) = true := by decide +kernel
def t_X12_pays : List pz_E := [(0, .aload_n 0, 1, 1, []), (1, .getfield 7, 3, 4, []), (4, .bipush 16, 2, 6, []), (6, .iload_n 1, 1, 7, []), (7, .iadd, 1, 8, []), (8, .dup2, 1, 9, []), (9, .iaload, 1, 10, []), (10, .iload_n 3, 1, 11, []), (11, .isub, 1, 12, []), (12, .iastore, 1, 13, []), (13, .aload_n 0, 1, 14, []), (14, .getfield 7, 3, 17, []), (17, .bipush 16, 2, 19, []), (19, .iload_n 2, 1, 20, []), (20, .iadd, 1, 21, []), (21, .dup2, 1, 22, []), (22, .iaload, 1, 23, []), (23, .iload_n 3, 1, 24, []), (24, .iadd, 1, 25, []), (25, .iastore, 1, 26, []), (26, .aload_n 0, 1, 27, []), (27, .iconst 2, 1, 28, []), (28, .iload_n 1, 1, 29, []), (29, .iload_n 3, 1, 30, []), (30, .invokevirtual 323, 3, 33, []), (33, .return_, 1, 34, [])]
theorem t_X12_pays_ok : t_X12_pays.all (fun q => pz_wf cX12_pays q) = true := by decide +kernel
def t_X12_canPaper : List pz_E := [(0, .aload_n 0, 1, 1, []), (1, .iload_n 1, 1, 2, []), (2, .invokevirtual 317, 3, 5, []), (5, .ifCond .eq 15, 3, 8, [20]), (8, .aload_n 0, 1, 9, []), (9, .iload_n 1, 1, 10, []), (10, .invokevirtual 297, 3, 13, []), (13, .ifCond .ne 7, 3, 16, [20]), (16, .iconst 1, 1, 17, []), (17, .goto 4, 3, 20, [21]), (20, .iconst 0, 1, 21, []), (21, .ireturn, 1, 22, [])]
theorem t_X12_canPaper_ok : t_X12_canPaper.all (fun q => pz_wf cX12_canPaper q) = true := by decide +kernel
def t_X12_getsReady : List pz_E := [(0, .aload_n 0, 1, 1, []), (1, .getfield 7, 3, 4, []), (4, .bipush 40, 2, 6, []), (6, .iload_n 1, 1, 7, []), (7, .iadd, 1, 8, []), (8, .iconst 1, 1, 9, []), (9, .iastore, 1, 10, []), (10, .aload_n 0, 1, 11, []), (11, .iconst 3, 1, 12, []), (12, .iload_n 1, 1, 13, []), (13, .iconst 0, 1, 14, []), (14, .invokevirtual 323, 3, 17, []), (17, .return_, 1, 18, [])]
theorem t_X12_getsReady_ok : t_X12_getsReady.all (fun q => pz_wf cX12_getsReady q) = true := by decide +kernel
def t_X12_ask : List pz_E := [(0, .aload_n 0, 1, 1, []), (1, .iload_n 1, 1, 2, []), (2, .invokevirtual 327, 3, 5, []), (5, .ifCond .eq 13, 3, 8, [18]), (8, .iload_n 2, 1, 9, []), (9, .iconst 1, 1, 10, []), (10, .bipush 99, 2, 12, []), (12, .invokestatic 54, 3, 15, []), (15, .ifCond .ne 5, 3, 18, [20]), (18, .iconst (-1), 1, 19, []), (19, .ireturn, 1, 20, []), (20, .aload_n 0, 1, 21, []), (21, .invokevirtual 330, 3, 24, []), (24, .aload_n 0, 1, 25, []), (25, .iload_n 1, 1, 26, []), (26, .iload_n 2, 1, 27, []), (27, .invokevirtual 333, 3, 30, []), (30, .ireturn, 1, 31, [])]
theorem t_X12_ask_ok : t_X12_ask.all (fun q => pz_wf cX12_ask q) = true := by decide +kernel
def t_X12_bridge : List pz_E := [(0, .aload_n 0, 1, 1, []), (1, .iload_n 1, 1, 2, []), (2, .invokevirtual 336, 3, 5, []), (5, .ifCond .ne 5, 3, 8, [10]), (8, .iconst 0, 1, 9, []), (9, .ireturn, 1, 10, []), (10, .aload_n 0, 1, 11, []), (11, .invokevirtual 330, 3, 14, []), (14, .aload_n 0, 1, 15, []), (15, .iload_n 1, 1, 16, []), (16, .invokevirtual 339, 3, 19, []), (19, .iconst 1, 1, 20, []), (20, .ireturn, 1, 21, [])]
theorem t_X12_bridge_ok : t_X12_bridge.all (fun q => pz_wf cX12_bridge q) = true := by decide +kernel
def t_X12_pay : List pz_E := [(0, .iload_n 3, 1, 1, []), (1, .iconst 1, 1, 2, []), (2, .bipush 99, 2, 4, []), (4, .invokestatic 54, 3, 7, []), (7, .ifCond .eq 13, 3, 10, [20]), (10, .aload_n 0, 1, 11, []), (11, .iload_n 1, 1, 12, []), (12, .iload_n 2, 1, 13, []), (13, .iload_n 3, 1, 14, []), (14, .invokevirtual 343, 3, 17, []), (17, .ifCond .ne 5, 3, 20, [22]), (20, .iconst 0, 1, 21, []), (21, .ireturn, 1, 22, []), (22, .aload_n 0, 1, 23, []), (23, .invokevirtual 330, 3, 26, []), (26, .aload_n 0, 1, 27, []), (27, .iload_n 1, 1, 28, []), (28, .iload_n 2, 1, 29, []), (29, .iload_n 3, 1, 30, []), (30, .invokevirtual 346, 3, 33, []), (33, .iconst 1, 1, 34, []), (34, .ireturn, 1, 35, [])]
theorem t_X12_pay_ok : t_X12_pay.all (fun q => pz_wf cX12_pay q) = true := by decide +kernel
def t_X12_paper : List pz_E := [(0, .aload_n 0, 1, 1, []), (1, .iload_n 1, 1, 2, []), (2, .invokevirtual 349, 3, 5, []), (5, .ifCond .ne 5, 3, 8, [10]), (8, .iconst 0, 1, 9, []), (9, .ireturn, 1, 10, []), (10, .aload_n 0, 1, 11, []), (11, .invokevirtual 330, 3, 14, []), (14, .aload_n 0, 1, 15, []), (15, .iload_n 1, 1, 16, []), (16, .invokevirtual 352, 3, 19, []), (19, .iconst 1, 1, 20, []), (20, .ireturn, 1, 21, [])]
theorem t_X12_paper_ok : t_X12_paper.all (fun q => pz_wf cX12_paper q) = true := by decide +kernel
def t_X12_join : List pz_E := [(0, .aload_n 0, 1, 1, []), (1, .iload_n 1, 1, 2, []), (2, .invokevirtual 58, 3, 5, []), (5, .ifCond .eq 11, 3, 8, [16]), (8, .aload_n 0, 1, 9, []), (9, .iload_n 1, 1, 10, []), (10, .invokevirtual 62, 3, 13, []), (13, .ifCond .ne 5, 3, 16, [18]), (16, .iconst 0, 1, 17, []), (17, .ireturn, 1, 18, []), (18, .aload_n 0, 1, 19, []), (19, .invokevirtual 330, 3, 22, []), (22, .aload_n 0, 1, 23, []), (23, .getfield 7, 3, 26, []), (26, .bipush 52, 2, 28, []), (28, .iload_n 1, 1, 29, []), (29, .iadd, 1, 30, []), (30, .iconst 0, 1, 31, []), (31, .iastore, 1, 32, []), (32, .aload_n 0, 1, 33, []), (33, .getfield 7, 3, 36, []), (36, .bipush 40, 2, 38, []), (38, .iload_n 1, 1, 39, []), (39, .iadd, 1, 40, []), (40, .iconst 0, 1, 41, []), (41, .iastore, 1, 42, []), (42, .aload_n 0, 1, 43, []), (43, .bipush 6, 2, 45, []), (45, .iload_n 1, 1, 46, []), (46, .iconst 0, 1, 47, []), (47, .invokevirtual 323, 3, 50, []), (50, .iconst 1, 1, 51, []), (51, .ireturn, 1, 52, [])]
theorem t_X12_join_ok : t_X12_join.all (fun q => pz_wf cX12_join q) = true := by decide +kernel
def t_X12_does : List pz_E := [(0, .aload_n 0, 1, 1, []), (1, .getfield 7, 3, 4, []), (4, .iload_n 1, 1, 5, []), (5, .iconst 2, 1, 6, []), (6, .iadd, 1, 7, []), (7, .iaload, 1, 8, []), (8, .istore_n 2, 1, 9, []), (9, .aload_n 0, 1, 10, []), (10, .getfield 7, 3, 13, []), (13, .iload_n 1, 1, 14, []), (14, .iconst 1, 1, 15, []), (15, .iadd, 1, 16, []), (16, .iaload, 1, 17, []), (17, .tableswitch 116 8 10 #[27, 52, 68], 27, 44, [133, 44, 69, 85]), (44, .aload_n 0, 1, 45, []), (45, .iload_n 2, 1, 46, []), (46, .invokevirtual 327, 3, 49, []), (49, .ifCond .eq 97, 3, 52, [146]), (52, .aload_n 0, 1, 53, []), (53, .iload_n 2, 1, 54, []), (54, .aload_n 0, 1, 55, []), (55, .getfield 7, 3, 58, []), (58, .iload_n 1, 1, 59, []), (59, .iconst 4, 1, 60, []), (60, .iadd, 1, 61, []), (61, .iaload, 1, 62, []), (62, .invokevirtual 333, 3, 65, []), (65, .pop, 1, 66, []), (66, .goto 80, 3, 69, [146]), (69, .aload_n 0, 1, 70, []), (70, .iload_n 2, 1, 71, []), (71, .invokevirtual 336, 3, 74, []), (74, .ifCond .eq 72, 3, 77, [146]), (77, .aload_n 0, 1, 78, []), (78, .iload_n 2, 1, 79, []), (79, .invokevirtual 339, 3, 82, []), (82, .goto 64, 3, 85, [146]), (85, .aload_n 0, 1, 86, []), (86, .iload_n 2, 1, 87, []), (87, .aload_n 0, 1, 88, []), (88, .getfield 7, 3, 91, []), (91, .iload_n 1, 1, 92, []), (92, .iconst 3, 1, 93, []), (93, .iadd, 1, 94, []), (94, .iaload, 1, 95, []), (95, .aload_n 0, 1, 96, []), (96, .getfield 7, 3, 99, []), (99, .iload_n 1, 1, 100, []), (100, .iconst 4, 1, 101, []), (101, .iadd, 1, 102, []), (102, .iaload, 1, 103, []), (103, .invokevirtual 343, 3, 106, []), (106, .ifCond .eq 40, 3, 109, [146]), (109, .aload_n 0, 1, 110, []), (110, .iload_n 2, 1, 111, []), (111, .aload_n 0, 1, 112, []), (112, .getfield 7, 3, 115, []), (115, .iload_n 1, 1, 116, []), (116, .iconst 3, 1, 117, []), (117, .iadd, 1, 118, []), (118, .iaload, 1, 119, []), (119, .aload_n 0, 1, 120, []), (120, .getfield 7, 3, 123, []), (123, .iload_n 1, 1, 124, []), (124, .iconst 4, 1, 125, []), (125, .iadd, 1, 126, []), (126, .iaload, 1, 127, []), (127, .invokevirtual 346, 3, 130, []), (130, .goto 16, 3, 133, [146]), (133, .aload_n 0, 1, 134, []), (134, .iload_n 2, 1, 135, []), (135, .invokevirtual 349, 3, 138, []), (138, .ifCond .eq 8, 3, 141, [146]), (141, .aload_n 0, 1, 142, []), (142, .iload_n 2, 1, 143, []), (143, .invokevirtual 352, 3, 146, []), (146, .return_, 1, 147, [])]
theorem t_X12_does_ok : t_X12_does.all (fun q => pz_wf cX12_does q) = true := by decide +kernel
def t_X12_falls : List pz_E := [(0, .aload_n 0, 1, 1, []), (1, .getfield 313, 3, 4, []), (4, .ifCond .eq 22, 3, 7, [26]), (7, .aload_n 0, 1, 8, []), (8, .sipush 1000, 3, 11, []), (11, .invokevirtual 355, 3, 14, []), (14, .iload_n 1, 1, 15, []), (15, .if_icmp .ge 7, 3, 18, [22]), (18, .iconst 1, 1, 19, []), (19, .goto 19, 3, 22, [38]), (22, .iconst 0, 1, 23, []), (23, .goto 15, 3, 26, [38]), (26, .iload_n 1, 1, 27, []), (27, .sipush 500, 3, 30, []), (30, .if_icmp .lt 7, 3, 33, [37]), (33, .iconst 1, 1, 34, []), (34, .goto 4, 3, 37, [38]), (37, .iconst 0, 1, 38, []), (38, .ireturn, 1, 39, [])]
theorem t_X12_falls_ok : t_X12_falls.all (fun q => pz_wf cX12_falls q) = true := by decide +kernel
def t_X12_unreadies : List pz_E := [(0, .aload_n 0, 1, 1, []), (1, .iload_n 1, 1, 2, []), (2, .invokevirtual 58, 3, 5, []), (5, .ifCond .eq 21, 3, 8, [26]), (8, .aload_n 0, 1, 9, []), (9, .iload_n 1, 1, 10, []), (10, .invokevirtual 65, 3, 13, []), (13, .ifCond .ne 13, 3, 16, [26]), (16, .aload_n 0, 1, 17, []), (17, .getfield 7, 3, 20, []), (20, .bipush 40, 2, 22, []), (22, .iload_n 1, 1, 23, []), (23, .iadd, 1, 24, []), (24, .iconst 0, 1, 25, []), (25, .iastore, 1, 26, []), (26, .return_, 1, 27, [])]
theorem t_X12_unreadies_ok : t_X12_unreadies.all (fun q => pz_wf cX12_unreadies q) = true := by decide +kernel
def t_X12_leaves : List pz_E := [(0, .aload_n 0, 1, 1, []), (1, .getfield 7, 3, 4, []), (4, .bipush 52, 2, 6, []), (6, .iload_n 1, 1, 7, []), (7, .iadd, 1, 8, []), (8, .iconst 1, 1, 9, []), (9, .iastore, 1, 10, []), (10, .aload_n 0, 1, 11, []), (11, .getfield 7, 3, 14, []), (14, .iconst 1, 1, 15, []), (15, .dup2, 1, 16, []), (16, .iaload, 1, 17, []), (17, .iconst 1, 1, 18, []), (18, .iadd, 1, 19, []), (19, .iastore, 1, 20, []), (20, .aload_n 0, 1, 21, []), (21, .getfield 7, 3, 24, []), (24, .bipush 40, 2, 26, []), (26, .iload_n 1, 1, 27, []), (27, .iadd, 1, 28, []), (28, .iconst 0, 1, 29, []), (29, .iastore, 1, 30, []), (30, .aload_n 0, 1, 31, []), (31, .iload_n 1, 1, 32, []), (32, .iconst 1, 1, 33, []), (33, .isub, 1, 34, []), (34, .invokevirtual 358, 3, 37, []), (37, .aload_n 0, 1, 38, []), (38, .iload_n 1, 1, 39, []), (39, .iconst 1, 1, 40, []), (40, .iadd, 1, 41, []), (41, .invokevirtual 358, 3, 44, []), (44, .aload_n 0, 1, 45, []), (45, .iconst 4, 1, 46, []), (46, .iload_n 1, 1, 47, []), (47, .iconst 0, 1, 48, []), (48, .invokevirtual 323, 3, 51, []), (51, .return_, 1, 52, [])]
theorem t_X12_leaves_ok : t_X12_leaves.all (fun q => pz_wf cX12_leaves q) = true := by decide +kernel
def t_X12_canMove : List pz_E := [(0, .iload_n 1, 1, 1, []), (1, .istore_n 3, 1, 2, []), (2, .iload_n 3, 1, 3, []), (3, .iload_n 2, 1, 4, []), (4, .if_icmp .gt 40, 3, 7, [44]), (7, .aload_n 0, 1, 8, []), (8, .iload_n 3, 1, 9, []), (9, .invokevirtual 297, 3, 12, []), (12, .ifCond .eq 24, 3, 15, [36]), (15, .aload_n 0, 1, 16, []), (16, .iload_n 3, 1, 17, []), (17, .invokevirtual 62, 3, 20, []), (20, .ifCond .ne 16, 3, 23, [36]), (23, .iload_n 3, 1, 24, []), (24, .iload_n 2, 1, 25, []), (25, .if_icmp .ge 13, 3, 28, [38]), (28, .aload_n 0, 1, 29, []), (29, .iload_n 3, 1, 30, []), (30, .invokevirtual 361, 3, 33, []), (33, .ifCond .ne 5, 3, 36, [38]), (36, .iconst 0, 1, 37, []), (37, .ireturn, 1, 38, []), (38, .iinc 3 1, 3, 41, []), (41, .goto (-39), 3, 44, [2]), (44, .iconst 1, 1, 45, []), (45, .ireturn, 1, 46, [])]
theorem t_X12_canMove_ok : t_X12_canMove.all (fun q => pz_wf cX12_canMove q) = true := by decide +kernel
def t_X12_moves : List pz_E := [(0, .aload_n 0, 1, 1, []), (1, .invokevirtual 291, 3, 4, []), (4, .istore_n 1, 1, 5, []), (5, .iconst 0, 1, 6, []), (6, .istore_n 2, 1, 7, []), (7, .iconst 0, 1, 8, []), (8, .istore_n 3, 1, 9, []), (9, .iload_n 3, 1, 10, []), (10, .aload_n 0, 1, 11, []), (11, .getfield 7, 3, 14, []), (14, .bipush 88, 2, 16, []), (16, .iaload, 1, 17, []), (17, .if_icmp .ge 134, 3, 20, [151]), (20, .aload_n 0, 1, 21, []), (21, .iload_n 3, 1, 22, []), (22, .iload_n 1, 1, 23, []), (23, .invokevirtual 294, 3, 26, []), (26, .istore 4, 2, 28, []), (28, .iload 4, 2, 30, []), (30, .aload_n 0, 1, 31, []), (31, .getfield 7, 3, 34, []), (34, .bipush 88, 2, 36, []), (36, .iaload, 1, 37, []), (37, .iconst 1, 1, 38, []), (38, .isub, 1, 39, []), (39, .if_icmp .ne 7, 3, 42, [46]), (42, .iconst 1, 1, 43, []), (43, .goto 4, 3, 46, [47]), (46, .iconst 0, 1, 47, []), (47, .istore 5, 2, 49, []), (49, .aload_n 0, 1, 50, []), (50, .iload_n 3, 1, 51, []), (51, .iload 4, 2, 53, []), (53, .invokevirtual 364, 3, 56, []), (56, .istore 6, 2, 58, []), (58, .iload_n 3, 1, 59, []), (59, .istore 7, 2, 61, []), (61, .iload 7, 2, 63, []), (63, .iload 4, 2, 65, []), (65, .if_icmp .gt 65, 3, 68, [130]), (68, .iload 6, 2, 70, []), (70, .ifCond .eq 60, 3, 73, [130]), (73, .aload_n 0, 1, 74, []), (74, .iload 7, 2, 76, []), (76, .invokevirtual 65, 3, 79, []), (79, .ifCond .ne 45, 3, 82, [124]), (82, .iload 7, 2, 84, []), (84, .iload 4, 2, 86, []), (86, .if_icmp .ne 11, 3, 89, [97]), (89, .iload 5, 2, 91, []), (91, .ifCond .ne 6, 3, 94, [97]), (94, .goto 30, 3, 97, [124]), (97, .aload_n 0, 1, 98, []), (98, .getfield 7, 3, 101, []), (101, .bipush 76, 2, 103, []), (103, .iload 7, 2, 105, []), (105, .iadd, 1, 106, []), (106, .aload_n 0, 1, 107, []), (107, .getfield 7, 3, 110, []), (110, .iconst 0, 1, 111, []), (111, .iaload, 1, 112, []), (112, .iastore, 1, 113, []), (113, .aload_n 0, 1, 114, []), (114, .iconst 5, 1, 115, []), (115, .iload 7, 2, 117, []), (117, .iconst 0, 1, 118, []), (118, .invokevirtual 323, 3, 121, []), (121, .iinc 2 1, 3, 124, []), (124, .iinc 7 1, 3, 127, []), (127, .goto (-66), 3, 130, [61]), (130, .iload 5, 2, 132, []), (132, .ifCond .eq 13, 3, 135, [145]), (135, .aload_n 0, 1, 136, []), (136, .getfield 7, 3, 139, []), (139, .bipush 88, 2, 141, []), (141, .iaload, 1, 142, []), (142, .goto 5, 3, 145, [147]), (145, .iload 4, 2, 147, []), (147, .istore_n 3, 1, 148, []), (148, .goto (-139), 3, 151, [9]), (151, .iload_n 2, 1, 152, []), (152, .ireturn, 1, 153, [])]
theorem t_X12_moves_ok : t_X12_moves.all (fun q => pz_wf cX12_moves q) = true := by decide +kernel
def t_X12_aDay : List pz_E := [(0, .iconst 0, 1, 1, []), (1, .istore_n 1, 1, 2, []), (2, .iload_n 1, 1, 3, []), (3, .aload_n 0, 1, 4, []), (4, .getfield 7, 3, 7, []), (7, .bipush 90, 2, 9, []), (9, .iaload, 1, 10, []), (10, .if_icmp .ge 41, 3, 13, [51]), (13, .aload_n 0, 1, 14, []), (14, .getfield 7, 3, 17, []), (17, .sipush 129, 3, 20, []), (20, .iconst 5, 1, 21, []), (21, .iload_n 1, 1, 22, []), (22, .imul, 1, 23, []), (23, .iadd, 1, 24, []), (24, .iaload, 1, 25, []), (25, .aload_n 0, 1, 26, []), (26, .getfield 7, 3, 29, []), (29, .iconst 0, 1, 30, []), (30, .iaload, 1, 31, []), (31, .if_icmp .ne 14, 3, 34, [45]), (34, .aload_n 0, 1, 35, []), (35, .sipush 129, 3, 38, []), (38, .iconst 5, 1, 39, []), (39, .iload_n 1, 1, 40, []), (40, .imul, 1, 41, []), (41, .iadd, 1, 42, []), (42, .invokevirtual 367, 3, 45, []), (45, .iinc 1 1, 3, 48, []), (48, .goto (-46), 3, 51, [2]), (51, .iconst 0, 1, 52, []), (52, .istore_n 1, 1, 53, []), (53, .iload_n 1, 1, 54, []), (54, .aload_n 0, 1, 55, []), (55, .getfield 7, 3, 58, []), (58, .bipush 88, 2, 60, []), (60, .iaload, 1, 61, []), (61, .if_icmp .ge 34, 3, 64, [95]), (64, .aload_n 0, 1, 65, []), (65, .iload_n 1, 1, 66, []), (66, .invokevirtual 349, 3, 69, []), (69, .ifCond .eq 20, 3, 72, [89]), (72, .aload_n 0, 1, 73, []), (73, .aload_n 0, 1, 74, []), (74, .iload_n 1, 1, 75, []), (75, .invokevirtual 370, 3, 78, []), (78, .invokevirtual 373, 3, 81, []), (81, .ifCond .eq 8, 3, 84, [89]), (84, .aload_n 0, 1, 85, []), (85, .iload_n 1, 1, 86, []), (86, .invokevirtual 352, 3, 89, []), (89, .iinc 1 1, 3, 92, []), (92, .goto (-39), 3, 95, [53]), (95, .iconst 0, 1, 96, []), (96, .istore_n 1, 1, 97, []), (97, .iload_n 1, 1, 98, []), (98, .aload_n 0, 1, 99, []), (99, .getfield 7, 3, 102, []), (102, .bipush 88, 2, 104, []), (104, .iaload, 1, 105, []), (105, .if_icmp .ge 44, 3, 108, [149]), (108, .aload_n 0, 1, 109, []), (109, .iload_n 1, 1, 110, []), (110, .invokevirtual 317, 3, 113, []), (113, .ifCond .eq 11, 3, 116, [124]), (116, .aload_n 0, 1, 117, []), (117, .iload_n 1, 1, 118, []), (118, .invokevirtual 376, 3, 121, []), (121, .goto 4, 3, 124, [125]), (124, .iconst 0, 1, 125, []), (125, .istore_n 2, 1, 126, []), (126, .iload_n 2, 1, 127, []), (127, .ifCond .le 16, 3, 130, [143]), (130, .aload_n 0, 1, 131, []), (131, .iload_n 2, 1, 132, []), (132, .invokevirtual 373, 3, 135, []), (135, .ifCond .eq 8, 3, 138, [143]), (138, .aload_n 0, 1, 139, []), (139, .iload_n 1, 1, 140, []), (140, .invokevirtual 379, 3, 143, []), (143, .iinc 1 1, 3, 146, []), (146, .goto (-49), 3, 149, [97]), (149, .aload_n 0, 1, 150, []), (150, .invokevirtual 382, 3, 153, []), (153, .istore_n 1, 1, 154, []), (154, .iconst 0, 1, 155, []), (155, .istore_n 2, 1, 156, []), (156, .iload_n 2, 1, 157, []), (157, .aload_n 0, 1, 158, []), (158, .getfield 7, 3, 161, []), (161, .bipush 88, 2, 163, []), (163, .iaload, 1, 164, []), (164, .if_icmp .ge 55, 3, 167, [219]), (167, .aload_n 0, 1, 168, []), (168, .iload_n 2, 1, 169, []), (169, .invokevirtual 288, 3, 172, []), (172, .ifCond .eq 41, 3, 175, [213]), (175, .aload_n 0, 1, 176, []), (176, .iload_n 2, 1, 177, []), (177, .invokevirtual 317, 3, 180, []), (180, .ifCond .eq 33, 3, 183, [213]), (183, .aload_n 0, 1, 184, []), (184, .getfield 7, 3, 187, []), (187, .bipush 16, 2, 189, []), (189, .iload_n 2, 1, 190, []), (190, .iadd, 1, 191, []), (191, .sipush (-9999), 3, 194, []), (194, .aload_n 0, 1, 195, []), (195, .getfield 7, 3, 198, []), (198, .bipush 16, 2, 200, []), (200, .iload_n 2, 1, 201, []), (201, .iadd, 1, 202, []), (202, .iaload, 1, 203, []), (203, .aload_n 0, 1, 204, []), (204, .iload_n 2, 1, 205, []), (205, .invokevirtual 385, 3, 208, []), (208, .isub, 1, 209, []), (209, .invokestatic 51, 3, 212, []), (212, .iastore, 1, 213, []), (213, .iinc 2 1, 3, 216, []), (216, .goto (-60), 3, 219, [156]), (219, .aload_n 0, 1, 220, []), (220, .getfield 7, 3, 223, []), (223, .iconst 0, 1, 224, []), (224, .dup2, 1, 225, []), (225, .iaload, 1, 226, []), (226, .iconst 1, 1, 227, []), (227, .iadd, 1, 228, []), (228, .iastore, 1, 229, []), (229, .iload_n 1, 1, 230, []), (230, .ireturn, 1, 231, [])]
theorem t_X12_aDay_ok : t_X12_aDay.all (fun q => pz_wf cX12_aDay q) = true := by decide +kernel
def t_X12_days : List pz_E := [(0, .iload_n 1, 1, 1, []), (1, .iconst 1, 1, 2, []), (2, .bipush 60, 2, 4, []), (4, .invokestatic 54, 3, 7, []), (7, .ifCond .eq 17, 3, 10, [24]), (10, .aload_n 0, 1, 11, []), (11, .getfield 7, 3, 14, []), (14, .iconst 0, 1, 15, []), (15, .iaload, 1, 16, []), (16, .iload_n 1, 1, 17, []), (17, .iadd, 1, 18, []), (18, .sipush 9999, 3, 21, []), (21, .if_icmp .le 5, 3, 24, [26]), (24, .iconst (-1), 1, 25, []), (25, .ireturn, 1, 26, []), (26, .iconst 0, 1, 27, []), (27, .istore_n 2, 1, 28, []), (28, .iconst 0, 1, 29, []), (29, .istore_n 3, 1, 30, []), (30, .iload_n 3, 1, 31, []), (31, .iload_n 1, 1, 32, []), (32, .if_icmp .ge 20, 3, 35, [52]), (35, .aload_n 0, 1, 36, []), (36, .invokevirtual 330, 3, 39, []), (39, .iload_n 2, 1, 40, []), (40, .aload_n 0, 1, 41, []), (41, .invokevirtual 388, 3, 44, []), (44, .iadd, 1, 45, []), (45, .istore_n 2, 1, 46, []), (46, .iinc 3 1, 3, 49, []), (49, .goto (-19), 3, 52, [30]), (52, .iload_n 2, 1, 53, []), (53, .ireturn, 1, 54, [])]
theorem t_X12_days_ok : t_X12_days.all (fun q => pz_wf cX12_days q) = true := by decide +kernel
def t_X12_of : List pz_E := [(0, .aload_n 0, 1, 1, []), (1, .iload_n 1, 1, 2, []), (2, .invokevirtual 58, 3, 5, []), (5, .ifCond .ne 7, 3, 8, [12]), (8, .ldc_w 391, 3, 11, []), (11, .ireturn, 1, 12, []), (12, .iload_n 2, 1, 13, []), (13, .tableswitch 113 3 13 #[59, 113, 113, 113, 113, 69, 75, 81, 87, 93, 107], 59, 72, [126, 72, 126, 126, 126, 126, 82, 88, 94, 100, 106, 120]), (72, .aload_n 0, 1, 73, []), (73, .getfield 7, 3, 76, []), (76, .bipush 93, 2, 78, []), (78, .iload_n 1, 1, 79, []), (79, .iadd, 1, 80, []), (80, .iaload, 1, 81, []), (81, .ireturn, 1, 82, []), (82, .aload_n 0, 1, 83, []), (83, .iload_n 1, 1, 84, []), (84, .invokevirtual 370, 3, 87, []), (87, .ireturn, 1, 88, []), (88, .aload_n 0, 1, 89, []), (89, .iload_n 1, 1, 90, []), (90, .invokevirtual 376, 3, 93, []), (93, .ireturn, 1, 94, []), (94, .aload_n 0, 1, 95, []), (95, .iload_n 1, 1, 96, []), (96, .invokevirtual 320, 3, 99, []), (99, .ireturn, 1, 100, []), (100, .aload_n 0, 1, 101, []), (101, .iload_n 1, 1, 102, []), (102, .invokevirtual 385, 3, 105, []), (105, .ireturn, 1, 106, []), (106, .aload_n 0, 1, 107, []), (107, .iload_n 1, 1, 108, []), (108, .invokevirtual 361, 3, 111, []), (111, .ifCond .eq 7, 3, 114, [118]), (114, .iconst 1, 1, 115, []), (115, .goto 4, 3, 118, [119]), (118, .iconst 0, 1, 119, []), (119, .ireturn, 1, 120, []), (120, .aload_n 0, 1, 121, []), (121, .iload_n 1, 1, 122, []), (122, .invokevirtual 300, 3, 125, []), (125, .ireturn, 1, 126, []), (126, .iload_n 2, 1, 127, []), (127, .iconst 0, 1, 128, []), (128, .bipush 7, 2, 130, []), (130, .invokestatic 54, 3, 133, []), (133, .ifCond .eq 30, 3, 136, [163]), (136, .aload_n 0, 1, 137, []), (137, .getfield 7, 3, 140, []), (140, .iconst 4, 1, 141, []), (141, .bipush 12, 2, 143, []), (143, .iload_n 2, 1, 144, []), (144, .iconst 3, 1, 145, []), (145, .if_icmp .ge 7, 3, 148, [152]), (148, .iload_n 2, 1, 149, []), (149, .goto 6, 3, 152, [155]), (152, .iload_n 2, 1, 153, []), (153, .iconst 1, 1, 154, []), (154, .isub, 1, 155, []), (155, .imul, 1, 156, []), (156, .iadd, 1, 157, []), (157, .iload_n 1, 1, 158, []), (158, .iadd, 1, 159, []), (159, .iaload, 1, 160, []), (160, .goto 6, 3, 163, [166]), (163, .ldc_w 391, 3, 166, []), (166, .ireturn, 1, 167, [])]
theorem t_X12_of_ok : t_X12_of.all (fun q => pz_wf cX12_of q) = true := by decide +kernel
def t_X12_recordsOf : List pz_E := [(0, .iconst 0, 1, 1, []), (1, .istore 4, 2, 3, []), (3, .iconst 0, 1, 4, []), (4, .istore 5, 2, 6, []), (6, .iload 5, 2, 8, []), (8, .aload_n 0, 1, 9, []), (9, .getfield 7, 3, 12, []), (12, .bipush 92, 2, 14, []), (14, .iaload, 1, 15, []), (15, .if_icmp .ge 59, 3, 18, [74]), (18, .iload 4, 2, 20, []), (20, .aload_n 0, 1, 21, []), (21, .getfield 7, 3, 24, []), (24, .sipush 209, 3, 27, []), (27, .iconst 2, 1, 28, []), (28, .iload 5, 2, 30, []), (30, .imul, 1, 31, []), (31, .iadd, 1, 32, []), (32, .iconst 1, 1, 33, []), (33, .iadd, 1, 34, []), (34, .iaload, 1, 35, []), (35, .iload_n 1, 1, 36, []), (36, .if_icmp .ne 28, 3, 39, [64]), (39, .aload_n 0, 1, 40, []), (40, .getfield 7, 3, 43, []), (43, .sipush 209, 3, 46, []), (46, .iconst 2, 1, 47, []), (47, .iload 5, 2, 49, []), (49, .imul, 1, 50, []), (50, .iadd, 1, 51, []), (51, .iaload, 1, 52, []), (52, .iload_n 2, 1, 53, []), (53, .iload_n 3, 1, 54, []), (54, .invokestatic 54, 3, 57, []), (57, .ifCond .eq 7, 3, 60, [64]), (60, .iconst 1, 1, 61, []), (61, .goto 4, 3, 64, [65]), (64, .iconst 0, 1, 65, []), (65, .iadd, 1, 66, []), (66, .istore 4, 2, 68, []), (68, .iinc 5 1, 3, 71, []), (71, .goto (-65), 3, 74, [6]), (74, .iload 4, 2, 76, []), (76, .ireturn, 1, 77, [])]
theorem t_X12_recordsOf_ok : t_X12_recordsOf.all (fun q => pz_wf cX12_recordsOf q) = true := by decide +kernel
def t_X12_phone : List pz_E := [(0, .aload_n 0, 1, 1, []), (1, .iload_n 1, 1, 2, []), (2, .invokevirtual 58, 3, 5, []), (5, .ifCond .eq 12, 3, 8, [17]), (8, .iload_n 2, 1, 9, []), (9, .iconst 0, 1, 10, []), (10, .iconst 2, 1, 11, []), (11, .invokestatic 54, 3, 14, []), (14, .ifCond .ne 5, 3, 17, [19]), (17, .iconst (-1), 1, 18, []), (18, .ireturn, 1, 19, []), (19, .iload_n 2, 1, 20, []), (20, .iconst 2, 1, 21, []), (21, .if_icmp .ne 15, 3, 24, [36]), (24, .aload_n 0, 1, 25, []), (25, .iload_n 1, 1, 26, []), (26, .iconst 0, 1, 27, []), (27, .sipush 1000, 3, 30, []), (30, .invokevirtual 392, 3, 33, []), (33, .goto 16, 3, 36, [49]), (36, .aload_n 0, 1, 37, []), (37, .getfield 7, 3, 40, []), (40, .bipush 105, 2, 42, []), (42, .iconst 2, 1, 43, []), (43, .iload_n 1, 1, 44, []), (44, .imul, 1, 45, []), (45, .iadd, 1, 46, []), (46, .iload_n 2, 1, 47, []), (47, .iadd, 1, 48, []), (48, .iaload, 1, 49, []), (49, .ireturn, 1, 50, [])]
theorem t_X12_phone_ok : t_X12_phone.all (fun q => pz_wf cX12_phone q) = true := by decide +kernel
def t_X12_book : List pz_E := [(0, .iload_n 1, 1, 1, []), (1, .iconst 0, 1, 2, []), (2, .aload_n 0, 1, 3, []), (3, .getfield 7, 3, 6, []), (6, .iconst 3, 1, 7, []), (7, .iaload, 1, 8, []), (8, .iconst 1, 1, 9, []), (9, .isub, 1, 10, []), (10, .invokestatic 54, 3, 13, []), (13, .ifCond .eq 29, 3, 16, [42]), (16, .iload_n 2, 1, 17, []), (17, .iconst 0, 1, 18, []), (18, .iconst 3, 1, 19, []), (19, .invokestatic 54, 3, 22, []), (22, .ifCond .eq 20, 3, 25, [42]), (25, .aload_n 0, 1, 26, []), (26, .getfield 7, 3, 29, []), (29, .sipush 241, 3, 32, []), (32, .iconst 4, 1, 33, []), (33, .iload_n 1, 1, 34, []), (34, .imul, 1, 35, []), (35, .iadd, 1, 36, []), (36, .iload_n 2, 1, 37, []), (37, .iadd, 1, 38, []), (38, .iaload, 1, 39, []), (39, .goto 4, 3, 42, [43]), (42, .iconst (-1), 1, 43, []), (43, .ireturn, 1, 44, [])]
theorem t_X12_book_ok : t_X12_book.all (fun q => pz_wf cX12_book q) = true := by decide +kernel
def t_X12_movedOnes : List pz_E := [(0, .iconst 0, 1, 1, []), (1, .istore_n 1, 1, 2, []), (2, .iconst 0, 1, 3, []), (3, .istore_n 2, 1, 4, []), (4, .iload_n 2, 1, 5, []), (5, .aload_n 0, 1, 6, []), (6, .getfield 7, 3, 9, []), (9, .bipush 88, 2, 11, []), (11, .iaload, 1, 12, []), (12, .if_icmp .ge 27, 3, 15, [39]), (15, .iload_n 1, 1, 16, []), (16, .aload_n 0, 1, 17, []), (17, .iload_n 2, 1, 18, []), (18, .invokevirtual 65, 3, 21, []), (21, .ifCond .eq 9, 3, 24, [30]), (24, .iconst 1, 1, 25, []), (25, .iload_n 2, 1, 26, []), (26, .ishl, 1, 27, []), (27, .goto 4, 3, 30, [31]), (30, .iconst 0, 1, 31, []), (31, .ior, 1, 32, []), (32, .istore_n 1, 1, 33, []), (33, .iinc 2 1, 3, 36, []), (36, .goto (-32), 3, 39, [4]), (39, .iload_n 1, 1, 40, []), (40, .ireturn, 1, 41, [])]
theorem t_X12_movedOnes_ok : t_X12_movedOnes.all (fun q => pz_wf cX12_movedOnes q) = true := by decide +kernel
def t_X12_latestMoved : List pz_E := [(0, .iconst (-1), 1, 1, []), (1, .istore_n 1, 1, 2, []), (2, .iconst 0, 1, 3, []), (3, .istore_n 2, 1, 4, []), (4, .iload_n 2, 1, 5, []), (5, .aload_n 0, 1, 6, []), (6, .getfield 7, 3, 9, []), (9, .bipush 88, 2, 11, []), (11, .iaload, 1, 12, []), (12, .if_icmp .ge 33, 3, 15, [45]), (15, .aload_n 0, 1, 16, []), (16, .iload_n 2, 1, 17, []), (17, .invokevirtual 65, 3, 20, []), (20, .ifCond .ne 5, 3, 23, [25]), (23, .iconst (-1), 1, 24, []), (24, .ireturn, 1, 25, []), (25, .iload_n 1, 1, 26, []), (26, .aload_n 0, 1, 27, []), (27, .getfield 7, 3, 30, []), (30, .bipush 76, 2, 32, []), (32, .iload_n 2, 1, 33, []), (33, .iadd, 1, 34, []), (34, .iaload, 1, 35, []), (35, .invokestatic 51, 3, 38, []), (38, .istore_n 1, 1, 39, []), (39, .iinc 2 1, 3, 42, []), (42, .goto (-38), 3, 45, [4]), (45, .iload_n 1, 1, 46, []), (46, .ireturn, 1, 47, [])]
theorem t_X12_latestMoved_ok : t_X12_latestMoved.all (fun q => pz_wf cX12_latestMoved q) = true := by decide +kernel
def t_X12_goes : List pz_E := [(0, .iload_n 1, 1, 1, []), (1, .iconst 1, 1, 2, []), (2, .bipush 99, 2, 4, []), (4, .invokestatic 54, 3, 7, []), (7, .ifCond .eq 12, 3, 10, [19]), (10, .iload_n 2, 1, 11, []), (11, .iconst 0, 1, 12, []), (12, .iconst 2, 1, 13, []), (13, .invokestatic 54, 3, 16, []), (16, .ifCond .ne 6, 3, 19, [22]), (19, .bipush (-2), 2, 21, []), (21, .ireturn, 1, 22, []), (22, .iconst 0, 1, 23, []), (23, .istore_n 3, 1, 24, []), (24, .iload_n 3, 1, 25, []), (25, .bipush 88, 2, 27, []), (27, .if_icmp .ge 21, 3, 30, [48]), (30, .aload_n 0, 1, 31, []), (31, .getfield 19, 3, 34, []), (34, .iload_n 3, 1, 35, []), (35, .aload_n 0, 1, 36, []), (36, .getfield 7, 3, 39, []), (39, .iload_n 3, 1, 40, []), (40, .iaload, 1, 41, []), (41, .iastore, 1, 42, []), (42, .iinc 3 1, 3, 45, []), (45, .goto (-21), 3, 48, [24]), (48, .aload_n 0, 1, 49, []), (49, .iconst 0, 1, 50, []), (50, .putfield 313, 3, 53, []), (53, .iconst 0, 1, 54, []), (54, .istore_n 3, 1, 55, []), (55, .iload_n 3, 1, 56, []), (56, .iload_n 1, 1, 57, []), (57, .if_icmp .ge 14, 3, 60, [71]), (60, .aload_n 0, 1, 61, []), (61, .invokevirtual 388, 3, 64, []), (64, .pop, 1, 65, []), (65, .iinc 3 1, 3, 68, []), (68, .goto (-13), 3, 71, [55]), (71, .iload_n 2, 1, 72, []), (72, .ifCond .ne 13, 3, 75, [85]), (75, .aload_n 0, 1, 76, []), (76, .invokevirtual 395, 3, 79, []), (79, .invokestatic 398, 3, 82, []), (82, .goto 21, 3, 85, [103]), (85, .iload_n 2, 1, 86, []), (86, .iconst 1, 1, 87, []), (87, .if_icmp .ne 10, 3, 90, [97]), (90, .aload_n 0, 1, 91, []), (91, .invokevirtual 401, 3, 94, []), (94, .goto 9, 3, 97, [103]), (97, .aload_n 0, 1, 98, []), (98, .getfield 7, 3, 101, []), (101, .iconst 1, 1, 102, []), (102, .iaload, 1, 103, []), (103, .istore_n 3, 1, 104, []), (104, .iconst 0, 1, 105, []), (105, .istore 4, 2, 107, []), (107, .iload 4, 2, 109, []), (109, .bipush 88, 2, 111, []), (111, .if_icmp .ge 23, 3, 114, [134]), (114, .aload_n 0, 1, 115, []), (115, .getfield 7, 3, 118, []), (118, .iload 4, 2, 120, []), (120, .aload_n 0, 1, 121, []), (121, .getfield 19, 3, 124, []), (124, .iload 4, 2, 126, []), (126, .iaload, 1, 127, []), (127, .iastore, 1, 128, []), (128, .iinc 4 1, 3, 131, []), (131, .goto (-24), 3, 134, [107]), (134, .iload_n 3, 1, 135, []), (135, .ireturn, 1, 136, [])]
theorem t_X12_goes_ok : t_X12_goes.all (fun q => pz_wf cX12_goes q) = true := by decide +kernel
def t_X12_sureBy : List pz_E := [(0, .ldc2_w 404, 3, 3, []), (3, .lstore_n 2, 1, 4, []), (4, .iconst 0, 1, 5, []), (5, .istore 4, 2, 7, []), (7, .iload 4, 2, 9, []), (9, .iload_n 1, 1, 10, []), (10, .if_icmp .ge 22, 3, 13, [32]), (13, .lload_n 2, 1, 14, []), (14, .sipush 1000, 3, 17, []), (17, .iload_n 0, 1, 18, []), (18, .isub, 1, 19, []), (19, .i2l, 1, 20, []), (20, .lmul, 1, 21, []), (21, .ldc2_w 406, 3, 24, []), (24, .ldiv, 1, 25, []), (25, .lstore_n 2, 1, 26, []), (26, .iinc 4 1, 3, 29, []), (29, .goto (-22), 3, 32, [7]), (32, .ldc2_w 404, 3, 35, []), (35, .lload_n 2, 1, 36, []), (36, .lsub, 1, 37, []), (37, .lreturn, 1, 38, [])]
theorem t_X12_sureBy_ok : t_X12_sureBy.all (fun q => pz_wf cX12_sureBy q) = true := by decide +kernel
def t_X12_readyBy : List pz_E := [(0, .aload_n 0, 1, 1, []), (1, .iload_n 1, 1, 2, []), (2, .invokevirtual 62, 3, 5, []), (5, .ifCond .eq 7, 3, 8, [12]), (8, .lconst 0, 1, 9, []), (9, .goto 26, 3, 12, [35]), (12, .aload_n 0, 1, 13, []), (13, .iload_n 1, 1, 14, []), (14, .invokevirtual 297, 3, 17, []), (17, .ifCond .eq 9, 3, 20, [26]), (20, .ldc2_w 404, 3, 23, []), (23, .goto 12, 3, 26, [35]), (26, .aload_n 0, 1, 27, []), (27, .iload_n 1, 1, 28, []), (28, .invokevirtual 370, 3, 31, []), (31, .iload_n 2, 1, 32, []), (32, .invokestatic 408, 3, 35, []), (35, .lreturn, 1, 36, [])]
theorem t_X12_readyBy_ok : t_X12_readyBy.all (fun q => pz_wf cX12_readyBy q) = true := by decide +kernel
def t_X12_allBy : List pz_E := [(0, .ldc2_w 404, 3, 3, []), (3, .lstore 4, 2, 5, []), (5, .iload_n 1, 1, 6, []), (6, .istore 6, 2, 8, []), (8, .iload 6, 2, 10, []), (10, .iload_n 2, 1, 11, []), (11, .if_icmp .gt 43, 3, 14, [54]), (14, .aload_n 0, 1, 15, []), (15, .iload 6, 2, 17, []), (17, .invokevirtual 297, 3, 20, []), (20, .ifCond .eq 12, 3, 23, [32]), (23, .aload_n 0, 1, 24, []), (24, .iload 6, 2, 26, []), (26, .invokevirtual 62, 3, 29, []), (29, .ifCond .eq 19, 3, 32, [48]), (32, .lload 4, 2, 34, []), (34, .aload_n 0, 1, 35, []), (35, .iload 6, 2, 37, []), (37, .iload_n 3, 1, 38, []), (38, .invokevirtual 412, 3, 41, []), (41, .lmul, 1, 42, []), (42, .ldc2_w 404, 3, 45, []), (45, .ldiv, 1, 46, []), (46, .lstore 4, 2, 48, []), (48, .iinc 6 1, 3, 51, []), (51, .goto (-43), 3, 54, [8]), (54, .lload 4, 2, 56, []), (56, .lreturn, 1, 57, [])]
theorem t_X12_allBy_ok : t_X12_allBy.all (fun q => pz_wf cX12_allBy q) = true := by decide +kernel
def t_X12_odds : List pz_E := [(0, .iload_n 1, 1, 1, []), (1, .iconst 1, 1, 2, []), (2, .bipush 60, 2, 4, []), (4, .invokestatic 54, 3, 7, []), (7, .ifCond .eq 22, 3, 10, [29]), (10, .aload_n 0, 1, 11, []), (11, .iconst 0, 1, 12, []), (12, .aload_n 0, 1, 13, []), (13, .getfield 7, 3, 16, []), (16, .bipush 88, 2, 18, []), (18, .iaload, 1, 19, []), (19, .iconst 1, 1, 20, []), (20, .isub, 1, 21, []), (21, .iload_n 1, 1, 22, []), (22, .invokevirtual 415, 3, 25, []), (25, .l2i, 1, 26, []), (26, .goto 4, 3, 29, [30]), (29, .iconst (-1), 1, 30, []), (30, .ireturn, 1, 31, [])]
theorem t_X12_odds_ok : t_X12_odds.all (fun q => pz_wf cX12_odds q) = true := by decide +kernel
def t_X12_holds : List pz_E := [(0, .iload_n 1, 1, 1, []), (1, .iconst 1, 1, 2, []), (2, .bipush 60, 2, 4, []), (4, .invokestatic 54, 3, 7, []), (7, .ifCond .eq 12, 3, 10, [19]), (10, .iload_n 2, 1, 11, []), (11, .iconst 0, 1, 12, []), (12, .iconst 1, 1, 13, []), (13, .invokestatic 54, 3, 16, []), (16, .ifCond .ne 5, 3, 19, [21]), (19, .iconst (-1), 1, 20, []), (20, .ireturn, 1, 21, []), (21, .iconst (-1), 1, 22, []), (22, .istore_n 3, 1, 23, []), (23, .iconst 0, 1, 24, []), (24, .istore 4, 2, 26, []), (26, .iload 4, 2, 28, []), (28, .aload_n 0, 1, 29, []), (29, .getfield 7, 3, 32, []), (32, .bipush 88, 2, 34, []), (34, .iaload, 1, 35, []), (35, .if_icmp .ge 43, 3, 38, [78]), (38, .aload_n 0, 1, 39, []), (39, .iload 4, 2, 41, []), (41, .invokevirtual 297, 3, 44, []), (44, .ifCond .ne 28, 3, 47, [72]), (47, .iload_n 3, 1, 48, []), (48, .iconst (-1), 1, 49, []), (49, .if_icmp .eq 20, 3, 52, [69]), (52, .aload_n 0, 1, 53, []), (53, .iload 4, 2, 55, []), (55, .iload_n 1, 1, 56, []), (56, .invokevirtual 412, 3, 59, []), (59, .aload_n 0, 1, 60, []), (60, .iload_n 3, 1, 61, []), (61, .iload_n 1, 1, 62, []), (62, .invokevirtual 412, 3, 65, []), (65, .lcmp, 1, 66, []), (66, .ifCond .ge 6, 3, 69, [72]), (69, .iload 4, 2, 71, []), (71, .istore_n 3, 1, 72, []), (72, .iinc 4 1, 3, 75, []), (75, .goto (-49), 3, 78, [26]), (78, .iload_n 3, 1, 79, []), (79, .iconst (-1), 1, 80, []), (80, .if_icmp .eq 7, 3, 83, [87]), (83, .iload_n 2, 1, 84, []), (84, .ifCond .ne 7, 3, 87, [91]), (87, .iload_n 3, 1, 88, []), (88, .goto 10, 3, 91, [98]), (91, .aload_n 0, 1, 92, []), (92, .iload_n 3, 1, 93, []), (93, .iload_n 1, 1, 94, []), (94, .invokevirtual 412, 3, 97, []), (97, .l2i, 1, 98, []), (98, .ireturn, 1, 99, [])]
theorem t_X12_holds_ok : t_X12_holds.all (fun q => pz_wf cX12_holds q) = true := by decide +kernel
def t_X12_many : List pz_E := [(0, .iload_n 1, 1, 1, []), (1, .iconst 0, 1, 2, []), (2, .sipush 1000, 3, 5, []), (5, .invokestatic 54, 3, 8, []), (8, .ifCond .eq 13, 3, 11, [21]), (11, .iload_n 2, 1, 12, []), (12, .iconst 1, 1, 13, []), (13, .bipush 60, 2, 15, []), (15, .invokestatic 54, 3, 18, []), (18, .ifCond .ne 5, 3, 21, [23]), (21, .iconst (-1), 1, 22, []), (22, .ireturn, 1, 23, []), (23, .ldc2_w 404, 3, 26, []), (26, .lstore_n 3, 1, 27, []), (27, .iconst 0, 1, 28, []), (28, .istore 5, 2, 30, []), (30, .iload 5, 2, 32, []), (32, .bipush 60, 2, 34, []), (34, .if_icmp .ge 39, 3, 37, [73]), (37, .lload_n 3, 1, 38, []), (38, .iload_n 1, 1, 39, []), (39, .iload_n 2, 1, 40, []), (40, .invokestatic 408, 3, 43, []), (43, .lmul, 1, 44, []), (44, .ldc2_w 404, 3, 47, []), (47, .ldiv, 1, 48, []), (48, .ldc2_w 419, 3, 51, []), (51, .lcmp, 1, 52, []), (52, .ifCond .lt 21, 3, 55, [73]), (55, .lload_n 3, 1, 56, []), (56, .iload_n 1, 1, 57, []), (57, .iload_n 2, 1, 58, []), (58, .invokestatic 408, 3, 61, []), (61, .lmul, 1, 62, []), (62, .ldc2_w 404, 3, 65, []), (65, .ldiv, 1, 66, []), (66, .lstore_n 3, 1, 67, []), (67, .iinc 5 1, 3, 70, []), (70, .goto (-40), 3, 73, [30]), (73, .iload 5, 2, 75, []), (75, .ireturn, 1, 76, [])]
theorem t_X12_many_ok : t_X12_many.all (fun q => pz_wf cX12_many q) = true := by decide +kernel
def t_X12_leastBy : List pz_E := [(0, .ldc2_w 404, 3, 3, []), (3, .lstore_n 3, 1, 4, []), (4, .iconst 0, 1, 5, []), (5, .istore 5, 2, 7, []), (7, .iload 5, 2, 9, []), (9, .aload_n 0, 1, 10, []), (10, .getfield 7, 3, 13, []), (13, .bipush 88, 2, 15, []), (15, .iaload, 1, 16, []), (16, .if_icmp .ge 68, 3, 19, [84]), (19, .aload_n 0, 1, 20, []), (20, .iload 5, 2, 22, []), (22, .iload_n 1, 1, 23, []), (23, .invokevirtual 294, 3, 26, []), (26, .istore 6, 2, 28, []), (28, .aload_n 0, 1, 29, []), (29, .iload 5, 2, 31, []), (31, .iload 6, 2, 33, []), (33, .iload_n 2, 1, 34, []), (34, .invokevirtual 415, 3, 37, []), (37, .lstore 7, 2, 39, []), (39, .lload 7, 2, 41, []), (41, .lload_n 3, 1, 42, []), (42, .lcmp, 1, 43, []), (43, .ifCond .ge 8, 3, 46, [51]), (46, .lload 7, 2, 48, []), (48, .goto 4, 3, 51, [52]), (51, .lload_n 3, 1, 52, []), (52, .lstore_n 3, 1, 53, []), (53, .iload 6, 2, 55, []), (55, .aload_n 0, 1, 56, []), (56, .getfield 7, 3, 59, []), (59, .bipush 88, 2, 61, []), (61, .iaload, 1, 62, []), (62, .iconst 1, 1, 63, []), (63, .isub, 1, 64, []), (64, .if_icmp .ne 13, 3, 67, [77]), (67, .aload_n 0, 1, 68, []), (68, .getfield 7, 3, 71, []), (71, .bipush 88, 2, 73, []), (73, .iaload, 1, 74, []), (74, .goto 5, 3, 77, [79]), (77, .iload 6, 2, 79, []), (79, .istore 5, 2, 81, []), (81, .goto (-74), 3, 84, [7]), (84, .lload_n 3, 1, 85, []), (85, .lreturn, 1, 86, [])]
theorem t_X12_leastBy_ok : t_X12_leastBy.all (fun q => pz_wf cX12_leastBy q) = true := by decide +kernel
def t_X12_soon : List pz_E := [(0, .iload_n 1, 1, 1, []), (1, .iconst 0, 1, 2, []), (2, .ldc_w 421, 3, 5, []), (5, .invokestatic 54, 3, 8, []), (8, .ifCond .ne 5, 3, 11, [13]), (11, .iconst (-1), 1, 12, []), (12, .ireturn, 1, 13, []), (13, .iconst 1, 1, 14, []), (14, .istore_n 2, 1, 15, []), (15, .iload_n 2, 1, 16, []), (16, .bipush 60, 2, 18, []), (18, .if_icmp .gt 32, 3, 21, [50]), (21, .aload_n 0, 1, 22, []), (22, .iconst 0, 1, 23, []), (23, .aload_n 0, 1, 24, []), (24, .getfield 7, 3, 27, []), (27, .bipush 88, 2, 29, []), (29, .iaload, 1, 30, []), (30, .iconst 1, 1, 31, []), (31, .isub, 1, 32, []), (32, .iload_n 2, 1, 33, []), (33, .invokevirtual 415, 3, 36, []), (36, .iload_n 1, 1, 37, []), (37, .i2l, 1, 38, []), (38, .lcmp, 1, 39, []), (39, .ifCond .lt 5, 3, 42, [44]), (42, .iload_n 2, 1, 43, []), (43, .ireturn, 1, 44, []), (44, .iinc 2 1, 3, 47, []), (47, .goto (-32), 3, 50, [15]), (50, .iconst (-1), 1, 51, []), (51, .ireturn, 1, 52, [])]
theorem t_X12_soon_ok : t_X12_soon.all (fun q => pz_wf cX12_soon q) = true := by decide +kernel
def t_X12_hurriedBy : List pz_E := [(0, .aload_n 0, 1, 1, []), (1, .getfield 7, 3, 4, []), (4, .bipush 93, 2, 6, []), (6, .iload_n 1, 1, 7, []), (7, .iadd, 1, 8, []), (8, .iaload, 1, 9, []), (9, .istore_n 3, 1, 10, []), (10, .aload_n 0, 1, 11, []), (11, .getfield 7, 3, 14, []), (14, .bipush 93, 2, 16, []), (16, .iload_n 1, 1, 17, []), (17, .iadd, 1, 18, []), (18, .iconst 0, 1, 19, []), (19, .iastore, 1, 20, []), (20, .aload_n 0, 1, 21, []), (21, .iconst 0, 1, 22, []), (22, .aload_n 0, 1, 23, []), (23, .getfield 7, 3, 26, []), (26, .bipush 88, 2, 28, []), (28, .iaload, 1, 29, []), (29, .iconst 1, 1, 30, []), (30, .isub, 1, 31, []), (31, .iload_n 2, 1, 32, []), (32, .invokevirtual 415, 3, 35, []), (35, .lstore 4, 2, 37, []), (37, .aload_n 0, 1, 38, []), (38, .getfield 7, 3, 41, []), (41, .bipush 93, 2, 43, []), (43, .iload_n 1, 1, 44, []), (44, .iadd, 1, 45, []), (45, .iload_n 3, 1, 46, []), (46, .iastore, 1, 47, []), (47, .lload 4, 2, 49, []), (49, .lreturn, 1, 50, [])]
theorem t_X12_hurriedBy_ok : t_X12_hurriedBy.all (fun q => pz_wf cX12_hurriedBy q) = true := by decide +kernel
def t_X12_hurry : List pz_E := [(0, .iload_n 1, 1, 1, []), (1, .iconst 1, 1, 2, []), (2, .bipush 60, 2, 4, []), (4, .invokestatic 54, 3, 7, []), (7, .ifCond .eq 22, 3, 10, [29]), (10, .iload_n 2, 1, 11, []), (11, .iconst 0, 1, 12, []), (12, .iconst 1, 1, 13, []), (13, .invokestatic 54, 3, 16, []), (16, .ifCond .eq 13, 3, 19, [29]), (19, .aload_n 0, 1, 20, []), (20, .getfield 7, 3, 23, []), (23, .bipush 88, 2, 25, []), (25, .iaload, 1, 26, []), (26, .ifCond .ne 5, 3, 29, [31]), (29, .iconst (-1), 1, 30, []), (30, .ireturn, 1, 31, []), (31, .iconst 0, 1, 32, []), (32, .istore_n 3, 1, 33, []), (33, .iconst 1, 1, 34, []), (34, .istore 4, 2, 36, []), (36, .iload 4, 2, 38, []), (38, .aload_n 0, 1, 39, []), (39, .getfield 7, 3, 42, []), (42, .bipush 88, 2, 44, []), (44, .iaload, 1, 45, []), (45, .if_icmp .ge 29, 3, 48, [74]), (48, .aload_n 0, 1, 49, []), (49, .iload 4, 2, 51, []), (51, .iload_n 1, 1, 52, []), (52, .invokevirtual 422, 3, 55, []), (55, .aload_n 0, 1, 56, []), (56, .iload_n 3, 1, 57, []), (57, .iload_n 1, 1, 58, []), (58, .invokevirtual 422, 3, 61, []), (61, .lcmp, 1, 62, []), (62, .ifCond .le 6, 3, 65, [68]), (65, .iload 4, 2, 67, []), (67, .istore_n 3, 1, 68, []), (68, .iinc 4 1, 3, 71, []), (71, .goto (-35), 3, 74, [36]), (74, .iload_n 2, 1, 75, []), (75, .ifCond .ne 7, 3, 78, [82]), (78, .iload_n 3, 1, 79, []), (79, .goto 10, 3, 82, [89]), (82, .aload_n 0, 1, 83, []), (83, .iload_n 3, 1, 84, []), (84, .iload_n 1, 1, 85, []), (85, .invokevirtual 422, 3, 88, []), (88, .l2i, 1, 89, []), (89, .ireturn, 1, 90, [])]
theorem t_X12_hurry_ok : t_X12_hurry.all (fun q => pz_wf cX12_hurry q) = true := by decide +kernel
def t_X12_split : List pz_E := [(0, .iload_n 1, 1, 1, []), (1, .iconst 1, 1, 2, []), (2, .bipush 60, 2, 4, []), (4, .invokestatic 54, 3, 7, []), (7, .ifCond .eq 12, 3, 10, [19]), (10, .iload_n 2, 1, 11, []), (11, .iconst 0, 1, 12, []), (12, .iconst 1, 1, 13, []), (13, .invokestatic 54, 3, 16, []), (16, .ifCond .ne 5, 3, 19, [21]), (19, .iconst (-1), 1, 20, []), (20, .ireturn, 1, 21, []), (21, .iconst (-1), 1, 22, []), (22, .istore_n 3, 1, 23, []), (23, .ldc2_w 425, 3, 26, []), (26, .lstore 4, 2, 28, []), (28, .iconst 0, 1, 29, []), (29, .istore 6, 2, 31, []), (31, .iload 6, 2, 33, []), (33, .aload_n 0, 1, 34, []), (34, .getfield 7, 3, 37, []), (37, .bipush 88, 2, 39, []), (39, .iaload, 1, 40, []), (40, .if_icmp .ge 58, 3, 43, [98]), (43, .aload_n 0, 1, 44, []), (44, .iload 6, 2, 46, []), (46, .invokevirtual 336, 3, 49, []), (49, .ifCond .eq 20, 3, 52, [69]), (52, .aload_n 0, 1, 53, []), (53, .aload_n 0, 1, 54, []), (54, .invokevirtual 291, 3, 57, []), (57, .iconst 1, 1, 58, []), (58, .iload 6, 2, 60, []), (60, .ishl, 1, 61, []), (61, .ior, 1, 62, []), (62, .iload_n 1, 1, 63, []), (63, .invokevirtual 427, 3, 66, []), (66, .goto 6, 3, 69, [72]), (69, .ldc2_w 425, 3, 72, []), (72, .lstore 7, 2, 74, []), (74, .lload 7, 2, 76, []), (76, .lload 4, 2, 78, []), (78, .lcmp, 1, 79, []), (79, .ifCond .gt 6, 3, 82, [85]), (82, .goto 10, 3, 85, [92]), (85, .lload 7, 2, 87, []), (87, .lstore 4, 2, 89, []), (89, .iload 6, 2, 91, []), (91, .istore_n 3, 1, 92, []), (92, .iinc 6 1, 3, 95, []), (95, .goto (-64), 3, 98, [31]), (98, .iload_n 3, 1, 99, []), (99, .iconst (-1), 1, 100, []), (100, .if_icmp .eq 7, 3, 103, [107]), (103, .iload_n 2, 1, 104, []), (104, .ifCond .ne 7, 3, 107, [111]), (107, .iload_n 3, 1, 108, []), (108, .goto 6, 3, 111, [114]), (111, .lload 4, 2, 113, []), (113, .l2i, 1, 114, []), (114, .ireturn, 1, 115, [])]
theorem t_X12_split_ok : t_X12_split.all (fun q => pz_wf cX12_split q) = true := by decide +kernel
def t_X12_costsOf : List pz_E := [(0, .iconst 0, 1, 1, []), (1, .istore_n 2, 1, 2, []), (2, .iconst 0, 1, 3, []), (3, .istore_n 3, 1, 4, []), (4, .iload_n 3, 1, 5, []), (5, .aload_n 0, 1, 6, []), (6, .getfield 7, 3, 9, []), (9, .bipush 88, 2, 11, []), (11, .iaload, 1, 12, []), (12, .if_icmp .ge 30, 3, 15, [42]), (15, .iload_n 2, 1, 16, []), (16, .iload_n 1, 1, 17, []), (17, .iload_n 3, 1, 18, []), (18, .ishr, 1, 19, []), (19, .iconst 1, 1, 20, []), (20, .iand, 1, 21, []), (21, .iconst 1, 1, 22, []), (22, .if_icmp .ne 11, 3, 25, [33]), (25, .aload_n 0, 1, 26, []), (26, .iload_n 3, 1, 27, []), (27, .invokevirtual 385, 3, 30, []), (30, .goto 4, 3, 33, [34]), (33, .iconst 0, 1, 34, []), (34, .iadd, 1, 35, []), (35, .istore_n 2, 1, 36, []), (36, .iinc 3 1, 3, 39, []), (39, .goto (-35), 3, 42, [4]), (42, .iload_n 2, 1, 43, []), (43, .ireturn, 1, 44, [])]
theorem t_X12_costsOf_ok : t_X12_costsOf.all (fun q => pz_wf cX12_costsOf q) = true := by decide +kernel
def t_X12_bridgeable : List pz_E := [(0, .iconst 0, 1, 1, []), (1, .istore_n 1, 1, 2, []), (2, .iconst 0, 1, 3, []), (3, .istore_n 2, 1, 4, []), (4, .iload_n 2, 1, 5, []), (5, .aload_n 0, 1, 6, []), (6, .getfield 7, 3, 9, []), (9, .bipush 88, 2, 11, []), (11, .iaload, 1, 12, []), (12, .if_icmp .ge 27, 3, 15, [39]), (15, .iload_n 1, 1, 16, []), (16, .aload_n 0, 1, 17, []), (17, .iload_n 2, 1, 18, []), (18, .invokevirtual 336, 3, 21, []), (21, .ifCond .eq 9, 3, 24, [30]), (24, .iconst 1, 1, 25, []), (25, .iload_n 2, 1, 26, []), (26, .ishl, 1, 27, []), (27, .goto 4, 3, 30, [31]), (30, .iconst 0, 1, 31, []), (31, .ior, 1, 32, []), (32, .istore_n 1, 1, 33, []), (33, .iinc 2 1, 3, 36, []), (36, .goto (-32), 3, 39, [4]), (39, .iload_n 1, 1, 40, []), (40, .ireturn, 1, 41, [])]
theorem t_X12_bridgeable_ok : t_X12_bridgeable.all (fun q => pz_wf cX12_bridgeable q) = true := by decide +kernel
def t_X12_bridges : List pz_E := [(0, .iload_n 1, 1, 1, []), (1, .iconst 1, 1, 2, []), (2, .bipush 60, 2, 4, []), (4, .invokestatic 54, 3, 7, []), (7, .ifCond .eq 23, 3, 10, [30]), (10, .iload_n 2, 1, 11, []), (11, .iconst 0, 1, 12, []), (12, .ldc_w 421, 3, 15, []), (15, .invokestatic 54, 3, 18, []), (18, .ifCond .eq 12, 3, 21, [30]), (21, .iload_n 3, 1, 22, []), (22, .iconst 0, 1, 23, []), (23, .iconst 1, 1, 24, []), (24, .invokestatic 54, 3, 27, []), (27, .ifCond .ne 5, 3, 30, [32]), (30, .iconst (-1), 1, 31, []), (31, .ireturn, 1, 32, []), (32, .aload_n 0, 1, 33, []), (33, .invokevirtual 430, 3, 36, []), (36, .istore 4, 2, 38, []), (38, .iconst (-1), 1, 39, []), (39, .istore 5, 2, 41, []), (41, .iconst 0, 1, 42, []), (42, .istore 6, 2, 44, []), (44, .iload 6, 2, 46, []), (46, .iload 4, 2, 48, []), (48, .if_icmp .gt 95, 3, 51, [143]), (51, .iload 6, 2, 53, []), (53, .iload 4, 2, 55, []), (55, .iconst (-1), 1, 56, []), (56, .ixor, 1, 57, []), (57, .iand, 1, 58, []), (58, .ifCond .eq 6, 3, 61, [64]), (61, .goto 76, 3, 64, [137]), (64, .iload 5, 2, 66, []), (66, .iconst (-1), 1, 67, []), (67, .if_icmp .ne 7, 3, 70, [74]), (70, .iconst (-1), 1, 71, []), (71, .goto 16, 3, 74, [87]), (74, .aload_n 0, 1, 75, []), (75, .iload 6, 2, 77, []), (77, .invokevirtual 433, 3, 80, []), (80, .aload_n 0, 1, 81, []), (81, .iload 5, 2, 83, []), (83, .invokevirtual 433, 3, 86, []), (86, .isub, 1, 87, []), (87, .istore 7, 2, 89, []), (89, .iload 7, 2, 91, []), (91, .ifCond .gt 46, 3, 94, [137]), (94, .iload 7, 2, 96, []), (96, .ifCond .ne 16, 3, 99, [112]), (99, .iload 6, 2, 101, []), (101, .invokestatic 398, 3, 104, []), (104, .iload 5, 2, 106, []), (106, .invokestatic 398, 3, 109, []), (109, .if_icmp .ge 28, 3, 112, [137]), (112, .aload_n 0, 1, 113, []), (113, .aload_n 0, 1, 114, []), (114, .invokevirtual 291, 3, 117, []), (117, .iload 6, 2, 119, []), (119, .ior, 1, 120, []), (120, .iload_n 1, 1, 121, []), (121, .invokevirtual 427, 3, 124, []), (124, .iload_n 2, 1, 125, []), (125, .i2l, 1, 126, []), (126, .lcmp, 1, 127, []), (127, .ifCond .ge 6, 3, 130, [133]), (130, .goto 7, 3, 133, [137]), (133, .iload 6, 2, 135, []), (135, .istore 5, 2, 137, []), (137, .iinc 6 1, 3, 140, []), (140, .goto (-96), 3, 143, [44]), (143, .iload 5, 2, 145, []), (145, .iconst (-1), 1, 146, []), (146, .if_icmp .eq 8, 3, 149, [154]), (149, .iload_n 3, 1, 150, []), (150, .iconst 1, 1, 151, []), (151, .if_icmp .ne 8, 3, 154, [159]), (154, .iload 5, 2, 156, []), (156, .goto 11, 3, 159, [167]), (159, .iload_n 1, 1, 160, []), (160, .aload_n 0, 1, 161, []), (161, .iload 5, 2, 163, []), (163, .invokevirtual 433, 3, 166, []), (166, .imul, 1, 167, []), (167, .ireturn, 1, 168, [])]
theorem t_X12_bridges_ok : t_X12_bridges.all (fun q => pz_wf cX12_bridges q) = true := by decide +kernel
def t_X12_isGiving : List pz_E := [(0, .aload_n 0, 1, 1, []), (1, .iload_n 1, 1, 2, []), (2, .invokevirtual 317, 3, 5, []), (5, .ifCond .eq 19, 3, 8, [24]), (8, .aload_n 0, 1, 9, []), (9, .getfield 7, 3, 12, []), (12, .bipush 28, 2, 14, []), (14, .iload_n 1, 1, 15, []), (15, .iadd, 1, 16, []), (16, .iaload, 1, 17, []), (17, .ifCond .le 7, 3, 20, [24]), (20, .iconst 1, 1, 21, []), (21, .goto 4, 3, 24, [25]), (24, .iconst 0, 1, 25, []), (25, .ireturn, 1, 26, [])]
theorem t_X12_isGiving_ok : t_X12_isGiving.all (fun q => pz_wf cX12_isGiving q) = true := by decide +kernel
def t_X12_givenBy : List pz_E := [(0, .iconst 0, 1, 1, []), (1, .istore_n 2, 1, 2, []), (2, .iconst 0, 1, 3, []), (3, .istore_n 3, 1, 4, []), (4, .iload_n 3, 1, 5, []), (5, .aload_n 0, 1, 6, []), (6, .getfield 7, 3, 9, []), (9, .bipush 88, 2, 11, []), (11, .iaload, 1, 12, []), (12, .if_icmp .ge 37, 3, 15, [49]), (15, .iload_n 2, 1, 16, []), (16, .aload_n 0, 1, 17, []), (17, .iload_n 3, 1, 18, []), (18, .invokevirtual 436, 3, 21, []), (21, .ifCond .eq 19, 3, 24, [40]), (24, .iload_n 1, 1, 25, []), (25, .aload_n 0, 1, 26, []), (26, .getfield 7, 3, 29, []), (29, .bipush 28, 2, 31, []), (31, .iload_n 3, 1, 32, []), (32, .iadd, 1, 33, []), (33, .iaload, 1, 34, []), (34, .invokestatic 47, 3, 37, []), (37, .goto 4, 3, 40, [41]), (40, .iconst 0, 1, 41, []), (41, .iadd, 1, 42, []), (42, .istore_n 2, 1, 43, []), (43, .iinc 3 1, 3, 46, []), (46, .goto (-42), 3, 49, [4]), (49, .iload_n 2, 1, 50, []), (50, .ireturn, 1, 51, [])]
theorem t_X12_givenBy_ok : t_X12_givenBy.all (fun q => pz_wf cX12_givenBy q) = true := by decide +kernel
def t_X12_share : List pz_E := [(0, .iload_n 1, 1, 1, []), (1, .iconst 0, 1, 2, []), (2, .sipush 9999, 3, 5, []), (5, .invokestatic 54, 3, 8, []), (8, .ifCond .eq 22, 3, 11, [30]), (11, .aload_n 0, 1, 12, []), (12, .iload_n 2, 1, 13, []), (13, .invokevirtual 58, 3, 16, []), (16, .ifCond .eq 14, 3, 19, [30]), (19, .aload_n 0, 1, 20, []), (20, .sipush 999, 3, 23, []), (23, .invokevirtual 439, 3, 26, []), (26, .iload_n 1, 1, 27, []), (27, .if_icmp .ge 5, 3, 30, [32]), (30, .iconst (-1), 1, 31, []), (31, .ireturn, 1, 32, []), (32, .iconst 0, 1, 33, []), (33, .istore_n 3, 1, 34, []), (34, .iload_n 3, 1, 35, []), (35, .sipush 999, 3, 38, []), (38, .if_icmp .ge 20, 3, 41, [58]), (41, .aload_n 0, 1, 42, []), (42, .iload_n 3, 1, 43, []), (43, .iconst 1, 1, 44, []), (44, .iadd, 1, 45, []), (45, .invokevirtual 439, 3, 48, []), (48, .iload_n 1, 1, 49, []), (49, .if_icmp .gt 9, 3, 52, [58]), (52, .iinc 3 1, 3, 55, []), (55, .goto (-21), 3, 58, [34]), (58, .iload_n 1, 1, 59, []), (59, .aload_n 0, 1, 60, []), (60, .iload_n 3, 1, 61, []), (61, .invokevirtual 439, 3, 64, []), (64, .isub, 1, 65, []), (65, .istore 4, 2, 67, []), (67, .iconst 0, 1, 68, []), (68, .istore 5, 2, 70, []), (70, .iload 5, 2, 72, []), (72, .iload_n 2, 1, 73, []), (73, .if_icmp .ge 42, 3, 76, [115]), (76, .iload 4, 2, 78, []), (78, .aload_n 0, 1, 79, []), (79, .iload 5, 2, 81, []), (81, .invokevirtual 436, 3, 84, []), (84, .ifCond .eq 21, 3, 87, [105]), (87, .aload_n 0, 1, 88, []), (88, .getfield 7, 3, 91, []), (91, .bipush 28, 2, 93, []), (93, .iload 5, 2, 95, []), (95, .iadd, 1, 96, []), (96, .iaload, 1, 97, []), (97, .iload_n 3, 1, 98, []), (98, .if_icmp .le 7, 3, 101, [105]), (101, .iconst 1, 1, 102, []), (102, .goto 4, 3, 105, [106]), (105, .iconst 0, 1, 106, []), (106, .isub, 1, 107, []), (107, .istore 4, 2, 109, []), (109, .iinc 5 1, 3, 112, []), (112, .goto (-42), 3, 115, [70]), (115, .aload_n 0, 1, 116, []), (116, .iload_n 2, 1, 117, []), (117, .invokevirtual 436, 3, 120, []), (120, .ifCond .ne 7, 3, 123, [127]), (123, .iconst 0, 1, 124, []), (124, .goto 40, 3, 127, [164]), (127, .aload_n 0, 1, 128, []), (128, .getfield 7, 3, 131, []), (131, .bipush 28, 2, 133, []), (133, .iload_n 2, 1, 134, []), (134, .iadd, 1, 135, []), (135, .iaload, 1, 136, []), (136, .iload_n 3, 1, 137, []), (137, .if_icmp .gt 15, 3, 140, [152]), (140, .aload_n 0, 1, 141, []), (141, .getfield 7, 3, 144, []), (144, .bipush 28, 2, 146, []), (146, .iload_n 2, 1, 147, []), (147, .iadd, 1, 148, []), (148, .iaload, 1, 149, []), (149, .goto 15, 3, 152, [164]), (152, .iload 4, 2, 154, []), (154, .ifCond .le 9, 3, 157, [163]), (157, .iload_n 3, 1, 158, []), (158, .iconst 1, 1, 159, []), (159, .iadd, 1, 160, []), (160, .goto 4, 3, 163, [164]), (163, .iload_n 3, 1, 164, []), (164, .ireturn, 1, 165, [])]
theorem t_X12_share_ok : t_X12_share.all (fun q => pz_wf cX12_share q) = true := by decide +kernel
def t_X12_along : List pz_E := [(0, .aload_n 0, 1, 1, []), (1, .iload_n 1, 1, 2, []), (2, .invokevirtual 58, 3, 5, []), (5, .ifCond .eq 23, 3, 8, [28]), (8, .iload_n 2, 1, 9, []), (9, .iconst 0, 1, 10, []), (10, .sipush 999, 3, 13, []), (13, .invokestatic 54, 3, 16, []), (16, .ifCond .eq 12, 3, 19, [28]), (19, .iload_n 3, 1, 20, []), (20, .iconst 0, 1, 21, []), (21, .iconst 1, 1, 22, []), (22, .invokestatic 54, 3, 25, []), (25, .ifCond .ne 5, 3, 28, [30]), (28, .iconst (-1), 1, 29, []), (29, .ireturn, 1, 30, []), (30, .iload_n 2, 1, 31, []), (31, .istore 4, 2, 33, []), (33, .iconst 0, 1, 34, []), (34, .istore 5, 2, 36, []), (36, .iload_n 1, 1, 37, []), (37, .istore 6, 2, 39, []), (39, .iload 6, 2, 41, []), (41, .aload_n 0, 1, 42, []), (42, .getfield 7, 3, 45, []), (45, .bipush 88, 2, 47, []), (47, .iaload, 1, 48, []), (48, .if_icmp .ge 57, 3, 51, [105]), (51, .aload_n 0, 1, 52, []), (52, .iload 6, 2, 54, []), (54, .invokevirtual 317, 3, 57, []), (57, .ifCond .eq 17, 3, 60, [74]), (60, .iload 4, 2, 62, []), (62, .aload_n 0, 1, 63, []), (63, .iload 6, 2, 65, []), (65, .invokevirtual 320, 3, 68, []), (68, .invokestatic 47, 3, 71, []), (71, .goto 4, 3, 74, [75]), (74, .iconst 0, 1, 75, []), (75, .istore 7, 2, 77, []), (77, .iload 4, 2, 79, []), (79, .iload 7, 2, 81, []), (81, .isub, 1, 82, []), (82, .istore 4, 2, 84, []), (84, .iload 5, 2, 86, []), (86, .iload 7, 2, 88, []), (88, .ifCond .le 7, 3, 91, [95]), (91, .iconst 1, 1, 92, []), (92, .goto 4, 3, 95, [96]), (95, .iconst 0, 1, 96, []), (96, .iadd, 1, 97, []), (97, .istore 5, 2, 99, []), (99, .iinc 6 1, 3, 102, []), (102, .goto (-63), 3, 105, [39]), (105, .iload_n 3, 1, 106, []), (106, .ifCond .ne 8, 3, 109, [114]), (109, .iload 4, 2, 111, []), (111, .goto 5, 3, 114, [116]), (114, .iload 5, 2, 116, []), (116, .ireturn, 1, 117, [])]
theorem t_X12_along_ok : t_X12_along.all (fun q => pz_wf cX12_along q) = true := by decide +kernel
def t_X12_downwards : List pz_E := [(0, .iload_n 0, 1, 1, []), (1, .ifCond .ge 9, 3, 4, [10]), (4, .iload_n 0, 1, 5, []), (5, .iload_n 1, 1, 6, []), (6, .irem, 1, 7, []), (7, .ifCond .ne 9, 3, 10, [16]), (10, .iload_n 0, 1, 11, []), (11, .iload_n 1, 1, 12, []), (12, .idiv, 1, 13, []), (13, .goto 8, 3, 16, [21]), (16, .iload_n 0, 1, 17, []), (17, .iload_n 1, 1, 18, []), (18, .idiv, 1, 19, []), (19, .iconst 1, 1, 20, []), (20, .isub, 1, 21, []), (21, .ireturn, 1, 22, [])]
theorem t_X12_downwards_ok : t_X12_downwards.all (fun q => pz_wf cX12_downwards q) = true := by decide +kernel
def t_X12_choice : List pz_E := [(0, .aload_n 0, 1, 1, []), (1, .iload_n 1, 1, 2, []), (2, .invokevirtual 58, 3, 5, []), (5, .ifCond .eq 35, 3, 8, [40]), (8, .iload_n 2, 1, 9, []), (9, .iconst 0, 1, 10, []), (10, .sipush 999, 3, 13, []), (13, .invokestatic 54, 3, 16, []), (16, .ifCond .eq 24, 3, 19, [40]), (19, .iload_n 3, 1, 20, []), (20, .iconst 0, 1, 21, []), (21, .sipush 1000, 3, 24, []), (24, .invokestatic 54, 3, 27, []), (27, .ifCond .eq 13, 3, 30, [40]), (30, .iload 4, 2, 32, []), (32, .iconst 0, 1, 33, []), (33, .iconst 1, 1, 34, []), (34, .invokestatic 54, 3, 37, []), (37, .ifCond .ne 7, 3, 40, [44]), (40, .ldc_w 391, 3, 43, []), (43, .ireturn, 1, 44, []), (44, .aload_n 0, 1, 45, []), (45, .getfield 7, 3, 48, []), (48, .bipush 28, 2, 50, []), (50, .iload_n 1, 1, 51, []), (51, .iadd, 1, 52, []), (52, .iaload, 1, 53, []), (53, .iload_n 2, 1, 54, []), (54, .isub, 1, 55, []), (55, .istore 5, 2, 57, []), (57, .iload_n 3, 1, 58, []), (58, .aload_n 0, 1, 59, []), (59, .getfield 7, 3, 62, []), (62, .bipush 28, 2, 64, []), (64, .iload_n 1, 1, 65, []), (65, .iadd, 1, 66, []), (66, .iaload, 1, 67, []), (67, .imul, 1, 68, []), (68, .sipush 1000, 3, 71, []), (71, .iload_n 3, 1, 72, []), (72, .isub, 1, 73, []), (73, .iconst 0, 1, 74, []), (74, .iload 5, 2, 76, []), (76, .invokestatic 51, 3, 79, []), (79, .imul, 1, 80, []), (80, .iadd, 1, 81, []), (81, .sipush 1000, 3, 84, []), (84, .invokestatic 442, 3, 87, []), (87, .aload_n 0, 1, 88, []), (88, .iload_n 1, 1, 89, []), (89, .invokevirtual 385, 3, 92, []), (92, .isub, 1, 93, []), (93, .istore 6, 2, 95, []), (95, .iload 5, 2, 97, []), (97, .istore 7, 2, 99, []), (99, .iconst 0, 1, 100, []), (100, .istore 8, 2, 102, []), (102, .iload 6, 2, 104, []), (104, .iload 7, 2, 106, []), (106, .if_icmp .le 10, 3, 109, [116]), (109, .iload 6, 2, 111, []), (111, .istore 7, 2, 113, []), (113, .iconst 1, 1, 114, []), (114, .istore 8, 2, 116, []), (116, .iload 7, 2, 118, []), (118, .ifCond .ge 9, 3, 121, [127]), (121, .iconst 0, 1, 122, []), (122, .istore 7, 2, 124, []), (124, .iconst 2, 1, 125, []), (125, .istore 8, 2, 127, []), (127, .iload 4, 2, 129, []), (129, .ifCond .ne 8, 3, 132, [137]), (132, .iload 8, 2, 134, []), (134, .goto 5, 3, 137, [139]), (137, .iload 7, 2, 139, []), (139, .ireturn, 1, 140, [])]
theorem t_X12_choice_ok : t_X12_choice.all (fun q => pz_wf cX12_choice q) = true := by decide +kernel
def t_X12_bluff : List pz_E := [(0, .iload_n 1, 1, 1, []), (1, .iconst 0, 1, 2, []), (2, .sipush 1000, 3, 5, []), (5, .invokestatic 54, 3, 8, []), (8, .ifCond .eq 25, 3, 11, [33]), (11, .iload_n 2, 1, 12, []), (12, .iconst 0, 1, 13, []), (13, .sipush 1000, 3, 16, []), (16, .invokestatic 54, 3, 19, []), (19, .ifCond .eq 14, 3, 22, [33]), (22, .iload_n 3, 1, 23, []), (23, .iconst 0, 1, 24, []), (24, .sipush 1000, 3, 27, []), (27, .invokestatic 54, 3, 30, []), (30, .ifCond .ne 5, 3, 33, [35]), (33, .iconst (-1), 1, 34, []), (34, .ireturn, 1, 35, []), (35, .iload_n 1, 1, 36, []), (36, .i2l, 1, 37, []), (37, .iload_n 2, 1, 38, []), (38, .i2l, 1, 39, []), (39, .lmul, 1, 40, []), (40, .lstore 4, 2, 42, []), (42, .lload 4, 2, 44, []), (44, .sipush 1000, 3, 47, []), (47, .iload_n 1, 1, 48, []), (48, .isub, 1, 49, []), (49, .i2l, 1, 50, []), (50, .iload_n 3, 1, 51, []), (51, .i2l, 1, 52, []), (52, .lmul, 1, 53, []), (53, .ladd, 1, 54, []), (54, .lstore 6, 2, 56, []), (56, .lload 6, 2, 58, []), (58, .lconst 0, 1, 59, []), (59, .lcmp, 1, 60, []), (60, .ifCond .ne 7, 3, 63, [67]), (63, .iconst (-1), 1, 64, []), (64, .goto 13, 3, 67, [77]), (67, .ldc2_w 404, 3, 70, []), (70, .lload 4, 2, 72, []), (72, .lmul, 1, 73, []), (73, .lload 6, 2, 75, []), (75, .ldiv, 1, 76, []), (76, .l2i, 1, 77, []), (77, .ireturn, 1, 78, [])]
theorem t_X12_bluff_ok : t_X12_bluff.all (fun q => pz_wf cX12_bluff q) = true := by decide +kernel
def t_X12_gap : List pz_E := [(0, .aload_n 0, 1, 1, []), (1, .iload_n 1, 1, 2, []), (2, .invokevirtual 58, 3, 5, []), (5, .ifCond .ne 7, 3, 8, [12]), (8, .iconst (-1), 1, 9, []), (9, .goto 52, 3, 12, [61]), (12, .aload_n 0, 1, 13, []), (13, .iload_n 1, 1, 14, []), (14, .invokevirtual 361, 3, 17, []), (17, .ifCond .eq 7, 3, 20, [24]), (20, .iconst 0, 1, 21, []), (21, .goto 40, 3, 24, [61]), (24, .aload_n 0, 1, 25, []), (25, .getfield 7, 3, 28, []), (28, .iconst 4, 1, 29, []), (29, .iload_n 1, 1, 30, []), (30, .iadd, 1, 31, []), (31, .iconst 1, 1, 32, []), (32, .iadd, 1, 33, []), (33, .iaload, 1, 34, []), (34, .aload_n 0, 1, 35, []), (35, .getfield 7, 3, 38, []), (38, .bipush 16, 2, 40, []), (40, .iload_n 1, 1, 41, []), (41, .iadd, 1, 42, []), (42, .iaload, 1, 43, []), (43, .isub, 1, 44, []), (44, .iload_n 1, 1, 45, []), (45, .ifCond .ne 7, 3, 48, [52]), (48, .iconst 0, 1, 49, []), (49, .goto 11, 3, 52, [60]), (52, .aload_n 0, 1, 53, []), (53, .getfield 7, 3, 56, []), (56, .iconst 4, 1, 57, []), (57, .iload_n 1, 1, 58, []), (58, .iadd, 1, 59, []), (59, .iaload, 1, 60, []), (60, .isub, 1, 61, []), (61, .ireturn, 1, 62, [])]
theorem t_X12_gap_ok : t_X12_gap.all (fun q => pz_wf cX12_gap q) = true := by decide +kernel
def t_X12_isRunning : List pz_E := [(0, .aload_n 0, 1, 1, []), (1, .iload_n 1, 1, 2, []), (2, .invokevirtual 317, 3, 5, []), (5, .ifCond .eq 15, 3, 8, [20]), (8, .aload_n 0, 1, 9, []), (9, .iload_n 1, 1, 10, []), (10, .invokevirtual 361, 3, 13, []), (13, .ifCond .eq 7, 3, 16, [20]), (16, .iconst 1, 1, 17, []), (17, .goto 4, 3, 20, [21]), (20, .iconst 0, 1, 21, []), (21, .ireturn, 1, 22, [])]
theorem t_X12_isRunning_ok : t_X12_isRunning.all (fun q => pz_wf cX12_isRunning q) = true := by decide +kernel
def t_X12_runs : List pz_E := [(0, .iload_n 1, 1, 1, []), (1, .iconst 0, 1, 2, []), (2, .iconst 2, 1, 3, []), (3, .invokestatic 54, 3, 6, []), (6, .ifCond .ne 5, 3, 9, [11]), (9, .iconst (-1), 1, 10, []), (10, .ireturn, 1, 11, []), (11, .iconst 0, 1, 12, []), (12, .istore_n 2, 1, 13, []), (13, .iconst (-1), 1, 14, []), (14, .istore_n 3, 1, 15, []), (15, .iconst 0, 1, 16, []), (16, .istore 4, 2, 18, []), (18, .iconst (-1), 1, 19, []), (19, .istore 5, 2, 21, []), (21, .iconst 0, 1, 22, []), (22, .istore 6, 2, 24, []), (24, .iload 6, 2, 26, []), (26, .aload_n 0, 1, 27, []), (27, .getfield 7, 3, 30, []), (30, .bipush 88, 2, 32, []), (32, .iaload, 1, 33, []), (33, .if_icmp .ge 83, 3, 36, [116]), (36, .aload_n 0, 1, 37, []), (37, .iload 6, 2, 39, []), (39, .invokevirtual 445, 3, 42, []), (42, .ifCond .eq 10, 3, 45, [52]), (45, .iload 4, 2, 47, []), (47, .iconst 1, 1, 48, []), (48, .iadd, 1, 49, []), (49, .goto 4, 3, 52, [53]), (52, .iconst 0, 1, 53, []), (53, .istore 4, 2, 55, []), (55, .iload 4, 2, 57, []), (57, .iload_n 2, 1, 58, []), (58, .if_icmp .le 14, 3, 61, [72]), (61, .iload 4, 2, 63, []), (63, .istore_n 2, 1, 64, []), (64, .iload 6, 2, 66, []), (66, .iload 4, 2, 68, []), (68, .isub, 1, 69, []), (69, .iconst 1, 1, 70, []), (70, .iadd, 1, 71, []), (71, .istore_n 3, 1, 72, []), (72, .iload 4, 2, 74, []), (74, .ifCond .le 36, 3, 77, [110]), (77, .iload 5, 2, 79, []), (79, .iconst (-1), 1, 80, []), (80, .if_icmp .eq 26, 3, 83, [106]), (83, .aload_n 0, 1, 84, []), (84, .getfield 7, 3, 87, []), (87, .bipush 16, 2, 89, []), (89, .iload 6, 2, 91, []), (91, .iadd, 1, 92, []), (92, .iaload, 1, 93, []), (93, .aload_n 0, 1, 94, []), (94, .getfield 7, 3, 97, []), (97, .bipush 16, 2, 99, []), (99, .iload 5, 2, 101, []), (101, .iadd, 1, 102, []), (102, .iaload, 1, 103, []), (103, .if_icmp .ge 7, 3, 106, [110]), (106, .iload 6, 2, 108, []), (108, .istore 5, 2, 110, []), (110, .iinc 6 1, 3, 113, []), (113, .goto (-89), 3, 116, [24]), (116, .iload_n 1, 1, 117, []), (117, .ifCond .ne 7, 3, 120, [124]), (120, .iload_n 2, 1, 121, []), (121, .goto 14, 3, 124, [135]), (124, .iload_n 1, 1, 125, []), (125, .iconst 1, 1, 126, []), (126, .if_icmp .ne 7, 3, 129, [133]), (129, .iload_n 3, 1, 130, []), (130, .goto 5, 3, 133, [135]), (133, .iload 5, 2, 135, []), (135, .ireturn, 1, 136, [])]
theorem t_X12_runs_ok : t_X12_runs.all (fun q => pz_wf cX12_runs q) = true := by decide +kernel
def t_X12_laysSigns : List pz_E := [(0, .iconst 1, 1, 1, []), (1, .aload_n 0, 1, 2, []), (2, .getfield 7, 3, 5, []), (5, .bipush 88, 2, 7, []), (7, .iaload, 1, 8, []), (8, .ishl, 1, 9, []), (9, .iconst 1, 1, 10, []), (10, .isub, 1, 11, []), (11, .istore_n 3, 1, 12, []), (12, .iconst 0, 1, 13, []), (13, .istore 4, 2, 15, []), (15, .iload 4, 2, 17, []), (17, .iload_n 3, 1, 18, []), (18, .if_icmp .gt 156, 3, 21, [174]), (21, .iload 4, 2, 23, []), (23, .iload_n 2, 1, 24, []), (24, .iand, 1, 25, []), (25, .iload_n 2, 1, 26, []), (26, .if_icmp .eq 6, 3, 29, [32]), (29, .goto 139, 3, 32, [168]), (32, .aload_n 0, 1, 33, []), (33, .getfield 44, 3, 36, []), (36, .iload 4, 2, 38, []), (38, .iload 4, 2, 40, []), (40, .iload_n 2, 1, 41, []), (41, .if_icmp .ne 7, 3, 44, [48]), (44, .iload_n 1, 1, 45, []), (45, .goto 6, 3, 48, [51]), (48, .ldc_w 448, 3, 51, []), (51, .iastore, 1, 52, []), (52, .iconst 0, 1, 53, []), (53, .istore 5, 2, 55, []), (55, .iload 5, 2, 57, []), (57, .aload_n 0, 1, 58, []), (58, .getfield 7, 3, 61, []), (61, .bipush 88, 2, 63, []), (63, .iaload, 1, 64, []), (64, .if_icmp .ge 104, 3, 67, [168]), (67, .iload 4, 2, 69, []), (69, .iload 5, 2, 71, []), (71, .ishr, 1, 72, []), (72, .iconst 1, 1, 73, []), (73, .iand, 1, 74, []), (74, .ifCond .eq 88, 3, 77, [162]), (77, .iload_n 2, 1, 78, []), (78, .iload 5, 2, 80, []), (80, .ishr, 1, 81, []), (81, .iconst 1, 1, 82, []), (82, .iand, 1, 83, []), (83, .iconst 1, 1, 84, []), (84, .if_icmp .ne 6, 3, 87, [90]), (87, .goto 75, 3, 90, [162]), (90, .aload_n 0, 1, 91, []), (91, .getfield 44, 3, 94, []), (94, .iload 4, 2, 96, []), (96, .iconst 1, 1, 97, []), (97, .iload 5, 2, 99, []), (99, .ishl, 1, 100, []), (100, .iconst (-1), 1, 101, []), (101, .ixor, 1, 102, []), (102, .iand, 1, 103, []), (103, .iaload, 1, 104, []), (104, .aload_n 0, 1, 105, []), (105, .getfield 7, 3, 108, []), (108, .bipush 105, 2, 110, []), (110, .iconst 2, 1, 111, []), (111, .iload 5, 2, 113, []), (113, .imul, 1, 114, []), (114, .iadd, 1, 115, []), (115, .iaload, 1, 116, []), (116, .invokestatic 51, 3, 119, []), (119, .bipush 10, 2, 121, []), (121, .iadd, 1, 122, []), (122, .istore 6, 2, 124, []), (124, .iload 6, 2, 126, []), (126, .aload_n 0, 1, 127, []), (127, .getfield 7, 3, 130, []), (130, .bipush 105, 2, 132, []), (132, .iconst 2, 1, 133, []), (133, .iload 5, 2, 135, []), (135, .imul, 1, 136, []), (136, .iadd, 1, 137, []), (137, .iconst 1, 1, 138, []), (138, .iadd, 1, 139, []), (139, .iaload, 1, 140, []), (140, .if_icmp .gt 22, 3, 143, [162]), (143, .aload_n 0, 1, 144, []), (144, .getfield 44, 3, 147, []), (147, .iload 4, 2, 149, []), (149, .aload_n 0, 1, 150, []), (150, .getfield 44, 3, 153, []), (153, .iload 4, 2, 155, []), (155, .iaload, 1, 156, []), (156, .iload 6, 2, 158, []), (158, .invokestatic 47, 3, 161, []), (161, .iastore, 1, 162, []), (162, .iinc 5 1, 3, 165, []), (165, .goto (-110), 3, 168, [55]), (168, .iinc 4 1, 3, 171, []), (171, .goto (-156), 3, 174, [15]), (174, .return_, 1, 175, [])]
theorem t_X12_laysSigns_ok : t_X12_laysSigns.all (fun q => pz_wf cX12_laysSigns q) = true := by decide +kernel
def t_X12_mostSigned : List pz_E := [(0, .iconst 0, 1, 1, []), (1, .istore_n 1, 1, 2, []), (2, .iconst 0, 1, 3, []), (3, .istore_n 2, 1, 4, []), (4, .iload_n 2, 1, 5, []), (5, .iconst 1, 1, 6, []), (6, .aload_n 0, 1, 7, []), (7, .getfield 7, 3, 10, []), (10, .bipush 88, 2, 12, []), (12, .iaload, 1, 13, []), (13, .ishl, 1, 14, []), (14, .if_icmp .ge 34, 3, 17, [48]), (17, .aload_n 0, 1, 18, []), (18, .getfield 44, 3, 21, []), (21, .iload_n 2, 1, 22, []), (22, .iaload, 1, 23, []), (23, .ldc_w 448, 3, 26, []), (26, .if_icmp .ge 14, 3, 29, [40]), (29, .iload_n 1, 1, 30, []), (30, .iload_n 2, 1, 31, []), (31, .invokestatic 398, 3, 34, []), (34, .invokestatic 51, 3, 37, []), (37, .goto 4, 3, 40, [41]), (40, .iload_n 1, 1, 41, []), (41, .istore_n 1, 1, 42, []), (42, .iinc 2 1, 3, 45, []), (45, .goto (-41), 3, 48, [4]), (48, .iload_n 1, 1, 49, []), (49, .ireturn, 1, 50, [])]
theorem t_X12_mostSigned_ok : t_X12_mostSigned.all (fun q => pz_wf cX12_mostSigned q) = true := by decide +kernel
def t_X12_signsNext : List pz_E := [(0, .iconst 1, 1, 1, []), (1, .aload_n 0, 1, 2, []), (2, .getfield 7, 3, 5, []), (5, .bipush 88, 2, 7, []), (7, .iaload, 1, 8, []), (8, .ishl, 1, 9, []), (9, .iconst 1, 1, 10, []), (10, .isub, 1, 11, []), (11, .istore 4, 2, 13, []), (13, .iconst 0, 1, 14, []), (14, .istore 5, 2, 16, []), (16, .iload 5, 2, 18, []), (18, .aload_n 0, 1, 19, []), (19, .getfield 7, 3, 22, []), (22, .bipush 88, 2, 24, []), (24, .iaload, 1, 25, []), (25, .if_icmp .ge 88, 3, 28, [113]), (28, .iload_n 1, 1, 29, []), (29, .aload_n 0, 1, 30, []), (30, .getfield 7, 3, 33, []), (33, .bipush 105, 2, 35, []), (35, .iconst 2, 1, 36, []), (36, .iload 5, 2, 38, []), (38, .imul, 1, 39, []), (39, .iadd, 1, 40, []), (40, .iaload, 1, 41, []), (41, .invokestatic 51, 3, 44, []), (44, .bipush 10, 2, 46, []), (46, .iadd, 1, 47, []), (47, .istore 6, 2, 49, []), (49, .iload_n 2, 1, 50, []), (50, .iload 5, 2, 52, []), (52, .ishr, 1, 53, []), (53, .iconst 1, 1, 54, []), (54, .iand, 1, 55, []), (55, .iconst 1, 1, 56, []), (56, .if_icmp .eq 51, 3, 59, [107]), (59, .iload 6, 2, 61, []), (61, .aload_n 0, 1, 62, []), (62, .getfield 7, 3, 65, []), (65, .bipush 105, 2, 67, []), (67, .iconst 2, 1, 68, []), (68, .iload 5, 2, 70, []), (70, .imul, 1, 71, []), (71, .iadd, 1, 72, []), (72, .iconst 1, 1, 73, []), (73, .iadd, 1, 74, []), (74, .iaload, 1, 75, []), (75, .if_icmp .le 6, 3, 78, [81]), (78, .goto 29, 3, 81, [107]), (81, .aload_n 0, 1, 82, []), (82, .iload 6, 2, 84, []), (84, .iload_n 2, 1, 85, []), (85, .iconst 1, 1, 86, []), (86, .iload 5, 2, 88, []), (88, .ishl, 1, 89, []), (89, .ior, 1, 90, []), (90, .invokevirtual 449, 3, 93, []), (93, .aload_n 0, 1, 94, []), (94, .getfield 44, 3, 97, []), (97, .iload 4, 2, 99, []), (99, .iaload, 1, 100, []), (100, .iload_n 3, 1, 101, []), (101, .if_icmp .ne 6, 3, 104, [107]), (104, .iload 5, 2, 106, []), (106, .ireturn, 1, 107, []), (107, .iinc 5 1, 3, 110, []), (110, .goto (-94), 3, 113, [16]), (113, .iconst (-1), 1, 114, []), (114, .ireturn, 1, 115, [])]
theorem t_X12_signsNext_ok : t_X12_signsNext.all (fun q => pz_wf cX12_signsNext q) = true := by decide +kernel
def t_X12_signs : List pz_E := [(0, .iconst 1, 1, 1, []), (1, .aload_n 0, 1, 2, []), (2, .getfield 7, 3, 5, []), (5, .bipush 88, 2, 7, []), (7, .iaload, 1, 8, []), (8, .ishl, 1, 9, []), (9, .iconst 1, 1, 10, []), (10, .isub, 1, 11, []), (11, .istore_n 2, 1, 12, []), (12, .aload_n 0, 1, 13, []), (13, .iconst 0, 1, 14, []), (14, .iconst 0, 1, 15, []), (15, .invokevirtual 449, 3, 18, []), (18, .iload_n 1, 1, 19, []), (19, .iconst 1, 1, 20, []), (20, .if_icmp .ne 8, 3, 23, [28]), (23, .aload_n 0, 1, 24, []), (24, .invokevirtual 452, 3, 27, []), (27, .ireturn, 1, 28, []), (28, .aload_n 0, 1, 29, []), (29, .getfield 44, 3, 32, []), (32, .iload_n 2, 1, 33, []), (33, .iaload, 1, 34, []), (34, .istore_n 3, 1, 35, []), (35, .iload_n 3, 1, 36, []), (36, .ldc_w 448, 3, 39, []), (39, .if_icmp .eq 26, 3, 42, [65]), (42, .iload_n 1, 1, 43, []), (43, .ifCond .eq 24, 3, 46, [67]), (46, .iload_n 1, 1, 47, []), (47, .bipush 10, 2, 49, []), (49, .bipush 9, 2, 51, []), (51, .aload_n 0, 1, 52, []), (52, .getfield 7, 3, 55, []), (55, .bipush 88, 2, 57, []), (57, .iaload, 1, 58, []), (58, .iadd, 1, 59, []), (59, .invokestatic 54, 3, 62, []), (62, .ifCond .ne 5, 3, 65, [67]), (65, .iconst (-1), 1, 66, []), (66, .ireturn, 1, 67, []), (67, .iconst 0, 1, 68, []), (68, .istore 4, 2, 70, []), (70, .iconst 0, 1, 71, []), (71, .istore 5, 2, 73, []), (73, .iload_n 3, 1, 74, []), (74, .istore 6, 2, 76, []), (76, .bipush 10, 2, 78, []), (78, .istore 7, 2, 80, []), (80, .iload 7, 2, 82, []), (82, .iload_n 1, 1, 83, []), (83, .if_icmp .gt 51, 3, 86, [134]), (86, .aload_n 0, 1, 87, []), (87, .iload 4, 2, 89, []), (89, .iload 5, 2, 91, []), (91, .iload_n 3, 1, 92, []), (92, .invokevirtual 455, 3, 95, []), (95, .istore 6, 2, 97, []), (97, .iload 4, 2, 99, []), (99, .aload_n 0, 1, 100, []), (100, .getfield 7, 3, 103, []), (103, .bipush 105, 2, 105, []), (105, .iconst 2, 1, 106, []), (106, .iload 6, 2, 108, []), (108, .imul, 1, 109, []), (109, .iadd, 1, 110, []), (110, .iaload, 1, 111, []), (111, .invokestatic 51, 3, 114, []), (114, .bipush 10, 2, 116, []), (116, .iadd, 1, 117, []), (117, .istore 4, 2, 119, []), (119, .iload 5, 2, 121, []), (121, .iconst 1, 1, 122, []), (122, .iload 6, 2, 124, []), (124, .ishl, 1, 125, []), (125, .ior, 1, 126, []), (126, .istore 5, 2, 128, []), (128, .iinc 7 1, 3, 131, []), (131, .goto (-51), 3, 134, [80]), (134, .iload 6, 2, 136, []), (136, .ireturn, 1, 137, [])]
theorem t_X12_signs_ok : t_X12_signs.all (fun q => pz_wf cX12_signs q) = true := by decide +kernel
def t_X12_money : List pz_E := [(0, .iload_n 1, 1, 1, []), (1, .iconst 0, 1, 2, []), (2, .sipush 600, 3, 5, []), (5, .invokestatic 54, 3, 8, []), (8, .ifCond .eq 14, 3, 11, [22]), (11, .iload_n 2, 1, 12, []), (12, .iconst 0, 1, 13, []), (13, .sipush 600, 3, 16, []), (16, .invokestatic 54, 3, 19, []), (19, .ifCond .ne 5, 3, 22, [24]), (22, .iconst (-1), 1, 23, []), (23, .ireturn, 1, 24, []), (24, .iconst (-1), 1, 25, []), (25, .istore_n 3, 1, 26, []), (26, .iload_n 1, 1, 27, []), (27, .istore 4, 2, 29, []), (29, .iconst 0, 1, 30, []), (30, .istore 5, 2, 32, []), (32, .iload 5, 2, 34, []), (34, .aload_n 0, 1, 35, []), (35, .getfield 7, 3, 38, []), (38, .bipush 88, 2, 40, []), (40, .iaload, 1, 41, []), (41, .if_icmp .ge 40, 3, 44, [81]), (44, .iload 4, 2, 46, []), (46, .bipush 10, 2, 48, []), (48, .aload_n 0, 1, 49, []), (49, .getfield 7, 3, 52, []), (52, .bipush 93, 2, 54, []), (54, .iload 5, 2, 56, []), (56, .iadd, 1, 57, []), (57, .iaload, 1, 58, []), (58, .iadd, 1, 59, []), (59, .iadd, 1, 60, []), (60, .istore 4, 2, 62, []), (62, .iload 4, 2, 64, []), (64, .iload_n 2, 1, 65, []), (65, .if_icmp .gt 8, 3, 68, [73]), (68, .iload 5, 2, 70, []), (70, .goto 4, 3, 73, [74]), (73, .iload_n 3, 1, 74, []), (74, .istore_n 3, 1, 75, []), (75, .iinc 5 1, 3, 78, []), (78, .goto (-46), 3, 81, [32]), (81, .iload_n 3, 1, 82, []), (82, .ireturn, 1, 83, [])]
theorem t_X12_money_ok : t_X12_money.all (fun q => pz_wf cX12_money q) = true := by decide +kernel
def t_X12_ill : List pz_E := [(0, .iload_n 1, 1, 1, []), (1, .iconst 0, 1, 2, []), (2, .sipush 999, 3, 5, []), (5, .invokestatic 54, 3, 8, []), (8, .ifCond .eq 13, 3, 11, [21]), (11, .iload_n 2, 1, 12, []), (12, .iconst 1, 1, 13, []), (13, .bipush 30, 2, 15, []), (15, .invokestatic 54, 3, 18, []), (18, .ifCond .ne 5, 3, 21, [23]), (21, .iconst (-1), 1, 22, []), (22, .ireturn, 1, 23, []), (23, .iconst 0, 1, 24, []), (24, .istore_n 3, 1, 25, []), (25, .iconst 0, 1, 26, []), (26, .istore 4, 2, 28, []), (28, .iload 4, 2, 30, []), (30, .aload_n 0, 1, 31, []), (31, .getfield 7, 3, 34, []), (34, .bipush 88, 2, 36, []), (36, .iaload, 1, 37, []), (37, .if_icmp .ge 35, 3, 40, [72]), (40, .iload_n 3, 1, 41, []), (41, .aload_n 0, 1, 42, []), (42, .iload 4, 2, 44, []), (44, .iload_n 1, 1, 45, []), (45, .iload_n 1, 1, 46, []), (46, .iload_n 2, 1, 47, []), (47, .iadd, 1, 48, []), (48, .iconst 1, 1, 49, []), (49, .isub, 1, 50, []), (50, .invokevirtual 392, 3, 53, []), (53, .ifCond .ne 10, 3, 56, [63]), (56, .iconst 1, 1, 57, []), (57, .iload 4, 2, 59, []), (59, .ishl, 1, 60, []), (60, .goto 4, 3, 63, [64]), (63, .iconst 0, 1, 64, []), (64, .ior, 1, 65, []), (65, .istore_n 3, 1, 66, []), (66, .iinc 4 1, 3, 69, []), (69, .goto (-41), 3, 72, [28]), (72, .iload_n 3, 1, 73, []), (73, .ireturn, 1, 74, [])]
theorem t_X12_ill_ok : t_X12_ill.all (fun q => pz_wf cX12_ill q) = true := by decide +kernel
def t_X12_greaterBy : List pz_E := [(0, .iconst 0, 1, 1, []), (1, .istore_n 2, 1, 2, []), (2, .iconst 0, 1, 3, []), (3, .istore_n 3, 1, 4, []), (4, .iload_n 3, 1, 5, []), (5, .aload_n 0, 1, 6, []), (6, .getfield 7, 3, 9, []), (9, .bipush 88, 2, 11, []), (11, .iaload, 1, 12, []), (12, .if_icmp .ge 27, 3, 15, [39]), (15, .iload_n 2, 1, 16, []), (16, .aload_n 0, 1, 17, []), (17, .iload_n 3, 1, 18, []), (18, .iconst 0, 1, 19, []), (19, .iload_n 1, 1, 20, []), (20, .invokevirtual 392, 3, 23, []), (23, .ifCond .le 7, 3, 26, [30]), (26, .iconst 1, 1, 27, []), (27, .goto 4, 3, 30, [31]), (30, .iconst 0, 1, 31, []), (31, .iadd, 1, 32, []), (32, .istore_n 2, 1, 33, []), (33, .iinc 3 1, 3, 36, []), (36, .goto (-32), 3, 39, [4]), (39, .iload_n 2, 1, 40, []), (40, .aload_n 0, 1, 41, []), (41, .getfield 7, 3, 44, []), (44, .bipush 88, 2, 46, []), (46, .iaload, 1, 47, []), (47, .iload_n 2, 1, 48, []), (48, .isub, 1, 49, []), (49, .invokestatic 51, 3, 52, []), (52, .ireturn, 1, 53, [])]
theorem t_X12_greaterBy_ok : t_X12_greaterBy.all (fun q => pz_wf cX12_greaterBy q) = true := by decide +kernel
def t_X12_wrote : List pz_E := [(0, .aload_n 0, 1, 1, []), (1, .getfield 7, 3, 4, []), (4, .bipush 88, 2, 6, []), (6, .iaload, 1, 7, []), (7, .iconst 2, 1, 8, []), (8, .if_icmp .ge 5, 3, 11, [13]), (11, .iconst (-1), 1, 12, []), (12, .ireturn, 1, 13, []), (13, .iconst 0, 1, 14, []), (14, .istore_n 1, 1, 15, []), (15, .iconst 1, 1, 16, []), (16, .istore_n 2, 1, 17, []), (17, .iload_n 2, 1, 18, []), (18, .bipush 100, 2, 20, []), (20, .if_icmp .ge 24, 3, 23, [44]), (23, .aload_n 0, 1, 24, []), (24, .iload_n 2, 1, 25, []), (25, .invokevirtual 458, 3, 28, []), (28, .aload_n 0, 1, 29, []), (29, .iload_n 1, 1, 30, []), (30, .invokevirtual 458, 3, 33, []), (33, .if_icmp .ge 5, 3, 36, [38]), (36, .iload_n 2, 1, 37, []), (37, .istore_n 1, 1, 38, []), (38, .iinc 2 1, 3, 41, []), (41, .goto (-24), 3, 44, [17]), (44, .iload_n 1, 1, 45, []), (45, .ireturn, 1, 46, [])]
theorem t_X12_wrote_ok : t_X12_wrote.all (fun q => pz_wf cX12_wrote q) = true := by decide +kernel
def t_X12_slowest : List pz_E := [(0, .iconst (-1), 1, 1, []), (1, .istore_n 1, 1, 2, []), (2, .iconst 0, 1, 3, []), (3, .istore_n 2, 1, 4, []), (4, .iload_n 2, 1, 5, []), (5, .aload_n 0, 1, 6, []), (6, .getfield 7, 3, 9, []), (9, .bipush 88, 2, 11, []), (11, .iaload, 1, 12, []), (12, .if_icmp .ge 37, 3, 15, [49]), (15, .aload_n 0, 1, 16, []), (16, .iload_n 2, 1, 17, []), (17, .invokevirtual 65, 3, 20, []), (20, .ifCond .ne 23, 3, 23, [43]), (23, .iload_n 1, 1, 24, []), (24, .iconst (-1), 1, 25, []), (25, .if_icmp .eq 16, 3, 28, [41]), (28, .aload_n 0, 1, 29, []), (29, .iload_n 2, 1, 30, []), (30, .invokevirtual 370, 3, 33, []), (33, .aload_n 0, 1, 34, []), (34, .iload_n 1, 1, 35, []), (35, .invokevirtual 370, 3, 38, []), (38, .if_icmp .ge 5, 3, 41, [43]), (41, .iload_n 2, 1, 42, []), (42, .istore_n 1, 1, 43, []), (43, .iinc 2 1, 3, 46, []), (46, .goto (-42), 3, 49, [4]), (49, .iload_n 1, 1, 50, []), (50, .ireturn, 1, 51, [])]
theorem t_X12_slowest_ok : t_X12_slowest.all (fun q => pz_wf cX12_slowest q) = true := by decide +kernel
def t_X12_heapOf : List pz_E := [(0, .aload_n 0, 1, 1, []), (1, .iload_n 1, 1, 2, []), (2, .invokevirtual 65, 3, 5, []), (5, .ifCond .eq 7, 3, 8, [12]), (8, .iconst 0, 1, 9, []), (9, .goto 12, 3, 12, [21]), (12, .aload_n 0, 1, 13, []), (13, .getfield 7, 3, 16, []), (16, .bipush 93, 2, 18, []), (18, .iload_n 1, 1, 19, []), (19, .iadd, 1, 20, []), (20, .iaload, 1, 21, []), (21, .ireturn, 1, 22, [])]
theorem t_X12_heapOf_ok : t_X12_heapOf.all (fun q => pz_wf cX12_heapOf q) = true := by decide +kernel
def t_X12_game : List pz_E := [(0, .iload_n 1, 1, 1, []), (1, .iconst 0, 1, 2, []), (2, .iconst 1, 1, 3, []), (3, .invokestatic 54, 3, 6, []), (6, .ifCond .ne 5, 3, 9, [11]), (9, .iconst (-1), 1, 10, []), (10, .ireturn, 1, 11, []), (11, .iconst 0, 1, 12, []), (12, .istore_n 2, 1, 13, []), (13, .iconst 0, 1, 14, []), (14, .istore_n 3, 1, 15, []), (15, .iload_n 3, 1, 16, []), (16, .aload_n 0, 1, 17, []), (17, .getfield 7, 3, 20, []), (20, .bipush 88, 2, 22, []), (22, .iaload, 1, 23, []), (23, .if_icmp .ge 19, 3, 26, [42]), (26, .iload_n 2, 1, 27, []), (27, .aload_n 0, 1, 28, []), (28, .iload_n 3, 1, 29, []), (29, .invokevirtual 461, 3, 32, []), (32, .iconst 4, 1, 33, []), (33, .irem, 1, 34, []), (34, .ixor, 1, 35, []), (35, .istore_n 2, 1, 36, []), (36, .iinc 3 1, 3, 39, []), (39, .goto (-24), 3, 42, [15]), (42, .iconst 0, 1, 43, []), (43, .istore_n 3, 1, 44, []), (44, .iload_n 3, 1, 45, []), (45, .aload_n 0, 1, 46, []), (46, .getfield 7, 3, 49, []), (49, .bipush 88, 2, 51, []), (51, .iaload, 1, 52, []), (52, .if_icmp .ge 65, 3, 55, [117]), (55, .iconst 1, 1, 56, []), (56, .istore 4, 2, 58, []), (58, .iload 4, 2, 60, []), (60, .iconst 3, 1, 61, []), (61, .aload_n 0, 1, 62, []), (62, .iload_n 3, 1, 63, []), (63, .invokevirtual 461, 3, 66, []), (66, .invokestatic 47, 3, 69, []), (69, .if_icmp .gt 42, 3, 72, [111]), (72, .iload_n 2, 1, 73, []), (73, .aload_n 0, 1, 74, []), (74, .iload_n 3, 1, 75, []), (75, .invokevirtual 461, 3, 78, []), (78, .iconst 4, 1, 79, []), (79, .irem, 1, 80, []), (80, .ixor, 1, 81, []), (81, .aload_n 0, 1, 82, []), (82, .iload_n 3, 1, 83, []), (83, .invokevirtual 461, 3, 86, []), (86, .iload 4, 2, 88, []), (88, .isub, 1, 89, []), (89, .iconst 4, 1, 90, []), (90, .irem, 1, 91, []), (91, .if_icmp .ne 14, 3, 94, [105]), (94, .iload_n 1, 1, 95, []), (95, .ifCond .ne 7, 3, 98, [102]), (98, .iload_n 3, 1, 99, []), (99, .goto 5, 3, 102, [104]), (102, .iload 4, 2, 104, []), (104, .ireturn, 1, 105, []), (105, .iinc 4 1, 3, 108, []), (108, .goto (-50), 3, 111, [58]), (111, .iinc 3 1, 3, 114, []), (114, .goto (-70), 3, 117, [44]), (117, .iconst (-1), 1, 118, []), (118, .ireturn, 1, 119, [])]
theorem t_X12_game_ok : t_X12_game.all (fun q => pz_wf cX12_game q) = true := by decide +kernel
def t_X12_image : List pz_E := [(0, .iload_n 1, 1, 1, []), (1, .ifCond .ne 12, 3, 4, [13]), (4, .aload_n 0, 1, 5, []), (5, .getfield 464, 3, 8, []), (8, .ifCond .ne 5, 3, 11, [13]), (11, .iconst 0, 1, 12, []), (12, .ireturn, 1, 13, []), (13, .iconst 0, 1, 14, []), (14, .istore_n 2, 1, 15, []), (15, .iload_n 2, 1, 16, []), (16, .sipush 1725, 3, 19, []), (19, .if_icmp .ge 40, 3, 22, [59]), (22, .iload_n 1, 1, 23, []), (23, .ifCond .eq 18, 3, 26, [41]), (26, .aload_n 0, 1, 27, []), (27, .getfield 13, 3, 30, []), (30, .iload_n 2, 1, 31, []), (31, .aload_n 0, 1, 32, []), (32, .getfield 7, 3, 35, []), (35, .iload_n 2, 1, 36, []), (36, .iaload, 1, 37, []), (37, .iastore, 1, 38, []), (38, .goto 15, 3, 41, [53]), (41, .aload_n 0, 1, 42, []), (42, .getfield 7, 3, 45, []), (45, .iload_n 2, 1, 46, []), (46, .aload_n 0, 1, 47, []), (47, .getfield 13, 3, 50, []), (50, .iload_n 2, 1, 51, []), (51, .iaload, 1, 52, []), (52, .iastore, 1, 53, []), (53, .iinc 2 1, 3, 56, []), (56, .goto (-41), 3, 59, [15]), (59, .iload_n 1, 1, 60, []), (60, .ifCond .ne 7, 3, 63, [67]), (63, .aload_n 0, 1, 64, []), (64, .invokevirtual 71, 3, 67, []), (67, .aload_n 0, 1, 68, []), (68, .iconst 1, 1, 69, []), (69, .putfield 464, 3, 72, []), (72, .iconst 1, 1, 73, []), (73, .ireturn, 1, 74, [])]
theorem t_X12_image_ok : t_X12_image.all (fun q => pz_wf cX12_image q) = true := by decide +kernel
def t_X12_look : List pz_E := [(0, .iload_n 1, 1, 1, []), (1, .tableswitch 174 0 12 #[67, 75, 82, 89, 94, 99, 123, 130, 137, 145, 153, 161, 169], 67, 68, [175, 68, 76, 83, 90, 95, 100, 124, 131, 138, 146, 154, 162, 170]), (68, .aload_n 0, 1, 69, []), (69, .getfield 7, 3, 72, []), (72, .bipush 88, 2, 74, []), (74, .iaload, 1, 75, []), (75, .ireturn, 1, 76, []), (76, .aload_n 0, 1, 77, []), (77, .getfield 7, 3, 80, []), (80, .iconst 0, 1, 81, []), (81, .iaload, 1, 82, []), (82, .ireturn, 1, 83, []), (83, .aload_n 0, 1, 84, []), (84, .getfield 7, 3, 87, []), (87, .iconst 1, 1, 88, []), (88, .iaload, 1, 89, []), (89, .ireturn, 1, 90, []), (90, .aload_n 0, 1, 91, []), (91, .invokevirtual 395, 3, 94, []), (94, .ireturn, 1, 95, []), (95, .aload_n 0, 1, 96, []), (96, .invokevirtual 291, 3, 99, []), (99, .ireturn, 1, 100, []), (100, .aload_n 0, 1, 101, []), (101, .getfield 7, 3, 104, []), (104, .bipush 88, 2, 106, []), (106, .iaload, 1, 107, []), (107, .ifCond .ne 7, 3, 110, [114]), (110, .iconst 0, 1, 111, []), (111, .goto 12, 3, 114, [123]), (114, .iconst 1, 1, 115, []), (115, .aload_n 0, 1, 116, []), (116, .invokevirtual 291, 3, 119, []), (119, .invokestatic 398, 3, 122, []), (122, .iadd, 1, 123, []), (123, .ireturn, 1, 124, []), (124, .aload_n 0, 1, 125, []), (125, .getfield 7, 3, 128, []), (128, .iconst 3, 1, 129, []), (129, .iaload, 1, 130, []), (130, .ireturn, 1, 131, []), (131, .aload_n 0, 1, 132, []), (132, .getfield 7, 3, 135, []), (135, .iconst 2, 1, 136, []), (136, .iaload, 1, 137, []), (137, .ireturn, 1, 138, []), (138, .aload_n 0, 1, 139, []), (139, .getfield 7, 3, 142, []), (142, .bipush 89, 2, 144, []), (144, .iaload, 1, 145, []), (145, .ireturn, 1, 146, []), (146, .aload_n 0, 1, 147, []), (147, .getfield 7, 3, 150, []), (150, .bipush 90, 2, 152, []), (152, .iaload, 1, 153, []), (153, .ireturn, 1, 154, []), (154, .aload_n 0, 1, 155, []), (155, .getfield 7, 3, 158, []), (158, .bipush 91, 2, 160, []), (160, .iaload, 1, 161, []), (161, .ireturn, 1, 162, []), (162, .aload_n 0, 1, 163, []), (163, .getfield 7, 3, 166, []), (166, .bipush 92, 2, 168, []), (168, .iaload, 1, 169, []), (169, .ireturn, 1, 170, []), (170, .aload_n 0, 1, 171, []), (171, .getfield 68, 3, 174, []), (174, .ireturn, 1, 175, []), (175, .iconst (-1), 1, 176, []), (176, .ireturn, 1, 177, [])]
theorem t_X12_look_ok : t_X12_look.all (fun q => pz_wf cX12_look q) = true := by decide +kernel
def t_J6_bitCount_0f7a4 : List pz_E := [(0, .iload_n 0, 1, 1, []), (1, .iload_n 0, 1, 2, []), (2, .iconst 1, 1, 3, []), (3, .iushr, 1, 4, []), (4, .ldc_w 265, 3, 7, []), (7, .iand, 1, 8, []), (8, .isub, 1, 9, []), (9, .istore_n 0, 1, 10, []), (10, .iload_n 0, 1, 11, []), (11, .ldc_w 266, 3, 14, []), (14, .iand, 1, 15, []), (15, .iload_n 0, 1, 16, []), (16, .iconst 2, 1, 17, []), (17, .iushr, 1, 18, []), (18, .ldc_w 266, 3, 21, []), (21, .iand, 1, 22, []), (22, .iadd, 1, 23, []), (23, .istore_n 0, 1, 24, []), (24, .iload_n 0, 1, 25, []), (25, .iload_n 0, 1, 26, []), (26, .iconst 4, 1, 27, []), (27, .iushr, 1, 28, []), (28, .iadd, 1, 29, []), (29, .ldc_w 267, 3, 32, []), (32, .iand, 1, 33, []), (33, .istore_n 0, 1, 34, []), (34, .iload_n 0, 1, 35, []), (35, .iload_n 0, 1, 36, []), (36, .bipush 8, 2, 38, []), (38, .iushr, 1, 39, []), (39, .iadd, 1, 40, []), (40, .istore_n 0, 1, 41, []), (41, .iload_n 0, 1, 42, []), (42, .iload_n 0, 1, 43, []), (43, .bipush 16, 2, 45, []), (45, .iushr, 1, 46, []), (46, .iadd, 1, 47, []), (47, .istore_n 0, 1, 48, []), (48, .iload_n 0, 1, 49, []), (49, .bipush 63, 2, 51, []), (51, .iand, 1, 52, []), (52, .ireturn, 1, 53, [])]
theorem t_J6_bitCount_0f7a4_ok : t_J6_bitCount_0f7a4.all (fun q => pz_wf cJ6_bitCount_0f7a4 q) = true := by decide +kernel
def t_J9_floorDiv_7cf53 : List pz_E := [(0, .iload_n 0, 1, 1, []), (1, .iload_n 1, 1, 2, []), (2, .idiv, 1, 3, []), (3, .istore_n 2, 1, 4, []), (4, .iload_n 0, 1, 5, []), (5, .iload_n 1, 1, 6, []), (6, .ixor, 1, 7, []), (7, .ifCond .ge 14, 3, 10, [21]), (10, .iload_n 2, 1, 11, []), (11, .iload_n 1, 1, 12, []), (12, .imul, 1, 13, []), (13, .iload_n 0, 1, 14, []), (14, .if_icmp .eq 7, 3, 17, [21]), (17, .iload_n 2, 1, 18, []), (18, .iconst 1, 1, 19, []), (19, .isub, 1, 20, []), (20, .ireturn, 1, 21, []), (21, .iload_n 2, 1, 22, []), (22, .ireturn, 1, 23, [])]
theorem t_J9_floorDiv_7cf53_ok : t_J9_floorDiv_7cf53.all (fun q => pz_wf cJ9_floorDiv_7cf53 q) = true := by decide +kernel
def t_J9_max_7cf53 : List pz_E := [(0, .iload_n 0, 1, 1, []), (1, .iload_n 1, 1, 2, []), (2, .if_icmp .lt 7, 3, 5, [9]), (5, .iload_n 0, 1, 6, []), (6, .goto 4, 3, 9, [10]), (9, .iload_n 1, 1, 10, []), (10, .ireturn, 1, 11, [])]
theorem t_J9_max_7cf53_ok : t_J9_max_7cf53.all (fun q => pz_wf cJ9_max_7cf53 q) = true := by decide +kernel
def t_J9_min_7cf53 : List pz_E := [(0, .iload_n 0, 1, 1, []), (1, .iload_n 1, 1, 2, []), (2, .if_icmp .gt 7, 3, 5, [9]), (5, .iload_n 0, 1, 6, []), (6, .goto 4, 3, 9, [10]), (9, .iload_n 1, 1, 10, []), (10, .ireturn, 1, 11, [])]
theorem t_J9_min_7cf53_ok : t_J9_min_7cf53.all (fun q => pz_wf cJ9_min_7cf53 q) = true := by decide +kernel
end
section
/-! one instruction as a proposition -/
def pz_w (x : Int) : Int := (x + 2147483648) % 4294967296 - 2147483648
def pz_wl (x : Int) : Int := (x + 9223372036854775808) % 18446744073709551616 - 9223372036854775808
def pz_c (x : Int) : Prop := -2147483648 ≤ x ∧ x ≤ 2147483647
def pz_cl (x : Int) : Prop := -9223372036854775808 ≤ x ∧ x ≤ 9223372036854775807
def pz_u (M : pz_M) (a k : Nat) (v : Int) : pz_M := fun b j => if b = a ∧ j = k then v else M b j
/-- a number gets a name -/
def pz_n (z : Int) (K : Int → Prop) : Prop := ∀ v : Int, v = z → -2147483648 ≤ v → v ≤ 2147483647 → K v
def pz_nl (z : Int) (K : Int → Prop) : Prop := ∀ v : Int, v = z → -9223372036854775808 ≤ v → v ≤ 9223372036854775807 → K v
def pz_kl : Option pz_V → Option pz_V
  | some (.inr (.inl _)) => none
  | h => h
def pz_get : pz_L → Nat → (pz_V → Prop) → Prop
  | some v :: _, 0, f => f v
  | _ :: t, k + 1, f => pz_get t k f
  | _, _, _ => False
def pz_set : pz_L → Nat → pz_V → (pz_L → Prop) → Prop
  | _ :: t, 0, v, f => f (some v :: t)
  | h :: _ :: t, 1, v, f => f (pz_kl h :: some v :: t)
  | h :: t, k + 1, v, f => pz_set t k v (fun t' => f (h :: t'))
  | [], _, _, _ => False
def pz_setl : pz_L → Nat → pz_V → (pz_L → Prop) → Prop
  | _ :: _ :: t, 0, v, f => f (some v :: none :: t)
  | h :: _ :: _ :: t, 1, v, f => f (pz_kl h :: some v :: none :: t)
  | h :: t, k + 2, v, f => pz_setl t (k + 1) v (fun t' => f (h :: t'))
  | _, _, _, _ => False
def pz_cat : pz_V → Nat
  | .inr (.inl _) => 2
  | _ => 1
def pz_cs : List pz_V → Nat
  | [] => 0
  | v :: t => pz_cat v + pz_cs t
def pz_1 (st : List pz_V) (f : Int → List pz_V → Prop) : Prop := match st with
  | .inl x :: r => f x r
  | _ => False
def pz_2 (st : List pz_V) (f : Int → Int → List pz_V → Prop) : Prop := match st with
  | .inl y :: .inl x :: r => f x y r
  | _ => False
def pz_l1 (st : List pz_V) (f : Int → List pz_V → Prop) : Prop := match st with
  | .inr (.inl x) :: r => f x r
  | _ => False
def pz_l2 (st : List pz_V) (f : Int → Int → List pz_V → Prop) : Prop := match st with
  | .inr (.inl y) :: .inr (.inl x) :: r => f x y r
  | _ => False
def pz_r (st : List pz_V) (f : Nat → Nat → List pz_V → Prop) : Prop := match st with
  | .inr (.inr (k, a)) :: r => f k a r
  | _ => False
def pz_ri (st : List pz_V) (f : Nat → Nat → Int → List pz_V → Prop) : Prop := match st with
  | .inl i :: .inr (.inr (k, a)) :: r => f k a i r
  | _ => False
def pz_rii (st : List pz_V) (f : Nat → Nat → Int → Int → List pz_V → Prop) : Prop := match st with
  | .inl v :: .inl i :: .inr (.inr (k, a)) :: r => f k a i v r
  | _ => False
def pz_b (b : Bool) (P : Prop) : Prop := match b with
  | true => P
  | false => False
/-- kinds: 0 .. 12 the classes as vwCl has them; arrays: what of (0 ints, 1 bytes, 2 Links, 3 Chains), how long -/
def pz_ak : Nat → Nat × Nat
  | 13 => (0, 600)
  | 14 => (0, 16)
  | 15 => (0, 400)
  | 16 => (0, 64)
  | 17 => (0, 80)
  | 18 => (1, 400)
  | 19 => (0, 401)
  | 20 => (0, 12)
  | 21 => (0, 144)
  | 22 => (0, 4096)
  | 23 => (0, 1725)
  | 24 => (0, 528)
  | 25 => (0, 88)
  | 26 => (0, 820)
  | 27 => (0, 420)
  | 28 => (0, 10)
  | 29 => (2, 12)
  | 30 => (3, 6)
  | _ => (9, 0)
/-- how many fields an object of that class has -/
def pz_nf : Nat → Nat
  | 0 => 8 | 1 => 2 | 2 => 3 | 3 => 8 | 4 => 5 | 5 => 8 | 6 => 2 | 7 => 5 | 8 => 8 | 9 => 10 | 10 => 4 | 11 => 14 | 12 => 28 | _ => 0
/-- of which kind is what a field (an element) refers to; none: a number -/
def pz_rk : Nat → Nat → Option Nat
  | 0, 1 => some 29 | 0, 2 => some 5
  | 1, 0 => some 10 | 1, 1 => some 13
  | 2, 0 => some 30
  | 3, 2 => some 14 | 3, 3 => some 14 | 3, 4 => some 14 | 3, 5 => some 14 | 3, 6 => some 15 | 3, 7 => some 16
  | 4, 0 => some 3 | 4, 1 => some 20 | 4, 2 => some 20 | 4, 3 => some 20 | 4, 4 => some 21
  | 6, 1 => some 17
  | 7, 0 => some 18 | 7, 2 => some 19 | 7, 3 => some 19 | 7, 4 => some 19
  | 8, 4 => some 20 | 8, 5 => some 20 | 8, 6 => some 20 | 8, 7 => some 22
  | 9, 0 => some 7 | 9, 1 => some 3 | 9, 2 => some 6
  | 10, 0 => some 3 | 10, 1 => some 6 | 10, 2 => some 6 | 10, 3 => some 6
  | 11, 0 => some 0 | 11, 1 => some 0 | 11, 2 => some 10 | 11, 3 => some 13 | 11, 4 => some 1 | 11, 5 => some 2 | 11, 6 => some 7 | 11, 7 => some 9 | 11, 8 => some 4 | 11, 9 => some 8 | 11, 10 => some 0 | 11, 11 => some 10 | 11, 12 => some 13
  | 12, 0 => some 23 | 12, 1 => some 23 | 12, 2 => some 24 | 12, 3 => some 25 | 12, 6 => some 16 | 12, 7 => some 26 | 12, 8 => some 17 | 12, 9 => some 15 | 12, 10 => some 27 | 12, 11 => some 28 | 12, 27 => some 22
  | 29, _ => some 5 | 30, _ => some 0
  | _, _ => none
/-- what may be put into a field: 0 nothing, 1 an int, 2 a boolean -/
def pz_pf : Nat → Nat → Nat
  | 0, 0 => 0 | 8, 0 => 2 | 11, 13 => 2 | 12, 5 => 2 | 12, 26 => 2
  | k, j => (match pz_rk k j with | some _ => 0 | none => 1)
/-- ids below 71: their kinds -/
def pz_k0 : List Nat := [11, 12, 1, 2, 7, 9, 4, 8, 10, 10, 3, 3, 3, 6, 6, 6, 6, 6, 6, 6, 17, 17, 17, 17, 17, 17, 17, 14, 14, 14, 14, 15, 16, 14, 14, 14, 14, 15, 16, 14, 14, 14, 14, 15, 16, 13, 13, 30, 18, 19, 19, 19, 20, 20, 20, 21, 20, 20, 20, 22, 23, 23, 24, 25, 16, 26, 17, 15, 27, 28, 22]
def pz_kd (a : Nat) : Nat := if a < 71 then pz_k0.getD a 98 else if a < 80 then 0 else if a < 89 then 29 else if a < 206 then 5 else 99
/-- what a field (an element) of a thing refers to -/
def pz_rf (a k : Nat) : Nat :=
  if a < 71 then (match a with
    | 0 => [71, 72, 8, 45, 2, 3, 4, 5, 6, 7, 73, 9, 46].getD k 0
    | 1 => [60, 61, 62, 63, 0, 0, 64, 65, 66, 67, 68, 69, 0, 0, 0, 0, 0, 0, 0, 0, 0, 0, 0, 0, 0, 0, 0, 70].getD k 0
    | 2 => [8, 45].getD k 0
    | 3 => 47
    | 4 => [48, 0, 49, 50, 51].getD k 0
    | 5 => [4, 12, 19].getD k 0
    | 6 => [10, 52, 53, 54, 55].getD k 0
    | 7 => [0, 0, 0, 0, 56, 57, 58, 59].getD k 0
    | 8 => [10, 13, 14, 15].getD k 0
    | 9 => [11, 16, 17, 18].getD k 0
    | 10 => 25 + k
    | 11 => 31 + k
    | 12 => 37 + k
    | 47 => 74 + k
    | a => a + 7)
  else if a < 80 then (match k with
    | 1 => a + 9
    | _ => 89 + 13 * (a - 71) + 12)
  else 89 + 13 * (a - 80) + k
def pz_sw (x lo : Int) (K : Nat → Prop) : List Nat → Prop
  | [] => True
  | t :: ts => (x = lo → K t) ∧ pz_sw x (lo + 1) K ts
def pz_lk (x : Int) (K : Nat → Prop) : List (Int × Int) → List Nat → Prop
  | q :: ps, t :: ts => (x = q.1 → K t) ∧ pz_lk x K ps ts
  | _, _ => True
def pz_nk (x : Int) (P : Prop) : List (Int × Int) → Prop
  | [] => P
  | q :: ps => ¬ x = q.1 → pz_nk x P ps
/-- the answer of a call, by its kind: 0 none, 1 an int, 2 a long, 3 + k a reference of kind k -/
def pz_an (rk : Nat) (P : Option pz_V → pz_M → Prop) (K : List pz_V → pz_M → Prop) : Prop := match rk with
  | 0 => ∀ M, P none M → K [] M
  | 1 => ∀ (v : Int) (M : pz_M), -2147483648 ≤ v → v ≤ 2147483647 → P (some (.inl v)) M → K [.inl v] M
  | 2 => ∀ (v : Int) (M : pz_M), -9223372036854775808 ≤ v → v ≤ 9223372036854775807 → P (some (.inr (.inl v))) M → K [.inr (.inl v)] M
  | k + 3 => ∀ (a : Nat) (M : pz_M), pz_kd a = k → P (some (.inr (.inr (k, a)))) M → K [.inr (.inr (k, a))] M
def pz_br (b : Jvm.ClassFile.Cond) (x y : Int) (A B : Prop) : Prop := match b with
  | .eq => (x = y → A) ∧ (¬ x = y → B)
  | .ne => (¬ x = y → A) ∧ (x = y → B)
  | .lt => (x < y → A) ∧ (¬ x < y → B)
  | .ge => (¬ x < y → A) ∧ (x < y → B)
  | .gt => (y < x → A) ∧ (¬ y < x → B)
  | .le => (¬ y < x → A) ∧ (y < x → B)
def pz_call (ct : Nat → Option pz_C) (i : Nat) (lo : pz_L) (st : List pz_V) (M : pz_M) (K : List pz_V → pz_M → Prop) : Prop := match ct i with
  | some (n, rk, pre, post) => pz_b (Nat.ble n st.length) (pz_b (Nat.ble (pz_cs (st.drop n)) 8) (pre (st.take n).reverse M ∧ pz_an rk (fun r M' => post (st.take n).reverse M r M') (fun r M' => K (r ++ st.drop n) M')))
  | none => False
/-- a memory gets a name -/
def pz_nM (M0 : pz_M) (K : pz_M → Prop) : Prop := ∀ M : pz_M, M = M0 → K M
/-- a reference gets a name -/
def pz_nr (r k : Nat) (K : Nat → Prop) : Prop := ∀ z : Nat, z = r → pz_kd z = k → K z
def pz_getf (q : Option (Nat × Nat)) (st : List pz_V) (M : pz_M) (K : List pz_V → Prop) : Prop := match q with
  | some (k, j) => pz_r st (fun kd a r => pz_b (Nat.beq kd k) (match pz_rk k j with
      | some kr => pz_nr (pz_rf a j) kr (fun z => K (.inr (.inr (kr, z)) :: r))
      | none => pz_n (M a j) (fun z => K (.inl z :: r))))
  | none => False
def pz_putk (n : Nat) (v : Int) (P : Prop) : Prop := match n with
  | 1 => P
  | 2 => (v = 0 ∨ v = 1) ∧ P
  | _ => False
def pz_putf (q : Option (Nat × Nat)) (st : List pz_V) (M : pz_M) (K : List pz_V → pz_M → Prop) : Prop := match q with
  | some (k, j) => (match st with
    | .inl v :: .inr (.inr (kd, a)) :: r => pz_b (Nat.beq kd k) (pz_putk (pz_pf k j) v (pz_nM (pz_u M a j v) (K r)))
    | _ => False)
  | none => False
def pz_al (q : Nat × Nat) (t : Nat) (i : Int) (P : Prop) : Prop := match Nat.beq q.1 t with
  | true => 0 ≤ i ∧ (i < (q.2 : Int) ∧ P)
  | false => False
def pz_aal (kd : Nat) (i : Int) (K : Nat → Prop) : Prop := match kd with
  | 29 => 0 ≤ i ∧ (i < 12 ∧ K 5)
  | 30 => 0 ≤ i ∧ (i < 6 ∧ K 0)
  | _ => False
/-- one instruction: what must hold so that all goes well -/
def pz_stp (fl : Nat → Option (Nat × Nat)) (ci : Nat → Option pz_V) (ct : Bool → Nat → Option pz_C) (K : pz_F) (Rt : Option pz_V → pz_M → Prop) (rz : Bool) (I : Instr) (nx : Nat) (tg : List Nat) (lo : pz_L) (st : List pz_V) (M : pz_M) : Prop :=
  match I with
  | .iconst v => K nx lo (.inl v :: st) M
  | .bipush v => K nx lo (.inl v :: st) M
  | .sipush v => K nx lo (.inl v :: st) M
  | .lconst v => K nx lo (.inr (.inl (v : Nat)) :: st) M
  | .ldc i => (match ci i with | some (.inr (.inl _)) => False | some v => K nx lo (v :: st) M | none => False)
  | .ldc_w i => (match ci i with | some (.inl v) => K nx lo (.inl v :: st) M | _ => False)
  | .ldc2_w i => (match ci i with | some (.inr (.inl v)) => K nx lo (.inr (.inl v) :: st) M | _ => False)
  | .iload k => pz_get lo k (fun v => match v with | .inl x => K nx lo (.inl x :: st) M | _ => False)
  | .iload_n k => pz_get lo k (fun v => match v with | .inl x => K nx lo (.inl x :: st) M | _ => False)
  | .lload k => pz_get lo k (fun v => match v with | .inr (.inl x) => K nx lo (.inr (.inl x) :: st) M | _ => False)
  | .lload_n k => pz_get lo k (fun v => match v with | .inr (.inl x) => K nx lo (.inr (.inl x) :: st) M | _ => False)
  | .aload k => pz_get lo k (fun v => match v with | .inr (.inr x) => K nx lo (.inr (.inr x) :: st) M | _ => False)
  | .aload_n k => pz_get lo k (fun v => match v with | .inr (.inr x) => K nx lo (.inr (.inr x) :: st) M | _ => False)
  | .istore k => pz_1 st (fun x r => pz_set lo k (.inl x) (fun lo' => K nx lo' r M))
  | .istore_n k => pz_1 st (fun x r => pz_set lo k (.inl x) (fun lo' => K nx lo' r M))
  | .lstore k => pz_l1 st (fun x r => pz_setl lo k (.inr (.inl x)) (fun lo' => K nx lo' r M))
  | .lstore_n k => pz_l1 st (fun x r => pz_setl lo k (.inr (.inl x)) (fun lo' => K nx lo' r M))
  | .astore k => pz_r st (fun kd a r => pz_set lo k (.inr (.inr (kd, a))) (fun lo' => K nx lo' r M))
  | .astore_n k => pz_r st (fun kd a r => pz_set lo k (.inr (.inr (kd, a))) (fun lo' => K nx lo' r M))
  | .iinc k n => pz_get lo k (fun v => match v with | .inl x => pz_n (pz_w (x + n)) (fun z => pz_set lo k (.inl z) (fun lo' => K nx lo' st M)) | _ => False)
  | .iadd => pz_2 st (fun x y r => pz_n (pz_w (x + y)) (fun z => K nx lo (.inl z :: r) M))
  | .isub => pz_2 st (fun x y r => pz_n (pz_w (x - y)) (fun z => K nx lo (.inl z :: r) M))
  | .imul => pz_2 st (fun x y r => pz_n (pz_w (x * y)) (fun z => K nx lo (.inl z :: r) M))
  | .idiv => pz_2 st (fun x y r => ¬ y = 0 ∧ pz_n (pz_w (x.tdiv y)) (fun z => K nx lo (.inl z :: r) M))
  | .irem => pz_2 st (fun x y r => ¬ y = 0 ∧ pz_n (pz_w (x.tmod y)) (fun z => K nx lo (.inl z :: r) M))
  | .iand => pz_2 st (fun x y r => pz_n ((Int32.ofInt x &&& Int32.ofInt y).toInt) (fun z => K nx lo (.inl z :: r) M))
  | .ior => pz_2 st (fun x y r => pz_n ((Int32.ofInt x ||| Int32.ofInt y).toInt) (fun z => K nx lo (.inl z :: r) M))
  | .ixor => pz_2 st (fun x y r => pz_n ((Int32.ofInt x ^^^ Int32.ofInt y).toInt) (fun z => K nx lo (.inl z :: r) M))
  | .ishl => pz_2 st (fun x y r => pz_n ((Int32.ofInt x <<< (Int32.ofInt y &&& 31)).toInt) (fun z => K nx lo (.inl z :: r) M))
  | .ishr => pz_2 st (fun x y r => pz_n ((Int32.ofInt x >>> (Int32.ofInt y &&& 31)).toInt) (fun z => K nx lo (.inl z :: r) M))
  | .iushr => pz_2 st (fun x y r => pz_n (((Int32.ofInt x).toUInt32 >>> ((Int32.ofInt y).toUInt32 &&& Int32.toUInt32 31)).toInt32.toInt) (fun z => K nx lo (.inl z :: r) M))
  | .i2b => pz_1 st (fun x r => pz_n ((Int32.ofInt x).toInt8.toInt32.toInt) (fun z => K nx lo (.inl z :: r) M))
  | .i2l => pz_1 st (fun x r => K nx lo (.inr (.inl x) :: r) M)
  | .l2i => pz_l1 st (fun x r => pz_n (pz_w x) (fun z => K nx lo (.inl z :: r) M))
  | .ladd => pz_l2 st (fun x y r => pz_nl (pz_wl (x + y)) (fun z => K nx lo (.inr (.inl z) :: r) M))
  | .lsub => pz_l2 st (fun x y r => pz_nl (pz_wl (x - y)) (fun z => K nx lo (.inr (.inl z) :: r) M))
  | .lmul => pz_l2 st (fun x y r => pz_nl (pz_wl (x * y)) (fun z => K nx lo (.inr (.inl z) :: r) M))
  | .ldiv => pz_l2 st (fun x y r => ¬ y = 0 ∧ pz_nl (pz_wl (x.tdiv y)) (fun z => K nx lo (.inr (.inl z) :: r) M))
  | .lcmp => pz_l2 st (fun x y r => (x < y → K nx lo (.inl (-1) :: r) M) ∧ ((x = y → K nx lo (.inl 0 :: r) M) ∧ (y < x → K nx lo (.inl 1 :: r) M)))
  | .dup => (match st with | v :: r => pz_b (Nat.beq (pz_cat v) 1) (K nx lo (v :: v :: r) M) | _ => False)
  | .dup2 => (match st with | v :: u :: r => pz_b (Nat.beq (pz_cat v) 1) (pz_b (Nat.beq (pz_cat u) 1) (K nx lo (v :: u :: v :: u :: r) M)) | _ => False)
  | .pop => (match st with | v :: r => pz_b (Nat.beq (pz_cat v) 1) (K nx lo r M) | _ => False)
  | .goto _ => (match tg with | t :: _ => K t lo st M | _ => False)
  | .ifCond b _ => (match tg with | t :: _ => pz_1 st (fun x r => pz_br b x 0 (K t lo r M) (K nx lo r M)) | _ => False)
  | .if_icmp b _ => (match tg with | t :: _ => pz_2 st (fun x y r => pz_br b x y (K t lo r M) (K nx lo r M)) | _ => False)
  | .tableswitch _ low high _ => (match tg with | d :: ts => pz_1 st (fun x r => pz_sw x low (fun t => K t lo r M) ts ∧ (x < low ∨ high < x → K d lo r M)) | _ => False)
  | .lookupswitch _ ps => (match tg with | d :: ts => pz_1 st (fun x r => pz_lk x (fun t => K t lo r M) ps.toList ts ∧ pz_nk x (K d lo r M) ps.toList) | _ => False)
  | .getfield i => pz_getf (fl i) st M (fun st' => K nx lo st' M)
  | .putfield i => pz_putf (fl i) st M (fun st' M' => K nx lo st' M')
  | .iaload => pz_ri st (fun kd a i r => pz_al (pz_ak kd) 0 i (pz_n (M a i.toNat) (fun z => K nx lo (.inl z :: r) M)))
  | .baload => pz_ri st (fun kd a i r => pz_al (pz_ak kd) 1 i (pz_n (M a i.toNat) (fun z => K nx lo (.inl z :: r) M)))
  | .aaload => pz_ri st (fun kd a i r => pz_aal kd i (fun kr => pz_nr (pz_rf a i.toNat) kr (fun z => K nx lo (.inr (.inr (kr, z)) :: r) M)))
  | .iastore => pz_rii st (fun kd a i v r => pz_al (pz_ak kd) 0 i (pz_nM (pz_u M a i.toNat v) (fun M' => K nx lo r M')))
  | .bastore => pz_rii st (fun kd a i v r => pz_al (pz_ak kd) 1 i (-128 ≤ v ∧ (v ≤ 127 ∧ pz_nM (pz_u M a i.toNat v) (fun M' => K nx lo r M'))))
  | .arraylength => pz_r st (fun kd _ r => pz_b (Nat.ble (pz_ak kd).1 8) (K nx lo (.inl ((pz_ak kd).2 : Int) :: r) M))
  | .invokevirtual i => pz_call (ct true) i lo st M (fun st' M' => K nx lo st' M')
  | .invokestatic i => pz_call (ct false) i lo st M (fun st' M' => K nx lo st' M')
  | .ireturn => (match st with | [.inl x] => (match rz with | true => (x = 0 ∨ x = 1) ∧ Rt (some (.inl x)) M | false => Rt (some (.inl x)) M) | _ => False)
  | .lreturn => (match st with | [.inr (.inl x)] => Rt (some (.inr (.inl x))) M | _ => False)
  | .areturn => (match st with | [.inr (.inr x)] => Rt (some (.inr (.inr x))) M | _ => False)
  | .return_ => (match st with | [] => Rt none M | _ => False)
  | _ => False
/-- many instructions, up to the places 'cut' -/
def pz_run (tb : List pz_E) (fl : Nat → Option (Nat × Nat)) (ci : Nat → Option pz_V) (ct : Bool → Nat → Option pz_C) (cut : Nat → Bool) (Ok : pz_F) (Rt : Option pz_V → pz_M → Prop) (rz : Bool) : Nat → pz_F
  | 0, pc, lo, st, M => Ok pc lo st M
  | n + 1, pc, lo, st, M => match pz_at tb pc with
    | some q => pz_stp fl ci ct (fun pc' lo' st' M' => match cut pc' with
        | true => Ok pc' lo' st' M'
        | false => pz_run tb fl ci ct cut Ok Rt rz n pc' lo' st' M') Rt rz q.2.1 q.2.2.2.1 q.2.2.2.2 lo st M
    | none => False
end
section
theorem pz_w_b (z : Int) : pz_w z = z.bmod 4294967296 := by
  unfold pz_w Int.bmod
  simp only []
  split <;> omega
theorem pz_wl_b (z : Int) : pz_wl z = z.bmod 18446744073709551616 := by
  unfold pz_wl Int.bmod
  simp only []
  split <;> omega
theorem pz_wi {z : Int} (h1 : -2147483648 ≤ z) (h2 : z ≤ 2147483647) : pz_w z = z := by unfold pz_w; omega
theorem pz_wli {z : Int} (h1 : -9223372036854775808 ≤ z) (h2 : z ≤ 9223372036854775807) : pz_wl z = z := by unfold pz_wl; omega
theorem pz_wc (z : Int) : pz_c (pz_w z) := by unfold pz_c pz_w; omega
theorem pz_wlc (z : Int) : pz_cl (pz_wl z) := by unfold pz_cl pz_wl; omega
theorem pz_tc (v : Int32) : pz_c v.toInt := ⟨by have := Int32.le_toInt v; omega, by have := Int32.toInt_lt v; omega⟩
theorem pz_tcl (v : Int64) : pz_cl v.toInt := ⟨by have := Int64.le_toInt v; omega, by have := Int64.toInt_lt v; omega⟩
theorem pz_ofw (z : Int) : Int32.ofInt (pz_w z) = Int32.ofInt z := by
  apply Int32.toInt_inj.mp
  rw [Int32.toInt_ofInt, Int32.toInt_ofInt, pz_w_b]
  exact Int.bmod_bmod
theorem pz_ofwl (z : Int) : Int64.ofInt (pz_wl z) = Int64.ofInt z := by
  apply Int64.toInt_inj.mp
  rw [Int64.toInt_ofInt, Int64.toInt_ofInt, pz_wl_b]
  exact Int.bmod_bmod
theorem pz_ti {x : Int} (h : pz_c x) : (Int32.ofInt x).toInt = x := Int32.toInt_ofInt_of_le (by have := h.1; omega) (by have := h.2; omega)
theorem pz_tl {x : Int} (h : pz_cl x) : (Int64.ofInt x).toInt = x := Int64.toInt_ofInt_of_le (by have := h.1; omega) (by have := h.2; omega)
theorem pz_add (x y : Int) : Int32.ofInt x + Int32.ofInt y = Int32.ofInt (pz_w (x + y)) := by rw [pz_ofw, Int32.ofInt_add]
theorem pz_sub (x y : Int) : Int32.ofInt x - Int32.ofInt y = Int32.ofInt (pz_w (x - y)) := by rw [pz_ofw, Int32.ofInt_sub]
theorem pz_mul (x y : Int) : Int32.ofInt x * Int32.ofInt y = Int32.ofInt (pz_w (x * y)) := by rw [pz_ofw, Int32.ofInt_mul]
theorem pz_div {x y : Int} (hx : pz_c x) (hy : pz_c y) : Int32.ofInt x / Int32.ofInt y = Int32.ofInt (pz_w (x.tdiv y)) := by
  apply Int32.toInt_inj.mp
  rw [Int32.toInt_div, pz_ti hx, pz_ti hy, Int32.toInt_ofInt, pz_w_b]
  exact Int.bmod_bmod.symm
theorem pz_rem {x y : Int} (hx : pz_c x) (hy : pz_c y) : Int32.ofInt x - Int32.ofInt x / Int32.ofInt y * Int32.ofInt y = Int32.ofInt (pz_w (x.tmod y)) := by
  rw [pz_div hx hy, pz_mul, pz_sub, pz_ofw, pz_ofw]
  have e : x.tmod y = x - x.tdiv y * y := by
    have := Int.mul_tdiv_add_tmod x y
    rw [Int.mul_comm] at this
    omega
  rw [e, Int32.ofInt_sub, Int32.ofInt_sub, pz_ofw, Int32.ofInt_mul, Int32.ofInt_mul, pz_ofw]
theorem pz_ladd (x y : Int) : Int64.ofInt x + Int64.ofInt y = Int64.ofInt (pz_wl (x + y)) := by rw [pz_ofwl, Int64.ofInt_add]
theorem pz_lsub (x y : Int) : Int64.ofInt x - Int64.ofInt y = Int64.ofInt (pz_wl (x - y)) := by rw [pz_ofwl, Int64.ofInt_sub]
theorem pz_lmul (x y : Int) : Int64.ofInt x * Int64.ofInt y = Int64.ofInt (pz_wl (x * y)) := by rw [pz_ofwl, Int64.ofInt_mul]
theorem pz_ldiv {x y : Int} (hx : pz_cl x) (hy : pz_cl y) : Int64.ofInt x / Int64.ofInt y = Int64.ofInt (pz_wl (x.tdiv y)) := by
  apply Int64.toInt_inj.mp
  rw [Int64.toInt_div, pz_tl hx, pz_tl hy, Int64.toInt_ofInt, pz_wl_b]
  exact Int.bmod_bmod.symm
theorem pz_lt {x y : Int} (hx : pz_c x) (hy : pz_c y) : Int32.ofInt x < Int32.ofInt y ↔ x < y := by rw [Int32.lt_iff_toInt_lt, pz_ti hx, pz_ti hy]
theorem pz_le {x y : Int} (hx : pz_c x) (hy : pz_c y) : Int32.ofInt x ≤ Int32.ofInt y ↔ x ≤ y := by rw [Int32.le_iff_toInt_le, pz_ti hx, pz_ti hy]
theorem pz_eq {x y : Int} (hx : pz_c x) (hy : pz_c y) : Int32.ofInt x = Int32.ofInt y ↔ x = y := by rw [← Int32.toInt_inj, pz_ti hx, pz_ti hy]
theorem pz_ne0 {y : Int} (hy : pz_c y) (h : ¬ y = 0) : ¬ Int32.ofInt y = 0 := fun q => h ((pz_eq hy (by unfold pz_c; omega)).mp q)
theorem pz_lne0 {y : Int} (hy : pz_cl y) (h : ¬ y = 0) : ¬ Int64.ofInt y = 0 := fun q => h (by
  have := congrArg Int64.toInt q
  rw [pz_tl hy] at this
  exact this)
theorem pz_i2l {x : Int} (hx : pz_c x) : (Int32.ofInt x).toInt64 = Int64.ofInt x := by
  apply Int64.toInt_inj.mp
  rw [Int32.toInt_toInt64, pz_ti hx, pz_tl]
  have := hx.1
  have := hx.2
  unfold pz_cl
  omega
theorem pz_l2i {x : Int} (hx : pz_cl x) : (Int64.ofInt x).toInt32 = Int32.ofInt (pz_w x) := by
  apply Int32.toInt_inj.mp
  rw [Int64.toInt_toInt32, pz_tl hx, Int32.toInt_ofInt, pz_w_b]
  exact Int.bmod_bmod.symm
theorem pz_lcmp {x y : Int} (hx : pz_cl x) (hy : pz_cl y) : (x < y → lg_cmp (Int64.ofInt x) (Int64.ofInt y) = Int32.ofInt (-1)) ∧ (x = y → lg_cmp (Int64.ofInt x) (Int64.ofInt y) = Int32.ofInt 0) ∧ (y < x → lg_cmp (Int64.ofInt x) (Int64.ofInt y) = Int32.ofInt 1) := by
  have h1 : ∀ a b : Int, pz_cl a → pz_cl b → (Int64.ofInt a < Int64.ofInt b ↔ a < b) := fun a b ha hb => by rw [Int64.lt_iff_toInt_lt, pz_tl ha, pz_tl hb]
  have h2 : Int64.ofInt x = Int64.ofInt y ↔ x = y := by rw [← Int64.toInt_inj, pz_tl hx, pz_tl hy]
  unfold lg_cmp
  refine ⟨fun h => ?_, fun h => ?_, fun h => ?_⟩
  · rw [if_neg (fun q => absurd ((h1 y x hy hx).mp q) (by omega)), if_neg (fun q => absurd (h2.mp q) (by omega))]; rfl
  · rw [if_neg (fun q => absurd ((h1 y x hy hx).mp q) (by omega)), if_pos (h2.mpr h)]; rfl
  · rw [if_pos ((h1 y x hy hx).mpr h)]; rfl
theorem pz_in {x : Int} {n : Nat} (h0 : 0 ≤ x) (h1 : x < (n : Int)) (hc : pz_c x) : vp_in (Int32.ofInt x) n := vp_in_iff.mpr ⟨by rw [pz_ti hc]; exact h0, by rw [pz_ti hc]; exact h1⟩
theorem pz_clamp {x : Int} (hc : pz_c x) : (Int32.ofInt x).toNatClampNeg = x.toNat := by
  show (Int32.ofInt x).toInt.toNat = x.toNat
  rw [pz_ti hc]
theorem pz_bip {v : Int} (h1 : -128 ≤ v) (h2 : v ≤ 127) : (Int8.ofInt v).toInt32 = Int32.ofInt v := by
  apply Int32.toInt_inj.mp
  rw [Int8.toInt_toInt32, Int8.toInt_ofInt_of_le (by omega) (by omega), pz_ti ⟨by omega, by omega⟩]
theorem pz_sip {v : Int} (h1 : -32768 ≤ v) (h2 : v ≤ 32767) : (Int16.ofInt v).toInt32 = Int32.ofInt v := by
  apply Int32.toInt_inj.mp
  rw [Int16.toInt_toInt32, Int16.toInt_ofInt_of_le (by omega) (by omega), pz_ti ⟨by omega, by omega⟩]
theorem pz_uu {M : pz_M} {a k : Nat} {v : Int} : pz_u M a k v a k = v := by simp [pz_u]
theorem pz_una {M : pz_M} {a k b j : Nat} {v : Int} (h : b ≠ a) : pz_u M a k v b j = M b j := by simp [pz_u, h]
theorem pz_unk {M : pz_M} {a k b j : Nat} {v : Int} (h : j ≠ k) : pz_u M a k v b j = M b j := by simp [pz_u, h]
theorem pz_get_spec : ∀ (lo : pz_L) (k : Nat) (f : pz_V → Prop), pz_get lo k f → ∃ v, lo[k]? = some (some v) ∧ f v
  | [], _, _, h => by simp [pz_get] at h
  | some v :: _, 0, f, h => ⟨v, by simp, h⟩
  | none :: _, 0, f, h => by simp [pz_get] at h
  | _ :: t, k + 1, f, h => by
    obtain ⟨v, h1, h2⟩ := pz_get_spec t k f (by simpa [pz_get] using h)
    exact ⟨v, by simpa using h1, h2⟩
theorem pz_kl_spec {h : Option pz_V} {w : pz_V} (e : pz_kl h = some w) : h = some w ∧ pz_cat w = 1 := by
  match h, e with
  | none, e => simp [pz_kl] at e
  | some (.inl x), e => simp [pz_kl] at e; subst e; exact ⟨rfl, rfl⟩
  | some (.inr (.inl x)), e => simp [pz_kl] at e
  | some (.inr (.inr x)), e => simp [pz_kl] at e; subst e; exact ⟨rfl, rfl⟩
theorem pz_set_spec : ∀ (lo : pz_L) (k : Nat) (v : pz_V) (f : pz_L → Prop), pz_set lo k v f → ∃ lo', f lo' ∧ k < lo.length ∧ lo'.length = lo.length ∧ lo'[k]? = some (some v) ∧ ∀ (i : Nat) (w : pz_V), i ≠ k → lo'[i]? = some (some w) → lo[i]? = some (some w) ∧ ¬ (i + 1 = k ∧ pz_cat w = 2)
  | [], _, _, _, h => by simp [pz_set] at h
  | a :: t, 0, v, f, h => by
    refine ⟨some v :: t, by simpa [pz_set] using h, by simp, by simp, by simp, fun i w hi e => ?_⟩
    cases i with
    | zero => exact absurd rfl hi
    | succ i => exact ⟨by simpa using e, by omega⟩
  | a :: b :: t, 1, v, f, h => by
    refine ⟨pz_kl a :: some v :: t, by simpa [pz_set] using h, by simp, by simp, by simp, fun i w hi e => ?_⟩
    match i, hi, e with
    | 0, _, e =>
      have e2 := pz_kl_spec (show pz_kl a = some w by simpa using e)
      exact ⟨by simp [e2.1], fun q => by have := e2.2; omega⟩
    | 1, hi, _ => exact absurd rfl hi
    | i + 2, _, e => exact ⟨by simpa using e, by omega⟩
  | [a], 1, v, f, h => by simp [pz_set] at h
  | a :: t, k + 2, v, f, h => by
    obtain ⟨lo', h1, h2, h3, h4, h5⟩ := pz_set_spec t (k + 1) v (fun t' => f (a :: t')) (by simpa [pz_set] using h)
    refine ⟨a :: lo', h1, by simp; omega, by simp [h3], by simpa using h4, fun i w hi e => ?_⟩
    cases i with
    | zero => exact ⟨by simpa using e, by omega⟩
    | succ i =>
      obtain ⟨q1, q2⟩ := h5 i w (by omega) (by simpa using e)
      exact ⟨by simpa using q1, fun q => q2 ⟨by omega, q.2⟩⟩
theorem pz_setl_spec : ∀ (lo : pz_L) (k : Nat) (v : pz_V) (f : pz_L → Prop), pz_setl lo k v f → ∃ lo', f lo' ∧ k + 1 < lo.length ∧ lo'.length = lo.length ∧ lo'[k]? = some (some v) ∧ ∀ (i : Nat) (w : pz_V), i ≠ k → lo'[i]? = some (some w) → lo[i]? = some (some w) ∧ i ≠ k + 1 ∧ ¬ (i + 1 = k ∧ pz_cat w = 2)
  | [], _, _, _, h => by simp [pz_setl] at h
  | [a], 0, _, _, h => by simp [pz_setl] at h
  | [a], 1, _, _, h => by simp [pz_setl] at h
  | [a, b], 1, _, _, h => by simp [pz_setl] at h
  | a :: b :: t, 0, v, f, h => by
    refine ⟨some v :: none :: t, by simpa [pz_setl] using h, by simp, by simp, by simp, fun i w hi e => ?_⟩
    match i, hi, e with
    | 0, hi, _ => exact absurd rfl hi
    | 1, _, e => simp at e
    | i + 2, _, e => exact ⟨by simpa using e, by omega, by omega⟩
  | a :: b :: c :: t, 1, v, f, h => by
    refine ⟨pz_kl a :: some v :: none :: t, by simpa [pz_setl] using h, by simp, by simp, by simp, fun i w hi e => ?_⟩
    match i, hi, e with
    | 0, _, e =>
      have e2 := pz_kl_spec (show pz_kl a = some w by simpa using e)
      exact ⟨by simp [e2.1], by omega, fun q => by have := e2.2; omega⟩
    | 1, hi, _ => exact absurd rfl hi
    | 2, _, e => simp at e
    | i + 3, _, e => exact ⟨by simpa using e, by omega, by omega⟩
  | a :: t, k + 2, v, f, h => by
    obtain ⟨lo', h1, h2, h3, h4, h5⟩ := pz_setl_spec t (k + 1) v (fun t' => f (a :: t')) (by simpa [pz_setl] using h)
    refine ⟨a :: lo', h1, by simp; omega, by simp [h3], by simpa using h4, fun i w hi e => ?_⟩
    cases i with
    | zero => exact ⟨by simpa using e, by omega, by omega⟩
    | succ i =>
      obtain ⟨q1, q2, q3⟩ := h5 i w (by omega) (by simpa using e)
      exact ⟨by simpa using q1, by omega, fun q => q3 ⟨by omega, q.2⟩⟩
end
section
/-! the texts that the program's constants are: whose, which entry, what -/
def pz_ss : List (String × Nat × String) := [("TwelveChain$Tape", 52, "ready leave give cost when or and not link price purse worth slow day links bridged lacks on ask bridge pay paper from to "), ("TwelveChainModel", 121, "when"), ("TwelveChainModel", 123, "or"), ("TwelveChainModel", 125, "and"), ("TwelveChainModel", 127, "not"), ("TwelveChainModel", 129, "ready"), ("TwelveChainModel", 131, "leave"), ("TwelveChainModel", 133, "give"), ("TwelveChainModel", 135, "cost"), ("TwelveChainModel", 99, "link"), ("TwelveChainModel", 105, "price"), ("TwelveChainModel", 107, "purse"), ("TwelveChainModel", 109, "worth"), ("TwelveChainModel", 111, "slow"), ("TwelveChainModel", 113, "day"), ("TwelveChainModel", 115, "links"), ("TwelveChainModel", 117, "bridged"), ("TwelveChainModel", 119, "lacks"), ("TwelveChainModel", 140, "on"), ("TwelveChainModel", 142, "ask"), ("TwelveChainModel", 144, "bridge"), ("TwelveChainModel", 146, "pay"), ("TwelveChainModel", 148, "paper"), ("TwelveChainModel", 159, "from"), ("TwelveChainModel", 161, "to")]
def pz_stl : List Nat := [122, 4, 2, 3, 3, 5, 5, 4, 4, 4, 5, 5, 5, 4, 3, 5, 7, 5, 2, 3, 6, 3, 5, 4, 2]
def pz_sb : List (List Int32) := [[114, 101, 97, 100, 121, 32, 108, 101, 97, 118, 101, 32, 103, 105, 118, 101, 32, 99, 111, 115, 116, 32, 119, 104, 101, 110, 32, 111, 114, 32, 97, 110, 100, 32, 110, 111, 116, 32, 108, 105, 110, 107, 32, 112, 114, 105, 99, 101, 32, 112, 117, 114, 115, 101, 32, 119, 111, 114, 116, 104, 32, 115, 108, 111, 119, 32, 100, 97, 121, 32, 108, 105, 110, 107, 115, 32, 98, 114, 105, 100, 103, 101, 100, 32, 108, 97, 99, 107, 115, 32, 111, 110, 32, 97, 115, 107, 32, 98, 114, 105, 100, 103, 101, 32, 112, 97, 121, 32, 112, 97, 112, 101, 114, 32, 102, 114, 111, 109, 32, 116, 111, 32], [119, 104, 101, 110], [111, 114], [97, 110, 100], [110, 111, 116], [114, 101, 97, 100, 121], [108, 101, 97, 118, 101], [103, 105, 118, 101], [99, 111, 115, 116], [108, 105, 110, 107], [112, 114, 105, 99, 101], [112, 117, 114, 115, 101], [119, 111, 114, 116, 104], [115, 108, 111, 119], [100, 97, 121], [108, 105, 110, 107, 115], [98, 114, 105, 100, 103, 101, 100], [108, 97, 99, 107, 115], [111, 110], [97, 115, 107], [98, 114, 105, 100, 103, 101], [112, 97, 121], [112, 97, 112, 101, 114], [102, 114, 111, 109], [116, 111]]
/-- the words that stay true in every method -/
def pz_tbl : List Cond := lw_tbl.filter goodWord
theorem pz_tbl_in {w : Cond} (h : w ∈ lw_tbl) (g : goodWord w = true) : w ∈ pz_tbl := List.mem_filter.mpr ⟨h, g⟩
def pz_v (ad : Nat → Nat) : pz_V → Value
  | .inl i => .int (Int32.ofInt i)
  | .inr (.inl j) => .long (Int64.ofInt j)
  | .inr (.inr q) => .ref (ad q.2)
def pz_cv : pz_V → Prop
  | .inl i => pz_c i
  | .inr (.inl j) => pz_cl j
  | .inr (.inr q) => pz_kd q.2 = q.1 ∧ q.2 < 231
theorem pz_v_cat (ad : Nat → Nat) (v : pz_V) : (pz_v ad v).category = pz_cat v := by
  match v with
  | .inl i => rfl
  | .inr (.inl j) => rfl
  | .inr (.inr q) => rfl
def pz_fv (ad : Nat → Nat) (M : pz_M) (a k j : Nat) : Value := match pz_rk k j with
  | some _ => .ref (ad (pz_rf a j))
  | none => .int (Int32.ofInt (M a j))
def pz_ei (cy : Nat → ClassId) (M : pz_M) (a : Nat) (q : Nat × Nat) : va_E := .inl (cy q.1, q.2, .inl (fun j => Int32.ofInt (M a j)))
def pz_eq_ (ad : Nat → Nat) (cy : Nat → ClassId) (a : Nat) (q : Nat × Nat) : va_E := .inl (cy q.1, q.2, .inr (.inr (.inr (.inr (fun j => some (ad (pz_rf a j)))))))
def pz_eo (ad : Nat → Nat) (M : pz_M) (a k : Nat) : va_E := .inr (k, (List.range (pz_nf k)).map (pz_fv ad M a k))
def pz_en (ad : Nat → Nat) (cy : Nat → ClassId) (M : pz_M) (a : Nat) : va_E :=
  if pz_kd a < 13 then pz_eo ad M a (pz_kd a)
  else if (pz_ak (pz_kd a)).1 < 2 then pz_ei cy M a (pz_ak (pz_kd a))
  else pz_eq_ ad cy a (pz_ak (pz_kd a))
def pz_ws (ad : Nat → Nat) (cy : Nat → ClassId) (M : pz_M) : va_W := (List.range 206).map (fun a => (ad a, pz_en ad cy M a))
def pz_ty (cy : Nat → ClassId) : List (ClassId × FieldType) := [(cy 0, .int), (cy 1, .byte), (cy 2, .object "TwelveChain$Link"), (cy 3, .object "TwelveChain$Chain")]
theorem pz_ws_get {ad : Nat → Nat} {cy : Nat → ClassId} {M : pz_M} {a : Nat} (h : a < 206) : (pz_ws ad cy M)[a]? = some (ad a, pz_en ad cy M a) := by
  simp [pz_ws, h]
theorem pz_en_ne {ad : Nat → Nat} {cy : Nat → ClassId} {M : pz_M} {a k b : Nat} {v : Int} (h : b ≠ a) : pz_en ad cy (pz_u M a k v) b = pz_en ad cy M b := by
  have e : ∀ j, pz_u M a k v b j = M b j := fun j => pz_una h
  unfold pz_en pz_eo pz_ei
  have e2 : pz_fv ad (pz_u M a k v) b = pz_fv ad M b := by
    funext k2 j
    unfold pz_fv
    cases pz_rk k2 j with
    | some _ => rfl
    | none => simp only [e]
  simp only [e, e2]
theorem pz_ws_set {ad : Nat → Nat} {cy : Nat → ClassId} {M : pz_M} {a k : Nat} {v : Int} {q : Nat} {e : va_E} (hq : q = ad a) (he : pz_en ad cy (pz_u M a k v) a = e) : (pz_ws ad cy M).set a (q, e) = pz_ws ad cy (pz_u M a k v) := by
  subst hq; subst he
  apply List.ext_getElem?
  intro b
  by_cases hb : b = a
  · subst hb
    by_cases hl : b < 206
    · rw [List.getElem?_set_self (by simp [pz_ws, hl]), pz_ws_get hl]
    · simp [pz_ws, hl]
  · rw [List.getElem?_set_ne (Ne.symm hb)]
    by_cases hl : b < 206
    · rw [pz_ws_get hl, pz_ws_get hl, pz_en_ne hb]
    · simp [pz_ws, hl]
theorem pz_eo_get {ad : Nat → Nat} {M : pz_M} {a k j : Nat} (h : j < pz_nf k) : ((List.range (pz_nf k)).map (pz_fv ad M a k))[j]? = some (pz_fv ad M a k j) := by simp [h]
theorem pz_eo_set {ad : Nat → Nat} {M : pz_M} {a k j : Nat} {v : Int} (hr : pz_rk k j = none) : pz_eo ad (pz_u M a j v) a k = .inr (k, ((List.range (pz_nf k)).map (pz_fv ad M a k)).set j (.int (Int32.ofInt v))) := by
  unfold pz_eo
  congr 2
  apply List.ext_getElem?
  intro b
  by_cases hb : b = j
  · subst hb
    by_cases hl : b < pz_nf k
    · rw [List.getElem?_set_self (by simp [hl]), pz_eo_get hl]
      unfold pz_fv
      rw [hr, pz_uu]
    · simp [hl]
  · rw [List.getElem?_set_ne (Ne.symm hb)]
    by_cases hl : b < pz_nf k
    · rw [pz_eo_get hl, pz_eo_get hl]
      unfold pz_fv
      rw [pz_unk hb]
    · simp [hl]
theorem pz_upd {M : pz_M} {a k : Nat} {v : Int} : upd (fun j => Int32.ofInt (M a j)) k (Int32.ofInt v) = fun j => Int32.ofInt (pz_u M a k v a j) := by
  funext j
  by_cases hj : j = k
  · subst hj
    simp [upd, pz_uu]
  · simp [upd, hj, pz_unk hj]
/-- the classes, as the tables have them -/
def pz_ckc (ci k : Nat) : Bool := match vwCl[ci]? with
  | some (_, T, N) => decide (N = pz_nf ci) && (match pz_pf ci k with
    | 0 => true
    | 1 => decide ((T k).2.2.1 = "I") && (decide ((T k).2.2.2 = false) && decide (pz_rk ci k = none))
    | _ => decide ((T k).2.2.1 = "Z") && (decide ((T k).2.2.2 = false) && decide (pz_rk ci k = none)))
  | none => false
theorem pz_ckc_ok : ∀ ci, ci < 13 → ∀ k, k < pz_nf ci → pz_ckc ci k = true := by decide +kernel
def pz_ckr (a k : Nat) : Bool := match pz_rk (pz_kd a) k with
  | some kr => decide (k < 12 ∨ pz_kd a < 13) && (decide (k < 6 ∨ pz_kd a < 30)) && (decide (pz_kd (pz_rf a k) = kr) && decide (pz_rf a k < 206)) || decide (pz_kd a = 29 ∧ 12 ≤ k) || decide (pz_kd a = 30 ∧ 6 ≤ k)
  | none => true
theorem pz_ckr_ok : ∀ a, a < 206 → ∀ k, k < 28 → pz_ckr a k = true := by decide +kernel
theorem pz_kd_hi {a : Nat} (h : ¬ a < 206) : pz_kd a = 99 := by unfold pz_kd; rw [if_neg (by omega), if_neg (by omega), if_neg (by omega), if_neg h]
theorem pz_kd_lo {a k : Nat} (h : pz_kd a = k) (hk : k ≠ 99) : a < 206 := Nat.lt_of_not_le (fun q => hk (by rw [← h]; exact pz_kd_hi (by omega)))
theorem pz_rf_ok {a k kd kr : Nat} (hd : pz_kd a = kd) (hk9 : kd ≠ 99) (hr : pz_rk kd k = some kr) (hk : k < 28) (h29 : kd = 29 → k < 12) (h30 : kd = 30 → k < 6) : pz_kd (pz_rf a k) = kr ∧ pz_rf a k < 206 := by
  subst hd
  have h := pz_ckr_ok a (pz_kd_lo rfl hk9) k hk
  unfold pz_ckr at h
  rw [hr] at h
  simp only [Bool.or_eq_true, Bool.and_eq_true, decide_eq_true_eq] at h
  rcases h with (h | h) | h
  · exact ⟨h.2.1, h.2.2⟩
  · exact absurd h.2 (by have := h29 h.1; omega)
  · exact absurd h.2 (by have := h30 h.1; omega)
theorem pz_in0 : ∀ w ∈ u_ws RX0 TX0 8, w ∈ lw_tbl := by decide +kernel
theorem pz_in1 : ∀ w ∈ u_ws RX1 TX1 2, w ∈ lw_tbl := by decide +kernel
theorem pz_in2 : ∀ w ∈ u_ws RX2 TX2 3, w ∈ lw_tbl := by decide +kernel
theorem pz_in3 : ∀ w ∈ u_ws RX3 TX3 8, w ∈ lw_tbl := by decide +kernel
theorem pz_in4 : ∀ w ∈ u_ws RX4 TX4 5, w ∈ lw_tbl := by decide +kernel
theorem pz_in5 : ∀ w ∈ u_ws RX5 TX5 8, w ∈ lw_tbl := by decide +kernel
theorem pz_in6 : ∀ w ∈ u_ws RX6 TX6 2, w ∈ lw_tbl := by decide +kernel
theorem pz_in7 : ∀ w ∈ u_ws RX7 TX7 5, w ∈ lw_tbl := by decide +kernel
theorem pz_in8 : ∀ w ∈ u_ws RX8 TX8 8, w ∈ lw_tbl := by decide +kernel
theorem pz_in9 : ∀ w ∈ u_ws RX9 TX9 10, w ∈ lw_tbl := by decide +kernel
theorem pz_in10 : ∀ w ∈ u_ws RX10 TX10 4, w ∈ lw_tbl := by decide +kernel
theorem pz_in11 : ∀ w ∈ u_ws RX11 TX11 14, w ∈ lw_tbl := by decide +kernel
theorem pz_in12 : ∀ w ∈ u_ws RX12 TX12 28, w ∈ lw_tbl := by decide +kernel
theorem pz_layg {C : String} {T : u_T} {N : Nat} : ∀ w ∈ u_ws C T N, goodWord w = true := by
  intro w hw
  obtain ⟨k, -, rfl⟩ := List.mem_map.mp hw
  unfold u_lay
  split <;> rfl
theorem pz_cls {ci : Nat} {C : String} {T : u_T} {N : Nat} (h : vwCl[ci]? = some (C, T, N)) : (∀ w ∈ u_ws C T N, w ∈ pz_tbl) ∧ (∀ a, a < N → ∀ b, b < N → a ≠ b → (T a).2.1 ≠ (T b).2.1) ∧ ∃ ty0 : Nat → FieldType, ∀ k, k < N → parseFieldDescriptor (T k).2.2.1 = some (ty0 k) := by
  have key : (∀ w ∈ u_ws C T N, w ∈ lw_tbl) ∧ (∀ a, a < N → ∀ b, b < N → a ≠ b → (T a).2.1 ≠ (T b).2.1) ∧ ∃ ty0 : Nat → FieldType, ∀ k, k < N → parseFieldDescriptor (T k).2.2.1 = some (ty0 k) := by
    match ci, h with
    | 0, h => cases h; exact ⟨pz_in0, nmX0, tyX0, tyX0_ok⟩
    | 1, h => cases h; exact ⟨pz_in1, nmX1, tyX1, tyX1_ok⟩
    | 2, h => cases h; exact ⟨pz_in2, nmX2, tyX2, tyX2_ok⟩
    | 3, h => cases h; exact ⟨pz_in3, nmX3, tyX3, tyX3_ok⟩
    | 4, h => cases h; exact ⟨pz_in4, nmX4, tyX4, tyX4_ok⟩
    | 5, h => cases h; exact ⟨pz_in5, nmX5, tyX5, tyX5_ok⟩
    | 6, h => cases h; exact ⟨pz_in6, nmX6, tyX6, tyX6_ok⟩
    | 7, h => cases h; exact ⟨pz_in7, nmX7, tyX7, tyX7_ok⟩
    | 8, h => cases h; exact ⟨pz_in8, nmX8, tyX8, tyX8_ok⟩
    | 9, h => cases h; exact ⟨pz_in9, nmX9, tyX9, tyX9_ok⟩
    | 10, h => cases h; exact ⟨pz_in10, nmX10, tyX10, tyX10_ok⟩
    | 11, h => cases h; exact ⟨pz_in11, nmX11, tyX11, tyX11_ok⟩
    | 12, h => cases h; exact ⟨pz_in12, nmX12, tyX12, tyX12_ok⟩
    | k + 13, h => simp [vwCl] at h
  exact ⟨fun w hw => pz_tbl_in (key.1 w hw) (pz_layg w hw), key.2⟩
/-- what stays: the texts, one static, one word of a nest mate -/
def pz_S (ad adV : Nat → Nat) (A : Nat → Prop) (U : State) (H : Heap) : Prop :=
  vk_S 25 pz_stl pz_sb (fun i => ad (206 + i)) adV A U H ∧ (∀ (i : Nat) (q : String × Nat × String), pz_ss[i]? = some q → vk_R q.1 q.2.1 q.2.2 (ad (206 + i)) U) ∧ va_Z "java/lang/String" "COMPACT_STRINGS" "Z" (.int 1) A U H ∧ va_Nw (.methodLinkNest RX1 35 yX11_within "TwelveChain") U
theorem pz_S.kept {ad adV : Nat → Nat} {A : Nat → Prop} {U : State} {H H1 : Heap} (h : pz_S ad adV A U H) (hq : ∀ a : Nat, a < H.size → ¬ A a → H1[a]? = H[a]?) : pz_S ad adV A U H1 := ⟨h.1.kept hq, h.2.1, h.2.2.1.kept hq, h.2.2.2⟩
theorem pz_S.warm {ad adV : Nat → Nat} {A : Nat → Prop} {s U : State} {H : Heap} (hW : s.WarmedH U.vm) (h : pz_S ad adV A s H) : pz_S ad adV A U H :=
  ⟨h.1.moved hW.alike, fun i q hq => (h.2.1 i q hq).warm hW, h.2.2.1.moved hW.alike, va_Nw.warmM hW h.2.2.2⟩
theorem pz_S.same {ad adV : Nat → Nat} {A : Nat → Prop} {u U : State} {H : Heap} (hv : U.vm = u.vm) (h : pz_S ad adV A u H) : pz_S ad adV A U H :=
  ⟨h.1.moved (by rw [hv]; exact Vm.Alike.refl u.vm), fun i q hq => (h.2.1 i q hq).same hv, h.2.2.1.moved (by rw [hv]; exact Vm.Alike.refl u.vm), va_Nw.same rfl hv.symm h.2.2.2⟩
def pz_X (D : va_G) (ad adV : Nat → Nat) (cy : Nat → ClassId) (A : Nat → Prop) (U : State) (H : Heap) : Prop :=
  va_K D vwCl (pz_ty cy) U ∧ (∀ i j : Nat, i < 206 → j < 206 → ad i = ad j → i = j) ∧ (∀ i : Nat, i < 206 → A (ad i)) ∧ pz_S ad adV A U H
theorem pz_X.kept {D : va_G} {ad adV : Nat → Nat} {cy : Nat → ClassId} {A : Nat → Prop} {U : State} {H H1 : Heap} (h : pz_X D ad adV cy A U H) (hq : ∀ a : Nat, a < H.size → ¬ A a → H1[a]? = H[a]?) : pz_X D ad adV cy A U H1 := ⟨h.1, h.2.1, h.2.2.1, h.2.2.2.kept hq⟩
theorem pz_X.warm {D : va_G} {ad adV : Nat → Nat} {cy : Nat → ClassId} {A : Nat → Prop} {s U : State} {H : Heap} (hW : s.WarmedH U.vm) (h : pz_X D ad adV cy A s H) : pz_X D ad adV cy A U H := ⟨h.1.moved hW.alike, h.2.1, h.2.2.1, h.2.2.2.warm hW⟩
theorem pz_X.same {D : va_G} {ad adV : Nat → Nat} {cy : Nat → ClassId} {A : Nat → Prop} {u U : State} {H : Heap} (hv : U.vm = u.vm) (h : pz_X D ad adV cy A u H) : pz_X D ad adV cy A U H := ⟨h.1.moved (by rw [hv]; exact Vm.Alike.refl u.vm), h.2.1, h.2.2.1, h.2.2.2.same hv⟩
theorem pz_X.D {D : va_G} {ad adV : Nat → Nat} {cy : Nat → ClassId} {A : Nat → Prop} {U : State} {H : Heap} (h : pz_X D ad adV cy A U H) (M : pz_M) : va_D A (pz_ws ad cy M) := by
  have key : ∀ (k : Nat) (q : Nat × va_E), (pz_ws ad cy M)[k]? = some q → k < 206 ∧ q.1 = ad k := by
    intro k q hq
    have hl : k < 206 := by
      have := (List.getElem?_eq_some_iff.mp hq).1
      simpa [pz_ws] using this
    rw [pz_ws_get hl] at hq
    cases hq
    exact ⟨hl, rfl⟩
  refine ⟨fun i j p q hi hj he => ?_, fun k q hk => ?_⟩
  · obtain ⟨a1, a2⟩ := key i p hi
    obtain ⟨b1, b2⟩ := key j q hj
    exact h.2.1 i j a1 b1 (by rw [← a2, ← b2, he])
  · obtain ⟨a1, a2⟩ := key k q hk
    rw [a2]
    exact h.2.2.1 k a1
/-- the world of a method: memory M, the rest as it stays -/
def pz_G (D : va_G) (ad adV : Nat → Nat) (cy : Nat → ClassId) (A : Nat → Prop) (M : pz_M) (U : State) : Prop :=
  va_P D vwCl (pz_ws ad cy M) U.heap ∧ pz_X D ad adV cy A U U.heap ∧ ∀ a k : Nat, pz_c (M a k)
def pz_rr : Nat → Option pz_V → Prop
  | 0, r => r = none
  | 1, r => ∃ x, r = some (.inl x) ∧ pz_c x
  | 2, r => ∃ x, r = some (.inr (.inl x)) ∧ pz_cl x
  | k + 3, r => ∃ a, r = some (.inr (.inr (k, a))) ∧ pz_kd a = k ∧ a < 231
/-- a method keeps its contract -/
def pz_H (y : MethodName) (cc : ByteArray) (maxL : Nat) (ret : Option FieldType) (k : pz_C) (fr lo : Nat) : Prop :=
  ∀ (l : Launch) (D : va_G) (ad adV : Nat → Nat) (cy : Nat → ClassId) (A : Nat → Prop) (a : List pz_V) (M : pz_M), a.length = k.1 → k.2.2.1 a M → (∀ v ∈ a, pz_cv v) →
    Met l y (.code y cc maxL ret :: pz_tbl) { frames := fr, cells := 0, slots := 0, locals := lo } (va_Pc (a.map (pz_v ad)) (pz_G D ad adV cy A M))
      (fun _ st o t => (∃ (r : Option pz_V) (M' : pz_M), k.2.2.2 a M r M' ∧ pz_rr k.2.1 r ∧ o = .returned (r.map (pz_v ad)) ∧ pz_G D ad adV cy A M' t) ∧ va_F A st t) 0 0 A
def pz_LV (ad : Nat → Nat) (ls : Array Slot) (nL : Nat) (lo : pz_L) : Prop := ls.size = nL ∧ lv_wf ls ∧ lo.length = nL ∧ ∀ (i : Nat) (v : pz_V), lo[i]? = some (some v) → ls[i]? = some (.val (pz_v ad v)) ∧ pz_cv v
def pz_pr (ad : Nat → Nat) (lo : pz_L) : List (Nat × Value) := (List.range lo.length).filterMap (fun i => (lo.getD i none).map (fun v => (i, pz_v ad v)))
theorem pz_pr_mem {ad : Nat → Nat} {lo : pz_L} {i : Nat} {v : pz_V} (h : lo[i]? = some (some v)) : (i, pz_v ad v) ∈ pz_pr ad lo := by
  have hl : i < lo.length := (List.getElem?_eq_some_iff.mp h).1
  refine List.mem_filterMap.mpr ⟨i, List.mem_range.mpr hl, ?_⟩
  rw [List.getD_eq_getElem?_getD, h]
  rfl
theorem pz_LV.has {ad : Nat → Nat} {ls : Array Slot} {nL : Nat} {lo : pz_L} (h : pz_LV ad ls nL lo) : lv_has ls nL (pz_pr ad lo) := by
  refine ⟨h.1, h.2.1, fun q hq => ?_⟩
  obtain ⟨i, -, hi⟩ := List.mem_filterMap.mp hq
  rw [List.getD_eq_getElem?_getD] at hi
  cases e : lo[i]? with
  | none => rw [e] at hi; cases hi
  | some o =>
    cases o with
    | none => rw [e] at hi; cases hi
    | some v =>
      rw [e] at hi
      cases hi
      exact (h.2.2.2 i v e).1
theorem pz_LV.of {ad : Nat → Nat} {ls' : Array Slot} {nL : Nat} {lo' : pz_L} {lv' : List (Nat × Value)} (h : lv_has ls' nL lv') (hl : lo'.length = nL) (hm : ∀ (i : Nat) (v : pz_V), lo'[i]? = some (some v) → (i, pz_v ad v) ∈ lv' ∧ pz_cv v) : pz_LV ad ls' nL lo' :=
  ⟨h.1, h.2.1, hl, fun i v e => ⟨h.2.2 _ (hm i v e).1, (hm i v e).2⟩⟩
end
section
theorem pz_1_spec {st : List pz_V} {f : Int → List pz_V → Prop} (h : pz_1 st f) : ∃ x r, st = .inl x :: r ∧ f x r := by
  match st, h with
  | .inl x :: r, h => exact ⟨x, r, rfl, h⟩
  | [], h => exact h.elim
  | .inr _ :: _, h => exact h.elim
theorem pz_2_spec {st : List pz_V} {f : Int → Int → List pz_V → Prop} (h : pz_2 st f) : ∃ x y r, st = .inl y :: .inl x :: r ∧ f x y r := by
  match st, h with
  | .inl y :: .inl x :: r, h => exact ⟨x, y, r, rfl, h⟩
  | [], h => exact h.elim
  | .inr _ :: _, h => exact h.elim
  | [.inl _], h => exact h.elim
  | .inl _ :: .inr _ :: _, h => exact h.elim
theorem pz_l1_spec {st : List pz_V} {f : Int → List pz_V → Prop} (h : pz_l1 st f) : ∃ x r, st = .inr (.inl x) :: r ∧ f x r := by
  match st, h with
  | .inr (.inl x) :: r, h => exact ⟨x, r, rfl, h⟩
  | [], h => exact h.elim
  | .inl _ :: _, h => exact h.elim
  | .inr (.inr _) :: _, h => exact h.elim
theorem pz_l2_spec {st : List pz_V} {f : Int → Int → List pz_V → Prop} (h : pz_l2 st f) : ∃ x y r, st = .inr (.inl y) :: .inr (.inl x) :: r ∧ f x y r := by
  match st, h with
  | .inr (.inl y) :: .inr (.inl x) :: r, h => exact ⟨x, y, r, rfl, h⟩
  | [], h => exact h.elim
  | .inl _ :: _, h => exact h.elim
  | .inr (.inr _) :: _, h => exact h.elim
  | [.inr (.inl _)], h => exact h.elim
  | .inr (.inl _) :: .inl _ :: _, h => exact h.elim
  | .inr (.inl _) :: .inr (.inr _) :: _, h => exact h.elim
theorem pz_r_spec {st : List pz_V} {f : Nat → Nat → List pz_V → Prop} (h : pz_r st f) : ∃ k a r, st = .inr (.inr (k, a)) :: r ∧ f k a r := by
  match st, h with
  | .inr (.inr (k, a)) :: r, h => exact ⟨k, a, r, rfl, h⟩
  | [], h => exact h.elim
  | .inl _ :: _, h => exact h.elim
  | .inr (.inl _) :: _, h => exact h.elim
theorem pz_ri_spec {st : List pz_V} {f : Nat → Nat → Int → List pz_V → Prop} (h : pz_ri st f) : ∃ k a i r, st = .inl i :: .inr (.inr (k, a)) :: r ∧ f k a i r := by
  match st, h with
  | .inl i :: .inr (.inr (k, a)) :: r, h => exact ⟨k, a, i, r, rfl, h⟩
  | [], h => exact h.elim
  | .inr _ :: _, h => exact h.elim
  | [.inl _], h => exact h.elim
  | .inl _ :: .inl _ :: _, h => exact h.elim
  | .inl _ :: .inr (.inl _) :: _, h => exact h.elim
theorem pz_rii_spec {st : List pz_V} {f : Nat → Nat → Int → Int → List pz_V → Prop} (h : pz_rii st f) : ∃ k a i v r, st = .inl v :: .inl i :: .inr (.inr (k, a)) :: r ∧ f k a i v r := by
  match st, h with
  | .inl v :: .inl i :: .inr (.inr (k, a)) :: r, h => exact ⟨k, a, i, v, r, rfl, h⟩
  | [], h => exact h.elim
  | .inr _ :: _, h => exact h.elim
  | [.inl _], h => exact h.elim
  | .inl _ :: .inr _ :: _, h => exact h.elim
  | [.inl _, .inl _], h => exact h.elim
  | .inl _ :: .inl _ :: .inl _ :: _, h => exact h.elim
  | .inl _ :: .inl _ :: .inr (.inl _) :: _, h => exact h.elim
theorem pz_b_spec {b : Bool} {P : Prop} (h : pz_b b P) : b = true ∧ P := by
  cases b with
  | true => exact ⟨rfl, h⟩
  | false => exact h.elim
theorem pz_all {v : pz_V} {st : List pz_V} (h : pz_cv v) (hs : ∀ w ∈ st, pz_cv w) : ∀ w ∈ v :: st, pz_cv w := List.forall_mem_cons.mpr ⟨h, hs⟩
theorem pz_tlm {v : pz_V} {st : List pz_V} (hs : ∀ w ∈ v :: st, pz_cv w) : pz_cv v ∧ ∀ w ∈ st, pz_cv w := List.forall_mem_cons.mp hs
theorem pz_wf_spec {cc : ByteArray} {pc : Nat} {I : Instr} {len nx : Nat} {tg : List Nat} (h : pz_wf cc (pc, I, len, nx, tg) = true) : decode cc pc = .ok (I, len) ∧ nx = pc + len ∧ pz_sl I len 0 = true ∧ pz_tok pc I tg = true ∧ pz_imm I = true := by
  unfold pz_wf at h
  simp only [Bool.and_eq_true, decide_eq_true_eq] at h
  exact ⟨h.1, h.2.1, h.2.2.1, h.2.2.2.1, h.2.2.2.2⟩
theorem pz_cu {M : pz_M} (h : ∀ a k : Nat, pz_c (M a k)) {a k : Nat} {v : Int} (hv : pz_c v) : ∀ b j : Nat, pz_c (pz_u M a k v b j) := by
  intro b j
  unfold pz_u
  split
  · exact hv
  · exact h b j
theorem pz_pf_ok {ci k : Nat} {C : String} {T : u_T} {N : Nat} (h : vwCl[ci]? = some (C, T, N)) (hk : k < N) : N = pz_nf ci ∧ (pz_pf ci k = 1 → (T k).2.2.1 = "I" ∧ (T k).2.2.2 = false ∧ pz_rk ci k = none) ∧ (pz_pf ci k = 2 → (T k).2.2.1 = "Z" ∧ (T k).2.2.2 = false ∧ pz_rk ci k = none) := by
  have hci : ci < 13 := (List.getElem?_eq_some_iff.mp h).1
  have hN : N = pz_nf ci := by
    match ci, h with
    | 0, h => cases h; rfl
    | 1, h => cases h; rfl
    | 2, h => cases h; rfl
    | 3, h => cases h; rfl
    | 4, h => cases h; rfl
    | 5, h => cases h; rfl
    | 6, h => cases h; rfl
    | 7, h => cases h; rfl
    | 8, h => cases h; rfl
    | 9, h => cases h; rfl
    | 10, h => cases h; rfl
    | 11, h => cases h; rfl
    | 12, h => cases h; rfl
    | k + 13, h => simp [vwCl] at h
  have h1 := pz_ckc_ok ci hci k (by rw [← hN]; exact hk)
  unfold pz_ckc at h1
  rw [h] at h1
  refine ⟨hN, fun e => ?_, fun e => ?_⟩
  · rw [e] at h1
    simp only [Bool.and_eq_true, decide_eq_true_eq] at h1
    exact h1.2
  · rw [e] at h1
    simp only [Bool.and_eq_true, decide_eq_true_eq] at h1
    exact h1.2
section PZS
variable {p : Program} {l : Launch} {e : Env} {R : Room} {s : State} {m : MethodId} {args : Array Value} {below : List Frame} {meth : Method} {c : Code} {cells slots : Nat} {Q : State → Prop}
variable {cc : ByteArray} {own : String} {nL : Nat} {D : va_G} {ad adV : Nat → Nat} {cy : Nat → ClassId} {A : Nat → Prop}
def pz_Ok (p : Program) (l : Launch) (e : Env) (R : Room) (s : State) (m : MethodId) (args : Array Value) (below : List Frame) (meth : Method) (c : Code) (cells slots : Nat) (Q : State → Prop) (nL : Nat) (D : va_G) (ad : Nat → Nat) (cy : Nat → ClassId) (A : Nat → Prop) : pz_F := fun pc lo st M =>
  ∀ (H : Heap) (locs : List Loc) (ls : Array Slot), va_P D vwCl (pz_ws ad cy M) H → va_S A s.heap H locs → (∀ a k : Nat, pz_c (M a k)) → pz_LV ad ls nL lo → (∀ v ∈ st, pz_cv v) →
    W p l e R s m args below meth c H locs cells slots Q (F0 m pc ls (st.map (pz_v ad)))
/-- the fixed things of a method's run -/
def pz_Y (p : Program) (s : State) (m : MethodId) (args : Array Value) (c : Code) (cc : ByteArray) (own : String) (nL : Nat) (D : va_G) (ad adV : Nat → Nat) (cy : Nat → ClassId) (A : Nat → Prop) : Prop :=
  p.tables.exec = Jvm.exec ∧ c.code = cc ∧ c.maxLocals = nL ∧ s.vm.findClass own = some m.cls ∧ (∀ w ∈ pz_tbl, w.before args s = true) ∧ pz_X D ad adV cy A s s.heap
def pz_flok (own : String) (q : Nat × Nat × Nat) : Prop := ∃ (C : String) (T : u_T) (N : Nat), vwCl[q.2.1]? = some (C, T, N) ∧ q.2.2 < N ∧ Cond.fieldLink own q.1 (T q.2.2).1 (T q.2.2).2.1 (T q.2.2).2.2.1 ∈ pz_tbl
def pz_ciok (own : String) (i : Nat) : pz_V → Prop
  | .inl x => Cond.constant own i (Int32.ofInt x) ∈ pz_tbl ∧ pz_c x
  | .inr (.inl x) => Cond.constantLong own i (Int64.ofInt x) ∈ pz_tbl ∧ pz_cl x
  | .inr (.inr q) => ∃ j tx, q = (99, 206 + j) ∧ pz_ss[j]? = some (own, i, tx)
end PZS
end
section
section PZT
variable {p : Program} {l : Launch} {e : Env} {R : Room} {s : State} {m : MethodId} {args : Array Value} {below : List Frame} {meth : Method} {c : Code} {cells slots : Nat} {Q : State → Prop}
variable {cc : ByteArray} {own : String} {nL : Nat} {D : va_G} {ad adV : Nat → Nat} {cy : Nat → ClassId} {A : Nat → Prop}
/-- a call at this place keeps the contract k -/
def pz_CR (p : Program) (l : Launch) (e : Env) (R : Room) (s : State) (m : MethodId) (args : Array Value) (below : List Frame) (meth : Method) (c : Code) (cells slots : Nat) (Q : State → Prop) (cc : ByteArray) (nL : Nat) (D : va_G) (ad : Nat → Nat) (cy : Nat → ClassId) (A : Nat → Prop) (I : Instr) (k : pz_C) : Prop :=
  ∀ (H : Heap) (locs : List Loc) (ls : Array Slot) (M : pz_M) (As rest : List pz_V) (pc : Nat), decode cc pc = .ok (I, 3) → va_P D vwCl (pz_ws ad cy M) H → va_S A s.heap H locs → (∀ a k : Nat, pz_c (M a k)) → (∀ v ∈ As, pz_cv v) → ls.size = nL → As.length = k.1 → pz_cs rest ≤ 8 → k.2.2.1 As M →
    (∀ (r : Option pz_V) (M' : pz_M) (H' : Heap) (locs' : List Loc), k.2.2.2 As M r M' → pz_rr k.2.1 r → va_P D vwCl (pz_ws ad cy M') H' → va_S A s.heap H' locs' → (∀ a k : Nat, pz_c (M' a k)) → W p l e R s m args below meth c H' locs' cells slots Q (F0 m (pc + 3) ls (r.toList.map (pz_v ad) ++ rest.map (pz_v ad)))) →
    W p l e R s m args below meth c H locs cells slots Q (F0 m pc ls ((As.reverse ++ rest).map (pz_v ad)))
def pz_rok (rz : Bool) (I : Instr) (r : Option pz_V) : Prop := (I = .ireturn ∧ ∃ x, r = some (.inl x) ∧ (rz = true → x = 0 ∨ x = 1)) ∨ (I = .lreturn ∧ ∃ x, r = some (.inr (.inl x))) ∨ (I = .areturn ∧ ∃ x, r = some (.inr (.inr x))) ∨ (I = .return_ ∧ r = none)
def pz_RT (p : Program) (l : Launch) (e : Env) (R : Room) (s : State) (m : MethodId) (args : Array Value) (below : List Frame) (meth : Method) (c : Code) (cells slots : Nat) (Q : State → Prop) (cc : ByteArray) (D : va_G) (ad : Nat → Nat) (cy : Nat → ClassId) (A : Nat → Prop) (Rt : Option pz_V → pz_M → Prop) (rz : Bool) : Prop :=
  ∀ (I : Instr) (r : Option pz_V) (pc : Nat) (H : Heap) (locs : List Loc) (ls : Array Slot) (M : pz_M), decode cc pc = .ok (I, 1) → pz_rok rz I r → (∀ v ∈ r, pz_cv v) → va_P D vwCl (pz_ws ad cy M) H → va_S A s.heap H locs → (∀ a k : Nat, pz_c (M a k)) → Rt r M →
    W p l e R s m args below meth c H locs cells slots Q (F0 m pc ls (r.toList.map (pz_v ad)))
theorem pz_LV1 {ls : Array Slot} {lo lo' : pz_L} {k : Nat} {v : pz_V} (hL : pz_LV ad ls nL lo) (hc : pz_cv v) (h3 : lo'.length = lo.length) (h4 : lo'[k]? = some (some v)) (h5 : ∀ (i : Nat) (w : pz_V), i ≠ k → lo'[i]? = some (some w) → lo[i]? = some (some w) ∧ ¬ (i + 1 = k ∧ pz_cat w = 2)) {ls' : Array Slot} (h : lv_has ls' nL ((k, pz_v ad v) :: (pz_pr ad lo).filter (fun q => !(q.1 == k) && !(q.1 + 1 == k && q.2.category == 2)))) : pz_LV ad ls' nL lo' := by
  refine pz_LV.of h (h3.trans hL.2.2.1) (fun i w hw => ?_)
  by_cases hi : i = k
  · subst hi
    rw [h4] at hw
    cases hw
    exact ⟨List.mem_cons_self, hc⟩
  · obtain ⟨q1, q2⟩ := h5 i w hi hw
    refine ⟨List.mem_cons_of_mem _ (List.mem_filter.mpr ⟨pz_pr_mem q1, ?_⟩), (hL.2.2.2 i w q1).2⟩
    simp only [pz_v_cat, Bool.and_eq_true, Bool.not_eq_true', beq_eq_false_iff_ne, ne_eq, Bool.and_eq_false_iff]
    refine ⟨hi, ?_⟩
    by_cases hz : i + 1 = k
    · exact Or.inr (fun z => q2 ⟨hz, z⟩)
    · exact Or.inl hz
theorem pz_LV2 {ls : Array Slot} {lo lo' : pz_L} {k : Nat} {v : pz_V} (hL : pz_LV ad ls nL lo) (hc : pz_cv v) (h3 : lo'.length = lo.length) (h4 : lo'[k]? = some (some v)) (h5 : ∀ (i : Nat) (w : pz_V), i ≠ k → lo'[i]? = some (some w) → lo[i]? = some (some w) ∧ i ≠ k + 1 ∧ ¬ (i + 1 = k ∧ pz_cat w = 2)) {ls' : Array Slot} (h : lv_has ls' nL ((k, pz_v ad v) :: (pz_pr ad lo).filter (fun q => !(q.1 == k) && (!(q.1 == k + 1) && !(q.1 + 1 == k && q.2.category == 2))))) : pz_LV ad ls' nL lo' := by
  refine pz_LV.of h (h3.trans hL.2.2.1) (fun i w hw => ?_)
  by_cases hi : i = k
  · subst hi
    rw [h4] at hw
    cases hw
    exact ⟨List.mem_cons_self, hc⟩
  · obtain ⟨q1, q0, q2⟩ := h5 i w hi hw
    refine ⟨List.mem_cons_of_mem _ (List.mem_filter.mpr ⟨pz_pr_mem q1, ?_⟩), (hL.2.2.2 i w q1).2⟩
    simp only [pz_v_cat, Bool.and_eq_true, Bool.not_eq_true', beq_eq_false_iff_ne, ne_eq, Bool.and_eq_false_iff]
    refine ⟨hi, q0, ?_⟩
    by_cases hz : i + 1 = k
    · exact Or.inr (fun z => q2 ⟨hz, z⟩)
    · exact Or.inl hz
theorem pz_lg {ls : Array Slot} {lo : pz_L} {k : Nat} {v : pz_V} (hL : pz_LV ad ls nL lo) (h : lo[k]? = some (some v)) : ls[k]? = some (.val (pz_v ad v)) ∧ pz_cv v := hL.2.2.2 k v h
theorem pz_pos {lo : pz_L} {k : Nat} {v : pz_V} (h : lo[k]? = some (some v)) : ∃ j : Nat, (pz_pr ad lo)[j]? = some (k, pz_v ad v) := by
  obtain ⟨j, hj⟩ := List.getElem?_of_mem (pz_pr_mem (ad := ad) h)
  exact ⟨j, hj⟩
theorem pz_cs_v (ad : Nat → Nat) : ∀ rest : List pz_V, ((rest.map (pz_v ad)).map fun v => v.category).sum = pz_cs rest
  | [] => rfl
  | v :: t => by
    simp only [List.map_cons, List.sum_cons, pz_v_cat, pz_cs]
    rw [← pz_cs_v ad t]

theorem ps_iconst (Y : pz_Y p s m args c cc own nL D ad adV cy A) {K : pz_F} (hK : ∀ pc lo st M, K pc lo st M → pz_Ok p l e R s m args below meth c cells slots Q nL D ad cy A pc lo st M) {fl : Nat → Option (Nat × Nat)} {ci : Nat → Option pz_V} {ct : Bool → Nat → Option pz_C} {Rt : Option pz_V → pz_M → Prop} {rz : Bool} {pc len nx : Nat} {tg : List Nat} {lo : pz_L} {st : List pz_V} {M : pz_M} {v : Int}  (hw : pz_wf cc (pc, .iconst v, len, nx, tg) = true) (h : pz_stp fl ci ct K Rt rz (.iconst v) nx tg lo st M) : pz_Ok p l e R s m args below meth c cells slots Q nL D ad cy A pc lo st M := by
  obtain ⟨hx, hb, hml, hown, hts, hX⟩ := Y
  obtain ⟨hd, hn, hsl, htk, him⟩ := pz_wf_spec hw
  subst hn
  have hl1 : len = 1 := of_decide_eq_true hsl
  subst hl1
  intro H locs ls hP hS hM hL hst
  simp only [pz_imm, Bool.and_eq_true, decide_eq_true_eq] at him
  exact lv_iconst hx hb hd rfl (hK _ _ _ _ h H locs ls hP hS hM hL (pz_all (show pz_c v from ⟨by have := him.1; omega, by have := him.2; omega⟩) hst))
theorem ps_bipush (Y : pz_Y p s m args c cc own nL D ad adV cy A) {K : pz_F} (hK : ∀ pc lo st M, K pc lo st M → pz_Ok p l e R s m args below meth c cells slots Q nL D ad cy A pc lo st M) {fl : Nat → Option (Nat × Nat)} {ci : Nat → Option pz_V} {ct : Bool → Nat → Option pz_C} {Rt : Option pz_V → pz_M → Prop} {rz : Bool} {pc len nx : Nat} {tg : List Nat} {lo : pz_L} {st : List pz_V} {M : pz_M} {v : Int}  (hw : pz_wf cc (pc, .bipush v, len, nx, tg) = true) (h : pz_stp fl ci ct K Rt rz (.bipush v) nx tg lo st M) : pz_Ok p l e R s m args below meth c cells slots Q nL D ad cy A pc lo st M := by
  obtain ⟨hx, hb, hml, hown, hts, hX⟩ := Y
  obtain ⟨hd, hn, hsl, htk, him⟩ := pz_wf_spec hw
  subst hn
  have hl1 : len = 2 := of_decide_eq_true hsl
  subst hl1
  intro H locs ls hP hS hM hL hst
  simp only [pz_imm, Bool.and_eq_true, decide_eq_true_eq] at him
  exact lv_bipush hx hb hd (pz_bip him.1 him.2) (hK _ _ _ _ h H locs ls hP hS hM hL (pz_all (show pz_c v from ⟨by have := him.1; omega, by have := him.2; omega⟩) hst))
theorem ps_sipush (Y : pz_Y p s m args c cc own nL D ad adV cy A) {K : pz_F} (hK : ∀ pc lo st M, K pc lo st M → pz_Ok p l e R s m args below meth c cells slots Q nL D ad cy A pc lo st M) {fl : Nat → Option (Nat × Nat)} {ci : Nat → Option pz_V} {ct : Bool → Nat → Option pz_C} {Rt : Option pz_V → pz_M → Prop} {rz : Bool} {pc len nx : Nat} {tg : List Nat} {lo : pz_L} {st : List pz_V} {M : pz_M} {v : Int}  (hw : pz_wf cc (pc, .sipush v, len, nx, tg) = true) (h : pz_stp fl ci ct K Rt rz (.sipush v) nx tg lo st M) : pz_Ok p l e R s m args below meth c cells slots Q nL D ad cy A pc lo st M := by
  obtain ⟨hx, hb, hml, hown, hts, hX⟩ := Y
  obtain ⟨hd, hn, hsl, htk, him⟩ := pz_wf_spec hw
  subst hn
  have hl1 : len = 3 := of_decide_eq_true hsl
  subst hl1
  intro H locs ls hP hS hM hL hst
  simp only [pz_imm, Bool.and_eq_true, decide_eq_true_eq] at him
  exact lv_sipush hx hb hd (pz_sip him.1 him.2) (hK _ _ _ _ h H locs ls hP hS hM hL (pz_all (show pz_c v from ⟨by have := him.1; omega, by have := him.2; omega⟩) hst))
theorem ps_lconst (Y : pz_Y p s m args c cc own nL D ad adV cy A) {K : pz_F} (hK : ∀ pc lo st M, K pc lo st M → pz_Ok p l e R s m args below meth c cells slots Q nL D ad cy A pc lo st M) {fl : Nat → Option (Nat × Nat)} {ci : Nat → Option pz_V} {ct : Bool → Nat → Option pz_C} {Rt : Option pz_V → pz_M → Prop} {rz : Bool} {pc len nx : Nat} {tg : List Nat} {lo : pz_L} {st : List pz_V} {M : pz_M} {v : Fin 2}  (hw : pz_wf cc (pc, .lconst v, len, nx, tg) = true) (h : pz_stp fl ci ct K Rt rz (.lconst v) nx tg lo st M) : pz_Ok p l e R s m args below meth c cells slots Q nL D ad cy A pc lo st M := by
  obtain ⟨hx, hb, hml, hown, hts, hX⟩ := Y
  obtain ⟨hd, hn, hsl, htk, him⟩ := pz_wf_spec hw
  subst hn
  have hl1 : len = 1 := of_decide_eq_true hsl
  subst hl1
  intro H locs ls hP hS hM hL hst
  have hv : Int64.ofNat (v : Nat) = Int64.ofInt ((v : Nat) : Int) := (Int64.ofInt_eq_ofNat).symm
  exact lv_lconst hx hb hd hv (hK _ _ _ _ h H locs ls hP hS hM hL (pz_all (show pz_cl ((v : Nat) : Int) from ⟨by omega, by have := v.isLt; omega⟩) hst))
theorem ps_ldc (Y : pz_Y p s m args c cc own nL D ad adV cy A) {K : pz_F} (hK : ∀ pc lo st M, K pc lo st M → pz_Ok p l e R s m args below meth c cells slots Q nL D ad cy A pc lo st M) {fl : Nat → Option (Nat × Nat)} {ci : Nat → Option pz_V} {ct : Bool → Nat → Option pz_C} {Rt : Option pz_V → pz_M → Prop} {rz : Bool} {pc len nx : Nat} {tg : List Nat} {lo : pz_L} {st : List pz_V} {M : pz_M} {i : Nat} (hci : ∀ i v, ci i = some v → pz_ciok own i v) (hw : pz_wf cc (pc, .ldc i, len, nx, tg) = true) (h : pz_stp fl ci ct K Rt rz (.ldc i) nx tg lo st M) : pz_Ok p l e R s m args below meth c cells slots Q nL D ad cy A pc lo st M := by
  obtain ⟨hx, hb, hml, hown, hts, hX⟩ := Y
  obtain ⟨hd, hn, hsl, htk, him⟩ := pz_wf_spec hw
  subst hn
  have hl1 : len = 2 := of_decide_eq_true hsl
  subst hl1
  intro H locs ls hP hS hM hL hst
  change (match ci i with | some (.inr (.inl _)) => False | some v => K _ lo (v :: st) M | none => False) at h
  cases hc : ci i with
  | none => rw [hc] at h; exact h.elim
  | some v =>
    rw [hc] at h
    have hk := hci i v hc
    match v, h, hk with
    | .inr (.inl x), h, _ => exact h.elim
    | .inl x, h, hk => exact lv_ldc hx hb hown (hts _ hk.1) hd (hK _ _ _ _ h H locs ls hP hS hM hL (pz_all hk.2 hst))
    | .inr (.inr q), h, hk =>
      obtain ⟨j, tx, rfl, hj⟩ := hk
      have hj25 : j < 25 := (List.getElem?_eq_some_iff.mp hj).1
      exact va_ldcS hx hb hown (hX.2.2.2.2.1 j _ hj) hd (hK _ _ _ _ h H locs ls hP hS hM hL (pz_all ⟨pz_kd_hi (by omega), (by show 206 + j < 231; omega)⟩ hst))
theorem ps_ldc_w (Y : pz_Y p s m args c cc own nL D ad adV cy A) {K : pz_F} (hK : ∀ pc lo st M, K pc lo st M → pz_Ok p l e R s m args below meth c cells slots Q nL D ad cy A pc lo st M) {fl : Nat → Option (Nat × Nat)} {ci : Nat → Option pz_V} {ct : Bool → Nat → Option pz_C} {Rt : Option pz_V → pz_M → Prop} {rz : Bool} {pc len nx : Nat} {tg : List Nat} {lo : pz_L} {st : List pz_V} {M : pz_M} {i : Nat} (hci : ∀ i v, ci i = some v → pz_ciok own i v) (hw : pz_wf cc (pc, .ldc_w i, len, nx, tg) = true) (h : pz_stp fl ci ct K Rt rz (.ldc_w i) nx tg lo st M) : pz_Ok p l e R s m args below meth c cells slots Q nL D ad cy A pc lo st M := by
  obtain ⟨hx, hb, hml, hown, hts, hX⟩ := Y
  obtain ⟨hd, hn, hsl, htk, him⟩ := pz_wf_spec hw
  subst hn
  have hl1 : len = 3 := of_decide_eq_true hsl
  subst hl1
  intro H locs ls hP hS hM hL hst
  change (match ci i with | some (.inl v) => K _ lo (.inl v :: st) M | _ => False) at h
  cases hc : ci i with
  | none => rw [hc] at h; exact h.elim
  | some v =>
    rw [hc] at h
    have hk := hci i v hc
    match v, h, hk with
    | .inr _, h, _ => exact h.elim
    | .inl x, h, hk => exact lv_ldcw hx hb hown (hts _ hk.1) hd (hK _ _ _ _ h H locs ls hP hS hM hL (pz_all hk.2 hst))
theorem ps_ldc2_w (Y : pz_Y p s m args c cc own nL D ad adV cy A) {K : pz_F} (hK : ∀ pc lo st M, K pc lo st M → pz_Ok p l e R s m args below meth c cells slots Q nL D ad cy A pc lo st M) {fl : Nat → Option (Nat × Nat)} {ci : Nat → Option pz_V} {ct : Bool → Nat → Option pz_C} {Rt : Option pz_V → pz_M → Prop} {rz : Bool} {pc len nx : Nat} {tg : List Nat} {lo : pz_L} {st : List pz_V} {M : pz_M} {i : Nat} (hci : ∀ i v, ci i = some v → pz_ciok own i v) (hw : pz_wf cc (pc, .ldc2_w i, len, nx, tg) = true) (h : pz_stp fl ci ct K Rt rz (.ldc2_w i) nx tg lo st M) : pz_Ok p l e R s m args below meth c cells slots Q nL D ad cy A pc lo st M := by
  obtain ⟨hx, hb, hml, hown, hts, hX⟩ := Y
  obtain ⟨hd, hn, hsl, htk, him⟩ := pz_wf_spec hw
  subst hn
  have hl1 : len = 3 := of_decide_eq_true hsl
  subst hl1
  intro H locs ls hP hS hM hL hst
  change (match ci i with | some (.inr (.inl v)) => K _ lo (.inr (.inl v) :: st) M | _ => False) at h
  cases hc : ci i with
  | none => rw [hc] at h; exact h.elim
  | some v =>
    rw [hc] at h
    have hk := hci i v hc
    match v, h, hk with
    | .inl _, h, _ => exact h.elim
    | .inr (.inr _), h, _ => exact h.elim
    | .inr (.inl x), h, hk => exact lv_ldc2 hx hb hown (hts _ hk.1) hd (hK _ _ _ _ h H locs ls hP hS hM hL (pz_all hk.2 hst))
theorem ps_iload (Y : pz_Y p s m args c cc own nL D ad adV cy A) {K : pz_F} (hK : ∀ pc lo st M, K pc lo st M → pz_Ok p l e R s m args below meth c cells slots Q nL D ad cy A pc lo st M) {fl : Nat → Option (Nat × Nat)} {ci : Nat → Option pz_V} {ct : Bool → Nat → Option pz_C} {Rt : Option pz_V → pz_M → Prop} {rz : Bool} {pc len nx : Nat} {tg : List Nat} {lo : pz_L} {st : List pz_V} {M : pz_M} {k : Nat}  (hw : pz_wf cc (pc, .iload k, len, nx, tg) = true) (h : pz_stp fl ci ct K Rt rz (.iload k) nx tg lo st M) : pz_Ok p l e R s m args below meth c cells slots Q nL D ad cy A pc lo st M := by
  obtain ⟨hx, hb, hml, hown, hts, hX⟩ := Y
  obtain ⟨hd, hn, hsl, htk, him⟩ := pz_wf_spec hw
  subst hn
  have hl1 : len = 2 := of_decide_eq_true hsl
  subst hl1
  intro H locs ls hP hS hM hL hst
  obtain ⟨v, hv, h⟩ := pz_get_spec _ _ _ h
  obtain ⟨g1, g2⟩ := pz_lg hL hv
  match v, h, g1, g2 with
  | .inr _, h, _, _ => exact h.elim
  | .inl x, h, g1, g2 => exact lv_iload hx hb hd g1 (hK _ _ _ _ h H locs ls hP hS hM hL (pz_all g2 hst))
theorem ps_iload_n (Y : pz_Y p s m args c cc own nL D ad adV cy A) {K : pz_F} (hK : ∀ pc lo st M, K pc lo st M → pz_Ok p l e R s m args below meth c cells slots Q nL D ad cy A pc lo st M) {fl : Nat → Option (Nat × Nat)} {ci : Nat → Option pz_V} {ct : Bool → Nat → Option pz_C} {Rt : Option pz_V → pz_M → Prop} {rz : Bool} {pc len nx : Nat} {tg : List Nat} {lo : pz_L} {st : List pz_V} {M : pz_M} {k : Fin 4}  (hw : pz_wf cc (pc, .iload_n k, len, nx, tg) = true) (h : pz_stp fl ci ct K Rt rz (.iload_n k) nx tg lo st M) : pz_Ok p l e R s m args below meth c cells slots Q nL D ad cy A pc lo st M := by
  obtain ⟨hx, hb, hml, hown, hts, hX⟩ := Y
  obtain ⟨hd, hn, hsl, htk, him⟩ := pz_wf_spec hw
  subst hn
  have hl1 : len = 1 := of_decide_eq_true hsl
  subst hl1
  intro H locs ls hP hS hM hL hst
  obtain ⟨v, hv, h⟩ := pz_get_spec _ _ _ h
  obtain ⟨g1, g2⟩ := pz_lg hL hv
  match v, h, g1, g2 with
  | .inr _, h, _, _ => exact h.elim
  | .inl x, h, g1, g2 => exact lv_iload_n hx hb hd rfl g1 (hK _ _ _ _ h H locs ls hP hS hM hL (pz_all g2 hst))
theorem ps_lload (Y : pz_Y p s m args c cc own nL D ad adV cy A) {K : pz_F} (hK : ∀ pc lo st M, K pc lo st M → pz_Ok p l e R s m args below meth c cells slots Q nL D ad cy A pc lo st M) {fl : Nat → Option (Nat × Nat)} {ci : Nat → Option pz_V} {ct : Bool → Nat → Option pz_C} {Rt : Option pz_V → pz_M → Prop} {rz : Bool} {pc len nx : Nat} {tg : List Nat} {lo : pz_L} {st : List pz_V} {M : pz_M} {k : Nat}  (hw : pz_wf cc (pc, .lload k, len, nx, tg) = true) (h : pz_stp fl ci ct K Rt rz (.lload k) nx tg lo st M) : pz_Ok p l e R s m args below meth c cells slots Q nL D ad cy A pc lo st M := by
  obtain ⟨hx, hb, hml, hown, hts, hX⟩ := Y
  obtain ⟨hd, hn, hsl, htk, him⟩ := pz_wf_spec hw
  subst hn
  have hl1 : len = 2 := of_decide_eq_true hsl
  subst hl1
  intro H locs ls hP hS hM hL hst
  obtain ⟨v, hv, h⟩ := pz_get_spec _ _ _ h
  obtain ⟨g1, g2⟩ := pz_lg hL hv
  match v, h, g1, g2 with
  | .inl _, h, _, _ => exact h.elim
  | .inr (.inr _), h, _, _ => exact h.elim
  | .inr (.inl x), h, g1, g2 => exact lv_lload hx hb hd g1 (hK _ _ _ _ h H locs ls hP hS hM hL (pz_all g2 hst))
theorem ps_lload_n (Y : pz_Y p s m args c cc own nL D ad adV cy A) {K : pz_F} (hK : ∀ pc lo st M, K pc lo st M → pz_Ok p l e R s m args below meth c cells slots Q nL D ad cy A pc lo st M) {fl : Nat → Option (Nat × Nat)} {ci : Nat → Option pz_V} {ct : Bool → Nat → Option pz_C} {Rt : Option pz_V → pz_M → Prop} {rz : Bool} {pc len nx : Nat} {tg : List Nat} {lo : pz_L} {st : List pz_V} {M : pz_M} {k : Fin 4}  (hw : pz_wf cc (pc, .lload_n k, len, nx, tg) = true) (h : pz_stp fl ci ct K Rt rz (.lload_n k) nx tg lo st M) : pz_Ok p l e R s m args below meth c cells slots Q nL D ad cy A pc lo st M := by
  obtain ⟨hx, hb, hml, hown, hts, hX⟩ := Y
  obtain ⟨hd, hn, hsl, htk, him⟩ := pz_wf_spec hw
  subst hn
  have hl1 : len = 1 := of_decide_eq_true hsl
  subst hl1
  intro H locs ls hP hS hM hL hst
  obtain ⟨v, hv, h⟩ := pz_get_spec _ _ _ h
  obtain ⟨g1, g2⟩ := pz_lg hL hv
  match v, h, g1, g2 with
  | .inl _, h, _, _ => exact h.elim
  | .inr (.inr _), h, _, _ => exact h.elim
  | .inr (.inl x), h, g1, g2 => exact lv_lload_n hx hb hd rfl g1 (hK _ _ _ _ h H locs ls hP hS hM hL (pz_all g2 hst))
theorem ps_aload (Y : pz_Y p s m args c cc own nL D ad adV cy A) {K : pz_F} (hK : ∀ pc lo st M, K pc lo st M → pz_Ok p l e R s m args below meth c cells slots Q nL D ad cy A pc lo st M) {fl : Nat → Option (Nat × Nat)} {ci : Nat → Option pz_V} {ct : Bool → Nat → Option pz_C} {Rt : Option pz_V → pz_M → Prop} {rz : Bool} {pc len nx : Nat} {tg : List Nat} {lo : pz_L} {st : List pz_V} {M : pz_M} {k : Nat}  (hw : pz_wf cc (pc, .aload k, len, nx, tg) = true) (h : pz_stp fl ci ct K Rt rz (.aload k) nx tg lo st M) : pz_Ok p l e R s m args below meth c cells slots Q nL D ad cy A pc lo st M := by
  obtain ⟨hx, hb, hml, hown, hts, hX⟩ := Y
  obtain ⟨hd, hn, hsl, htk, him⟩ := pz_wf_spec hw
  subst hn
  have hl1 : len = 2 := of_decide_eq_true hsl
  subst hl1
  intro H locs ls hP hS hM hL hst
  obtain ⟨v, hv, h⟩ := pz_get_spec _ _ _ h
  obtain ⟨g1, g2⟩ := pz_lg hL hv
  match v, h, g1, g2 with
  | .inl _, h, _, _ => exact h.elim
  | .inr (.inl _), h, _, _ => exact h.elim
  | .inr (.inr x), h, g1, g2 => exact lv_aload hx hb hd g1 (hK _ _ _ _ h H locs ls hP hS hM hL (pz_all g2 hst))
theorem ps_aload_n (Y : pz_Y p s m args c cc own nL D ad adV cy A) {K : pz_F} (hK : ∀ pc lo st M, K pc lo st M → pz_Ok p l e R s m args below meth c cells slots Q nL D ad cy A pc lo st M) {fl : Nat → Option (Nat × Nat)} {ci : Nat → Option pz_V} {ct : Bool → Nat → Option pz_C} {Rt : Option pz_V → pz_M → Prop} {rz : Bool} {pc len nx : Nat} {tg : List Nat} {lo : pz_L} {st : List pz_V} {M : pz_M} {k : Fin 4}  (hw : pz_wf cc (pc, .aload_n k, len, nx, tg) = true) (h : pz_stp fl ci ct K Rt rz (.aload_n k) nx tg lo st M) : pz_Ok p l e R s m args below meth c cells slots Q nL D ad cy A pc lo st M := by
  obtain ⟨hx, hb, hml, hown, hts, hX⟩ := Y
  obtain ⟨hd, hn, hsl, htk, him⟩ := pz_wf_spec hw
  subst hn
  have hl1 : len = 1 := of_decide_eq_true hsl
  subst hl1
  intro H locs ls hP hS hM hL hst
  obtain ⟨v, hv, h⟩ := pz_get_spec _ _ _ h
  obtain ⟨g1, g2⟩ := pz_lg hL hv
  match v, h, g1, g2 with
  | .inl _, h, _, _ => exact h.elim
  | .inr (.inl _), h, _, _ => exact h.elim
  | .inr (.inr x), h, g1, g2 => exact lv_aload_n hx hb hd rfl g1 (hK _ _ _ _ h H locs ls hP hS hM hL (pz_all g2 hst))
theorem ps_istore (Y : pz_Y p s m args c cc own nL D ad adV cy A) {K : pz_F} (hK : ∀ pc lo st M, K pc lo st M → pz_Ok p l e R s m args below meth c cells slots Q nL D ad cy A pc lo st M) {fl : Nat → Option (Nat × Nat)} {ci : Nat → Option pz_V} {ct : Bool → Nat → Option pz_C} {Rt : Option pz_V → pz_M → Prop} {rz : Bool} {pc len nx : Nat} {tg : List Nat} {lo : pz_L} {st : List pz_V} {M : pz_M} {k : Nat}  (hw : pz_wf cc (pc, .istore k, len, nx, tg) = true) (h : pz_stp fl ci ct K Rt rz (.istore k) nx tg lo st M) : pz_Ok p l e R s m args below meth c cells slots Q nL D ad cy A pc lo st M := by
  obtain ⟨hx, hb, hml, hown, hts, hX⟩ := Y
  obtain ⟨hd, hn, hsl, htk, him⟩ := pz_wf_spec hw
  subst hn
  have hl1 : len = 2 := of_decide_eq_true hsl
  subst hl1
  intro H locs ls hP hS hM hL hst
  obtain ⟨x, r, rfl, h⟩ := pz_1_spec h
  obtain ⟨lo', h1, h2, h3, h4, h5⟩ := pz_set_spec _ _ _ _ h
  obtain ⟨c1, c2⟩ := pz_tlm hst
  exact lv_istore hx hb hd hL.has (by have := hL.2.2.1; omega) rfl (fun ls' hl' => hK _ _ _ _ h1 H locs ls' hP hS hM (pz_LV1 hL c1 h3 h4 h5 hl') c2)
theorem ps_istore_n (Y : pz_Y p s m args c cc own nL D ad adV cy A) {K : pz_F} (hK : ∀ pc lo st M, K pc lo st M → pz_Ok p l e R s m args below meth c cells slots Q nL D ad cy A pc lo st M) {fl : Nat → Option (Nat × Nat)} {ci : Nat → Option pz_V} {ct : Bool → Nat → Option pz_C} {Rt : Option pz_V → pz_M → Prop} {rz : Bool} {pc len nx : Nat} {tg : List Nat} {lo : pz_L} {st : List pz_V} {M : pz_M} {k : Fin 4}  (hw : pz_wf cc (pc, .istore_n k, len, nx, tg) = true) (h : pz_stp fl ci ct K Rt rz (.istore_n k) nx tg lo st M) : pz_Ok p l e R s m args below meth c cells slots Q nL D ad cy A pc lo st M := by
  obtain ⟨hx, hb, hml, hown, hts, hX⟩ := Y
  obtain ⟨hd, hn, hsl, htk, him⟩ := pz_wf_spec hw
  subst hn
  have hl1 : len = 1 := of_decide_eq_true hsl
  subst hl1
  intro H locs ls hP hS hM hL hst
  obtain ⟨x, r, rfl, h⟩ := pz_1_spec h
  obtain ⟨lo', h1, h2, h3, h4, h5⟩ := pz_set_spec _ _ _ _ h
  obtain ⟨c1, c2⟩ := pz_tlm hst
  exact lv_istore_n hx hb hd rfl hL.has (by have := hL.2.2.1; omega) rfl (fun ls' hl' => hK _ _ _ _ h1 H locs ls' hP hS hM (pz_LV1 hL c1 h3 h4 h5 hl') c2)
theorem ps_lstore (Y : pz_Y p s m args c cc own nL D ad adV cy A) {K : pz_F} (hK : ∀ pc lo st M, K pc lo st M → pz_Ok p l e R s m args below meth c cells slots Q nL D ad cy A pc lo st M) {fl : Nat → Option (Nat × Nat)} {ci : Nat → Option pz_V} {ct : Bool → Nat → Option pz_C} {Rt : Option pz_V → pz_M → Prop} {rz : Bool} {pc len nx : Nat} {tg : List Nat} {lo : pz_L} {st : List pz_V} {M : pz_M} {k : Nat}  (hw : pz_wf cc (pc, .lstore k, len, nx, tg) = true) (h : pz_stp fl ci ct K Rt rz (.lstore k) nx tg lo st M) : pz_Ok p l e R s m args below meth c cells slots Q nL D ad cy A pc lo st M := by
  obtain ⟨hx, hb, hml, hown, hts, hX⟩ := Y
  obtain ⟨hd, hn, hsl, htk, him⟩ := pz_wf_spec hw
  subst hn
  have hl1 : len = 2 := of_decide_eq_true hsl
  subst hl1
  intro H locs ls hP hS hM hL hst
  obtain ⟨x, r, rfl, h⟩ := pz_l1_spec h
  obtain ⟨lo', h1, h2, h3, h4, h5⟩ := pz_setl_spec _ _ _ _ h
  obtain ⟨c1, c2⟩ := pz_tlm hst
  exact lv_lstore hx hb hd hL.has (by have := hL.2.2.1; omega) rfl (fun ls' hl' => hK _ _ _ _ h1 H locs ls' hP hS hM (pz_LV2 hL c1 h3 h4 h5 hl') c2)
theorem ps_lstore_n (Y : pz_Y p s m args c cc own nL D ad adV cy A) {K : pz_F} (hK : ∀ pc lo st M, K pc lo st M → pz_Ok p l e R s m args below meth c cells slots Q nL D ad cy A pc lo st M) {fl : Nat → Option (Nat × Nat)} {ci : Nat → Option pz_V} {ct : Bool → Nat → Option pz_C} {Rt : Option pz_V → pz_M → Prop} {rz : Bool} {pc len nx : Nat} {tg : List Nat} {lo : pz_L} {st : List pz_V} {M : pz_M} {k : Fin 4}  (hw : pz_wf cc (pc, .lstore_n k, len, nx, tg) = true) (h : pz_stp fl ci ct K Rt rz (.lstore_n k) nx tg lo st M) : pz_Ok p l e R s m args below meth c cells slots Q nL D ad cy A pc lo st M := by
  obtain ⟨hx, hb, hml, hown, hts, hX⟩ := Y
  obtain ⟨hd, hn, hsl, htk, him⟩ := pz_wf_spec hw
  subst hn
  have hl1 : len = 1 := of_decide_eq_true hsl
  subst hl1
  intro H locs ls hP hS hM hL hst
  obtain ⟨x, r, rfl, h⟩ := pz_l1_spec h
  obtain ⟨lo', h1, h2, h3, h4, h5⟩ := pz_setl_spec _ _ _ _ h
  obtain ⟨c1, c2⟩ := pz_tlm hst
  exact lv_lstore_n hx hb hd rfl hL.has (by have := hL.2.2.1; omega) rfl (fun ls' hl' => hK _ _ _ _ h1 H locs ls' hP hS hM (pz_LV2 hL c1 h3 h4 h5 hl') c2)
theorem ps_astore (Y : pz_Y p s m args c cc own nL D ad adV cy A) {K : pz_F} (hK : ∀ pc lo st M, K pc lo st M → pz_Ok p l e R s m args below meth c cells slots Q nL D ad cy A pc lo st M) {fl : Nat → Option (Nat × Nat)} {ci : Nat → Option pz_V} {ct : Bool → Nat → Option pz_C} {Rt : Option pz_V → pz_M → Prop} {rz : Bool} {pc len nx : Nat} {tg : List Nat} {lo : pz_L} {st : List pz_V} {M : pz_M} {k : Nat}  (hw : pz_wf cc (pc, .astore k, len, nx, tg) = true) (h : pz_stp fl ci ct K Rt rz (.astore k) nx tg lo st M) : pz_Ok p l e R s m args below meth c cells slots Q nL D ad cy A pc lo st M := by
  obtain ⟨hx, hb, hml, hown, hts, hX⟩ := Y
  obtain ⟨hd, hn, hsl, htk, him⟩ := pz_wf_spec hw
  subst hn
  have hl1 : len = 2 := of_decide_eq_true hsl
  subst hl1
  intro H locs ls hP hS hM hL hst
  obtain ⟨kd, a, r, rfl, h⟩ := pz_r_spec h
  obtain ⟨lo', h1, h2, h3, h4, h5⟩ := pz_set_spec _ _ _ _ h
  obtain ⟨c1, c2⟩ := pz_tlm hst
  exact lv_astore hx hb hd hL.has (by have := hL.2.2.1; omega) rfl (fun ls' hl' => hK _ _ _ _ h1 H locs ls' hP hS hM (pz_LV1 hL c1 h3 h4 h5 hl') c2)
theorem ps_astore_n (Y : pz_Y p s m args c cc own nL D ad adV cy A) {K : pz_F} (hK : ∀ pc lo st M, K pc lo st M → pz_Ok p l e R s m args below meth c cells slots Q nL D ad cy A pc lo st M) {fl : Nat → Option (Nat × Nat)} {ci : Nat → Option pz_V} {ct : Bool → Nat → Option pz_C} {Rt : Option pz_V → pz_M → Prop} {rz : Bool} {pc len nx : Nat} {tg : List Nat} {lo : pz_L} {st : List pz_V} {M : pz_M} {k : Fin 4}  (hw : pz_wf cc (pc, .astore_n k, len, nx, tg) = true) (h : pz_stp fl ci ct K Rt rz (.astore_n k) nx tg lo st M) : pz_Ok p l e R s m args below meth c cells slots Q nL D ad cy A pc lo st M := by
  obtain ⟨hx, hb, hml, hown, hts, hX⟩ := Y
  obtain ⟨hd, hn, hsl, htk, him⟩ := pz_wf_spec hw
  subst hn
  have hl1 : len = 1 := of_decide_eq_true hsl
  subst hl1
  intro H locs ls hP hS hM hL hst
  obtain ⟨kd, a, r, rfl, h⟩ := pz_r_spec h
  obtain ⟨lo', h1, h2, h3, h4, h5⟩ := pz_set_spec _ _ _ _ h
  obtain ⟨c1, c2⟩ := pz_tlm hst
  exact lv_astore_n hx hb hd rfl hL.has (by have := hL.2.2.1; omega) rfl (fun ls' hl' => hK _ _ _ _ h1 H locs ls' hP hS hM (pz_LV1 hL c1 h3 h4 h5 hl') c2)
theorem ps_iinc (Y : pz_Y p s m args c cc own nL D ad adV cy A) {K : pz_F} (hK : ∀ pc lo st M, K pc lo st M → pz_Ok p l e R s m args below meth c cells slots Q nL D ad cy A pc lo st M) {fl : Nat → Option (Nat × Nat)} {ci : Nat → Option pz_V} {ct : Bool → Nat → Option pz_C} {Rt : Option pz_V → pz_M → Prop} {rz : Bool} {pc len nx : Nat} {tg : List Nat} {lo : pz_L} {st : List pz_V} {M : pz_M} {k : Nat} {n : Int}  (hw : pz_wf cc (pc, .iinc k n, len, nx, tg) = true) (h : pz_stp fl ci ct K Rt rz (.iinc k n) nx tg lo st M) : pz_Ok p l e R s m args below meth c cells slots Q nL D ad cy A pc lo st M := by
  obtain ⟨hx, hb, hml, hown, hts, hX⟩ := Y
  obtain ⟨hd, hn, hsl, htk, him⟩ := pz_wf_spec hw
  subst hn
  have hl1 : len = 3 := of_decide_eq_true hsl
  subst hl1
  intro H locs ls hP hS hM hL hst
  obtain ⟨v, hv, h⟩ := pz_get_spec _ _ _ h
  obtain ⟨g1, g2⟩ := pz_lg hL hv
  match v, hv, h, g1, g2 with
  | .inr _, _, h, _, _ => exact h.elim
  | .inl x, hv, h, g1, g2 =>
    have h := h (pz_w (x + n)) rfl (pz_wc _).1 (pz_wc _).2
    obtain ⟨lo', h1, h2, h3, h4, h5⟩ := pz_set_spec _ _ _ _ h
    obtain ⟨j, hj⟩ := pz_pos (ad := ad) hv
    exact lv_iinc hx hb hd hL.has hj (pz_add x n) (by have := hL.2.2.1; omega) rfl (fun ls' hl' => hK _ _ _ _ h1 H locs ls' hP hS hM (pz_LV1 hL (show pz_cv (.inl (pz_w (x + n))) from pz_wc _) h3 h4 h5 hl') hst)
theorem ps_iadd (Y : pz_Y p s m args c cc own nL D ad adV cy A) {K : pz_F} (hK : ∀ pc lo st M, K pc lo st M → pz_Ok p l e R s m args below meth c cells slots Q nL D ad cy A pc lo st M) {fl : Nat → Option (Nat × Nat)} {ci : Nat → Option pz_V} {ct : Bool → Nat → Option pz_C} {Rt : Option pz_V → pz_M → Prop} {rz : Bool} {pc len nx : Nat} {tg : List Nat} {lo : pz_L} {st : List pz_V} {M : pz_M}   (hw : pz_wf cc (pc, .iadd, len, nx, tg) = true) (h : pz_stp fl ci ct K Rt rz (.iadd) nx tg lo st M) : pz_Ok p l e R s m args below meth c cells slots Q nL D ad cy A pc lo st M := by
  obtain ⟨hx, hb, hml, hown, hts, hX⟩ := Y
  obtain ⟨hd, hn, hsl, htk, him⟩ := pz_wf_spec hw
  subst hn
  have hl1 : len = 1 := of_decide_eq_true hsl
  subst hl1
  intro H locs ls hP hS hM hL hst
  obtain ⟨x, y, r, rfl, h⟩ := pz_2_spec h
  obtain ⟨cy1, c2⟩ := pz_tlm hst
  obtain ⟨cx1, c3⟩ := pz_tlm c2
  have h := h (pz_w (x + y)) rfl (pz_wc _).1 (pz_wc _).2
  refine lv_iadd hx hb hd ?_
  rw [pz_add]
  exact hK _ _ _ _ h H locs ls hP hS hM hL (pz_all (pz_wc _) c3)
theorem ps_isub (Y : pz_Y p s m args c cc own nL D ad adV cy A) {K : pz_F} (hK : ∀ pc lo st M, K pc lo st M → pz_Ok p l e R s m args below meth c cells slots Q nL D ad cy A pc lo st M) {fl : Nat → Option (Nat × Nat)} {ci : Nat → Option pz_V} {ct : Bool → Nat → Option pz_C} {Rt : Option pz_V → pz_M → Prop} {rz : Bool} {pc len nx : Nat} {tg : List Nat} {lo : pz_L} {st : List pz_V} {M : pz_M}   (hw : pz_wf cc (pc, .isub, len, nx, tg) = true) (h : pz_stp fl ci ct K Rt rz (.isub) nx tg lo st M) : pz_Ok p l e R s m args below meth c cells slots Q nL D ad cy A pc lo st M := by
  obtain ⟨hx, hb, hml, hown, hts, hX⟩ := Y
  obtain ⟨hd, hn, hsl, htk, him⟩ := pz_wf_spec hw
  subst hn
  have hl1 : len = 1 := of_decide_eq_true hsl
  subst hl1
  intro H locs ls hP hS hM hL hst
  obtain ⟨x, y, r, rfl, h⟩ := pz_2_spec h
  obtain ⟨cy1, c2⟩ := pz_tlm hst
  obtain ⟨cx1, c3⟩ := pz_tlm c2
  have h := h (pz_w (x - y)) rfl (pz_wc _).1 (pz_wc _).2
  refine lv_isub hx hb hd ?_
  rw [pz_sub]
  exact hK _ _ _ _ h H locs ls hP hS hM hL (pz_all (pz_wc _) c3)
theorem ps_imul (Y : pz_Y p s m args c cc own nL D ad adV cy A) {K : pz_F} (hK : ∀ pc lo st M, K pc lo st M → pz_Ok p l e R s m args below meth c cells slots Q nL D ad cy A pc lo st M) {fl : Nat → Option (Nat × Nat)} {ci : Nat → Option pz_V} {ct : Bool → Nat → Option pz_C} {Rt : Option pz_V → pz_M → Prop} {rz : Bool} {pc len nx : Nat} {tg : List Nat} {lo : pz_L} {st : List pz_V} {M : pz_M}   (hw : pz_wf cc (pc, .imul, len, nx, tg) = true) (h : pz_stp fl ci ct K Rt rz (.imul) nx tg lo st M) : pz_Ok p l e R s m args below meth c cells slots Q nL D ad cy A pc lo st M := by
  obtain ⟨hx, hb, hml, hown, hts, hX⟩ := Y
  obtain ⟨hd, hn, hsl, htk, him⟩ := pz_wf_spec hw
  subst hn
  have hl1 : len = 1 := of_decide_eq_true hsl
  subst hl1
  intro H locs ls hP hS hM hL hst
  obtain ⟨x, y, r, rfl, h⟩ := pz_2_spec h
  obtain ⟨cy1, c2⟩ := pz_tlm hst
  obtain ⟨cx1, c3⟩ := pz_tlm c2
  have h := h (pz_w (x * y)) rfl (pz_wc _).1 (pz_wc _).2
  refine lv_imul hx hb hd ?_
  rw [pz_mul]
  exact hK _ _ _ _ h H locs ls hP hS hM hL (pz_all (pz_wc _) c3)
theorem ps_idiv (Y : pz_Y p s m args c cc own nL D ad adV cy A) {K : pz_F} (hK : ∀ pc lo st M, K pc lo st M → pz_Ok p l e R s m args below meth c cells slots Q nL D ad cy A pc lo st M) {fl : Nat → Option (Nat × Nat)} {ci : Nat → Option pz_V} {ct : Bool → Nat → Option pz_C} {Rt : Option pz_V → pz_M → Prop} {rz : Bool} {pc len nx : Nat} {tg : List Nat} {lo : pz_L} {st : List pz_V} {M : pz_M}   (hw : pz_wf cc (pc, .idiv, len, nx, tg) = true) (h : pz_stp fl ci ct K Rt rz (.idiv) nx tg lo st M) : pz_Ok p l e R s m args below meth c cells slots Q nL D ad cy A pc lo st M := by
  obtain ⟨hx, hb, hml, hown, hts, hX⟩ := Y
  obtain ⟨hd, hn, hsl, htk, him⟩ := pz_wf_spec hw
  subst hn
  have hl1 : len = 1 := of_decide_eq_true hsl
  subst hl1
  intro H locs ls hP hS hM hL hst
  obtain ⟨x, y, r, rfl, h⟩ := pz_2_spec h
  obtain ⟨cy1, c2⟩ := pz_tlm hst
  obtain ⟨cx1, c3⟩ := pz_tlm c2
  have h2 := h.2 (pz_w (x.tdiv y)) rfl (pz_wc _).1 (pz_wc _).2
  refine lv_idiv hx hb hd (pz_ne0 cy1 h.1) ?_
  rw [pz_div cx1 cy1]
  exact hK _ _ _ _ h2 H locs ls hP hS hM hL (pz_all (pz_wc _) c3)
theorem ps_irem (Y : pz_Y p s m args c cc own nL D ad adV cy A) {K : pz_F} (hK : ∀ pc lo st M, K pc lo st M → pz_Ok p l e R s m args below meth c cells slots Q nL D ad cy A pc lo st M) {fl : Nat → Option (Nat × Nat)} {ci : Nat → Option pz_V} {ct : Bool → Nat → Option pz_C} {Rt : Option pz_V → pz_M → Prop} {rz : Bool} {pc len nx : Nat} {tg : List Nat} {lo : pz_L} {st : List pz_V} {M : pz_M}   (hw : pz_wf cc (pc, .irem, len, nx, tg) = true) (h : pz_stp fl ci ct K Rt rz (.irem) nx tg lo st M) : pz_Ok p l e R s m args below meth c cells slots Q nL D ad cy A pc lo st M := by
  obtain ⟨hx, hb, hml, hown, hts, hX⟩ := Y
  obtain ⟨hd, hn, hsl, htk, him⟩ := pz_wf_spec hw
  subst hn
  have hl1 : len = 1 := of_decide_eq_true hsl
  subst hl1
  intro H locs ls hP hS hM hL hst
  obtain ⟨x, y, r, rfl, h⟩ := pz_2_spec h
  obtain ⟨cy1, c2⟩ := pz_tlm hst
  obtain ⟨cx1, c3⟩ := pz_tlm c2
  have h2 := h.2 (pz_w (x.tmod y)) rfl (pz_wc _).1 (pz_wc _).2
  refine lv_irem hx hb hd (pz_ne0 cy1 h.1) ?_
  rw [pz_rem cx1 cy1]
  exact hK _ _ _ _ h2 H locs ls hP hS hM hL (pz_all (pz_wc _) c3)
theorem ps_iand (Y : pz_Y p s m args c cc own nL D ad adV cy A) {K : pz_F} (hK : ∀ pc lo st M, K pc lo st M → pz_Ok p l e R s m args below meth c cells slots Q nL D ad cy A pc lo st M) {fl : Nat → Option (Nat × Nat)} {ci : Nat → Option pz_V} {ct : Bool → Nat → Option pz_C} {Rt : Option pz_V → pz_M → Prop} {rz : Bool} {pc len nx : Nat} {tg : List Nat} {lo : pz_L} {st : List pz_V} {M : pz_M}   (hw : pz_wf cc (pc, .iand, len, nx, tg) = true) (h : pz_stp fl ci ct K Rt rz (.iand) nx tg lo st M) : pz_Ok p l e R s m args below meth c cells slots Q nL D ad cy A pc lo st M := by
  obtain ⟨hx, hb, hml, hown, hts, hX⟩ := Y
  obtain ⟨hd, hn, hsl, htk, him⟩ := pz_wf_spec hw
  subst hn
  have hl1 : len = 1 := of_decide_eq_true hsl
  subst hl1
  intro H locs ls hP hS hM hL hst
  obtain ⟨x, y, r, rfl, h⟩ := pz_2_spec h
  obtain ⟨cy1, c2⟩ := pz_tlm hst
  obtain ⟨cx1, c3⟩ := pz_tlm c2
  have h := h _ rfl (pz_tc _).1 (pz_tc _).2
  refine lv_iand hx hb hd ?_
  have h := hK _ _ _ _ h H locs ls hP hS hM hL (pz_all (pz_tc _) c3)
  rw [List.map_cons] at h
  simp only [pz_v, Int32.ofInt_toInt] at h
  exact h
theorem ps_ior (Y : pz_Y p s m args c cc own nL D ad adV cy A) {K : pz_F} (hK : ∀ pc lo st M, K pc lo st M → pz_Ok p l e R s m args below meth c cells slots Q nL D ad cy A pc lo st M) {fl : Nat → Option (Nat × Nat)} {ci : Nat → Option pz_V} {ct : Bool → Nat → Option pz_C} {Rt : Option pz_V → pz_M → Prop} {rz : Bool} {pc len nx : Nat} {tg : List Nat} {lo : pz_L} {st : List pz_V} {M : pz_M}   (hw : pz_wf cc (pc, .ior, len, nx, tg) = true) (h : pz_stp fl ci ct K Rt rz (.ior) nx tg lo st M) : pz_Ok p l e R s m args below meth c cells slots Q nL D ad cy A pc lo st M := by
  obtain ⟨hx, hb, hml, hown, hts, hX⟩ := Y
  obtain ⟨hd, hn, hsl, htk, him⟩ := pz_wf_spec hw
  subst hn
  have hl1 : len = 1 := of_decide_eq_true hsl
  subst hl1
  intro H locs ls hP hS hM hL hst
  obtain ⟨x, y, r, rfl, h⟩ := pz_2_spec h
  obtain ⟨cy1, c2⟩ := pz_tlm hst
  obtain ⟨cx1, c3⟩ := pz_tlm c2
  have h := h _ rfl (pz_tc _).1 (pz_tc _).2
  refine lv_ior hx hb hd ?_
  have h := hK _ _ _ _ h H locs ls hP hS hM hL (pz_all (pz_tc _) c3)
  rw [List.map_cons] at h
  simp only [pz_v, Int32.ofInt_toInt] at h
  exact h
theorem ps_ixor (Y : pz_Y p s m args c cc own nL D ad adV cy A) {K : pz_F} (hK : ∀ pc lo st M, K pc lo st M → pz_Ok p l e R s m args below meth c cells slots Q nL D ad cy A pc lo st M) {fl : Nat → Option (Nat × Nat)} {ci : Nat → Option pz_V} {ct : Bool → Nat → Option pz_C} {Rt : Option pz_V → pz_M → Prop} {rz : Bool} {pc len nx : Nat} {tg : List Nat} {lo : pz_L} {st : List pz_V} {M : pz_M}   (hw : pz_wf cc (pc, .ixor, len, nx, tg) = true) (h : pz_stp fl ci ct K Rt rz (.ixor) nx tg lo st M) : pz_Ok p l e R s m args below meth c cells slots Q nL D ad cy A pc lo st M := by
  obtain ⟨hx, hb, hml, hown, hts, hX⟩ := Y
  obtain ⟨hd, hn, hsl, htk, him⟩ := pz_wf_spec hw
  subst hn
  have hl1 : len = 1 := of_decide_eq_true hsl
  subst hl1
  intro H locs ls hP hS hM hL hst
  obtain ⟨x, y, r, rfl, h⟩ := pz_2_spec h
  obtain ⟨cy1, c2⟩ := pz_tlm hst
  obtain ⟨cx1, c3⟩ := pz_tlm c2
  have h := h _ rfl (pz_tc _).1 (pz_tc _).2
  refine lv_ixor hx hb hd ?_
  have h := hK _ _ _ _ h H locs ls hP hS hM hL (pz_all (pz_tc _) c3)
  rw [List.map_cons] at h
  simp only [pz_v, Int32.ofInt_toInt] at h
  exact h
theorem ps_ishl (Y : pz_Y p s m args c cc own nL D ad adV cy A) {K : pz_F} (hK : ∀ pc lo st M, K pc lo st M → pz_Ok p l e R s m args below meth c cells slots Q nL D ad cy A pc lo st M) {fl : Nat → Option (Nat × Nat)} {ci : Nat → Option pz_V} {ct : Bool → Nat → Option pz_C} {Rt : Option pz_V → pz_M → Prop} {rz : Bool} {pc len nx : Nat} {tg : List Nat} {lo : pz_L} {st : List pz_V} {M : pz_M}   (hw : pz_wf cc (pc, .ishl, len, nx, tg) = true) (h : pz_stp fl ci ct K Rt rz (.ishl) nx tg lo st M) : pz_Ok p l e R s m args below meth c cells slots Q nL D ad cy A pc lo st M := by
  obtain ⟨hx, hb, hml, hown, hts, hX⟩ := Y
  obtain ⟨hd, hn, hsl, htk, him⟩ := pz_wf_spec hw
  subst hn
  have hl1 : len = 1 := of_decide_eq_true hsl
  subst hl1
  intro H locs ls hP hS hM hL hst
  obtain ⟨x, y, r, rfl, h⟩ := pz_2_spec h
  obtain ⟨cy1, c2⟩ := pz_tlm hst
  obtain ⟨cx1, c3⟩ := pz_tlm c2
  have h := h _ rfl (pz_tc _).1 (pz_tc _).2
  refine lv_ishl hx hb hd ?_
  have h := hK _ _ _ _ h H locs ls hP hS hM hL (pz_all (pz_tc _) c3)
  rw [List.map_cons] at h
  simp only [pz_v, Int32.ofInt_toInt] at h
  exact h
theorem ps_ishr (Y : pz_Y p s m args c cc own nL D ad adV cy A) {K : pz_F} (hK : ∀ pc lo st M, K pc lo st M → pz_Ok p l e R s m args below meth c cells slots Q nL D ad cy A pc lo st M) {fl : Nat → Option (Nat × Nat)} {ci : Nat → Option pz_V} {ct : Bool → Nat → Option pz_C} {Rt : Option pz_V → pz_M → Prop} {rz : Bool} {pc len nx : Nat} {tg : List Nat} {lo : pz_L} {st : List pz_V} {M : pz_M}   (hw : pz_wf cc (pc, .ishr, len, nx, tg) = true) (h : pz_stp fl ci ct K Rt rz (.ishr) nx tg lo st M) : pz_Ok p l e R s m args below meth c cells slots Q nL D ad cy A pc lo st M := by
  obtain ⟨hx, hb, hml, hown, hts, hX⟩ := Y
  obtain ⟨hd, hn, hsl, htk, him⟩ := pz_wf_spec hw
  subst hn
  have hl1 : len = 1 := of_decide_eq_true hsl
  subst hl1
  intro H locs ls hP hS hM hL hst
  obtain ⟨x, y, r, rfl, h⟩ := pz_2_spec h
  obtain ⟨cy1, c2⟩ := pz_tlm hst
  obtain ⟨cx1, c3⟩ := pz_tlm c2
  have h := h _ rfl (pz_tc _).1 (pz_tc _).2
  refine lv_ishr hx hb hd ?_
  have h := hK _ _ _ _ h H locs ls hP hS hM hL (pz_all (pz_tc _) c3)
  rw [List.map_cons] at h
  simp only [pz_v, Int32.ofInt_toInt] at h
  exact h
theorem ps_iushr (Y : pz_Y p s m args c cc own nL D ad adV cy A) {K : pz_F} (hK : ∀ pc lo st M, K pc lo st M → pz_Ok p l e R s m args below meth c cells slots Q nL D ad cy A pc lo st M) {fl : Nat → Option (Nat × Nat)} {ci : Nat → Option pz_V} {ct : Bool → Nat → Option pz_C} {Rt : Option pz_V → pz_M → Prop} {rz : Bool} {pc len nx : Nat} {tg : List Nat} {lo : pz_L} {st : List pz_V} {M : pz_M}   (hw : pz_wf cc (pc, .iushr, len, nx, tg) = true) (h : pz_stp fl ci ct K Rt rz (.iushr) nx tg lo st M) : pz_Ok p l e R s m args below meth c cells slots Q nL D ad cy A pc lo st M := by
  obtain ⟨hx, hb, hml, hown, hts, hX⟩ := Y
  obtain ⟨hd, hn, hsl, htk, him⟩ := pz_wf_spec hw
  subst hn
  have hl1 : len = 1 := of_decide_eq_true hsl
  subst hl1
  intro H locs ls hP hS hM hL hst
  obtain ⟨x, y, r, rfl, h⟩ := pz_2_spec h
  obtain ⟨cy1, c2⟩ := pz_tlm hst
  obtain ⟨cx1, c3⟩ := pz_tlm c2
  have h := h _ rfl (pz_tc _).1 (pz_tc _).2
  refine lv_iushr hx hb hd rfl ?_
  have h := hK _ _ _ _ h H locs ls hP hS hM hL (pz_all (pz_tc _) c3)
  rw [List.map_cons] at h
  simp only [pz_v, Int32.ofInt_toInt] at h
  exact h
theorem ps_i2b (Y : pz_Y p s m args c cc own nL D ad adV cy A) {K : pz_F} (hK : ∀ pc lo st M, K pc lo st M → pz_Ok p l e R s m args below meth c cells slots Q nL D ad cy A pc lo st M) {fl : Nat → Option (Nat × Nat)} {ci : Nat → Option pz_V} {ct : Bool → Nat → Option pz_C} {Rt : Option pz_V → pz_M → Prop} {rz : Bool} {pc len nx : Nat} {tg : List Nat} {lo : pz_L} {st : List pz_V} {M : pz_M}   (hw : pz_wf cc (pc, .i2b, len, nx, tg) = true) (h : pz_stp fl ci ct K Rt rz (.i2b) nx tg lo st M) : pz_Ok p l e R s m args below meth c cells slots Q nL D ad cy A pc lo st M := by
  obtain ⟨hx, hb, hml, hown, hts, hX⟩ := Y
  obtain ⟨hd, hn, hsl, htk, him⟩ := pz_wf_spec hw
  subst hn
  have hl1 : len = 1 := of_decide_eq_true hsl
  subst hl1
  intro H locs ls hP hS hM hL hst
  obtain ⟨x, r, rfl, h⟩ := pz_1_spec h
  obtain ⟨c1, c2⟩ := pz_tlm hst
  have h := h _ rfl (pz_tc _).1 (pz_tc _).2
  refine lv_i2b hx hb hd rfl ?_
  have h := hK _ _ _ _ h H locs ls hP hS hM hL (pz_all (pz_tc _) c2)
  rw [List.map_cons] at h
  simp only [pz_v, Int32.ofInt_toInt] at h
  exact h
theorem ps_i2l (Y : pz_Y p s m args c cc own nL D ad adV cy A) {K : pz_F} (hK : ∀ pc lo st M, K pc lo st M → pz_Ok p l e R s m args below meth c cells slots Q nL D ad cy A pc lo st M) {fl : Nat → Option (Nat × Nat)} {ci : Nat → Option pz_V} {ct : Bool → Nat → Option pz_C} {Rt : Option pz_V → pz_M → Prop} {rz : Bool} {pc len nx : Nat} {tg : List Nat} {lo : pz_L} {st : List pz_V} {M : pz_M}   (hw : pz_wf cc (pc, .i2l, len, nx, tg) = true) (h : pz_stp fl ci ct K Rt rz (.i2l) nx tg lo st M) : pz_Ok p l e R s m args below meth c cells slots Q nL D ad cy A pc lo st M := by
  obtain ⟨hx, hb, hml, hown, hts, hX⟩ := Y
  obtain ⟨hd, hn, hsl, htk, him⟩ := pz_wf_spec hw
  subst hn
  have hl1 : len = 1 := of_decide_eq_true hsl
  subst hl1
  intro H locs ls hP hS hM hL hst
  obtain ⟨x, r, rfl, h⟩ := pz_1_spec h
  obtain ⟨c1, c2⟩ := pz_tlm hst
  exact lv_i2l hx hb hd (pz_i2l c1) (hK _ _ _ _ h H locs ls hP hS hM hL (pz_all (show pz_cl x from ⟨by have := c1.1; omega, by have := c1.2; omega⟩) c2))
theorem ps_l2i (Y : pz_Y p s m args c cc own nL D ad adV cy A) {K : pz_F} (hK : ∀ pc lo st M, K pc lo st M → pz_Ok p l e R s m args below meth c cells slots Q nL D ad cy A pc lo st M) {fl : Nat → Option (Nat × Nat)} {ci : Nat → Option pz_V} {ct : Bool → Nat → Option pz_C} {Rt : Option pz_V → pz_M → Prop} {rz : Bool} {pc len nx : Nat} {tg : List Nat} {lo : pz_L} {st : List pz_V} {M : pz_M}   (hw : pz_wf cc (pc, .l2i, len, nx, tg) = true) (h : pz_stp fl ci ct K Rt rz (.l2i) nx tg lo st M) : pz_Ok p l e R s m args below meth c cells slots Q nL D ad cy A pc lo st M := by
  obtain ⟨hx, hb, hml, hown, hts, hX⟩ := Y
  obtain ⟨hd, hn, hsl, htk, him⟩ := pz_wf_spec hw
  subst hn
  have hl1 : len = 1 := of_decide_eq_true hsl
  subst hl1
  intro H locs ls hP hS hM hL hst
  obtain ⟨x, r, rfl, h⟩ := pz_l1_spec h
  obtain ⟨c1, c2⟩ := pz_tlm hst
  have h := h _ rfl (pz_wc _).1 (pz_wc _).2
  exact lv_l2i hx hb hd (pz_l2i c1) (hK _ _ _ _ h H locs ls hP hS hM hL (pz_all (pz_wc _) c2))
theorem ps_ladd (Y : pz_Y p s m args c cc own nL D ad adV cy A) {K : pz_F} (hK : ∀ pc lo st M, K pc lo st M → pz_Ok p l e R s m args below meth c cells slots Q nL D ad cy A pc lo st M) {fl : Nat → Option (Nat × Nat)} {ci : Nat → Option pz_V} {ct : Bool → Nat → Option pz_C} {Rt : Option pz_V → pz_M → Prop} {rz : Bool} {pc len nx : Nat} {tg : List Nat} {lo : pz_L} {st : List pz_V} {M : pz_M}   (hw : pz_wf cc (pc, .ladd, len, nx, tg) = true) (h : pz_stp fl ci ct K Rt rz (.ladd) nx tg lo st M) : pz_Ok p l e R s m args below meth c cells slots Q nL D ad cy A pc lo st M := by
  obtain ⟨hx, hb, hml, hown, hts, hX⟩ := Y
  obtain ⟨hd, hn, hsl, htk, him⟩ := pz_wf_spec hw
  subst hn
  have hl1 : len = 1 := of_decide_eq_true hsl
  subst hl1
  intro H locs ls hP hS hM hL hst
  obtain ⟨x, y, r, rfl, h⟩ := pz_l2_spec h
  obtain ⟨cy1, c2⟩ := pz_tlm hst
  obtain ⟨cx1, c3⟩ := pz_tlm c2
  have h := h (pz_wl (x + y)) rfl (pz_wlc _).1 (pz_wlc _).2
  refine lv_ladd hx hb hd ?_
  rw [pz_ladd]
  exact hK _ _ _ _ h H locs ls hP hS hM hL (pz_all (pz_wlc _) c3)
theorem ps_lsub (Y : pz_Y p s m args c cc own nL D ad adV cy A) {K : pz_F} (hK : ∀ pc lo st M, K pc lo st M → pz_Ok p l e R s m args below meth c cells slots Q nL D ad cy A pc lo st M) {fl : Nat → Option (Nat × Nat)} {ci : Nat → Option pz_V} {ct : Bool → Nat → Option pz_C} {Rt : Option pz_V → pz_M → Prop} {rz : Bool} {pc len nx : Nat} {tg : List Nat} {lo : pz_L} {st : List pz_V} {M : pz_M}   (hw : pz_wf cc (pc, .lsub, len, nx, tg) = true) (h : pz_stp fl ci ct K Rt rz (.lsub) nx tg lo st M) : pz_Ok p l e R s m args below meth c cells slots Q nL D ad cy A pc lo st M := by
  obtain ⟨hx, hb, hml, hown, hts, hX⟩ := Y
  obtain ⟨hd, hn, hsl, htk, him⟩ := pz_wf_spec hw
  subst hn
  have hl1 : len = 1 := of_decide_eq_true hsl
  subst hl1
  intro H locs ls hP hS hM hL hst
  obtain ⟨x, y, r, rfl, h⟩ := pz_l2_spec h
  obtain ⟨cy1, c2⟩ := pz_tlm hst
  obtain ⟨cx1, c3⟩ := pz_tlm c2
  have h := h (pz_wl (x - y)) rfl (pz_wlc _).1 (pz_wlc _).2
  refine lv_lsub hx hb hd ?_
  rw [pz_lsub]
  exact hK _ _ _ _ h H locs ls hP hS hM hL (pz_all (pz_wlc _) c3)
theorem ps_lmul (Y : pz_Y p s m args c cc own nL D ad adV cy A) {K : pz_F} (hK : ∀ pc lo st M, K pc lo st M → pz_Ok p l e R s m args below meth c cells slots Q nL D ad cy A pc lo st M) {fl : Nat → Option (Nat × Nat)} {ci : Nat → Option pz_V} {ct : Bool → Nat → Option pz_C} {Rt : Option pz_V → pz_M → Prop} {rz : Bool} {pc len nx : Nat} {tg : List Nat} {lo : pz_L} {st : List pz_V} {M : pz_M}   (hw : pz_wf cc (pc, .lmul, len, nx, tg) = true) (h : pz_stp fl ci ct K Rt rz (.lmul) nx tg lo st M) : pz_Ok p l e R s m args below meth c cells slots Q nL D ad cy A pc lo st M := by
  obtain ⟨hx, hb, hml, hown, hts, hX⟩ := Y
  obtain ⟨hd, hn, hsl, htk, him⟩ := pz_wf_spec hw
  subst hn
  have hl1 : len = 1 := of_decide_eq_true hsl
  subst hl1
  intro H locs ls hP hS hM hL hst
  obtain ⟨x, y, r, rfl, h⟩ := pz_l2_spec h
  obtain ⟨cy1, c2⟩ := pz_tlm hst
  obtain ⟨cx1, c3⟩ := pz_tlm c2
  have h := h (pz_wl (x * y)) rfl (pz_wlc _).1 (pz_wlc _).2
  refine lv_lmul hx hb hd ?_
  rw [pz_lmul]
  exact hK _ _ _ _ h H locs ls hP hS hM hL (pz_all (pz_wlc _) c3)
theorem ps_ldiv (Y : pz_Y p s m args c cc own nL D ad adV cy A) {K : pz_F} (hK : ∀ pc lo st M, K pc lo st M → pz_Ok p l e R s m args below meth c cells slots Q nL D ad cy A pc lo st M) {fl : Nat → Option (Nat × Nat)} {ci : Nat → Option pz_V} {ct : Bool → Nat → Option pz_C} {Rt : Option pz_V → pz_M → Prop} {rz : Bool} {pc len nx : Nat} {tg : List Nat} {lo : pz_L} {st : List pz_V} {M : pz_M}   (hw : pz_wf cc (pc, .ldiv, len, nx, tg) = true) (h : pz_stp fl ci ct K Rt rz (.ldiv) nx tg lo st M) : pz_Ok p l e R s m args below meth c cells slots Q nL D ad cy A pc lo st M := by
  obtain ⟨hx, hb, hml, hown, hts, hX⟩ := Y
  obtain ⟨hd, hn, hsl, htk, him⟩ := pz_wf_spec hw
  subst hn
  have hl1 : len = 1 := of_decide_eq_true hsl
  subst hl1
  intro H locs ls hP hS hM hL hst
  obtain ⟨x, y, r, rfl, h⟩ := pz_l2_spec h
  obtain ⟨cy1, c2⟩ := pz_tlm hst
  obtain ⟨cx1, c3⟩ := pz_tlm c2
  have h2 := h.2 (pz_wl (x.tdiv y)) rfl (pz_wlc _).1 (pz_wlc _).2
  refine lv_ldiv hx hb hd (pz_lne0 cy1 h.1) ?_
  rw [pz_ldiv cx1 cy1]
  exact hK _ _ _ _ h2 H locs ls hP hS hM hL (pz_all (pz_wlc _) c3)
theorem ps_lcmp (Y : pz_Y p s m args c cc own nL D ad adV cy A) {K : pz_F} (hK : ∀ pc lo st M, K pc lo st M → pz_Ok p l e R s m args below meth c cells slots Q nL D ad cy A pc lo st M) {fl : Nat → Option (Nat × Nat)} {ci : Nat → Option pz_V} {ct : Bool → Nat → Option pz_C} {Rt : Option pz_V → pz_M → Prop} {rz : Bool} {pc len nx : Nat} {tg : List Nat} {lo : pz_L} {st : List pz_V} {M : pz_M}   (hw : pz_wf cc (pc, .lcmp, len, nx, tg) = true) (h : pz_stp fl ci ct K Rt rz (.lcmp) nx tg lo st M) : pz_Ok p l e R s m args below meth c cells slots Q nL D ad cy A pc lo st M := by
  obtain ⟨hx, hb, hml, hown, hts, hX⟩ := Y
  obtain ⟨hd, hn, hsl, htk, him⟩ := pz_wf_spec hw
  subst hn
  have hl1 : len = 1 := of_decide_eq_true hsl
  subst hl1
  intro H locs ls hP hS hM hL hst
  obtain ⟨x, y, r, rfl, h⟩ := pz_l2_spec h
  obtain ⟨cy1, c2⟩ := pz_tlm hst
  obtain ⟨cx1, c3⟩ := pz_tlm c2
  refine W.lcmp hx hb hd ?_
  obtain ⟨e1, e2, e3⟩ := pz_lcmp cx1 cy1
  rcases Int.lt_trichotomy x y with q | q | q
  · rw [e1 q]
    exact hK _ _ _ _ (h.1 q) H locs ls hP hS hM hL (pz_all (show pz_c (-1) by unfold pz_c; omega) c3)
  · rw [e2 q]
    exact hK _ _ _ _ (h.2.1 q) H locs ls hP hS hM hL (pz_all (show pz_c 0 by unfold pz_c; omega) c3)
  · rw [e3 q]
    exact hK _ _ _ _ (h.2.2 q) H locs ls hP hS hM hL (pz_all (show pz_c 1 by unfold pz_c; omega) c3)
theorem ps_dup (Y : pz_Y p s m args c cc own nL D ad adV cy A) {K : pz_F} (hK : ∀ pc lo st M, K pc lo st M → pz_Ok p l e R s m args below meth c cells slots Q nL D ad cy A pc lo st M) {fl : Nat → Option (Nat × Nat)} {ci : Nat → Option pz_V} {ct : Bool → Nat → Option pz_C} {Rt : Option pz_V → pz_M → Prop} {rz : Bool} {pc len nx : Nat} {tg : List Nat} {lo : pz_L} {st : List pz_V} {M : pz_M}   (hw : pz_wf cc (pc, .dup, len, nx, tg) = true) (h : pz_stp fl ci ct K Rt rz (.dup) nx tg lo st M) : pz_Ok p l e R s m args below meth c cells slots Q nL D ad cy A pc lo st M := by
  obtain ⟨hx, hb, hml, hown, hts, hX⟩ := Y
  obtain ⟨hd, hn, hsl, htk, him⟩ := pz_wf_spec hw
  subst hn
  have hl1 : len = 1 := of_decide_eq_true hsl
  subst hl1
  intro H locs ls hP hS hM hL hst
  match st, h, hst with
  | [], h, _ => exact h.elim
  | v :: r, h, hst =>
    obtain ⟨h1, h2⟩ := pz_b_spec h
    obtain ⟨c1, c2⟩ := pz_tlm hst
    exact lv_dup hx hb hd (by rw [pz_v_cat]; exact Nat.eq_of_beq_eq_true h1) (hK _ _ _ _ h2 H locs ls hP hS hM hL (pz_all c1 (pz_all c1 c2)))
theorem ps_pop (Y : pz_Y p s m args c cc own nL D ad adV cy A) {K : pz_F} (hK : ∀ pc lo st M, K pc lo st M → pz_Ok p l e R s m args below meth c cells slots Q nL D ad cy A pc lo st M) {fl : Nat → Option (Nat × Nat)} {ci : Nat → Option pz_V} {ct : Bool → Nat → Option pz_C} {Rt : Option pz_V → pz_M → Prop} {rz : Bool} {pc len nx : Nat} {tg : List Nat} {lo : pz_L} {st : List pz_V} {M : pz_M}   (hw : pz_wf cc (pc, .pop, len, nx, tg) = true) (h : pz_stp fl ci ct K Rt rz (.pop) nx tg lo st M) : pz_Ok p l e R s m args below meth c cells slots Q nL D ad cy A pc lo st M := by
  obtain ⟨hx, hb, hml, hown, hts, hX⟩ := Y
  obtain ⟨hd, hn, hsl, htk, him⟩ := pz_wf_spec hw
  subst hn
  have hl1 : len = 1 := of_decide_eq_true hsl
  subst hl1
  intro H locs ls hP hS hM hL hst
  match st, h, hst with
  | [], h, _ => exact h.elim
  | v :: r, h, hst =>
    obtain ⟨h1, h2⟩ := pz_b_spec h
    obtain ⟨c1, c2⟩ := pz_tlm hst
    exact lv_pop hx hb hd (by rw [pz_v_cat]; exact Nat.eq_of_beq_eq_true h1) (hK _ _ _ _ h2 H locs ls hP hS hM hL c2)
theorem ps_dup2 (Y : pz_Y p s m args c cc own nL D ad adV cy A) {K : pz_F} (hK : ∀ pc lo st M, K pc lo st M → pz_Ok p l e R s m args below meth c cells slots Q nL D ad cy A pc lo st M) {fl : Nat → Option (Nat × Nat)} {ci : Nat → Option pz_V} {ct : Bool → Nat → Option pz_C} {Rt : Option pz_V → pz_M → Prop} {rz : Bool} {pc len nx : Nat} {tg : List Nat} {lo : pz_L} {st : List pz_V} {M : pz_M}   (hw : pz_wf cc (pc, .dup2, len, nx, tg) = true) (h : pz_stp fl ci ct K Rt rz (.dup2) nx tg lo st M) : pz_Ok p l e R s m args below meth c cells slots Q nL D ad cy A pc lo st M := by
  obtain ⟨hx, hb, hml, hown, hts, hX⟩ := Y
  obtain ⟨hd, hn, hsl, htk, him⟩ := pz_wf_spec hw
  subst hn
  have hl1 : len = 1 := of_decide_eq_true hsl
  subst hl1
  intro H locs ls hP hS hM hL hst
  match st, h, hst with
  | [], h, _ => exact h.elim
  | [v], h, _ => exact h.elim
  | v :: u :: r, h, hst =>
    obtain ⟨h1, h⟩ := pz_b_spec h
    obtain ⟨h2, h⟩ := pz_b_spec h
    obtain ⟨c1, c2⟩ := pz_tlm hst
    obtain ⟨d1, d2⟩ := pz_tlm c2
    exact lv_dup2_11 hx hb hd (by rw [pz_v_cat]; exact Nat.eq_of_beq_eq_true h1) (by rw [pz_v_cat]; exact Nat.eq_of_beq_eq_true h2) (hK _ _ _ _ h H locs ls hP hS hM hL (pz_all c1 (pz_all d1 (pz_all c1 (pz_all d1 d2)))))
theorem ps_goto (Y : pz_Y p s m args c cc own nL D ad adV cy A) {K : pz_F} (hK : ∀ pc lo st M, K pc lo st M → pz_Ok p l e R s m args below meth c cells slots Q nL D ad cy A pc lo st M) {fl : Nat → Option (Nat × Nat)} {ci : Nat → Option pz_V} {ct : Bool → Nat → Option pz_C} {Rt : Option pz_V → pz_M → Prop} {rz : Bool} {pc len nx : Nat} {tg : List Nat} {lo : pz_L} {st : List pz_V} {M : pz_M} {o : Int}  (hw : pz_wf cc (pc, .goto o, len, nx, tg) = true) (h : pz_stp fl ci ct K Rt rz (.goto o) nx tg lo st M) : pz_Ok p l e R s m args below meth c cells slots Q nL D ad cy A pc lo st M := by
  obtain ⟨hx, hb, hml, hown, hts, hX⟩ := Y
  obtain ⟨hd, hn, hsl, htk, him⟩ := pz_wf_spec hw
  subst hn
  have hl1 : len = 3 := of_decide_eq_true hsl
  subst hl1
  intro H locs ls hP hS hM hL hst
  match tg, htk, h with
  | [], htk, h => exact h.elim
  | _ :: _ :: _, htk, h => simp [pz_tok] at htk
  | [t], htk, h =>
    simp only [pz_tok, decide_eq_true_eq] at htk
    exact lv_goto hx hb hd htk (hK _ _ _ _ h H locs ls hP hS hM hL hst)
theorem ps_ifCond (Y : pz_Y p s m args c cc own nL D ad adV cy A) {K : pz_F} (hK : ∀ pc lo st M, K pc lo st M → pz_Ok p l e R s m args below meth c cells slots Q nL D ad cy A pc lo st M) {fl : Nat → Option (Nat × Nat)} {ci : Nat → Option pz_V} {ct : Bool → Nat → Option pz_C} {Rt : Option pz_V → pz_M → Prop} {rz : Bool} {pc len nx : Nat} {tg : List Nat} {lo : pz_L} {st : List pz_V} {M : pz_M} {b : Jvm.ClassFile.Cond} {o : Int}  (hw : pz_wf cc (pc, .ifCond b o, len, nx, tg) = true) (h : pz_stp fl ci ct K Rt rz (.ifCond b o) nx tg lo st M) : pz_Ok p l e R s m args below meth c cells slots Q nL D ad cy A pc lo st M := by
  obtain ⟨hx, hb, hml, hown, hts, hX⟩ := Y
  obtain ⟨hd, hn, hsl, htk, him⟩ := pz_wf_spec hw
  subst hn
  have hl1 : len = 3 := of_decide_eq_true hsl
  subst hl1
  intro H locs ls hP hS hM hL hst
  match tg, htk, h with
  | [], htk, h => exact h.elim
  | _ :: _ :: _, htk, h => simp [pz_tok] at htk
  | [t], htk, h =>
    have htk2 : (pc : Int) + o = (t : Int) := of_decide_eq_true htk
    clear htk
    obtain ⟨x, r, rfl, h⟩ := pz_1_spec h
    obtain ⟨cx1, c2⟩ := pz_tlm hst
    have c0 : pz_c 0 := by unfold pz_c; omega
    have e0 : (0 : Int32) = Int32.ofInt 0 := rfl
    cases b with
    | eq => exact lv_if_eq hx hb hd htk2 (fun q => hK _ _ _ _ (h.1 ((pz_eq cx1 c0).mp q)) H locs ls hP hS hM hL c2) (fun q => hK _ _ _ _ (h.2 (fun z => q ((pz_eq cx1 c0).mpr z))) H locs ls hP hS hM hL c2)
    | ne => exact lv_if_ne hx hb hd htk2 (fun q => hK _ _ _ _ (h.1 (fun z => q ((pz_eq cx1 c0).mpr z))) H locs ls hP hS hM hL c2) (fun q => hK _ _ _ _ (h.2 ((pz_eq cx1 c0).mp q)) H locs ls hP hS hM hL c2)
    | lt => exact lv_if_lt hx hb hd htk2 (fun q => hK _ _ _ _ (h.1 ((pz_lt cx1 c0).mp q)) H locs ls hP hS hM hL c2) (fun q => hK _ _ _ _ (h.2 (fun z => q ((pz_lt cx1 c0).mpr z))) H locs ls hP hS hM hL c2)
    | ge => exact lv_if_ge hx hb hd htk2 (fun q => hK _ _ _ _ (h.1 (by have := (pz_le c0 cx1).mp q; omega)) H locs ls hP hS hM hL c2) (fun q => hK _ _ _ _ (h.2 (Int.lt_of_not_ge (fun z => q ((pz_le c0 cx1).mpr z)))) H locs ls hP hS hM hL c2)
    | gt => exact lv_if_gt hx hb hd htk2 (fun q => hK _ _ _ _ (h.1 ((pz_lt c0 cx1).mp q)) H locs ls hP hS hM hL c2) (fun q => hK _ _ _ _ (h.2 (fun z => q ((pz_lt c0 cx1).mpr z))) H locs ls hP hS hM hL c2)
    | le => exact lv_if_le hx hb hd htk2 (fun q => hK _ _ _ _ (h.1 (by have := (pz_le cx1 c0).mp q; omega)) H locs ls hP hS hM hL c2) (fun q => hK _ _ _ _ (h.2 (Int.lt_of_not_ge (fun z => q ((pz_le cx1 c0).mpr z)))) H locs ls hP hS hM hL c2)

theorem ps_if_icmp (Y : pz_Y p s m args c cc own nL D ad adV cy A) {K : pz_F} (hK : ∀ pc lo st M, K pc lo st M → pz_Ok p l e R s m args below meth c cells slots Q nL D ad cy A pc lo st M) {fl : Nat → Option (Nat × Nat)} {ci : Nat → Option pz_V} {ct : Bool → Nat → Option pz_C} {Rt : Option pz_V → pz_M → Prop} {rz : Bool} {pc len nx : Nat} {tg : List Nat} {lo : pz_L} {st : List pz_V} {M : pz_M} {b : Jvm.ClassFile.Cond} {o : Int}  (hw : pz_wf cc (pc, .if_icmp b o, len, nx, tg) = true) (h : pz_stp fl ci ct K Rt rz (.if_icmp b o) nx tg lo st M) : pz_Ok p l e R s m args below meth c cells slots Q nL D ad cy A pc lo st M := by
  obtain ⟨hx, hb, hml, hown, hts, hX⟩ := Y
  obtain ⟨hd, hn, hsl, htk, him⟩ := pz_wf_spec hw
  subst hn
  have hl1 : len = 3 := of_decide_eq_true hsl
  subst hl1
  intro H locs ls hP hS hM hL hst
  match tg, htk, h with
  | [], htk, h => exact h.elim
  | _ :: _ :: _, htk, h => simp [pz_tok] at htk
  | [t], htk, h =>
    have htk2 : (pc : Int) + o = (t : Int) := of_decide_eq_true htk
    clear htk
    obtain ⟨x, y, r, rfl, h⟩ := pz_2_spec h
    obtain ⟨cy1, c1⟩ := pz_tlm hst
    obtain ⟨cx1, c2⟩ := pz_tlm c1
    cases b with
    | eq => exact lv_icmp_eq hx hb hd htk2 (fun q => hK _ _ _ _ (h.1 ((pz_eq cx1 cy1).mp q)) H locs ls hP hS hM hL c2) (fun q => hK _ _ _ _ (h.2 (fun z => q ((pz_eq cx1 cy1).mpr z))) H locs ls hP hS hM hL c2)
    | ne => exact lv_icmp_ne hx hb hd htk2 (fun q => hK _ _ _ _ (h.1 (fun z => q ((pz_eq cx1 cy1).mpr z))) H locs ls hP hS hM hL c2) (fun q => hK _ _ _ _ (h.2 ((pz_eq cx1 cy1).mp q)) H locs ls hP hS hM hL c2)
    | lt => exact lv_icmp_lt hx hb hd htk2 (fun q => hK _ _ _ _ (h.1 ((pz_lt cx1 cy1).mp q)) H locs ls hP hS hM hL c2) (fun q => hK _ _ _ _ (h.2 (fun z => q ((pz_lt cx1 cy1).mpr z))) H locs ls hP hS hM hL c2)
    | ge => exact lv_icmp_ge hx hb hd htk2 (fun q => hK _ _ _ _ (h.1 (by have := (pz_le cy1 cx1).mp q; omega)) H locs ls hP hS hM hL c2) (fun q => hK _ _ _ _ (h.2 (Int.lt_of_not_ge (fun z => q ((pz_le cy1 cx1).mpr z)))) H locs ls hP hS hM hL c2)
    | gt => exact lv_icmp_gt hx hb hd htk2 (fun q => hK _ _ _ _ (h.1 ((pz_lt cy1 cx1).mp q)) H locs ls hP hS hM hL c2) (fun q => hK _ _ _ _ (h.2 (fun z => q ((pz_lt cy1 cx1).mpr z))) H locs ls hP hS hM hL c2)
    | le => exact lv_icmp_le hx hb hd htk2 (fun q => hK _ _ _ _ (h.1 (by have := (pz_le cx1 cy1).mp q; omega)) H locs ls hP hS hM hL c2) (fun q => hK _ _ _ _ (h.2 (Int.lt_of_not_ge (fun z => q ((pz_le cx1 cy1).mpr z)))) H locs ls hP hS hM hL c2)

end PZT
end
section
section PZU
variable {p : Program} {l : Launch} {e : Env} {R : Room} {s : State} {m : MethodId} {args : Array Value} {below : List Frame} {meth : Method} {c : Code} {cells slots : Nat} {Q : State → Prop}
variable {cc : ByteArray} {own : String} {nL : Nat} {D : va_G} {ad adV : Nat → Nat} {cy : Nat → ClassId} {A : Nat → Prop}
theorem pz_sw_spec {x : Int} {K : Nat → Prop} : ∀ (ts : List Nat) (lo : Int), pz_sw x lo K ts → ∀ (j t : Nat), ts[j]? = some t → x = lo + j → K t
  | [], _, _, j, t, e, _ => by simp at e
  | a :: ts, lo, h, 0, t, e, hx => by
    simp at e; subst e
    exact h.1 (by omega)
  | a :: ts, lo, h, j + 1, t, e, hx => pz_sw_spec ts (lo + 1) h.2 j t (by simpa using e) (by push_cast at hx; omega)
theorem pz_off {x : Int} {K : Nat → Prop} {P : Prop} {pc : Nat} {d : Int} {dt : Nat} (hdt : (pc : Int) + d = dt) : ∀ (ps : List (Int × Int)) (ts : List Nat), pz_lk x K ps ts → pz_nk x P ps → (∀ h : P, P) → (ps.map (·.2)).map (fun o => (pc : Int) + o) = ts.map Int.ofNat → (∃ t : Nat, (pc : Int) + Op.lookupswitch.offset ps d x = t ∧ (K t ∨ (P ∧ t = dt)))
  | [], ts, _, h2, _, _ => ⟨dt, by simp [Op.lookupswitch.offset, hdt], Or.inr ⟨h2, rfl⟩⟩
  | q :: ps, [], _, _, _, e => by simp at e
  | q :: ps, t :: ts, h1, h2, hp, e => by
    simp only [List.map_cons, List.cons.injEq] at e
    by_cases hx : x = q.1
    · refine ⟨t, ?_, Or.inl (h1.1 hx)⟩
      subst hx
      simp [Op.lookupswitch.offset]
      exact e.1
    · obtain ⟨t2, e2, e3⟩ := pz_off hdt ps ts h1.2 (h2 hx) hp e.2
      refine ⟨t2, ?_, e3⟩
      have hx2 : ¬ q.1 = x := fun z => hx z.symm
      simp [Op.lookupswitch.offset, hx2] at e2 ⊢
      exact e2
theorem pz_al_spec {q : Nat × Nat} {t : Nat} {i : Int} {P : Prop} (h : pz_al q t i P) : q.1 = t ∧ 0 ≤ i ∧ i < (q.2 : Int) ∧ P := by
  unfold pz_al at h
  cases hb : Nat.beq q.1 t with
  | true => rw [hb] at h; exact ⟨Nat.eq_of_beq_eq_true hb, h⟩
  | false => rw [hb] at h; exact h.elim
theorem pz_aal_spec {kd : Nat} {i : Int} {K : Nat → Prop} (h : pz_aal kd i K) : (kd = 29 ∧ 0 ≤ i ∧ i < 12 ∧ K 5) ∨ (kd = 30 ∧ 0 ≤ i ∧ i < 6 ∧ K 0) := by
  unfold pz_aal at h
  split at h
  · exact Or.inl ⟨rfl, h⟩
  · exact Or.inr ⟨rfl, h⟩
  · exact h.elim
theorem pz_wse {ad : Nat → Nat} {cy : Nat → ClassId} {M : pz_M} {a kd : Nat} (hkd : pz_kd a = kd) (hlt : a < 206) (h13 : ¬ kd < 13) (h2 : (pz_ak kd).1 < 2) : (pz_ws ad cy M)[a]? = some (ad a, .inl (cy (pz_ak kd).1, (pz_ak kd).2, .inl (fun j => Int32.ofInt (M a j)))) := by
  rw [pz_ws_get hlt]
  unfold pz_en
  rw [hkd, if_neg h13, if_pos h2]
  rfl
theorem pz_wsq {ad : Nat → Nat} {cy : Nat → ClassId} {M : pz_M} {a kd : Nat} (hkd : pz_kd a = kd) (hlt : a < 206) (h13 : ¬ kd < 13) (h2 : ¬ (pz_ak kd).1 < 2) : (pz_ws ad cy M)[a]? = some (ad a, .inl (cy (pz_ak kd).1, (pz_ak kd).2, .inr (.inr (.inr (.inr (fun j => some (ad (pz_rf a j)))))))) := by
  rw [pz_ws_get hlt]
  unfold pz_en
  rw [hkd, if_neg h13, if_neg h2]
  rfl
theorem pz_wso {ad : Nat → Nat} {cy : Nat → ClassId} {M : pz_M} {a kd : Nat} (hkd : pz_kd a = kd) (hlt : a < 206) (h13 : kd < 13) : (pz_ws ad cy M)[a]? = some (ad a, .inr (kd, (List.range (pz_nf kd)).map (pz_fv ad M a kd))) := by
  rw [pz_ws_get hlt]
  unfold pz_en
  rw [hkd, if_pos h13]
  rfl
theorem pz_ak_of {kd t n : Nat} (h : pz_ak kd = (t, n)) (ht : t < 9) : 13 ≤ kd ∧ kd < 31 ∧ (t = 2 → kd = 29) ∧ (t = 3 → kd = 30) ∧ (kd = 29 → n = 12) ∧ (kd = 30 → n = 6) := by
  have h31 : kd < 31 ∨ 31 ≤ kd := Nat.lt_or_ge kd 31
  rcases h31 with h31 | h31
  · have key : ∀ k, k < 31 → ((pz_ak k).1 < 9 → 13 ≤ k ∧ ((pz_ak k).1 = 2 → k = 29) ∧ ((pz_ak k).1 = 3 → k = 30) ∧ (k = 29 → (pz_ak k).2 = 12) ∧ (k = 30 → (pz_ak k).2 = 6)) := by decide +kernel
    have k2 := key kd h31
    rw [h] at k2
    obtain ⟨a1, a2, a3, a4, a5⟩ := k2 ht
    exact ⟨a1, h31, a2, a3, a4, a5⟩
  · exfalso
    have e : pz_ak kd = (9, 0) := by
      unfold pz_ak
      split <;> first | omega | rfl
    rw [e] at h
    cases h
    omega

theorem ps_tableswitch (Y : pz_Y p s m args c cc own nL D ad adV cy A) {K : pz_F} (hK : ∀ pc lo st M, K pc lo st M → pz_Ok p l e R s m args below meth c cells slots Q nL D ad cy A pc lo st M) {fl : Nat → Option (Nat × Nat)} {ci : Nat → Option pz_V} {ct : Bool → Nat → Option pz_C} {Rt : Option pz_V → pz_M → Prop} {rz : Bool} {pc len nx : Nat} {tg : List Nat} {lo : pz_L} {st : List pz_V} {M : pz_M} {d low high : Int} {os : Array Int}  (hw : pz_wf cc (pc, .tableswitch d low high os, len, nx, tg) = true) (h : pz_stp fl ci ct K Rt rz (.tableswitch d low high os) nx tg lo st M) : pz_Ok p l e R s m args below meth c cells slots Q nL D ad cy A pc lo st M := by
  obtain ⟨hx, hb, hml, hown, hts, hX⟩ := Y
  obtain ⟨hd, hn, hsl, htk, him⟩ := pz_wf_spec hw
  subst hn
  intro H locs ls hP hS hM hL hst
  match tg, htk, h with
  | [], htk, h => exact h.elim
  | dt :: ts, htk, h =>
    obtain ⟨x, r, rfl, h1, h2⟩ := pz_1_spec h
    obtain ⟨c1, c2⟩ := pz_tlm hst
    simp only [pz_tok, Bool.and_eq_true, decide_eq_true_eq, List.map_cons, List.cons.injEq] at htk
    obtain ⟨⟨hdt, hts2⟩, hsz⟩ := htk
    have hti := pz_ti c1
    by_cases ho : x < low ∨ high < x
    · exact lv_tableOut hx hb hd (by rw [hti]; exact ho) hdt (hK _ _ _ _ (h2 ho) H locs ls hP hS hM hL c2)
    · have hj : (x - low).toNat < os.toList.length := by omega
      obtain ⟨off, hoff⟩ : ∃ off, os.toList[(x - low).toNat]? = some off := ⟨_, List.getElem?_eq_getElem hj⟩
      have e1 := congrArg (fun z : List Int => z[(x - low).toNat]?) hts2
      simp only [List.getElem?_map, hoff, Option.map_some] at e1
      cases ht : ts[(x - low).toNat]? with
      | none => rw [ht] at e1; cases e1
      | some t =>
        rw [ht] at e1
        simp only [Option.map_some, Option.some.injEq] at e1
        exact lv_tableIn hx hb hd (off := off) (by rw [hti]; omega) (by rw [hti]; omega) (by rw [hti, ← Array.getElem?_toList]; exact hoff) e1 (hK _ _ _ _ (pz_sw_spec ts low h1 _ t ht (by omega)) H locs ls hP hS hM hL c2)
theorem ps_lookupswitch (Y : pz_Y p s m args c cc own nL D ad adV cy A) {K : pz_F} (hK : ∀ pc lo st M, K pc lo st M → pz_Ok p l e R s m args below meth c cells slots Q nL D ad cy A pc lo st M) {fl : Nat → Option (Nat × Nat)} {ci : Nat → Option pz_V} {ct : Bool → Nat → Option pz_C} {Rt : Option pz_V → pz_M → Prop} {rz : Bool} {pc len nx : Nat} {tg : List Nat} {lo : pz_L} {st : List pz_V} {M : pz_M} {d : Int} {ps : Array (Int × Int)}  (hw : pz_wf cc (pc, .lookupswitch d ps, len, nx, tg) = true) (h : pz_stp fl ci ct K Rt rz (.lookupswitch d ps) nx tg lo st M) : pz_Ok p l e R s m args below meth c cells slots Q nL D ad cy A pc lo st M := by
  obtain ⟨hx, hb, hml, hown, hts, hX⟩ := Y
  obtain ⟨hd, hn, hsl, htk, him⟩ := pz_wf_spec hw
  subst hn
  intro H locs ls hP hS hM hL hst
  match tg, htk, h with
  | [], htk, h => exact h.elim
  | dt :: ts, htk, h =>
    obtain ⟨x, r, rfl, h1, h2⟩ := pz_1_spec h
    obtain ⟨c1, c2⟩ := pz_tlm hst
    simp only [pz_tok, Bool.and_eq_true, decide_eq_true_eq, List.map_cons, List.cons.injEq] at htk
    obtain ⟨⟨hdt, hts2⟩, hsz⟩ := htk
    have hti := pz_ti c1
    obtain ⟨t, e1, e2⟩ := pz_off (x := x) (d := d) (dt := dt) hdt ps.toList ts h1 h2 id hts2
    refine lv_lookup hx hb hd (off := Op.lookupswitch.offset ps.toList d x) (tgt := t) ?_ (by rw [hti]) e1 ?_
    · exact hsz
    · rcases e2 with e2 | ⟨e2, rfl⟩
      · exact hK _ _ _ _ e2 H locs ls hP hS hM hL c2
      · exact hK _ _ _ _ e2 H locs ls hP hS hM hL c2
theorem ps_getfield (Y : pz_Y p s m args c cc own nL D ad adV cy A) {K : pz_F} (hK : ∀ pc lo st M, K pc lo st M → pz_Ok p l e R s m args below meth c cells slots Q nL D ad cy A pc lo st M) {fl : Nat → Option (Nat × Nat)} {ci : Nat → Option pz_V} {ct : Bool → Nat → Option pz_C} {Rt : Option pz_V → pz_M → Prop} {rz : Bool} {pc len nx : Nat} {tg : List Nat} {lo : pz_L} {st : List pz_V} {M : pz_M} {i : Nat} (hfl : ∀ i q, fl i = some q → pz_flok own (i, q)) (hw : pz_wf cc (pc, .getfield i, len, nx, tg) = true) (h : pz_stp fl ci ct K Rt rz (.getfield i) nx tg lo st M) : pz_Ok p l e R s m args below meth c cells slots Q nL D ad cy A pc lo st M := by
  obtain ⟨hx, hb, hml, hown, hts, hX⟩ := Y
  obtain ⟨hd, hn, hsl, htk, him⟩ := pz_wf_spec hw
  subst hn
  have hl1 : len = 3 := of_decide_eq_true hsl
  subst hl1
  intro H locs ls hP hS hM hL hst
  have h : pz_getf (fl i) st M (fun st' => K (pc + 3) lo st' M) := h
  cases hf : fl i with
  | none => rw [hf] at h; exact h.elim
  | some q =>
    obtain ⟨k, j⟩ := q
    rw [hf] at h
    obtain ⟨kd, a, r, rfl, h⟩ := pz_r_spec h
    obtain ⟨hkk, h⟩ := pz_b_spec h
    have hkk := Nat.eq_of_beq_eq_true hkk
    subst hkk
    obtain ⟨c1, c2⟩ := pz_tlm hst
    obtain ⟨C, T, N, hcl, hkN, hlk⟩ := hfl i _ hf
    obtain ⟨k1, k2, ty0, k3⟩ := pz_cls hcl
    have hci : kd < 13 := (List.getElem?_eq_some_iff.mp hcl).1
    have hlt : a < 206 := pz_kd_lo c1.1 (by show kd ≠ 99; omega)
    have hN : N = pz_nf kd := (pz_pf_ok hcl hkN).1
    have hj : j < pz_nf kd := by rw [← hN]; exact hkN
    refine va_get (C := C) (T := T) (N := N) (fs := (List.range (pz_nf kd)).map (pz_fv ad M a kd)) hx hb hts k1 hown hX.1 hP a (pz_wso c1.1 hlt hci) hcl j hkN (hts _ hlk) (fun _ h => h) (pz_eo_get hj) hd ?_
    unfold pz_fv
    cases hr : pz_rk kd j with
    | some kr =>
      rw [hr] at h
      have hj28 : j < 28 := by
        have : ∀ k, k < 13 → pz_nf k ≤ 28 := by decide
        have := this kd hci
        omega
      obtain ⟨r1, r2⟩ := pz_rf_ok (a := a) (k := j) c1.1 (by show kd ≠ 99; omega) hr hj28 (fun z => absurd z (by show kd ≠ 29; omega)) (fun z => absurd z (by show kd ≠ 30; omega))
      exact hK _ _ _ _ (h _ rfl r1) H locs ls hP hS hM hL (pz_all ⟨r1, (by show pz_rf a j < 231; omega)⟩ c2)
    | none =>
      rw [hr] at h
      exact hK _ _ _ _ (h _ rfl (hM a j).1 (hM a j).2) H locs ls hP hS hM hL (pz_all (hM a j) c2)
theorem ps_putfield (Y : pz_Y p s m args c cc own nL D ad adV cy A) {K : pz_F} (hK : ∀ pc lo st M, K pc lo st M → pz_Ok p l e R s m args below meth c cells slots Q nL D ad cy A pc lo st M) {fl : Nat → Option (Nat × Nat)} {ci : Nat → Option pz_V} {ct : Bool → Nat → Option pz_C} {Rt : Option pz_V → pz_M → Prop} {rz : Bool} {pc len nx : Nat} {tg : List Nat} {lo : pz_L} {st : List pz_V} {M : pz_M} {i : Nat} (hfl : ∀ i q, fl i = some q → pz_flok own (i, q)) (hw : pz_wf cc (pc, .putfield i, len, nx, tg) = true) (h : pz_stp fl ci ct K Rt rz (.putfield i) nx tg lo st M) : pz_Ok p l e R s m args below meth c cells slots Q nL D ad cy A pc lo st M := by
  obtain ⟨hx, hb, hml, hown, hts, hX⟩ := Y
  obtain ⟨hd, hn, hsl, htk, him⟩ := pz_wf_spec hw
  subst hn
  have hl1 : len = 3 := of_decide_eq_true hsl
  subst hl1
  intro H locs ls hP hS hM hL hst
  have h : pz_putf (fl i) st M (fun st' M' => K (pc + 3) lo st' M') := h
  cases hf : fl i with
  | none => rw [hf] at h; exact h.elim
  | some q =>
    obtain ⟨k, j⟩ := q
    rw [hf] at h
    match st, h, hst with
    | [], h, _ => exact h.elim
    | .inr _ :: _, h, _ => exact h.elim
    | [.inl _], h, _ => exact h.elim
    | .inl _ :: .inl _ :: _, h, _ => exact h.elim
    | .inl _ :: .inr (.inl _) :: _, h, _ => exact h.elim
    | .inl v :: .inr (.inr (kd, a)) :: r, h, hst =>
      obtain ⟨hkk, h⟩ := pz_b_spec h
      have hkk := Nat.eq_of_beq_eq_true hkk
      subst hkk
      obtain ⟨cv, c1⟩ := pz_tlm hst
      obtain ⟨c1, c2⟩ := pz_tlm c1
      obtain ⟨C, T, N, hcl, hkN, hlk⟩ := hfl i _ hf
      obtain ⟨k1, k2, ty0, k3⟩ := pz_cls hcl
      have hci : kd < 13 := (List.getElem?_eq_some_iff.mp hcl).1
      have hlt : a < 206 := pz_kd_lo c1.1 (by show kd ≠ 99; omega)
      obtain ⟨hN, p1, p2⟩ := pz_pf_ok hcl hkN
      have hj : j < pz_nf kd := by rw [← hN]; exact hkN
      have fin : ∀ (ty : FieldType), pz_rk kd j = none → (T j).2.2.2 = false → parseFieldDescriptor (T j).2.2.1 = some ty → narrow ty (.int (Int32.ofInt v)) = .int (Int32.ofInt v) → fits ty (.int (Int32.ofInt v)) = true → K (pc + 3) lo r (pz_u M a j v) → W p l e R s m args below meth c H locs cells slots Q (F0 m pc ls ((.inl v :: .inr (.inr (kd, a)) :: r).map (pz_v ad))) := by
        intro ty e1 e2 e3 e4 e5 h
        refine va_put (C := C) (T := T) (N := N) (fs := (List.range (pz_nf kd)).map (pz_fv ad M a kd)) hx hb hts k1 ty0 k3 k2 hown hX.1 hP (hX.D M) hS a (pz_wso c1.1 hlt hci) hcl j hkN (hts _ hlk) (fun _ h => h) e2 e3 e4 e5 (by simpa using hj) hd (fun H1 locs1 hP1 hD1 hS1 => ?_)
        rw [pz_ws_set (M := M) (k := j) (v := v) rfl (by
          unfold pz_en
          rw [show pz_kd a = kd from c1.1, if_pos hci, pz_eo_set e1]
          rfl)] at hP1
        exact hK _ _ _ _ h H1 locs1 ls hP1 hS1 (pz_cu hM cv) hL c2
      have h : pz_putk (pz_pf kd j) v (pz_nM (pz_u M a j v) (K (pc + 3) lo r)) := h
      generalize hpf : pz_pf kd j = n at h p1 p2
      match n, h, p1, p2 with
      | 0, h, _, _ => exact h.elim
      | 1, h, p1, _ =>
        obtain ⟨q1, q2, q3⟩ := p1 rfl
        exact fin .int q3 q2 (by rw [q1]; rfl) rfl rfl (h _ rfl)
      | 2, h, _, p2 =>
        obtain ⟨q1, q2, q3⟩ := p2 rfl
        rcases h.1 with hv | hv
        · exact fin .boolean q3 q2 (by rw [q1]; rfl) (by rw [hv]; rfl) (by rw [hv]; rfl) (h.2 _ rfl)
        · exact fin .boolean q3 q2 (by rw [q1]; rfl) (by rw [hv]; rfl) (by rw [hv]; rfl) (h.2 _ rfl)
      | n + 3, h, _, _ => exact h.elim
theorem ps_iaload (Y : pz_Y p s m args c cc own nL D ad adV cy A) {K : pz_F} (hK : ∀ pc lo st M, K pc lo st M → pz_Ok p l e R s m args below meth c cells slots Q nL D ad cy A pc lo st M) {fl : Nat → Option (Nat × Nat)} {ci : Nat → Option pz_V} {ct : Bool → Nat → Option pz_C} {Rt : Option pz_V → pz_M → Prop} {rz : Bool} {pc len nx : Nat} {tg : List Nat} {lo : pz_L} {st : List pz_V} {M : pz_M}   (hw : pz_wf cc (pc, .iaload, len, nx, tg) = true) (h : pz_stp fl ci ct K Rt rz (.iaload) nx tg lo st M) : pz_Ok p l e R s m args below meth c cells slots Q nL D ad cy A pc lo st M := by
  obtain ⟨hx, hb, hml, hown, hts, hX⟩ := Y
  obtain ⟨hd, hn, hsl, htk, him⟩ := pz_wf_spec hw
  subst hn
  have hl1 : len = 1 := of_decide_eq_true hsl
  subst hl1
  intro H locs ls hP hS hM hL hst
  obtain ⟨kd, a, i, r, rfl, h⟩ := pz_ri_spec h
  obtain ⟨c0, c1⟩ := pz_tlm hst
  obtain ⟨c1, c2⟩ := pz_tlm c1
  obtain ⟨hak, h0, h1, h⟩ := pz_al_spec h
  obtain ⟨k1, k2, -⟩ := pz_ak_of (kd := kd) (t := (pz_ak kd).1) (n := (pz_ak kd).2) rfl (by omega)
  have hlt : a < 206 := pz_kd_lo c1.1 (by show kd ≠ 99; omega)
  have hws := pz_wse (ad := ad) (cy := cy) (M := M) c1.1 hlt (show ¬ kd < 13 by omega) (show (pz_ak kd).1 < 2 by omega)
  rw [hak] at hws
  refine va_iald hx hb hX.1 hP a 0 hws rfl (pz_in h0 h1 c0) hd ?_
  rw [pz_clamp c0]
  exact hK _ _ _ _ (h _ rfl (hM _ _).1 (hM _ _).2) H locs ls hP hS hM hL (pz_all (hM _ _) c2)
theorem ps_baload (Y : pz_Y p s m args c cc own nL D ad adV cy A) {K : pz_F} (hK : ∀ pc lo st M, K pc lo st M → pz_Ok p l e R s m args below meth c cells slots Q nL D ad cy A pc lo st M) {fl : Nat → Option (Nat × Nat)} {ci : Nat → Option pz_V} {ct : Bool → Nat → Option pz_C} {Rt : Option pz_V → pz_M → Prop} {rz : Bool} {pc len nx : Nat} {tg : List Nat} {lo : pz_L} {st : List pz_V} {M : pz_M}   (hw : pz_wf cc (pc, .baload, len, nx, tg) = true) (h : pz_stp fl ci ct K Rt rz (.baload) nx tg lo st M) : pz_Ok p l e R s m args below meth c cells slots Q nL D ad cy A pc lo st M := by
  obtain ⟨hx, hb, hml, hown, hts, hX⟩ := Y
  obtain ⟨hd, hn, hsl, htk, him⟩ := pz_wf_spec hw
  subst hn
  have hl1 : len = 1 := of_decide_eq_true hsl
  subst hl1
  intro H locs ls hP hS hM hL hst
  obtain ⟨kd, a, i, r, rfl, h⟩ := pz_ri_spec h
  obtain ⟨c0, c1⟩ := pz_tlm hst
  obtain ⟨c1, c2⟩ := pz_tlm c1
  obtain ⟨hak, h0, h1, h⟩ := pz_al_spec h
  obtain ⟨k1, k2, -⟩ := pz_ak_of (kd := kd) (t := (pz_ak kd).1) (n := (pz_ak kd).2) rfl (by omega)
  have hlt : a < 206 := pz_kd_lo c1.1 (by show kd ≠ 99; omega)
  have hws := pz_wse (ad := ad) (cy := cy) (M := M) c1.1 hlt (show ¬ kd < 13 by omega) (show (pz_ak kd).1 < 2 by omega)
  rw [hak] at hws
  refine va_bald hx hb hX.1 hP a 1 hws rfl (pz_in h0 h1 c0) hd ?_
  rw [pz_clamp c0]
  exact hK _ _ _ _ (h _ rfl (hM _ _).1 (hM _ _).2) H locs ls hP hS hM hL (pz_all (hM _ _) c2)
theorem ps_aaload (Y : pz_Y p s m args c cc own nL D ad adV cy A) {K : pz_F} (hK : ∀ pc lo st M, K pc lo st M → pz_Ok p l e R s m args below meth c cells slots Q nL D ad cy A pc lo st M) {fl : Nat → Option (Nat × Nat)} {ci : Nat → Option pz_V} {ct : Bool → Nat → Option pz_C} {Rt : Option pz_V → pz_M → Prop} {rz : Bool} {pc len nx : Nat} {tg : List Nat} {lo : pz_L} {st : List pz_V} {M : pz_M}   (hw : pz_wf cc (pc, .aaload, len, nx, tg) = true) (h : pz_stp fl ci ct K Rt rz (.aaload) nx tg lo st M) : pz_Ok p l e R s m args below meth c cells slots Q nL D ad cy A pc lo st M := by
  obtain ⟨hx, hb, hml, hown, hts, hX⟩ := Y
  obtain ⟨hd, hn, hsl, htk, him⟩ := pz_wf_spec hw
  subst hn
  have hl1 : len = 1 := of_decide_eq_true hsl
  subst hl1
  intro H locs ls hP hS hM hL hst
  obtain ⟨kd, a, i, r, rfl, h8⟩ := pz_ri_spec h
  obtain ⟨c0, c1⟩ := pz_tlm hst
  obtain ⟨c1, c2⟩ := pz_tlm c1
  rcases pz_aal_spec h8 with ⟨rfl, h0, h1, h⟩ | ⟨rfl, h0, h1, h⟩
  · have c1k : pz_kd a = 29 := c1.1
    have hlt : a < 206 := pz_kd_lo c1k (by decide)
    have hws := pz_wsq (ad := ad) (cy := cy) (M := M) c1k hlt (by decide) (by decide)
    refine va_aldq hx hb hX.1 hP a 2 hws rfl (pz_in h0 h1 c0) hd ?_
    rw [pz_clamp c0]
    obtain ⟨r1, r2⟩ := pz_rf_ok (a := a) (k := i.toNat) c1k (by decide) (show pz_rk 29 i.toNat = some 5 by rfl) (by omega) (fun _ => by omega) (fun z => absurd z (by decide))
    exact hK _ _ _ _ (h _ rfl r1) H locs ls hP hS hM hL (pz_all ⟨r1, (by show pz_rf a i.toNat < 231; omega)⟩ c2)
  · have c1k : pz_kd a = 30 := c1.1
    have hlt : a < 206 := pz_kd_lo c1k (by decide)
    have hws := pz_wsq (ad := ad) (cy := cy) (M := M) c1k hlt (by decide) (by decide)
    refine va_aldq hx hb hX.1 hP a 3 hws rfl (pz_in h0 h1 c0) hd ?_
    rw [pz_clamp c0]
    obtain ⟨r1, r2⟩ := pz_rf_ok (a := a) (k := i.toNat) c1k (by decide) (show pz_rk 30 i.toNat = some 0 by rfl) (by omega) (fun z => absurd z (by decide)) (fun _ => by omega)
    exact hK _ _ _ _ (h _ rfl r1) H locs ls hP hS hM hL (pz_all ⟨r1, (by show pz_rf a i.toNat < 231; omega)⟩ c2)
theorem ps_iastore (Y : pz_Y p s m args c cc own nL D ad adV cy A) {K : pz_F} (hK : ∀ pc lo st M, K pc lo st M → pz_Ok p l e R s m args below meth c cells slots Q nL D ad cy A pc lo st M) {fl : Nat → Option (Nat × Nat)} {ci : Nat → Option pz_V} {ct : Bool → Nat → Option pz_C} {Rt : Option pz_V → pz_M → Prop} {rz : Bool} {pc len nx : Nat} {tg : List Nat} {lo : pz_L} {st : List pz_V} {M : pz_M}   (hw : pz_wf cc (pc, .iastore, len, nx, tg) = true) (h : pz_stp fl ci ct K Rt rz (.iastore) nx tg lo st M) : pz_Ok p l e R s m args below meth c cells slots Q nL D ad cy A pc lo st M := by
  obtain ⟨hx, hb, hml, hown, hts, hX⟩ := Y
  obtain ⟨hd, hn, hsl, htk, him⟩ := pz_wf_spec hw
  subst hn
  have hl1 : len = 1 := of_decide_eq_true hsl
  subst hl1
  intro H locs ls hP hS hM hL hst
  obtain ⟨kd, a, i, v, r, rfl, h⟩ := pz_rii_spec h
  obtain ⟨cv, c0⟩ := pz_tlm hst
  obtain ⟨c0, c1⟩ := pz_tlm c0
  obtain ⟨c1, c2⟩ := pz_tlm c1
  obtain ⟨hak, h0, h1, h⟩ := pz_al_spec h
  obtain ⟨k1, k2, -⟩ := pz_ak_of (kd := kd) (t := (pz_ak kd).1) (n := (pz_ak kd).2) rfl (by omega)
  have hlt : a < 206 := pz_kd_lo c1.1 (by show kd ≠ 99; omega)
  have hws := pz_wse (ad := ad) (cy := cy) (M := M) c1.1 hlt (show ¬ kd < 13 by omega) (show (pz_ak kd).1 < 2 by omega)
  rw [hak] at hws
  refine va_iast hx hb hX.1 hP (hX.D M) hS a 0 hws rfl (pz_in h0 h1 c0) hd (fun H1 locs1 hP1 hD1 hS1 => ?_)
  · 
    rw [pz_clamp c0, pz_upd, pz_ws_set (M := M) (k := i.toNat) (v := v) rfl (by
      unfold pz_en
      rw [show pz_kd a = kd from c1.1, if_neg (show ¬ kd < 13 by omega), if_pos (show (pz_ak kd).1 < 2 by omega)]
      unfold pz_ei
      rw [hak])] at hP1
    exact hK _ _ _ _ (h _ rfl) H1 locs1 ls hP1 hS1 (pz_cu hM cv) hL c2
theorem ps_bastore (Y : pz_Y p s m args c cc own nL D ad adV cy A) {K : pz_F} (hK : ∀ pc lo st M, K pc lo st M → pz_Ok p l e R s m args below meth c cells slots Q nL D ad cy A pc lo st M) {fl : Nat → Option (Nat × Nat)} {ci : Nat → Option pz_V} {ct : Bool → Nat → Option pz_C} {Rt : Option pz_V → pz_M → Prop} {rz : Bool} {pc len nx : Nat} {tg : List Nat} {lo : pz_L} {st : List pz_V} {M : pz_M}   (hw : pz_wf cc (pc, .bastore, len, nx, tg) = true) (h : pz_stp fl ci ct K Rt rz (.bastore) nx tg lo st M) : pz_Ok p l e R s m args below meth c cells slots Q nL D ad cy A pc lo st M := by
  obtain ⟨hx, hb, hml, hown, hts, hX⟩ := Y
  obtain ⟨hd, hn, hsl, htk, him⟩ := pz_wf_spec hw
  subst hn
  have hl1 : len = 1 := of_decide_eq_true hsl
  subst hl1
  intro H locs ls hP hS hM hL hst
  obtain ⟨kd, a, i, v, r, rfl, h⟩ := pz_rii_spec h
  obtain ⟨cv, c0⟩ := pz_tlm hst
  obtain ⟨c0, c1⟩ := pz_tlm c0
  obtain ⟨c1, c2⟩ := pz_tlm c1
  obtain ⟨hak, h0, h1, hv1, hv2, h⟩ := pz_al_spec h
  obtain ⟨k1, k2, -⟩ := pz_ak_of (kd := kd) (t := (pz_ak kd).1) (n := (pz_ak kd).2) rfl (by omega)
  have hlt : a < 206 := pz_kd_lo c1.1 (by show kd ≠ 99; omega)
  have hws := pz_wse (ad := ad) (cy := cy) (M := M) c1.1 hlt (show ¬ kd < 13 by omega) (show (pz_ak kd).1 < 2 by omega)
  rw [hak] at hws
  refine va_bast hx hb hX.1 hP (hX.D M) hS a 1 hws rfl (pz_in h0 h1 c0) hd (fun H1 locs1 hP1 hD1 hS1 => ?_)
  · 
    have e8 : vp_nar .byte (Int32.ofInt v) = Int32.ofInt v := by
      rw [vp_nar_byte]
      have : (Int32.ofInt v).toInt8 = Int8.ofInt v := by simp
      rw [this, pz_bip hv1 hv2]
    rw [e8] at hP1
    rw [pz_clamp c0, pz_upd, pz_ws_set (M := M) (k := i.toNat) (v := v) rfl (by
      unfold pz_en
      rw [show pz_kd a = kd from c1.1, if_neg (show ¬ kd < 13 by omega), if_pos (show (pz_ak kd).1 < 2 by omega)]
      unfold pz_ei
      rw [hak])] at hP1
    exact hK _ _ _ _ (h _ rfl) H1 locs1 ls hP1 hS1 (pz_cu hM cv) hL c2
theorem ps_arraylength (Y : pz_Y p s m args c cc own nL D ad adV cy A) {K : pz_F} (hK : ∀ pc lo st M, K pc lo st M → pz_Ok p l e R s m args below meth c cells slots Q nL D ad cy A pc lo st M) {fl : Nat → Option (Nat × Nat)} {ci : Nat → Option pz_V} {ct : Bool → Nat → Option pz_C} {Rt : Option pz_V → pz_M → Prop} {rz : Bool} {pc len nx : Nat} {tg : List Nat} {lo : pz_L} {st : List pz_V} {M : pz_M}   (hw : pz_wf cc (pc, .arraylength, len, nx, tg) = true) (h : pz_stp fl ci ct K Rt rz (.arraylength) nx tg lo st M) : pz_Ok p l e R s m args below meth c cells slots Q nL D ad cy A pc lo st M := by
  obtain ⟨hx, hb, hml, hown, hts, hX⟩ := Y
  obtain ⟨hd, hn, hsl, htk, him⟩ := pz_wf_spec hw
  subst hn
  have hl1 : len = 1 := of_decide_eq_true hsl
  subst hl1
  intro H locs ls hP hS hM hL hst
  obtain ⟨kd, a, r, rfl, h⟩ := pz_r_spec h
  obtain ⟨c1, c2⟩ := pz_tlm hst
  obtain ⟨h9, h⟩ := pz_b_spec h
  have h9 := Nat.le_of_ble_eq_true h9
  obtain ⟨k1, k2, k3, k4, k5, k6⟩ := pz_ak_of (kd := kd) (t := (pz_ak kd).1) (n := (pz_ak kd).2) rfl (by omega)
  have hlt : a < 206 := pz_kd_lo c1.1 (by show kd ≠ 99; omega)
  have key : ∀ k, k < 31 → ((pz_ak k).1 < 4 ∨ (pz_ak k).1 = 9) ∧ (pz_ak k).2 ≤ 4096 := by decide +kernel
  obtain ⟨key1, key2⟩ := key kd k2
  have hcn : pz_c (((pz_ak kd).2 : Nat) : Int) := ⟨by omega, by omega⟩
  have hv : Int32.ofNat (pz_ak kd).2 = Int32.ofInt ((pz_ak kd).2 : Int) := (Int32.ofInt_eq_ofNat).symm
  have h := hK _ _ _ _ h H locs ls hP hS hM hL (pz_all hcn c2)
  by_cases h2 : (pz_ak kd).1 < 2
  · have hws := pz_wse (ad := ad) (cy := cy) (M := M) c1.1 hlt (show ¬ kd < 13 by omega) h2
    have h3 : (pz_ak kd).1 = 0 ∨ (pz_ak kd).1 = 1 := by omega
    rcases h3 with h3 | h3
    · exact va_alen hx hb hX.1 hP a 0 hws (ty := .int) (by rw [h3]; rfl) hv hd h
    · exact va_alen hx hb hX.1 hP a 1 hws (ty := .byte) (by rw [h3]; rfl) hv hd h
  · have hws := pz_wsq (ad := ad) (cy := cy) (M := M) c1.1 hlt (show ¬ kd < 13 by omega) h2
    have h3 : (pz_ak kd).1 = 2 ∨ (pz_ak kd).1 = 3 := by omega
    rcases h3 with h3 | h3
    · exact va_alen hx hb hX.1 hP a 2 hws (ty := .object "TwelveChain$Link") (by rw [h3]; rfl) hv hd h
    · exact va_alen hx hb hX.1 hP a 3 hws (ty := .object "TwelveChain$Chain") (by rw [h3]; rfl) hv hd h
theorem ps_invokevirtual (Y : pz_Y p s m args c cc own nL D ad adV cy A) {K : pz_F} (hK : ∀ pc lo st M, K pc lo st M → pz_Ok p l e R s m args below meth c cells slots Q nL D ad cy A pc lo st M) {fl : Nat → Option (Nat × Nat)} {ci : Nat → Option pz_V} {ct : Bool → Nat → Option pz_C} {Rt : Option pz_V → pz_M → Prop} {rz : Bool} {pc len nx : Nat} {tg : List Nat} {lo : pz_L} {st : List pz_V} {M : pz_M} {i : Nat} (hcall : ∀ i k, ct true i = some k → pz_CR p l e R s m args below meth c cells slots Q cc nL D ad cy A (.invokevirtual i) k) (hw : pz_wf cc (pc, .invokevirtual i, len, nx, tg) = true) (h : pz_stp fl ci ct K Rt rz (.invokevirtual i) nx tg lo st M) : pz_Ok p l e R s m args below meth c cells slots Q nL D ad cy A pc lo st M := by
  obtain ⟨hx, hb, hml, hown, hts, hX⟩ := Y
  obtain ⟨hd, hn, hsl, htk, him⟩ := pz_wf_spec hw
  subst hn
  have hl1 : len = 3 := of_decide_eq_true hsl
  subst hl1
  intro H locs ls hP hS hM hL hst
  have h : pz_call (ct true) i lo st M (fun st' M' => K (pc + 3) lo st' M') := h
  unfold pz_call at h
  cases hk : ct true i with
  | none => rw [hk] at h; exact h.elim
  | some k =>
    rw [hk] at h
    obtain ⟨n, rk, pre, post⟩ := k
    obtain ⟨h1, h⟩ := pz_b_spec h
    obtain ⟨h2, h⟩ := pz_b_spec h
    obtain ⟨h3, h⟩ := h
    have h1 := Nat.le_of_ble_eq_true h1
    have h2 := Nat.le_of_ble_eq_true h2
    have est : (st.take n).reverse.reverse ++ st.drop n = st := by rw [List.reverse_reverse, List.take_append_drop]
    have k := hcall i _ hk H locs ls M (st.take n).reverse (st.drop n) pc hd hP hS hM (fun v hv => hst v (List.mem_of_mem_take (List.mem_reverse.mp hv))) hL.1 (by simp; omega) h2 h3 (fun r M' H' locs' e1 e2 hP' hS' hM' => ?_)
    · rw [est] at k; exact k
    · have hdr : ∀ v ∈ st.drop n, pz_cv v := fun v hv => hst v (List.mem_of_mem_drop hv)
      match rk, h, e2 with
      | 0, h, e2 =>
        subst e2
        exact hK _ _ _ _ (h M' e1) H' locs' ls hP' hS' hM' hL hdr
      | 1, h, e2 =>
        obtain ⟨x, rfl, cx⟩ := e2
        exact hK _ _ _ _ (h x M' cx.1 cx.2 e1) H' locs' ls hP' hS' hM' hL (pz_all cx hdr)
      | 2, h, e2 =>
        obtain ⟨x, rfl, cx⟩ := e2
        exact hK _ _ _ _ (h x M' cx.1 cx.2 e1) H' locs' ls hP' hS' hM' hL (pz_all cx hdr)
      | q + 3, h, e2 =>
        obtain ⟨x, rfl, cx⟩ := e2
        exact hK _ _ _ _ (h x M' cx.1 e1) H' locs' ls hP' hS' hM' hL (pz_all cx hdr)
theorem ps_invokestatic (Y : pz_Y p s m args c cc own nL D ad adV cy A) {K : pz_F} (hK : ∀ pc lo st M, K pc lo st M → pz_Ok p l e R s m args below meth c cells slots Q nL D ad cy A pc lo st M) {fl : Nat → Option (Nat × Nat)} {ci : Nat → Option pz_V} {ct : Bool → Nat → Option pz_C} {Rt : Option pz_V → pz_M → Prop} {rz : Bool} {pc len nx : Nat} {tg : List Nat} {lo : pz_L} {st : List pz_V} {M : pz_M} {i : Nat} (hcall : ∀ i k, ct false i = some k → pz_CR p l e R s m args below meth c cells slots Q cc nL D ad cy A (.invokestatic i) k) (hw : pz_wf cc (pc, .invokestatic i, len, nx, tg) = true) (h : pz_stp fl ci ct K Rt rz (.invokestatic i) nx tg lo st M) : pz_Ok p l e R s m args below meth c cells slots Q nL D ad cy A pc lo st M := by
  obtain ⟨hx, hb, hml, hown, hts, hX⟩ := Y
  obtain ⟨hd, hn, hsl, htk, him⟩ := pz_wf_spec hw
  subst hn
  have hl1 : len = 3 := of_decide_eq_true hsl
  subst hl1
  intro H locs ls hP hS hM hL hst
  have h : pz_call (ct false) i lo st M (fun st' M' => K (pc + 3) lo st' M') := h
  unfold pz_call at h
  cases hk : ct false i with
  | none => rw [hk] at h; exact h.elim
  | some k =>
    rw [hk] at h
    obtain ⟨n, rk, pre, post⟩ := k
    obtain ⟨h1, h⟩ := pz_b_spec h
    obtain ⟨h2, h⟩ := pz_b_spec h
    obtain ⟨h3, h⟩ := h
    have h1 := Nat.le_of_ble_eq_true h1
    have h2 := Nat.le_of_ble_eq_true h2
    have est : (st.take n).reverse.reverse ++ st.drop n = st := by rw [List.reverse_reverse, List.take_append_drop]
    have k := hcall i _ hk H locs ls M (st.take n).reverse (st.drop n) pc hd hP hS hM (fun v hv => hst v (List.mem_of_mem_take (List.mem_reverse.mp hv))) hL.1 (by simp; omega) h2 h3 (fun r M' H' locs' e1 e2 hP' hS' hM' => ?_)
    · rw [est] at k; exact k
    · have hdr : ∀ v ∈ st.drop n, pz_cv v := fun v hv => hst v (List.mem_of_mem_drop hv)
      match rk, h, e2 with
      | 0, h, e2 =>
        subst e2
        exact hK _ _ _ _ (h M' e1) H' locs' ls hP' hS' hM' hL hdr
      | 1, h, e2 =>
        obtain ⟨x, rfl, cx⟩ := e2
        exact hK _ _ _ _ (h x M' cx.1 cx.2 e1) H' locs' ls hP' hS' hM' hL (pz_all cx hdr)
      | 2, h, e2 =>
        obtain ⟨x, rfl, cx⟩ := e2
        exact hK _ _ _ _ (h x M' cx.1 cx.2 e1) H' locs' ls hP' hS' hM' hL (pz_all cx hdr)
      | q + 3, h, e2 =>
        obtain ⟨x, rfl, cx⟩ := e2
        exact hK _ _ _ _ (h x M' cx.1 e1) H' locs' ls hP' hS' hM' hL (pz_all cx hdr)
theorem ps_ireturn (Y : pz_Y p s m args c cc own nL D ad adV cy A) {K : pz_F} (hK : ∀ pc lo st M, K pc lo st M → pz_Ok p l e R s m args below meth c cells slots Q nL D ad cy A pc lo st M) {fl : Nat → Option (Nat × Nat)} {ci : Nat → Option pz_V} {ct : Bool → Nat → Option pz_C} {Rt : Option pz_V → pz_M → Prop} {rz : Bool} {pc len nx : Nat} {tg : List Nat} {lo : pz_L} {st : List pz_V} {M : pz_M}  (hRT : pz_RT p l e R s m args below meth c cells slots Q cc D ad cy A Rt rz) (hw : pz_wf cc (pc, .ireturn, len, nx, tg) = true) (h : pz_stp fl ci ct K Rt rz (.ireturn) nx tg lo st M) : pz_Ok p l e R s m args below meth c cells slots Q nL D ad cy A pc lo st M := by
  obtain ⟨hx, hb, hml, hown, hts, hX⟩ := Y
  obtain ⟨hd, hn, hsl, htk, him⟩ := pz_wf_spec hw
  subst hn
  have hl1 : len = 1 := of_decide_eq_true hsl
  subst hl1
  intro H locs ls hP hS hM hL hst
  match st, h, hst with
  | [], h, _ => exact h.elim
  | .inr _ :: _, h, _ => exact h.elim
  | .inl _ :: _ :: _, h, _ => exact h.elim
  | [.inl x], h, hst =>
    have hc := (pz_tlm hst).1
    cases rz with
    | true => exact hRT .ireturn (some (.inl x)) pc H locs ls M hd (Or.inl ⟨rfl, x, rfl, fun _ => h.1⟩) (fun v hv => by cases hv; exact hc) hP hS hM h.2
    | false => exact hRT .ireturn (some (.inl x)) pc H locs ls M hd (Or.inl ⟨rfl, x, rfl, fun z => by cases z⟩) (fun v hv => by cases hv; exact hc) hP hS hM h
theorem ps_lreturn (Y : pz_Y p s m args c cc own nL D ad adV cy A) {K : pz_F} (hK : ∀ pc lo st M, K pc lo st M → pz_Ok p l e R s m args below meth c cells slots Q nL D ad cy A pc lo st M) {fl : Nat → Option (Nat × Nat)} {ci : Nat → Option pz_V} {ct : Bool → Nat → Option pz_C} {Rt : Option pz_V → pz_M → Prop} {rz : Bool} {pc len nx : Nat} {tg : List Nat} {lo : pz_L} {st : List pz_V} {M : pz_M}  (hRT : pz_RT p l e R s m args below meth c cells slots Q cc D ad cy A Rt rz) (hw : pz_wf cc (pc, .lreturn, len, nx, tg) = true) (h : pz_stp fl ci ct K Rt rz (.lreturn) nx tg lo st M) : pz_Ok p l e R s m args below meth c cells slots Q nL D ad cy A pc lo st M := by
  obtain ⟨hx, hb, hml, hown, hts, hX⟩ := Y
  obtain ⟨hd, hn, hsl, htk, him⟩ := pz_wf_spec hw
  subst hn
  have hl1 : len = 1 := of_decide_eq_true hsl
  subst hl1
  intro H locs ls hP hS hM hL hst
  match st, h, hst with
  | [], h, _ => exact h.elim
  | .inl _ :: _, h, _ => exact h.elim
  | .inr (.inr _) :: _, h, _ => exact h.elim
  | .inr (.inl _) :: _ :: _, h, _ => exact h.elim
  | [.inr (.inl x)], h, hst =>
    have hc := (pz_tlm hst).1
    exact hRT .lreturn (some (.inr (.inl x))) pc H locs ls M hd (Or.inr (Or.inl ⟨rfl, x, rfl⟩)) (fun v hv => by cases hv; exact hc) hP hS hM h
theorem ps_areturn (Y : pz_Y p s m args c cc own nL D ad adV cy A) {K : pz_F} (hK : ∀ pc lo st M, K pc lo st M → pz_Ok p l e R s m args below meth c cells slots Q nL D ad cy A pc lo st M) {fl : Nat → Option (Nat × Nat)} {ci : Nat → Option pz_V} {ct : Bool → Nat → Option pz_C} {Rt : Option pz_V → pz_M → Prop} {rz : Bool} {pc len nx : Nat} {tg : List Nat} {lo : pz_L} {st : List pz_V} {M : pz_M}  (hRT : pz_RT p l e R s m args below meth c cells slots Q cc D ad cy A Rt rz) (hw : pz_wf cc (pc, .areturn, len, nx, tg) = true) (h : pz_stp fl ci ct K Rt rz (.areturn) nx tg lo st M) : pz_Ok p l e R s m args below meth c cells slots Q nL D ad cy A pc lo st M := by
  obtain ⟨hx, hb, hml, hown, hts, hX⟩ := Y
  obtain ⟨hd, hn, hsl, htk, him⟩ := pz_wf_spec hw
  subst hn
  have hl1 : len = 1 := of_decide_eq_true hsl
  subst hl1
  intro H locs ls hP hS hM hL hst
  match st, h, hst with
  | [], h, _ => exact h.elim
  | .inl _ :: _, h, _ => exact h.elim
  | .inr (.inl _) :: _, h, _ => exact h.elim
  | .inr (.inr _) :: _ :: _, h, _ => exact h.elim
  | [.inr (.inr x)], h, hst =>
    have hc := (pz_tlm hst).1
    exact hRT .areturn (some (.inr (.inr x))) pc H locs ls M hd (Or.inr (Or.inr (Or.inl ⟨rfl, x, rfl⟩))) (fun v hv => by cases hv; exact hc) hP hS hM h
end PZU
end
section
section PZW
variable {p : Program} {l : Launch} {e : Env} {R : Room} {s : State} {m : MethodId} {args : Array Value} {below : List Frame} {meth : Method} {c : Code} {cells slots : Nat} {Q : State → Prop}
variable {cc : ByteArray} {own : String} {nL : Nat} {D : va_G} {ad adV : Nat → Nat} {cy : Nat → ClassId} {A : Nat → Prop}
theorem pz_step (Y : pz_Y p s m args c cc own nL D ad adV cy A) {K : pz_F} (hK : ∀ pc lo st M, K pc lo st M → pz_Ok p l e R s m args below meth c cells slots Q nL D ad cy A pc lo st M) {fl : Nat → Option (Nat × Nat)} {ci : Nat → Option pz_V} {ct : Bool → Nat → Option pz_C} {Rt : Option pz_V → pz_M → Prop} {rz : Bool}
    (hfl : ∀ i q, fl i = some q → pz_flok own (i, q)) (hci : ∀ i v, ci i = some v → pz_ciok own i v)
    (hcv : ∀ i k, ct true i = some k → pz_CR p l e R s m args below meth c cells slots Q cc nL D ad cy A (.invokevirtual i) k) (hcs : ∀ i k, ct false i = some k → pz_CR p l e R s m args below meth c cells slots Q cc nL D ad cy A (.invokestatic i) k)
    (hRT : pz_RT p l e R s m args below meth c cells slots Q cc D ad cy A Rt rz)
    {pc len nx : Nat} {tg : List Nat} {lo : pz_L} {st : List pz_V} {M : pz_M} (I : Instr) (hw : pz_wf cc (pc, I, len, nx, tg) = true) (h : pz_stp fl ci ct K Rt rz I nx tg lo st M) : pz_Ok p l e R s m args below meth c cells slots Q nL D ad cy A pc lo st M := by
  cases I
  case iconst v => exact ps_iconst Y hK  hw h
  case bipush v => exact ps_bipush Y hK  hw h
  case sipush v => exact ps_sipush Y hK  hw h
  case lconst v => exact ps_lconst Y hK  hw h
  case ldc i => exact ps_ldc Y hK hci hw h
  case ldc_w i => exact ps_ldc_w Y hK hci hw h
  case ldc2_w i => exact ps_ldc2_w Y hK hci hw h
  case iload k => exact ps_iload Y hK  hw h
  case iload_n k => exact ps_iload_n Y hK  hw h
  case lload k => exact ps_lload Y hK  hw h
  case lload_n k => exact ps_lload_n Y hK  hw h
  case aload k => exact ps_aload Y hK  hw h
  case aload_n k => exact ps_aload_n Y hK  hw h
  case istore k => exact ps_istore Y hK  hw h
  case istore_n k => exact ps_istore_n Y hK  hw h
  case lstore k => exact ps_lstore Y hK  hw h
  case lstore_n k => exact ps_lstore_n Y hK  hw h
  case astore k => exact ps_astore Y hK  hw h
  case astore_n k => exact ps_astore_n Y hK  hw h
  case iinc k n => exact ps_iinc Y hK  hw h
  case iadd => exact ps_iadd Y hK  hw h
  case isub => exact ps_isub Y hK  hw h
  case imul => exact ps_imul Y hK  hw h
  case idiv => exact ps_idiv Y hK  hw h
  case irem => exact ps_irem Y hK  hw h
  case iand => exact ps_iand Y hK  hw h
  case ior => exact ps_ior Y hK  hw h
  case ixor => exact ps_ixor Y hK  hw h
  case ishl => exact ps_ishl Y hK  hw h
  case ishr => exact ps_ishr Y hK  hw h
  case iushr => exact ps_iushr Y hK  hw h
  case i2b => exact ps_i2b Y hK  hw h
  case i2l => exact ps_i2l Y hK  hw h
  case l2i => exact ps_l2i Y hK  hw h
  case ladd => exact ps_ladd Y hK  hw h
  case lsub => exact ps_lsub Y hK  hw h
  case lmul => exact ps_lmul Y hK  hw h
  case ldiv => exact ps_ldiv Y hK  hw h
  case lcmp => exact ps_lcmp Y hK  hw h
  case dup => exact ps_dup Y hK  hw h
  case pop => exact ps_pop Y hK  hw h
  case dup2 => exact ps_dup2 Y hK  hw h
  case goto o => exact ps_goto Y hK  hw h
  case ifCond b o => exact ps_ifCond Y hK  hw h
  case if_icmp b o => exact ps_if_icmp Y hK  hw h
  case tableswitch d low high os => exact ps_tableswitch Y hK  hw h
  case lookupswitch d ps => exact ps_lookupswitch Y hK  hw h
  case getfield i => exact ps_getfield Y hK hfl hw h
  case putfield i => exact ps_putfield Y hK hfl hw h
  case iaload => exact ps_iaload Y hK  hw h
  case baload => exact ps_baload Y hK  hw h
  case aaload => exact ps_aaload Y hK  hw h
  case iastore => exact ps_iastore Y hK  hw h
  case bastore => exact ps_bastore Y hK  hw h
  case arraylength => exact ps_arraylength Y hK  hw h
  case invokevirtual i => exact ps_invokevirtual Y hK hcv hw h
  case invokestatic i => exact ps_invokestatic Y hK hcs hw h
  case ireturn => exact ps_ireturn Y hK hRT hw h
  case lreturn => exact ps_lreturn Y hK hRT hw h
  case areturn => exact ps_areturn Y hK hRT hw h
  case return_ =>
    obtain ⟨hd, hn, hsl, htk, him⟩ := pz_wf_spec hw
    have hl1 : len = 1 := of_decide_eq_true hsl
    subst hl1
    intro H locs ls hP hS hM hL hst
    match st, h with
    | [], h => exact hRT .return_ none pc H locs ls M hd (Or.inr (Or.inr (Or.inr ⟨rfl, rfl⟩))) (fun v hv => by cases hv) hP hS hM h
    | _ :: _, h => exact False.elim h
  all_goals exact False.elim h
/-- many instructions -/
theorem pz_many (Y : pz_Y p s m args c cc own nL D ad adV cy A) {tb : List pz_E} {fl : Nat → Option (Nat × Nat)} {ci : Nat → Option pz_V} {ct : Bool → Nat → Option pz_C} {cut : Nat → Bool} {Rt : Option pz_V → pz_M → Prop} {rz : Bool}
    (htb : tb.all (fun q => pz_wf cc q) = true)
    (hfl : ∀ i q, fl i = some q → pz_flok own (i, q)) (hci : ∀ i v, ci i = some v → pz_ciok own i v)
    (hcv : ∀ i k, ct true i = some k → pz_CR p l e R s m args below meth c cells slots Q cc nL D ad cy A (.invokevirtual i) k) (hcs : ∀ i k, ct false i = some k → pz_CR p l e R s m args below meth c cells slots Q cc nL D ad cy A (.invokestatic i) k)
    (hRT : pz_RT p l e R s m args below meth c cells slots Q cc D ad cy A Rt rz) :
    ∀ (n pc : Nat) (lo : pz_L) (st : List pz_V) (M : pz_M), pz_run tb fl ci ct cut (pz_Ok p l e R s m args below meth c cells slots Q nL D ad cy A) Rt rz n pc lo st M → pz_Ok p l e R s m args below meth c cells slots Q nL D ad cy A pc lo st M := by
  intro n
  induction n with
  | zero => intro pc lo st M h; exact h
  | succ n ih =>
    intro pc lo st M h
    unfold pz_run at h
    cases hq : pz_at tb pc with
    | none => rw [hq] at h; exact False.elim h
    | some q =>
      rw [hq] at h
      have hm := List.mem_of_find?_eq_some hq
      have hq2 : tb.find? (fun q => Nat.beq q.1 pc) = some q := hq
      have hpc0 := List.find?_some hq2
      have hpc := Nat.eq_of_beq_eq_true (n := q.1) (m := pc) hpc0
      have hw := List.all_eq_true.mp htb q hm
      obtain ⟨pc2, I, len, nx, tg⟩ := q
      have hpc : pc2 = pc := hpc
      subst hpc
      refine pz_step Y (fun pc' lo' st' M' hk => ?_) hfl hci hcv hcs hRT I hw h
      cases hc : cut pc' with
      | true => rw [hc] at hk; exact hk
      | false => rw [hc] at hk; exact ih pc' lo' st' M' hk
/-- the same, for one who doesn't see the machine -/
def pz_Go (tb : List pz_E) (fl : Nat → Option (Nat × Nat)) (ci : Nat → Option pz_V) (ct : Bool → Nat → Option pz_C) (rz : Bool) (Ok : pz_F) (Rt : Option pz_V → pz_M → Prop) : Prop :=
  ∀ (cut : Nat → Bool) (n pc : Nat) (lo : pz_L) (st : List pz_V) (M : pz_M), pz_run tb fl ci ct cut Ok Rt rz n pc lo st M → Ok pc lo st M
end PZW
end
section
theorem pz_good {ws : List Cond} (h : ∀ w ∈ ws, w ∈ pz_tbl) : GoodIn pz_tbl ws := fun w hw => ⟨h w hw, good_of_word (List.mem_filter.mp (h w hw)).2⟩
theorem pz_blind (D : va_G) (ad adV : Nat → Nat) (cy : Nat → ClassId) (A : Nat → Prop) (av : List Value) (M : pz_M) : FrameBlind (va_Pc av (pz_G D ad adV cy A M)) :=
  fun _ U g mk q => ⟨q.1, q.2.1, pz_X.same (u := U) (U := U.calling g mk _) rfl q.2.2.1, q.2.2.2⟩
/-- a receiver's class: by its number among the classes, or a String -/
def pz_rcv (rc : Nat) (C : String) : Prop := (∃ T N, vwCl[rc]? = some (C, T, N)) ∨ (rc = 99 ∧ C = "java/lang/String")
/-- what is known of a virtual call's callee -/
def pz_cV (fr lo : Nat) (own : String) (i : Nat) (k : pz_C) : Prop :=
  ∃ (y : MethodName) (cc : ByteArray) (maxL : Nat) (ret : Option FieldType) (fr' lo' n rc : Nat), pz_H y cc maxL ret k fr' lo' ∧ fr' + 1 ≤ fr ∧ 8 + (maxL + 11) + lo' ≤ lo ∧ k.1 = n + 1 ∧
    (y.cls ≠ "java/lang/invoke/MethodHandle" ∧ y.cls ≠ "java/lang/invoke/VarHandle" ∧ (parseMethodDescriptor y.desc).map (fun d => d.parameters.length) = some n) ∧
    (.code y cc maxL ret ∈ pz_tbl ∧ .methodLink own i y ∈ pz_tbl ∧ .instanceMethod y ∈ pz_tbl ∧ .selects y.cls y y ∈ pz_tbl ∧ .initialized y.cls ∈ pz_tbl) ∧
    pz_rcv rc y.cls ∧ ∀ (a : List pz_V) (M : pz_M), a.length = k.1 → k.2.2.1 a M → ∃ id t, a = .inr (.inr (rc, id)) :: t
/-- of a static call's -/
def pz_cS (fr lo : Nat) (own : String) (i : Nat) (k : pz_C) : Prop :=
  ∃ (y : MethodName) (cc : ByteArray) (maxL : Nat) (ret : Option FieldType) (fr' lo' n : Nat), pz_H y cc maxL ret k fr' lo' ∧ fr' + 1 ≤ fr ∧ 8 + (maxL + 11) + lo' ≤ lo ∧ k.1 = n ∧
    (y.cls ≠ "java/lang/invoke/MethodHandle" ∧ y.cls ≠ "java/lang/invoke/VarHandle" ∧ (parseMethodDescriptor y.desc).map (fun d => d.parameters.length) = some n) ∧
    (.code y cc maxL ret ∈ pz_tbl ∧ .static y ∈ pz_tbl ∧ .initialized y.cls ∈ pz_tbl) ∧ (.methodLink own i y ∈ pz_tbl ∨ (own = RX1 ∧ i = 35 ∧ y = yX11_within))
section PZV
variable {p : Program} {l : Launch} {e : Env} {R : Room} {s : State} {m : MethodId} {args : Array Value} {below : List Frame} {meth : Method} {c : Code} {cells slots : Nat} {Q : State → Prop}
variable {cc : ByteArray} {own : String} {nL : Nat} {D : va_G} {ad adV : Nat → Nat} {cy : Nat → ClassId} {A : Nat → Prop}
theorem pz_fromRun {H : Heap} {locs : List Loc} {ls : Array Slot} {st0 rest : List Value} {pc rk : Nat} {post : Option pz_V → pz_M → Prop} {k9 : List Value → State}
    (hr : va_Run p l e R s m args below meth c H locs cells slots 0 0 (F0 m pc ls st0) rest (fun st o t => (∃ (r : Option pz_V) (M' : pz_M), post r M' ∧ pz_rr rk r ∧ o = .returned (r.map (pz_v ad)) ∧ pz_G D ad adV cy A M' t) ∧ va_F A st t) A) (hS : va_S A s.heap H locs)
    (kk : ∀ (r : Option pz_V) (M' : pz_M) (H' : Heap) (locs' : List Loc), post r M' → pz_rr rk r → va_P D vwCl (pz_ws ad cy M') H' → va_S A s.heap H' locs' → (∀ a k : Nat, pz_c (M' a k)) → W p l e R s m args below meth c H' locs' cells slots Q (F0 m (pc + 3) ls (r.toList.map (pz_v ad) ++ rest))) : W p l e R s m args below meth c H locs cells slots Q (F0 m pc ls st0) := by
  intro T hT X
  obtain ⟨v, st₀, t, T', L, h0, X', hL, e1, e2, ⟨⟨r, M', q1, q2, q3, q4⟩, q5⟩, st⟩ := hr T hT X
  have hv : v = r.map (pz_v ad) := by cases q3; rfl
  subst hv
  have hS' : va_S A s.heap T'.heap (locs ++ L) := by
    refine ⟨?_, fun q h1 h2 => ?_, fun x hx => ?_⟩
    · have a1 := hS.1
      have a2 := q5.1
      rw [h0] at a2
      rw [e1]
      omega
    · have a1 := hS.1
      have a3 := q5.2 q (by rw [h0]; omega) h2
      rw [e1, a3, h0]
      exact hS.2.1 q h1 h2
    · rcases List.mem_append.mp hx with hx | hx
      · exact hS.2.2 x hx
      · exact hL x hx
  obtain ⟨t2, a1, b1⟩ := kk r M' T'.heap (locs ++ L) q1 q2 (by rw [e1]; exact q4.1) hS' q4.2.2 T' rfl X'
  refine ⟨t2, st t2 ?_, b1⟩
  have e3 : (r.map (pz_v ad)).toList = r.toList.map (pz_v ad) := by cases r <;> rfl
  rw [e3]
  exact a1
theorem pz_crV (Y : pz_Y p s m args c cc own nL D ad adV cy A) (hcs : cells ≤ R.cells ∧ slots ≤ R.slots) {i : Nat} {k : pz_C} (h : pz_cV R.frames R.locals own i k) : pz_CR p l e R s m args below meth c cells slots Q cc nL D ad cy A (.invokevirtual i) k := by
  obtain ⟨hx, hb, hml, hown, hts, hX⟩ := Y
  obtain ⟨y, bytes, maxL, ret, fr', lo', n, rc, hH, hfr, hlo, hn, hd, ⟨w1, w2, w3, w4, w5⟩, hrc, hre⟩ := h
  intro H locs ls M As rest pc hdg hP hS hM hAs hls hlen hrest hpre kk
  obtain ⟨id, t, rfl⟩ := hre As M hlen hpre
  have hid := hAs _ List.mem_cons_self
  have hcell : ∃ cellB : Cell, H[ad id]? = some cellB ∧ cellB.vm.isStatics = false ∧ s.vm.findClass y.cls = some cellB.cls := by
    rcases hrc with ⟨T, N, hc⟩ | ⟨rfl, hc⟩
    · have h13 : rc < 13 := (List.getElem?_eq_some_iff.mp hc).1
      have hlt : id < 206 := pz_kd_lo hid.1 (by show rc ≠ 99; omega)
      exact va_recv hX.1 hP hc (pz_wso hid.1 hlt h13)
    · have hlo : ¬ id < 206 := fun q => by
        have key : ∀ a, a < 206 → pz_kd a ≠ 99 := by decide +kernel
        exact key id q hid.1
      have h231 : id < 231 := hid.2
      have := vk_recv (i := id - 206) (adK := fun i => ad (206 + i)) hX.2.2.2.1 (by omega) hS
      rw [hc]
      rw [show 206 + (id - 206) = id by omega] at this
      exact this
  have hmet := hH l D ad adV cy A (.inr (.inr (rc, id)) :: t) M hlen hpre hAs
  have hrun := va_runV (p := p) (e := e) (R := R) (s := s) (m := m) (args := args) (below := below) (meth := meth) (c := c) (H := H) (locs := locs) (cells := cells) (slots := slots) (nL := nL) (own := own) (C := y.cls) (index := i) (n := n) (b := ad id) (As := t.map (pz_v ad)) (rest := rest.map (pz_v ad)) (g := F0 m pc ls ((( .inr (.inr (rc, id)) :: t : List pz_V).reverse ++ rest).map (pz_v ad))) (Ts := pz_tbl)
    ⟨hx, hb, hml, hown, hts⟩ hmet
    (cwV n hts (pz_good (by
      intro w hw
      rcases List.mem_append.mp hw with hw | hw
      · simp only [List.mem_cons, List.not_mem_nil, or_false] at hw
        rcases hw with rfl | rfl | rfl | rfl
        · exact w2
        · exact w3
        · exact w4
        · exact w5
      · rcases List.mem_cons.mp hw with rfl | hw
        · exact w1
        · exact hw)) rfl rfl rfl ⟨rfl, hd⟩ ⟨hfr, hlo⟩)
    ⟨pz_blind D ad adV cy A _ M, hcell, fun U hU hW => ⟨rfl, by rw [hU]; exact hP, by rw [hU]; exact (hX.kept hS.2.1).warm hW, hM⟩⟩
    rfl (by have : ( .inr (.inr (rc, id)) :: t : List pz_V).length = n + 1 := by rw [hlen, hn]
            simpa using this) hls (by simp [pz_v]) (by show 2 * 0 + _ ≤ 8; rw [pz_cs_v]; omega) hdg ⟨by simpa using hcs.1, by simpa using hcs.2⟩
  exact pz_fromRun (rk := k.2.1) (k9 := fun _ => s) hrun hS kk
theorem pz_crS (Y : pz_Y p s m args c cc own nL D ad adV cy A) (hcs : cells ≤ R.cells ∧ slots ≤ R.slots) {i : Nat} {k : pz_C} (h : pz_cS R.frames R.locals own i k) : pz_CR p l e R s m args below meth c cells slots Q cc nL D ad cy A (.invokestatic i) k := by
  obtain ⟨hx, hb, hml, hown, hts, hX⟩ := Y
  obtain ⟨y, bytes, maxL, ret, fr', lo', n, hH, hfr, hlo, hn, hd, ⟨w1, w3, w5⟩, w2⟩ := h
  intro H locs ls M As rest pc hdg hP hS hM hAs hls hlen hrest hpre kk
  have hmet := hH l D ad adV cy A As M hlen hpre hAs
  have hpS : PreS s H (va_Pc (As.map (pz_v ad)) (pz_G D ad adV cy A M)) (As.map (pz_v ad)) := ⟨pz_blind D ad adV cy A _ M, fun U hU hW => ⟨rfl, by rw [hU]; exact hP, by rw [hU]; exact (hX.kept hS.2.1).warm hW, hM⟩⟩
  have hgood : GoodIn pz_tbl (Cond.code y bytes maxL ret :: pz_tbl) := pz_good (by
    intro w hw
    rcases List.mem_cons.mp hw with rfl | hw
    · exact w1
    · exact hw)
  rcases w2 with w2 | ⟨rfl, rfl, rfl⟩
  · have hrun := va_runS (p := p) (e := e) (R := R) (s := s) (m := m) (args := args) (below := below) (meth := meth) (c := c) (H := H) (locs := locs) (cells := cells) (slots := slots) (nL := nL) (own := own) (index := i) (n := n) (As := As.map (pz_v ad)) (rest := rest.map (pz_v ad)) (g := F0 m pc ls ((As.reverse ++ rest).map (pz_v ad))) (Ts := pz_tbl)
      ⟨hx, hb, hml, hown, hts⟩ hmet
      (va_cwS n hts (pz_good (by
        intro w hw
        rcases List.mem_append.mp hw with hw | hw
        · simp only [List.mem_cons, List.not_mem_nil, or_false] at hw
          rcases hw with rfl | rfl | rfl
          · exact w2
          · exact w3
          · exact w5
        · rcases List.mem_cons.mp hw with rfl | hw
          · exact w1
          · exact hw)) rfl rfl rfl hd ⟨hfr, hlo⟩)
      hpS rfl (by simp [hlen, hn]) hls (by simp) (by show 2 * 0 + _ ≤ 8; rw [pz_cs_v]; omega) hdg ⟨by simpa using hcs.1, by simpa using hcs.2⟩
    exact pz_fromRun (rk := k.2.1) (k9 := fun _ => s) hrun hS kk
  · have hrun := va_runSN (p := p) (e := e) (R := R) (s := s) (m := m) (args := args) (below := below) (meth := meth) (c := c) (H := H) (locs := locs) (cells := cells) (slots := slots) (nL := nL) (own := RX1) (host := "TwelveChain") (index := 35) (n := n) (As := As.map (pz_v ad)) (rest := rest.map (pz_v ad)) (g := F0 m pc ls ((As.reverse ++ rest).map (pz_v ad))) (Ts := pz_tbl)
      ⟨hx, hb, hml, hown, hts⟩ hmet
      ⟨va_cnB n hts hgood rfl rfl rfl hX.2.2.2.2.2.2 (hts _ w5) hd ⟨hfr, hlo⟩, hts _ w3, trivial⟩
      hpS rfl (by simp [hlen, hn]) hls (by simp) (by show 2 * 0 + _ ≤ 8; rw [pz_cs_v]; omega) hdg ⟨by simpa using hcs.1, by simpa using hcs.2⟩
    exact pz_fromRun (rk := k.2.1) (k9 := fun _ => s) hrun hS kk
end PZV
/-- the locals at a method's start -/
def pz_es : List pz_V → pz_L
  | [] => []
  | .inr (.inl x) :: t => some (.inr (.inl x)) :: none :: pz_es t
  | v :: t => some v :: pz_es t
def pz_ent (a : List pz_V) (n : Nat) : pz_L := pz_es a ++ List.replicate (n - (pz_es a).length) none
/-- what is answered, by the descriptor and by the contract -/
def pz_ret (ret : Option FieldType) (rk : Nat) (rz : Bool) : Prop := match rk with
  | 0 => ret = none
  | 1 => ret = some .int ∧ rz = false ∨ ret = some .boolean ∧ rz = true
  | 2 => ret = some .long
  | k + 3 => ∃ C T N, vwCl[k]? = some (C, T, N) ∧ ret = some (.object C)
end
section
def pz_kk (rk : Nat) : Option pz_V → Prop
  | none => rk = 0
  | some (.inl _) => rk = 1
  | some (.inr (.inl _)) => rk = 2
  | some (.inr (.inr q)) => rk = q.1 + 3
theorem pz_es_len (ad : Nat → Nat) : ∀ a : List pz_V, (lg_sl (a.map (pz_v ad))).length = (pz_es a).length
  | [] => rfl
  | .inl x :: t => by
    have := pz_es_len ad t
    simp [lg_sl, pz_es, pz_v, Value.category] at this ⊢
    omega
  | .inr (.inl x) :: t => by
    have := pz_es_len ad t
    simp [lg_sl, pz_es, pz_v, Value.category] at this ⊢
    omega
  | .inr (.inr q) :: t => by
    have := pz_es_len ad t
    simp [lg_sl, pz_es, pz_v, Value.category] at this ⊢
    omega
theorem pz_es_mem (ad : Nat → Nat) : ∀ (a : List pz_V) (n i : Nat) (v : pz_V), (pz_es a)[i]? = some (some v) → (n + i, pz_v ad v) ∈ lv_args n (a.map (pz_v ad)) ∧ v ∈ a
  | [], n, i, v, h => by simp [pz_es] at h
  | .inl x :: t, n, 0, v, h => by
    simp [pz_es] at h
    subst h
    exact ⟨List.mem_cons_self, List.mem_cons_self⟩
  | .inl x :: t, n, i + 1, v, h => by
    obtain ⟨q1, q2⟩ := pz_es_mem ad t (n + 1) i v (by simpa [pz_es] using h)
    refine ⟨List.mem_cons_of_mem _ ?_, List.mem_cons_of_mem _ q2⟩
    rw [show n + (i + 1) = n + 1 + i by omega]
    exact q1
  | .inr (.inl x) :: t, n, 0, v, h => by
    simp [pz_es] at h
    subst h
    exact ⟨List.mem_cons_self, List.mem_cons_self⟩
  | .inr (.inl x) :: t, n, 1, v, h => by simp [pz_es] at h
  | .inr (.inl x) :: t, n, i + 2, v, h => by
    obtain ⟨q1, q2⟩ := pz_es_mem ad t (n + 2) i v (by simpa [pz_es] using h)
    refine ⟨List.mem_cons_of_mem _ ?_, List.mem_cons_of_mem _ q2⟩
    rw [show n + (i + 2) = n + 2 + i by omega]
    exact q1
  | .inr (.inr q) :: t, n, 0, v, h => by
    simp [pz_es] at h
    subst h
    exact ⟨List.mem_cons_self, List.mem_cons_self⟩
  | .inr (.inr q) :: t, n, i + 1, v, h => by
    obtain ⟨q1, q2⟩ := pz_es_mem ad t (n + 1) i v (by simpa [pz_es] using h)
    refine ⟨List.mem_cons_of_mem _ ?_, List.mem_cons_of_mem _ q2⟩
    rw [show n + (i + 1) = n + 1 + i by omega]
    exact q1
theorem pz_entLV {ad : Nat → Nat} {a : List pz_V} {n : Nat} (h : (pz_es a).length ≤ n) (hc : ∀ v ∈ a, pz_cv v) : pz_LV ad ((lg_sl (a.map (pz_v ad)) ++ List.replicate (n - (lg_sl (a.map (pz_v ad))).length) Slot.unset).toArray) n (pz_ent a n) := by
  refine pz_LV.of (lv_entry (a.map (pz_v ad)) (by rw [pz_es_len]; exact h)) (by simp [pz_ent]; omega) (fun i v e => ?_)
  unfold pz_ent at e
  by_cases hi : i < (pz_es a).length
  · rw [List.getElem?_append_left hi] at e
    obtain ⟨q1, q2⟩ := pz_es_mem ad a 0 i v e
    rw [Nat.zero_add] at q1
    exact ⟨q1, hc v q2⟩
  · rw [List.getElem?_append_right (by omega)] at e
    rw [List.getElem?_replicate] at e
    split at e <;> cases e
/-- the copying of ints from one row to another -/
def pz_cpy (M : pz_M) (a1 sp a2 dp n : Nat) : pz_M := fun b j => if b = a2 ∧ dp ≤ j ∧ j < dp + n then M a1 (sp + (j - dp)) else M b j
def pz_kac : pz_C := (5, 0, fun a _ => ∃ (k1 a1 k2 a2 : Nat) (sp dp n : Int), a = [.inr (.inr (k1, a1)), .inl sp, .inr (.inr (k2, a2)), .inl dp, .inl n] ∧ (pz_ak k1).1 = 0 ∧ (pz_ak k2).1 = 0 ∧ 0 ≤ sp ∧ 0 ≤ dp ∧ 0 ≤ n ∧ sp + n ≤ ((pz_ak k1).2 : Int) ∧ dp + n ≤ ((pz_ak k2).2 : Int),
  fun a M r M' => ∃ (k1 a1 k2 a2 : Nat) (sp dp n : Int), a = [.inr (.inr (k1, a1)), .inl sp, .inr (.inr (k2, a2)), .inl dp, .inl n] ∧ r = none ∧ M' = pz_cpy M a1 sp.toNat a2 dp.toNat n.toNat)
theorem pz_acw : (Cond.native arraycopyName) ∈ pz_tbl ∧ (Cond.static arraycopyName) ∈ pz_tbl ∧ (Cond.initialized "java/lang/System") ∈ pz_tbl := by
  refine ⟨pz_tbl_in (by decide +kernel) (by decide +kernel), pz_tbl_in (by decide +kernel) (by decide +kernel), pz_tbl_in (by decide +kernel) (by decide +kernel)⟩
section PZA
variable {p : Program} {l : Launch} {e : Env} {R : Room} {s : State} {m : MethodId} {args : Array Value} {below : List Frame} {meth : Method} {c : Code} {cells slots : Nat} {Q : State → Prop}
variable {cc : ByteArray} {own : String} {nL : Nat} {D : va_G} {ad adV : Nat → Nat} {cy : Nat → ClassId} {A : Nat → Prop}
theorem pz_crA (Y : pz_Y p s m args c cc own nL D ad adV cy A) (hfr : 1 ≤ R.frames) (hlo : 60 ≤ R.locals) {i : Nat} (h : Cond.methodLink own i arraycopyName ∈ pz_tbl) : pz_CR p l e R s m args below meth c cells slots Q cc nL D ad cy A (.invokestatic i) pz_kac := by
  obtain ⟨hx, hb, hml, hown, hts, hX⟩ := Y
  intro H locs ls M As rest pc hdg hP hS hM hAs hls hlen hrest hpre kk
  obtain ⟨k1, a1, k2, a2, sp, dp, n, rfl, e1, e2, h1, h2, h3, h4, h5⟩ := hpre
  obtain ⟨c1, hAs⟩ := pz_tlm hAs
  obtain ⟨csp, hAs⟩ := pz_tlm hAs
  obtain ⟨c2, hAs⟩ := pz_tlm hAs
  obtain ⟨cdp, hAs⟩ := pz_tlm hAs
  obtain ⟨cn, -⟩ := pz_tlm hAs
  obtain ⟨x1, x2, -⟩ := pz_ak_of (kd := k1) (t := (pz_ak k1).1) (n := (pz_ak k1).2) rfl (by omega)
  obtain ⟨y1, y2, -⟩ := pz_ak_of (kd := k2) (t := (pz_ak k2).1) (n := (pz_ak k2).2) rfl (by omega)
  have c1k : pz_kd a1 = k1 := c1.1
  have c2k : pz_kd a2 = k2 := c2.1
  have hnf : nativeFrameWords "java/lang/System" "arraycopy" 5 ≤ 40 := by decide +kernel
  have l1 : a1 < 206 := pz_kd_lo c1k (by show k1 ≠ 99; omega)
  have l2 : a2 < 206 := pz_kd_lo c2k (by show k2 ≠ 99; omega)
  have w1 := pz_wse (ad := ad) (cy := cy) (M := M) c1k l1 (show ¬ k1 < 13 by omega) (show (pz_ak k1).1 < 2 by omega)
  have w2 := pz_wse (ad := ad) (cy := cy) (M := M) c2k l2 (show ¬ k2 < 13 by omega) (show (pz_ak k2).1 < 2 by omega)
  rw [e1] at w1
  rw [e2] at w2
  have n0 : ∀ x : Int, 0 ≤ x → pz_c x → ¬ Int32.ofInt x < 0 := fun x hx hc q => by
    have := (pz_lt hc (show pz_c 0 by unfold pz_c; omega)).mp q
    omega
  refine va_copyi (ls := ls) (rest := rest.map (pz_v ad)) (sp := Int32.ofInt sp) (dp := Int32.ofInt dp) (n := Int32.ofInt n) hx hb (by rw [hml, hls]) hown (hts _ h) (hts _ pz_acw.1) (hts _ pz_acw.2.1) (hts _ pz_acw.2.2) hX.1 hP (hX.D M) hS a1 a2 0 0 w1 w2 rfl rfl rfl (n0 sp h1 csp) (n0 dp h2 cdp) (n0 n h3 cn) (by rw [pz_clamp csp, pz_clamp cn]; omega) (by rw [pz_clamp cdp, pz_clamp cn]; omega) (fun _ _ => rfl) hfr (by rw [pz_cs_v]; omega) hdg (fun H1 locs1 hP1 hD1 hS1 => ?_)
  rw [pz_clamp csp, pz_clamp cdp, pz_clamp cn] at hP1
  have hw : (pz_ws ad cy M).set a2 (ad a2, .inl (cy 0, (pz_ak k2).2, .inl (va_cpy (fun j => Int32.ofInt (M a1 j)) (fun j => Int32.ofInt (M a2 j)) sp.toNat dp.toNat n.toNat))) = pz_ws ad cy (pz_cpy M a1 sp.toNat a2 dp.toNat n.toNat) := by
    apply List.ext_getElem?
    intro b
    by_cases hb : b = a2
    · subst hb
      rw [List.getElem?_set_self (by simp [pz_ws, l2]), pz_wse (M := pz_cpy M a1 sp.toNat b dp.toNat n.toNat) c2k l2 (show ¬ k2 < 13 by omega) (show (pz_ak k2).1 < 2 by omega), e2]
      have ef : (va_cpy (fun j => Int32.ofInt (M a1 j)) (fun j => Int32.ofInt (M b j)) sp.toNat dp.toNat n.toNat) = fun j => Int32.ofInt (pz_cpy M a1 sp.toNat b dp.toNat n.toNat b j) := by
        funext j
        unfold va_cpy pz_cpy
        by_cases hj : dp.toNat ≤ j ∧ j < dp.toNat + n.toNat
        · rw [if_pos hj, if_pos ⟨rfl, hj⟩]
        · rw [if_neg hj, if_neg (fun q => hj q.2)]
      rw [ef]
    · rw [List.getElem?_set_ne (Ne.symm hb)]
      by_cases hl : b < 206
      · rw [pz_ws_get hl, pz_ws_get hl]
        have eM : ∀ j, pz_cpy M a1 sp.toNat a2 dp.toNat n.toNat b j = M b j := fun j => by
          unfold pz_cpy
          rw [if_neg (fun q => hb q.1)]
        have e2 : pz_fv ad (pz_cpy M a1 sp.toNat a2 dp.toNat n.toNat) b = pz_fv ad M b := by
          funext k2 j
          unfold pz_fv
          cases pz_rk k2 j with
          | some _ => rfl
          | none => simp only [eM]
        unfold pz_en pz_eo pz_ei
        simp only [eM, e2]
      · simp [pz_ws, hl]
  rw [hw] at hP1
  exact kk none _ H1 locs1 ⟨k1, a1, k2, a2, sp, dp, n, rfl, rfl, rfl⟩ rfl hP1 hS1 (fun a k => by
    unfold pz_cpy
    split
    · exact hM _ _
    · exact hM _ _)
end PZA
theorem pz_mk {y : MethodName} {cc : ByteArray} {maxL : Nat} {ret : Option FieldType} {k : pz_C} {fr lo : Nat} {own : String} {tb : List pz_E} {fl : Nat → Option (Nat × Nat)} {ci : Nat → Option pz_V} {ct : Bool → Nat → Option pz_C} {rz : Bool}
    (hy : plainFor y = true) (hown : y.cls = own) (htb : tb.all (fun q => pz_wf cc q) = true) (hfl : ∀ i q, fl i = some q → pz_flok own (i, q)) (hci : ∀ i v, ci i = some v → pz_ciok own i v)
    (hcv : ∀ i k', ct true i = some k' → pz_cV fr lo own i k') (hcs : ∀ i k', ct false i = some k' → pz_cS fr lo own i k' ∨ (k' = pz_kac ∧ 1 ≤ fr ∧ 60 ≤ lo ∧ Cond.methodLink own i arraycopyName ∈ pz_tbl)) (hret : pz_ret ret k.2.1 rz)
    (hsz : ∀ (a : List pz_V) (M : pz_M), a.length = k.1 → k.2.2.1 a M → (pz_es a).length ≤ maxL)
    (vc : ∀ (a : List pz_V) (M : pz_M), a.length = k.1 → (∀ v ∈ a, pz_cv v) → (∀ b j : Nat, pz_c (M b j)) → k.2.2.1 a M → ∀ Ok : pz_F, pz_Go tb fl ci ct rz Ok (fun r M' => pz_kk k.2.1 r ∧ k.2.2.2 a M r M') → Ok 0 (pz_ent a maxL) [] M) : pz_H y cc maxL ret k fr lo := by
  intro l D ad adV cy A a M hlen hpre hcan
  refine va_MetF (cc := cc) (maxL := maxL) (ret := ret) hy rfl ?_
  intro p e s m args below meth c s₁ B hml hv
  obtain ⟨rfl, hP, hX, hM⟩ := hv
  have hx := B.exec
  have hb := B.bytes
  have hr := B.returns
  have hts0 := atoms_spec (ws := .code y cc maxL ret :: pz_tbl) B.pre
  have hts : ∀ w ∈ pz_tbl, w.before (a.map (pz_v ad)).toArray s = true := fun w hw => hts0 w (List.mem_cons_of_mem _ hw)
  have hown2 : s.vm.findClass own = some m.cls := by rw [← hown]; exact findClass_of_methodNamed B.named
  have hlocks := B.notSynchronized
  have Y : pz_Y p s m (a.map (pz_v ad)).toArray c cc own maxL D ad adV cy A := ⟨hx, hb, hml, hown2, hts, hX⟩
  rw [lg_entry_eq]
  have hRT : pz_RT p l e { frames := fr, cells := 0, slots := 0, locals := lo } s m (a.map (pz_v ad)).toArray below meth c 0 0 (MQ below (fun _ st o t => (∃ (r : Option pz_V) (M' : pz_M), k.2.2.2 a M r M' ∧ pz_rr k.2.1 r ∧ o = .returned (r.map (pz_v ad)) ∧ pz_G D ad adV cy A M' t) ∧ va_F A st t) (a.map (pz_v ad)).toArray s 0 0 A) cc D ad cy A (fun r M' => pz_kk k.2.1 r ∧ k.2.2.2 a M r M') rz := by
    intro I r pc H locs ls M' hdg hok hcr hP' hS' hM' hpost
    have hfin : ∀ rr : pz_rr k.2.1 r, ∀ t : State, t.heap = H → s.WarmedH t.vm → (∃ (r' : Option pz_V) (M' : pz_M), k.2.2.2 a M r' M' ∧ pz_rr k.2.1 r' ∧ Outcome.returned (r.map (pz_v ad)) = .returned (r'.map (pz_v ad)) ∧ pz_G D ad adV cy A M' t) ∧ va_F A s t := by
      intro rr t ht hW
      refine ⟨⟨r, M', hpost.2, rr, rfl, by rw [ht]; exact hP', by rw [ht]; exact (hX.kept hS'.2.1).warm hW, hM'⟩, by rw [ht]; exact hS'.1, fun q h1 h2 => by rw [ht]; exact hS'.2.1 q h1 h2⟩
    rcases hok with ⟨rfl, x, rfl, hz⟩ | ⟨rfl, x, rfl⟩ | ⟨rfl, x, rfl⟩ | ⟨rfl, rfl⟩
    · have h1 : k.2.1 = 1 := hpost.1
      rw [h1] at hret hfin
      rcases hret with ⟨hret, hzz⟩ | ⟨hret, hzz⟩
      · exact W.zret (v := Int32.ofInt x) (ty := .int) hx hb (by rw [hr, hret]) rfl (fun t ht hW => by rw [h1]; exact hfin ⟨x, rfl, hcr _ rfl⟩ t ht hW) hS'.2.2 hdg
      · refine W.zret (v := Int32.ofInt x) (ty := .boolean) hx hb (by rw [hr, hret]) ?_ (fun t ht hW => by rw [h1]; exact hfin ⟨x, rfl, hcr _ rfl⟩ t ht hW) hS'.2.2 hdg
        rcases hz hzz with rfl | rfl <;> rfl
    · have h1 : k.2.1 = 2 := hpost.1
      rw [h1] at hret hfin
      have hret : ret = some .long := hret
      exact W.lret (v := Int64.ofInt x) hx hb (by rw [hr, hret]) (fun t ht hW => by rw [h1]; exact hfin ⟨x, rfl, hcr _ rfl⟩ t ht hW) hS'.2.2 hdg
    · have h1 : k.2.1 = x.1 + 3 := hpost.1
      rw [h1] at hret hfin
      obtain ⟨C, T, N, hc, hret⟩ := hret
      exact W.aret (v := .ref (ad x.2)) hx hb (by rw [hr, hret]) (Or.inl ⟨C, rfl⟩) (Or.inr ⟨_, rfl⟩) (fun t ht hW => by rw [h1]; exact hfin ⟨x.2, rfl, hcr _ rfl⟩ t ht hW) hS'.2.2 hdg
    · have h1 : k.2.1 = 0 := hpost.1
      rw [h1] at hret hfin
      have hret : ret = none := hret
      exact W.vret hx hb (by rw [hr, hret]) (fun t ht hW => by rw [h1]; exact hfin rfl t ht hW) hS'.2.2 hdg
  have hgo := vc a M hlen hcan hM hpre _ (fun cut n pc lo' st M' h => pz_many (R := { frames := fr, cells := 0, slots := 0, locals := lo }) (cells := 0) (slots := 0) Y htb hfl hci (fun i k' hk => pz_crV Y ⟨Nat.le_refl 0, Nat.le_refl 0⟩ (hcv i k' hk)) (fun i k' hk => by
    rcases hcs i k' hk with q | ⟨rfl, q1, q2, q3⟩
    · exact pz_crS Y ⟨Nat.le_refl 0, Nat.le_refl 0⟩ q
    · exact pz_crA Y q1 q2 q3) hRT n pc lo' st M' h)
  exact hgo s.heap [] _ hP va_S.rf hM (pz_entLV (hsz a M hlen hpre) hcan) (fun v hv => absurd hv List.not_mem_nil)
end
section
def pz_flf (l : List (Nat × Nat × Nat)) (i : Nat) : Option (Nat × Nat) := (l.find? (fun q => Nat.beq q.1 i)).map (fun q => q.2)
def pz_flc (own : String) (q : Nat × Nat × Nat) : Bool := match vwCl[q.2.1]? with
  | some (_, T, N) => decide (q.2.2 < N) && decide (Cond.fieldLink own q.1 (T q.2.2).1 (T q.2.2).2.1 (T q.2.2).2.2.1 ∈ lw_tbl)
  | none => false
theorem pz_flk {own : String} {l : List (Nat × Nat × Nat)} (h : l.all (pz_flc own) = true) : ∀ i q, pz_flf l i = some q → pz_flok own (i, q) := by
  intro i q hq
  unfold pz_flf at hq
  cases hf : l.find? (fun q => Nat.beq q.1 i) with
  | none => rw [hf] at hq; cases hq
  | some r =>
    rw [hf] at hq
    cases hq
    have h1 := List.all_eq_true.mp h r (List.mem_of_find?_eq_some hf)
    have h2 := List.find?_some hf
    have h2 := Nat.eq_of_beq_eq_true (n := r.1) (m := i) h2
    unfold pz_flc at h1
    obtain ⟨r1, r2, r3⟩ := r
    simp only at h1 h2
    subst h2
    cases hc : vwCl[r2]? with
    | none => rw [hc] at h1; cases h1
    | some z =>
      obtain ⟨C, T, N⟩ := z
      rw [hc] at h1
      simp only [Bool.and_eq_true, decide_eq_true_eq] at h1
      exact ⟨C, T, N, hc, h1.1, pz_tbl_in h1.2 rfl⟩
def pz_cif (l : List (Nat × pz_V)) (i : Nat) : Option pz_V := (l.find? (fun q => Nat.beq q.1 i)).map (fun q => q.2)
def pz_cic (own : String) (q : Nat × pz_V) : Bool := match q.2 with
  | .inl x => decide (Cond.constant own q.1 (Int32.ofInt x) ∈ lw_tbl) && (decide (-2147483648 ≤ x) && decide (x ≤ 2147483647))
  | .inr (.inl x) => decide (Cond.constantLong own q.1 (Int64.ofInt x) ∈ lw_tbl) && (decide (-9223372036854775808 ≤ x) && decide (x ≤ 9223372036854775807))
  | .inr (.inr z) => (match pz_ss[z.2 - 206]? with
    | some (o, k, _) => decide (o = own) && (decide (k = q.1) && (decide (z.1 = 99) && decide (206 ≤ z.2)))
    | none => false)
set_option maxRecDepth 100000 in
theorem pz_cik {own : String} {l : List (Nat × pz_V)} (h : l.all (pz_cic own) = true) : ∀ i v, pz_cif l i = some v → pz_ciok own i v := by
  intro i v hv
  unfold pz_cif at hv
  cases hf : l.find? (fun q => Nat.beq q.1 i) with
  | none => rw [hf] at hv; cases hv
  | some r =>
    rw [hf] at hv
    cases hv
    have h1 := List.all_eq_true.mp h r (List.mem_of_find?_eq_some hf)
    have h2 := List.find?_some hf
    have h2 := Nat.eq_of_beq_eq_true (n := r.1) (m := i) h2
    obtain ⟨r1, r2⟩ := r
    simp only at h2
    subst h2
    unfold pz_cic at h1
    match r2, h1 with
    | .inl x, h1 =>
      simp only [Bool.and_eq_true, decide_eq_true_eq] at h1
      exact ⟨pz_tbl_in h1.1 rfl, h1.2.1, h1.2.2⟩
    | .inr (.inl x), h1 =>
      simp only [Bool.and_eq_true, decide_eq_true_eq] at h1
      exact ⟨pz_tbl_in h1.1 rfl, h1.2.1, h1.2.2⟩
    | .inr (.inr (z1, z2)), h1 =>
      simp only at h1
      cases hs : pz_ss[z2 - 206]? with
      | none => rw [hs] at h1; cases h1
      | some w =>
        obtain ⟨o, k, tx⟩ := w
        rw [hs] at h1
        simp only [Bool.and_eq_true, decide_eq_true_eq] at h1
        obtain ⟨rfl, rfl, rfl, h4⟩ := h1
        exact ⟨z2 - 206, tx, by rw [show 206 + (z2 - 206) = z2 by omega], hs⟩
def pz_ctf (l : List (Bool × Nat × pz_C)) (b : Bool) (i : Nat) : Option pz_C := match l with
  | [] => none
  | (true, j, k) :: t => (match b, Nat.beq j i with | true, true => some k | _, _ => pz_ctf t b i)
  | (false, j, k) :: t => (match b, Nat.beq j i with | false, true => some k | _, _ => pz_ctf t b i)
theorem pz_ctk {P : Bool → Nat → pz_C → Prop} : ∀ {l : List (Bool × Nat × pz_C)}, (∀ q ∈ l, P q.1 q.2.1 q.2.2) → ∀ b i k, pz_ctf l b i = some k → P b i k
  | [], _, b, i, k, hk => by cases hk
  | (b', j, k') :: t, h, b, i, k, hk => by
    have ht := pz_ctk (l := t) (fun q hq => h q (List.mem_cons_of_mem _ hq)) b i k
    have h0 := h _ List.mem_cons_self
    cases b' <;> cases b <;> cases hb : Nat.beq j i <;> simp only [pz_ctf, hb] at hk
    all_goals first
      | exact ht hk
      | (cases hk; rw [← Nat.eq_of_beq_eq_true hb]; exact h0)
theorem pz_cVk {y : MethodName} {cc : ByteArray} {maxL : Nat} {ret : Option FieldType} {k : pz_C} {fr' lo' : Nat} (n rc : Nat) (hH : pz_H y cc maxL ret k fr' lo') (hn : k.1 = n + 1)
    (hd : y.cls ≠ "java/lang/invoke/MethodHandle" ∧ y.cls ≠ "java/lang/invoke/VarHandle" ∧ (parseMethodDescriptor y.desc).map (fun d => d.parameters.length) = some n)
    (hw : .code y cc maxL ret ∈ lw_tbl ∧ .instanceMethod y ∈ lw_tbl ∧ .selects y.cls y y ∈ lw_tbl ∧ .initialized y.cls ∈ lw_tbl) (hrc : pz_rcv rc y.cls) (hre : ∀ (a : List pz_V) (M : pz_M), a.length = k.1 → k.2.2.1 a M → ∃ id t, a = .inr (.inr (rc, id)) :: t)
    {fr lo i : Nat} {own : String} (h1 : fr' + 1 ≤ fr) (h2 : 8 + (maxL + 11) + lo' ≤ lo) (h3 : .methodLink own i y ∈ lw_tbl) : pz_cV fr lo own i k :=
  ⟨y, cc, maxL, ret, fr', lo', n, rc, hH, h1, h2, hn, hd, ⟨pz_tbl_in hw.1 rfl, pz_tbl_in h3 rfl, pz_tbl_in hw.2.1 rfl, pz_tbl_in hw.2.2.1 rfl, pz_tbl_in hw.2.2.2 rfl⟩, hrc, hre⟩
theorem pz_cSk {y : MethodName} {cc : ByteArray} {maxL : Nat} {ret : Option FieldType} {k : pz_C} {fr' lo' : Nat} (n : Nat) (hH : pz_H y cc maxL ret k fr' lo') (hn : k.1 = n)
    (hd : y.cls ≠ "java/lang/invoke/MethodHandle" ∧ y.cls ≠ "java/lang/invoke/VarHandle" ∧ (parseMethodDescriptor y.desc).map (fun d => d.parameters.length) = some n)
    (hw : .code y cc maxL ret ∈ lw_tbl ∧ .static y ∈ lw_tbl ∧ .initialized y.cls ∈ lw_tbl)
    {fr lo i : Nat} {own : String} (h1 : fr' + 1 ≤ fr) (h2 : 8 + (maxL + 11) + lo' ≤ lo) (h3 : .methodLink own i y ∈ lw_tbl ∨ (own = RX1 ∧ i = 35 ∧ y = yX11_within)) : pz_cS fr lo own i k :=
  ⟨y, cc, maxL, ret, fr', lo', n, hH, h1, h2, hn, hd, ⟨pz_tbl_in hw.1 rfl, pz_tbl_in hw.2.1 rfl, pz_tbl_in hw.2.2 rfl⟩, h3.imp (fun h => pz_tbl_in h rfl) id⟩

def fl_RX5 : List (Nat × Nat × Nat) := [(9, 5, 7), (15, 5, 0), (18, 5, 1), (21, 5, 2), (24, 5, 3), (27, 5, 4), (30, 5, 5), (33, 5, 6)]
theorem fl_RX5_ok : fl_RX5.all (pz_flc RX5) = true := by decide +kernel
def fl_RX1 : List (Nat × Nat × Nat) := [(9, 1, 0), (15, 1, 1), (19, 0, 7), (25, 0, 0), (29, 0, 4), (32, 0, 3), (49, 5, 0), (58, 10, 0), (70, 5, 2), (80, 5, 6), (87, 5, 1), (90, 5, 4), (93, 5, 5), (96, 10, 1), (100, 6, 0), (152, 0, 5), (155, 5, 7)]
theorem fl_RX1_ok : fl_RX1.all (pz_flc RX1) = true := by decide +kernel
def fl_RX11 : List (Nat × Nat × Nat) := [(14, 11, 0), (18, 11, 1), (24, 11, 2), (28, 11, 3), (37, 11, 4), (44, 11, 5), (51, 11, 6), (60, 11, 7), (66, 10, 0), (73, 11, 8), (80, 11, 9), (84, 11, 10), (87, 11, 11), (90, 11, 12), (93, 0, 6), (100, 0, 3), (122, 5, 0), (125, 5, 1), (128, 5, 2), (131, 5, 3), (134, 5, 4), (175, 5, 5), (181, 0, 4), (188, 7, 1), (199, 9, 3), (202, 9, 4), (206, 5, 6), (209, 5, 7), (234, 0, 7), (252, 0, 5), (313, 8, 2), (316, 8, 1), (362, 11, 13), (369, 3, 0), (372, 10, 1), (375, 6, 0), (378, 10, 2), (381, 10, 3), (384, 2, 2)]
theorem fl_RX11_ok : fl_RX11.all (pz_flc RX11) = true := by decide +kernel
def fl_RX0 : List (Nat × Nat × Nat) := [(11, 0, 1), (18, 0, 2), (22, 0, 0), (30, 0, 3), (34, 0, 4), (37, 0, 5), (40, 0, 6), (43, 0, 7), (52, 5, 1), (55, 5, 0), (68, 5, 6), (75, 5, 4), (87, 5, 7), (94, 5, 2), (103, 5, 3)]
theorem fl_RX0_ok : fl_RX0.all (pz_flc RX0) = true := by decide +kernel
def fl_RX3 : List (Nat × Nat × Nat) := [(9, 3, 2), (15, 3, 3), (18, 3, 4), (21, 3, 5), (24, 3, 6), (27, 3, 7), (30, 3, 0), (34, 3, 1), (61, 5, 3), (66, 5, 2)]
theorem fl_RX3_ok : fl_RX3.all (pz_flc RX3) = true := by decide +kernel
def fl_RX4 : List (Nat × Nat × Nat) := [(9, 4, 1), (15, 4, 2), (18, 4, 3), (21, 4, 4), (24, 4, 0), (38, 0, 3), (54, 5, 5), (59, 5, 4), (72, 5, 3)]
theorem fl_RX4_ok : fl_RX4.all (pz_flc RX4) = true := by decide +kernel
def fl_RX9 : List (Nat × Nat × Nat) := [(12, 9, 1), (21, 9, 2), (25, 9, 4), (29, 9, 0), (33, 9, 3), (36, 9, 9), (39, 9, 8), (47, 7, 1), (58, 10, 0), (65, 3, 0), (78, 6, 0), (81, 9, 5), (84, 7, 2), (88, 9, 6), (91, 7, 3), (94, 9, 7), (97, 7, 4), (106, 3, 1)]
theorem fl_RX9_ok : fl_RX9.all (pz_flc RX9) = true := by decide +kernel
def fl_RX6 : List (Nat × Nat × Nat) := [(9, 6, 1), (15, 6, 0)]
theorem fl_RX6_ok : fl_RX6.all (pz_flc RX6) = true := by decide +kernel
def fl_RX10 : List (Nat × Nat × Nat) := [(12, 10, 0), (21, 10, 1), (25, 10, 2), (28, 10, 3), (38, 6, 0)]
theorem fl_RX10_ok : fl_RX10.all (pz_flc RX10) = true := by decide +kernel
def fl_RX2 : List (Nat × Nat × Nat) := [(11, 2, 0), (20, 2, 2), (24, 2, 1)]
theorem fl_RX2_ok : fl_RX2.all (pz_flc RX2) = true := by decide +kernel
def fl_RX7 : List (Nat × Nat × Nat) := [(9, 7, 0), (15, 7, 2), (19, 7, 3), (22, 7, 4), (25, 7, 1)]
theorem fl_RX7_ok : fl_RX7.all (pz_flc RX7) = true := by decide +kernel
def fl_RX8 : List (Nat × Nat × Nat) := [(9, 8, 4), (15, 8, 5), (18, 8, 6), (21, 8, 7), (24, 8, 0), (34, 8, 3), (50, 8, 1), (59, 8, 2)]
theorem fl_RX8_ok : fl_RX8.all (pz_flc RX8) = true := by decide +kernel
def fl_RX12 : List (Nat × Nat × Nat) := [(7, 12, 0), (13, 12, 1), (16, 12, 2), (19, 12, 3), (22, 12, 6), (25, 12, 7), (28, 12, 8), (31, 12, 9), (34, 12, 10), (37, 12, 11), (40, 12, 25), (44, 12, 27), (68, 12, 4), (80, 12, 16), (83, 12, 17), (86, 12, 19), (150, 12, 12), (167, 12, 18), (179, 12, 20), (182, 12, 21), (185, 12, 22), (194, 12, 14), (197, 12, 24), (229, 12, 13), (238, 12, 15), (270, 12, 23), (313, 12, 26), (464, 12, 5)]
theorem fl_RX12_ok : fl_RX12.all (pz_flc RX12) = true := by decide +kernel
def ci_RX0 : List (Nat × pz_V) := [(46, .inl (1664525)), (47, .inl (1013904223))]
theorem ci_RX0_ok : ci_RX0.all (pz_cic RX0) = true := by decide +kernel
def ci_RJ6 : List (Nat × pz_V) := [(265, .inl (1431655765)), (266, .inl (858993459)), (267, .inl (252645135))]
theorem ci_RJ6_ok : ci_RJ6.all (pz_cic RJ6) = true := by decide +kernel
def ci_RX7 : List (Nat × pz_V) := [(52, .inr (.inr (99, 206)))]
theorem ci_RX7_ok : ci_RX7.all (pz_cic RX7) = true := by decide +kernel
def ci_RX11 : List (Nat × pz_V) := [(205, .inl (-100000)), (271, .inl (1000000)), (275, .inl (500000)), (307, .inr (.inl (1000000)))]
theorem ci_RX11_ok : ci_RX11.all (pz_cic RX11) = true := by decide +kernel
def ci_RX4 : List (Nat × pz_V) := [(28, .inl (1000000)), (36, .inr (.inl (1000000)))]
theorem ci_RX4_ok : ci_RX4.all (pz_cic RX4) = true := by decide +kernel
def ci_RX12 : List (Nat × pz_V) := [(74, .inl (1664525)), (75, .inl (1013904223)), (99, .inr (.inr (99, 215))), (105, .inr (.inr (99, 216))), (107, .inr (.inr (99, 217))), (109, .inr (.inr (99, 218))), (111, .inr (.inr (99, 219))), (113, .inr (.inr (99, 220))), (115, .inr (.inr (99, 221))), (117, .inr (.inr (99, 222))), (119, .inr (.inr (99, 223))), (121, .inr (.inr (99, 207))), (123, .inr (.inr (99, 208))), (125, .inr (.inr (99, 209))), (127, .inr (.inr (99, 210))), (129, .inr (.inr (99, 211))), (131, .inr (.inr (99, 212))), (133, .inr (.inr (99, 213))), (135, .inr (.inr (99, 214))), (140, .inr (.inr (99, 224))), (142, .inr (.inr (99, 225))), (144, .inr (.inr (99, 226))), (146, .inr (.inr (99, 227))), (148, .inr (.inr (99, 228))), (159, .inr (.inr (99, 229))), (161, .inr (.inr (99, 230))), (391, .inl (-100000)), (404, .inr (.inl (1000000))), (406, .inr (.inl (1000))), (419, .inr (.inl (500000))), (421, .inl (1000000)), (425, .inr (.inl (-1))), (448, .inl (1000000000))]
theorem ci_RX12_ok : ci_RX12.all (pz_cic RX12) = true := by decide +kernel
end
section
theorem pz_kd0 {a : Nat} (h : pz_kd a = 0) : 71 ≤ a ∧ a < 80 := by
  have key : ∀ a, a < 206 → pz_kd a = 0 → 71 ≤ a ∧ a < 80 := by decide +kernel
  exact key a (pz_kd_lo h (by decide)) h
theorem pz_kd1 {a : Nat} (h : pz_kd a = 1) : a = 2 := by
  have key : ∀ a, a < 206 → pz_kd a = 1 → a = 2 := by decide +kernel
  exact key a (pz_kd_lo h (by decide)) h
theorem pz_kd2 {a : Nat} (h : pz_kd a = 2) : a = 3 := by
  have key : ∀ a, a < 206 → pz_kd a = 2 → a = 3 := by decide +kernel
  exact key a (pz_kd_lo h (by decide)) h
theorem pz_kd3 {a : Nat} (h : pz_kd a = 3) : 10 ≤ a ∧ a < 13 := by
  have key : ∀ a, a < 206 → pz_kd a = 3 → 10 ≤ a ∧ a < 13 := by decide +kernel
  exact key a (pz_kd_lo h (by decide)) h
theorem pz_kd4 {a : Nat} (h : pz_kd a = 4) : a = 6 := by
  have key : ∀ a, a < 206 → pz_kd a = 4 → a = 6 := by decide +kernel
  exact key a (pz_kd_lo h (by decide)) h
theorem pz_kd5 {a : Nat} (h : pz_kd a = 5) : 89 ≤ a ∧ a < 206 := by
  have key : ∀ a, a < 206 → pz_kd a = 5 → 89 ≤ a ∧ a < 206 := by decide +kernel
  exact key a (pz_kd_lo h (by decide)) h
theorem pz_kd6 {a : Nat} (h : pz_kd a = 6) : 13 ≤ a ∧ a < 20 := by
  have key : ∀ a, a < 206 → pz_kd a = 6 → 13 ≤ a ∧ a < 20 := by decide +kernel
  exact key a (pz_kd_lo h (by decide)) h
theorem pz_kd7 {a : Nat} (h : pz_kd a = 7) : a = 4 := by
  have key : ∀ a, a < 206 → pz_kd a = 7 → a = 4 := by decide +kernel
  exact key a (pz_kd_lo h (by decide)) h
theorem pz_kd8 {a : Nat} (h : pz_kd a = 8) : a = 7 := by
  have key : ∀ a, a < 206 → pz_kd a = 8 → a = 7 := by decide +kernel
  exact key a (pz_kd_lo h (by decide)) h
theorem pz_kd9 {a : Nat} (h : pz_kd a = 9) : a = 5 := by
  have key : ∀ a, a < 206 → pz_kd a = 9 → a = 5 := by decide +kernel
  exact key a (pz_kd_lo h (by decide)) h
theorem pz_kd10 {a : Nat} (h : pz_kd a = 10) : 8 ≤ a ∧ a < 10 := by
  have key : ∀ a, a < 206 → pz_kd a = 10 → 8 ≤ a ∧ a < 10 := by decide +kernel
  exact key a (pz_kd_lo h (by decide)) h
theorem pz_kd11 {a : Nat} (h : pz_kd a = 11) : a = 0 := by
  have key : ∀ a, a < 206 → pz_kd a = 11 → a = 0 := by decide +kernel
  exact key a (pz_kd_lo h (by decide)) h
theorem pz_kd12 {a : Nat} (h : pz_kd a = 12) : a = 1 := by
  have key : ∀ a, a < 206 → pz_kd a = 12 → a = 1 := by decide +kernel
  exact key a (pz_kd_lo h (by decide)) h
theorem pz_kd99 {a : Nat} (h : pz_kd a = 99) : 206 ≤ a := by
  rcases Nat.lt_or_ge a 206 with q | q
  · have key : ∀ a, a < 206 → pz_kd a ≠ 99 := by decide +kernel
    exact absurd h (key a q)
  · exact q
/-- what a class' method leaves: the model's memory; and the other way round -/
def pz_mid (b : Nat) : Prop := b = 1 ∨ (60 ≤ b ∧ b < 71)
def pz_ic (M : pz_M) : Prop :=
  (∀ c, 71 ≤ c → c < 80 → 0 ≤ M c 3 ∧ M c 3 ≤ 12 ∧ 0 ≤ M c 7 ∧ M c 7 ≤ 150) ∧ (0 ≤ M 3 1 ∧ M 3 1 ≤ 5) ∧ (∀ r, 13 ≤ r → r < 20 → 0 ≤ M r 0 ∧ M r 0 ≤ 16) ∧ (∀ L, 10 ≤ L → L < 13 → 0 ≤ M L 0 ∧ M L 0 ≤ 16 ∧ 0 ≤ M L 1 ∧ M L 1 ≤ 400) ∧ (0 ≤ M 4 1 ∧ M 4 1 ≤ 400) ∧ (0 ≤ M 7 3 ∧ M 7 3 ≤ 12)
/-- a step of the class: its invariant and the model's memory stay; pz_st: the length of the tape and the number of open ones, too -/
def pz_sy (M M' : pz_M) : Prop := (pz_ic M → pz_ic M') ∧ ∀ b j : Nat, pz_mid b → M' b j = M b j
def pz_st (M M' : pz_M) : Prop := pz_sy M M' ∧ M' 4 1 = M 4 1 ∧ M' 5 9 = M 5 9
theorem pz_sy.rf {M : pz_M} : pz_sy M M := ⟨id, fun _ _ _ => rfl⟩
theorem pz_sy.tr {M M' M'' : pz_M} (h : pz_sy M M') (h' : pz_sy M' M'') : pz_sy M M'' := ⟨fun q => h'.1 (h.1 q), fun b j q => (h'.2 b j q).trans (h.2 b j q)⟩
theorem pz_st.rf {M : pz_M} : pz_st M M := ⟨pz_sy.rf, rfl, rfl⟩
theorem pz_st.tr {M M' M'' : pz_M} (h : pz_st M M') (h' : pz_st M' M'') : pz_st M M'' := ⟨h.1.tr h'.1, h'.2.1.trans h.2.1, h'.2.2.trans h.2.2⟩
/-- what may be put where -/
def pz_iok (a k : Nat) (v : Int) : Prop :=
  (71 ≤ a → a < 80 → k = 3 → 0 ≤ v ∧ v ≤ 12) ∧ (71 ≤ a → a < 80 → k = 7 → 0 ≤ v ∧ v ≤ 150) ∧ (a = 3 → k = 1 → 0 ≤ v ∧ v ≤ 5) ∧ (13 ≤ a → a < 20 → k = 0 → 0 ≤ v ∧ v ≤ 16) ∧ (10 ≤ a → a < 13 → k = 0 → 0 ≤ v ∧ v ≤ 16) ∧ (10 ≤ a → a < 13 → k = 1 → 0 ≤ v ∧ v ≤ 400) ∧ (a = 4 → k = 1 → 0 ≤ v ∧ v ≤ 400) ∧ (a = 7 → k = 3 → 0 ≤ v ∧ v ≤ 12)
theorem pz_uv (M : pz_M) (a k : Nat) (v : Int) (b j : Nat) : (b = a ∧ j = k ∧ pz_u M a k v b j = v) ∨ (¬ (b = a ∧ j = k) ∧ pz_u M a k v b j = M b j) := by
  unfold pz_u
  by_cases h : b = a ∧ j = k
  · exact Or.inl ⟨h.1, h.2, if_pos h⟩
  · exact Or.inr ⟨h, if_neg h⟩
theorem pz_ic_u {M : pz_M} {a k : Nat} {v : Int} (h : pz_iok a k v) (hI : pz_ic M) : pz_ic (pz_u M a k v) := by
  obtain ⟨i1, i2, i3, i4, i5, i6⟩ := hI
  obtain ⟨o1, o2, o3, o4, o5, o6, o7, o8⟩ := h
  refine ⟨fun c h1 h2 => ?_, ?_, fun r h1 h2 => ?_, fun L h1 h2 => ?_, ?_, ?_⟩
  · have := i1 c h1 h2
    have q1 := pz_uv M a k v c 3
    have q2 := pz_uv M a k v c 7
    omega
  · have q1 := pz_uv M a k v 3 1
    omega
  · have := i3 r h1 h2
    have q1 := pz_uv M a k v r 0
    omega
  · have := i4 L h1 h2
    have q1 := pz_uv M a k v L 0
    have q2 := pz_uv M a k v L 1
    omega
  · have q1 := pz_uv M a k v 4 1
    omega
  · have q1 := pz_uv M a k v 7 3
    omega
theorem pz_sy_u {M M' : pz_M} {a k : Nat} {v : Int} (hs : pz_sy M M') (hm : ¬ pz_mid a) (h : pz_iok a k v) : pz_sy M (pz_u M' a k v) := by
  refine ⟨fun q => pz_ic_u h (hs.1 q), fun b j hb => ?_⟩
  have hne : b ≠ a := fun e => hm (e ▸ hb)
  rw [pz_una hne]
  exact hs.2 b j hb
theorem pz_st_u {M M' : pz_M} {a k : Nat} {v : Int} (hs : pz_st M M') (hm : ¬ pz_mid a) (h4 : ¬ (a = 4 ∧ k = 1) ∧ ¬ (a = 5 ∧ k = 9)) (h : pz_iok a k v) : pz_st M (pz_u M' a k v) := by
  refine ⟨pz_sy_u hs.1 hm h, ?_, ?_⟩
  · have q1 := pz_uv M' a k v 4 1
    have := hs.2.1
    omega
  · have q1 := pz_uv M' a k v 5 9
    have := hs.2.2
    omega
def pz_ckm (a k : Nat) : Bool := match pz_rk (pz_kd a) k with
  | some _ => decide (a = 1) || decide (13 ≤ pz_kd a) || decide (pz_rf a k ≠ 1 ∧ (pz_rf a k < 60 ∨ 71 ≤ pz_rf a k))
  | none => true
theorem pz_ckm_ok : ∀ a, a < 206 → ∀ k, k < 28 → pz_ckm a k = true := by decide +kernel
/-- what a thing of the class refers to is no thing of the model -/
theorem pz_nm {z a j k : Nat} (e : z = pz_rf a j) (h : pz_kd a = k) (hk : k < 12) (hj : j < 28) (hr : (pz_rk k j).isSome = true) : z ≠ 1 ∧ (z < 60 ∨ 71 ≤ z) := by
  subst h
  subst e
  have h1 := pz_ckm_ok a (pz_kd_lo rfl (by omega)) j hj
  unfold pz_ckm at h1
  cases hq : pz_rk (pz_kd a) j with
  | none => rw [hq] at hr; cases hr
  | some kr =>
    rw [hq] at h1
    simp only [Bool.or_eq_true, decide_eq_true_eq] at h1
    rcases h1 with (h1 | h1) | h1
    · subst h1
      exact absurd hk (by decide)
    · omega
    · exact h1
theorem pz_kdA {a k : Nat} (h : pz_kd a = k) (h1 : 13 ≤ k) (h2 : k < 29) : 20 ≤ a ∧ a < 71 := by
  have key : ∀ a, a < 206 → 13 ≤ pz_kd a → pz_kd a < 29 → 20 ≤ a ∧ a < 71 := by decide +kernel
  exact key a (pz_kd_lo h (by omega)) (by omega) (by omega)
theorem pz_st_c {M M' : pz_M} {a1 sp a2 dp n : Nat} (hs : pz_st M M') (h1 : 20 ≤ a2 ∧ a2 < 71) (h2 : a2 ≠ 1 ∧ (a2 < 60 ∨ 71 ≤ a2)) : pz_st M (pz_cpy M' a1 sp a2 dp n) := by
  have key : ∀ b j, b < 20 ∨ 60 ≤ b → pz_cpy M' a1 sp a2 dp n b j = M' b j := fun b j hb => by
    unfold pz_cpy
    rw [if_neg (by omega)]
  refine ⟨⟨fun q => ?_, fun b j hb => ?_⟩, ?_, ?_⟩
  · obtain ⟨i1, i2, i3, i4, i5, i6⟩ := hs.1.1 q
    refine ⟨fun c q1 q2 => ?_, ?_, fun r q1 q2 => ?_, fun L q1 q2 => ?_, ?_, ?_⟩
    · rw [key c 3 (by omega), key c 7 (by omega)]; exact i1 c q1 q2
    · rw [key 3 1 (by omega)]; exact i2
    · rw [key r 0 (by omega)]; exact i3 r q1 q2
    · rw [key L 0 (by omega), key L 1 (by omega)]; exact i4 L q1 q2
    · rw [key 4 1 (by omega)]; exact i5
    · rw [key 7 3 (by omega)]; exact i6
  · rw [key b j (by unfold pz_mid at hb; omega)]
    exact hs.1.2 b j hb
  · rw [key 4 1 (by omega)]
    exact hs.2.1
  · rw [key 5 9 (by omega)]
    exact hs.2.2
theorem pz_shl1 {c : Int} (h0 : 0 ≤ c) (h1 : c ≤ 12) : 1 ≤ (Int32.ofInt 1 <<< (Int32.ofInt c &&& 31)).toInt ∧ (Int32.ofInt 1 <<< (Int32.ofInt c &&& 31)).toInt ≤ 4096 ∧ (c ≤ 11 → (Int32.ofInt 1 <<< (Int32.ofInt c &&& 31)).toInt ≤ 2048) := by
  have h : c = 0 ∨ c = 1 ∨ c = 2 ∨ c = 3 ∨ c = 4 ∨ c = 5 ∨ c = 6 ∨ c = 7 ∨ c = 8 ∨ c = 9 ∨ c = 10 ∨ c = 11 ∨ c = 12 := by omega
  rcases h with rfl | rfl | rfl | rfl | rfl | rfl | rfl | rfl | rfl | rfl | rfl | rfl | rfl <;> decide +kernel
theorem pz_n12 {x : Int} (h0 : 0 ≤ x) (h1 : x < 4096) : (Int32.ofInt x).toBitVec.toNat = x.toNat := by
  have e : (Int32.ofInt x) = Int32.ofNat x.toNat := by rw [← Int32.ofInt_eq_ofNat]; congr 1; omega
  rw [e]
  exact pk_tn (n := x.toNat) (by omega)
theorem pz_xor12 {x y : Int} (hx0 : 0 ≤ x) (hx : x < 4096) (hy0 : 0 ≤ y) (hy : y < 4096) : 0 ≤ (Int32.ofInt x ^^^ Int32.ofInt y).toInt ∧ (Int32.ofInt x ^^^ Int32.ofInt y).toInt < 4096 := by
  have h : (Int32.ofInt x ^^^ Int32.ofInt y).toBitVec.toNat < 2 ^ 12 := by
    show ((Int32.ofInt x).toBitVec ^^^ (Int32.ofInt y).toBitVec).toNat < 2 ^ 12
    rw [BitVec.toNat_xor, pz_n12 hx0 hx, pz_n12 hy0 hy]
    exact Nat.xor_lt_two_pow (by omega) (by omega)
  have e : (Int32.ofInt x ^^^ Int32.ofInt y).toInt = ((Int32.ofInt x ^^^ Int32.ofInt y).toBitVec.toNat : Int) := by
    show (Int32.ofInt x ^^^ Int32.ofInt y).toBitVec.toInt = _
    rw [BitVec.toInt_eq_toNat_cond]
    rw [if_pos (by omega)]
  rw [e]
  omega
end
section
theorem pz_uve {M M1 : pz_M} {a k : Nat} {v : Int} (e : M1 = pz_u M a k v) (b j : Nat) : (b = a ∧ j = k ∧ M1 b j = v) ∨ (¬ (b = a ∧ j = k) ∧ M1 b j = M b j) := by
  subst e
  exact pz_uv M a k v b j
theorem pz_i2b (x : Int) : -128 ≤ (Int32.ofInt x).toInt8.toInt32.toInt ∧ (Int32.ofInt x).toInt8.toInt32.toInt ≤ 127 := by
  rw [Int8.toInt_toInt32]
  have h1 := Int8.le_toInt (Int32.ofInt x).toInt8
  have h2 := Int8.toInt_lt (Int32.ofInt x).toInt8
  omega
end
section
def k_J9_max_7cf53 : pz_C := (2, 1, fun a M => (match a with | [.inl x, .inl y] => True | _ => False), fun a M r M' => (match a, r with | [.inl x, .inl y], some (.inl v) => (v = max x y) ∧ M = M' | _, _ => False))
abbrev ct_J9_max_7cf53 : List (Bool × Nat × pz_C) := []
set_option maxRecDepth 100000 in
set_option maxHeartbeats 4000000 in
theorem h_J9_max_7cf53 : pz_H yJ9_max_7cf53 cJ9_max_7cf53 2 (some .int) k_J9_max_7cf53 0 0 := by
  refine pz_mk (own := RJ9) (tb := t_J9_max_7cf53) (fl := fun _ => none) (ci := fun _ => none) (ct := pz_ctf ct_J9_max_7cf53) (rz := false) (by decide +kernel) rfl t_J9_max_7cf53_ok (fun i v h => by cases h) (fun i v h => by cases h) ?_ ?_ (Or.inl ⟨rfl, rfl⟩) ?_ ?_
  · exact fun i k' h => pz_ctk (l := ct_J9_max_7cf53) (P := fun b i k => b = true → pz_cV 0 0 RJ9 i k) (fun _ h => absurd h List.not_mem_nil) true i k' h rfl
  · exact fun i k' h => pz_ctk (l := ct_J9_max_7cf53) (P := fun b i k => b = false → (pz_cS 0 0 RJ9 i k ∨ (k = pz_kac ∧ 1 ≤ 0 ∧ 60 ≤ 0 ∧ Cond.methodLink RJ9 i arraycopyName ∈ pz_tbl))) (fun _ h => absurd h List.not_mem_nil) false i k' h rfl
  · intro a M hlen hpre
    obtain ⟨x, y, rfl, hpre⟩ : ∃ x y, a = [.inl x, .inl y] ∧ (True) := by
      have hpre : (match (generalizing := false) a with | [.inl x, .inl y] => True | _ => False) := hpre
      split at hpre
      · exact ⟨_, _, rfl, hpre⟩
      · exact hpre.elim
    exact Nat.le_of_ble_eq_true rfl
  · intro a M hlen hcan hM hpre Ok hgo
    obtain ⟨x, y, rfl, hpre⟩ : ∃ x y, a = [.inl x, .inl y] ∧ (True) := by
      have hpre : (match (generalizing := false) a with | [.inl x, .inl y] => True | _ => False) := hpre
      split at hpre
      · exact ⟨_, _, rfl, hpre⟩
      · exact hpre.elim
    obtain ⟨k_x, hcan⟩ := pz_tlm hcan
    have l_x : -2147483648 ≤ x := k_x.1
    have u_x : x ≤ 2147483647 := k_x.2
    obtain ⟨k_y, hcan⟩ := pz_tlm hcan
    have l_y : -2147483648 ≤ y := k_y.1
    have u_y : y ≤ 2147483647 := k_y.2
    refine hgo (fun _ => false) 9 0 _ [] M ?_
    refine And.intro (fun h2 => ?_) (fun h2 => ?_)
    · skip
      refine And.intro rfl ?_
      exact ⟨by omega, rfl⟩
    · skip
      refine And.intro rfl ?_
      exact ⟨by omega, rfl⟩
theorem s_J9_max_7cf53 {fr lo i : Nat} {own : String} (h1 : 0 + 1 ≤ fr) (h2 : 8 + (2 + 11) + 0 ≤ lo) (h3 : .methodLink own i yJ9_max_7cf53 ∈ lw_tbl ∨ (own = RX1 ∧ i = 35 ∧ yJ9_max_7cf53 = yX11_within)) : pz_cS fr lo own i k_J9_max_7cf53 := pz_cSk (maxL := 2) (fr' := 0) (lo' := 0) 2 h_J9_max_7cf53 rfl ⟨by decide +kernel, by decide +kernel, by decide +kernel⟩ ⟨by decide +kernel, by decide +kernel, by decide +kernel⟩ h1 h2 h3
def k_J9_min_7cf53 : pz_C := (2, 1, fun a M => (match a with | [.inl x, .inl y] => True | _ => False), fun a M r M' => (match a, r with | [.inl x, .inl y], some (.inl v) => (v = min x y) ∧ M = M' | _, _ => False))
abbrev ct_J9_min_7cf53 : List (Bool × Nat × pz_C) := []
set_option maxRecDepth 100000 in
set_option maxHeartbeats 4000000 in
theorem h_J9_min_7cf53 : pz_H yJ9_min_7cf53 cJ9_min_7cf53 2 (some .int) k_J9_min_7cf53 0 0 := by
  refine pz_mk (own := RJ9) (tb := t_J9_min_7cf53) (fl := fun _ => none) (ci := fun _ => none) (ct := pz_ctf ct_J9_min_7cf53) (rz := false) (by decide +kernel) rfl t_J9_min_7cf53_ok (fun i v h => by cases h) (fun i v h => by cases h) ?_ ?_ (Or.inl ⟨rfl, rfl⟩) ?_ ?_
  · exact fun i k' h => pz_ctk (l := ct_J9_min_7cf53) (P := fun b i k => b = true → pz_cV 0 0 RJ9 i k) (fun _ h => absurd h List.not_mem_nil) true i k' h rfl
  · exact fun i k' h => pz_ctk (l := ct_J9_min_7cf53) (P := fun b i k => b = false → (pz_cS 0 0 RJ9 i k ∨ (k = pz_kac ∧ 1 ≤ 0 ∧ 60 ≤ 0 ∧ Cond.methodLink RJ9 i arraycopyName ∈ pz_tbl))) (fun _ h => absurd h List.not_mem_nil) false i k' h rfl
  · intro a M hlen hpre
    obtain ⟨x, y, rfl, hpre⟩ : ∃ x y, a = [.inl x, .inl y] ∧ (True) := by
      have hpre : (match (generalizing := false) a with | [.inl x, .inl y] => True | _ => False) := hpre
      split at hpre
      · exact ⟨_, _, rfl, hpre⟩
      · exact hpre.elim
    exact Nat.le_of_ble_eq_true rfl
  · intro a M hlen hcan hM hpre Ok hgo
    obtain ⟨x, y, rfl, hpre⟩ : ∃ x y, a = [.inl x, .inl y] ∧ (True) := by
      have hpre : (match (generalizing := false) a with | [.inl x, .inl y] => True | _ => False) := hpre
      split at hpre
      · exact ⟨_, _, rfl, hpre⟩
      · exact hpre.elim
    obtain ⟨k_x, hcan⟩ := pz_tlm hcan
    have l_x : -2147483648 ≤ x := k_x.1
    have u_x : x ≤ 2147483647 := k_x.2
    obtain ⟨k_y, hcan⟩ := pz_tlm hcan
    have l_y : -2147483648 ≤ y := k_y.1
    have u_y : y ≤ 2147483647 := k_y.2
    refine hgo (fun _ => false) 9 0 _ [] M ?_
    refine And.intro (fun h2 => ?_) (fun h2 => ?_)
    · skip
      refine And.intro rfl ?_
      exact ⟨by omega, rfl⟩
    · skip
      refine And.intro rfl ?_
      exact ⟨by omega, rfl⟩
theorem s_J9_min_7cf53 {fr lo i : Nat} {own : String} (h1 : 0 + 1 ≤ fr) (h2 : 8 + (2 + 11) + 0 ≤ lo) (h3 : .methodLink own i yJ9_min_7cf53 ∈ lw_tbl ∨ (own = RX1 ∧ i = 35 ∧ yJ9_min_7cf53 = yX11_within)) : pz_cS fr lo own i k_J9_min_7cf53 := pz_cSk (maxL := 2) (fr' := 0) (lo' := 0) 2 h_J9_min_7cf53 rfl ⟨by decide +kernel, by decide +kernel, by decide +kernel⟩ ⟨by decide +kernel, by decide +kernel, by decide +kernel⟩ h1 h2 h3
def k_J6_bitCount_0f7a4 : pz_C := (1, 1, fun a M => (match a with | [.inl x] => True | _ => False), fun a M r M' => (match a, r with | [.inl x], some (.inl v) => (True) ∧ M = M' | _, _ => False))
abbrev ct_J6_bitCount_0f7a4 : List (Bool × Nat × pz_C) := []
set_option maxRecDepth 100000 in
set_option maxHeartbeats 4000000 in
theorem h_J6_bitCount_0f7a4 : pz_H yJ6_bitCount_0f7a4 cJ6_bitCount_0f7a4 1 (some .int) k_J6_bitCount_0f7a4 0 0 := by
  refine pz_mk (own := RJ6) (tb := t_J6_bitCount_0f7a4) (fl := fun _ => none) (ci := pz_cif ci_RJ6) (ct := pz_ctf ct_J6_bitCount_0f7a4) (rz := false) (by decide +kernel) rfl t_J6_bitCount_0f7a4_ok (fun i v h => by cases h) (pz_cik ci_RJ6_ok) ?_ ?_ (Or.inl ⟨rfl, rfl⟩) ?_ ?_
  · exact fun i k' h => pz_ctk (l := ct_J6_bitCount_0f7a4) (P := fun b i k => b = true → pz_cV 0 0 RJ6 i k) (fun _ h => absurd h List.not_mem_nil) true i k' h rfl
  · exact fun i k' h => pz_ctk (l := ct_J6_bitCount_0f7a4) (P := fun b i k => b = false → (pz_cS 0 0 RJ6 i k ∨ (k = pz_kac ∧ 1 ≤ 0 ∧ 60 ≤ 0 ∧ Cond.methodLink RJ6 i arraycopyName ∈ pz_tbl))) (fun _ h => absurd h List.not_mem_nil) false i k' h rfl
  · intro a M hlen hpre
    obtain ⟨x, rfl, hpre⟩ : ∃ x, a = [.inl x] ∧ (True) := by
      have hpre : (match (generalizing := false) a with | [.inl x] => True | _ => False) := hpre
      split at hpre
      · exact ⟨_, rfl, hpre⟩
      · exact hpre.elim
    exact Nat.le_of_ble_eq_true rfl
  · intro a M hlen hcan hM hpre Ok hgo
    obtain ⟨x, rfl, hpre⟩ : ∃ x, a = [.inl x] ∧ (True) := by
      have hpre : (match (generalizing := false) a with | [.inl x] => True | _ => False) := hpre
      split at hpre
      · exact ⟨_, rfl, hpre⟩
      · exact hpre.elim
    obtain ⟨k_x, hcan⟩ := pz_tlm hcan
    have l_x : -2147483648 ≤ x := k_x.1
    have u_x : x ≤ 2147483647 := k_x.2
    refine hgo (fun _ => false) 44 0 _ [] M ?_
    intro v3 e3 a3 b3
    intro v7 e7 a7 b7
    intro v8 e8 a8 b8
    try rw [pz_wi (by omega) (by omega)] at e8
    intro v14 e14 a14 b14
    intro v17 e17 a17 b17
    intro v21 e21 a21 b21
    intro v22 e22 a22 b22
    try rw [pz_wi (by omega) (by omega)] at e22
    intro v27 e27 a27 b27
    intro v28 e28 a28 b28
    try rw [pz_wi (by omega) (by omega)] at e28
    intro v32 e32 a32 b32
    intro v38 e38 a38 b38
    intro v39 e39 a39 b39
    try rw [pz_wi (by omega) (by omega)] at e39
    intro v45 e45 a45 b45
    intro v46 e46 a46 b46
    try rw [pz_wi (by omega) (by omega)] at e46
    intro v51 e51 a51 b51
    refine And.intro rfl ?_
    exact ⟨trivial, rfl⟩
theorem s_J6_bitCount_0f7a4 {fr lo i : Nat} {own : String} (h1 : 0 + 1 ≤ fr) (h2 : 8 + (1 + 11) + 0 ≤ lo) (h3 : .methodLink own i yJ6_bitCount_0f7a4 ∈ lw_tbl ∨ (own = RX1 ∧ i = 35 ∧ yJ6_bitCount_0f7a4 = yX11_within)) : pz_cS fr lo own i k_J6_bitCount_0f7a4 := pz_cSk (maxL := 1) (fr' := 0) (lo' := 0) 1 h_J6_bitCount_0f7a4 rfl ⟨by decide +kernel, by decide +kernel, by decide +kernel⟩ ⟨by decide +kernel, by decide +kernel, by decide +kernel⟩ h1 h2 h3
def k_J9_floorDiv_7cf53 : pz_C := (2, 1, fun a M => (match a with | [.inl x, .inl y] => y = 4 ∨ y = 1000 | _ => False), fun a M r M' => (match a, r with | [.inl x, .inl y], some (.inl v) => (True) ∧ M = M' | _, _ => False))
abbrev ct_J9_floorDiv_7cf53 : List (Bool × Nat × pz_C) := []
set_option maxRecDepth 100000 in
set_option maxHeartbeats 4000000 in
theorem h_J9_floorDiv_7cf53 : pz_H yJ9_floorDiv_7cf53 cJ9_floorDiv_7cf53 3 (some .int) k_J9_floorDiv_7cf53 0 0 := by
  refine pz_mk (own := RJ9) (tb := t_J9_floorDiv_7cf53) (fl := fun _ => none) (ci := fun _ => none) (ct := pz_ctf ct_J9_floorDiv_7cf53) (rz := false) (by decide +kernel) rfl t_J9_floorDiv_7cf53_ok (fun i v h => by cases h) (fun i v h => by cases h) ?_ ?_ (Or.inl ⟨rfl, rfl⟩) ?_ ?_
  · exact fun i k' h => pz_ctk (l := ct_J9_floorDiv_7cf53) (P := fun b i k => b = true → pz_cV 0 0 RJ9 i k) (fun _ h => absurd h List.not_mem_nil) true i k' h rfl
  · exact fun i k' h => pz_ctk (l := ct_J9_floorDiv_7cf53) (P := fun b i k => b = false → (pz_cS 0 0 RJ9 i k ∨ (k = pz_kac ∧ 1 ≤ 0 ∧ 60 ≤ 0 ∧ Cond.methodLink RJ9 i arraycopyName ∈ pz_tbl))) (fun _ h => absurd h List.not_mem_nil) false i k' h rfl
  · intro a M hlen hpre
    obtain ⟨x, y, rfl, hpre⟩ : ∃ x y, a = [.inl x, .inl y] ∧ (y = 4 ∨ y = 1000) := by
      have hpre : (match (generalizing := false) a with | [.inl x, .inl y] => y = 4 ∨ y = 1000 | _ => False) := hpre
      split at hpre
      · exact ⟨_, _, rfl, hpre⟩
      · exact hpre.elim
    exact Nat.le_of_ble_eq_true rfl
  · intro a M hlen hcan hM hpre Ok hgo
    obtain ⟨x, y, rfl, hpre⟩ : ∃ x y, a = [.inl x, .inl y] ∧ (y = 4 ∨ y = 1000) := by
      have hpre : (match (generalizing := false) a with | [.inl x, .inl y] => y = 4 ∨ y = 1000 | _ => False) := hpre
      split at hpre
      · exact ⟨_, _, rfl, hpre⟩
      · exact hpre.elim
    obtain ⟨k_x, hcan⟩ := pz_tlm hcan
    have l_x : -2147483648 ≤ x := k_x.1
    have u_x : x ≤ 2147483647 := k_x.2
    obtain ⟨k_y, hcan⟩ := pz_tlm hcan
    have l_y : -2147483648 ≤ y := k_y.1
    have u_y : y ≤ 2147483647 := k_y.2
    refine hgo (fun _ => false) 21 0 _ [] M ?_
    refine And.intro (by omega) ?_
    intro v2 e2 a2 b2
    intro v6 e6 a6 b6
    refine And.intro (fun h7 => ?_) (fun h7 => ?_)
    · skip
      refine And.intro rfl ?_
      exact ⟨trivial, rfl⟩
    · skip
      intro v12 e12 a12 b12
      try rw [pz_wi (by omega) (by omega)] at e12
      refine And.intro (fun h14 => ?_) (fun h14 => ?_)
      · skip
        refine And.intro rfl ?_
        exact ⟨trivial, rfl⟩
      · skip
        intro v19 e19 a19 b19
        try rw [pz_wi (by omega) (by omega)] at e19
        refine And.intro rfl ?_
        exact ⟨trivial, rfl⟩
theorem s_J9_floorDiv_7cf53 {fr lo i : Nat} {own : String} (h1 : 0 + 1 ≤ fr) (h2 : 8 + (3 + 11) + 0 ≤ lo) (h3 : .methodLink own i yJ9_floorDiv_7cf53 ∈ lw_tbl ∨ (own = RX1 ∧ i = 35 ∧ yJ9_floorDiv_7cf53 = yX11_within)) : pz_cS fr lo own i k_J9_floorDiv_7cf53 := pz_cSk (maxL := 3) (fr' := 0) (lo' := 0) 2 h_J9_floorDiv_7cf53 rfl ⟨by decide +kernel, by decide +kernel, by decide +kernel⟩ ⟨by decide +kernel, by decide +kernel, by decide +kernel⟩ h1 h2 h3
def k_X11_within : pz_C := (3, 1, fun a M => (match a with | [.inl x, .inl y, .inl z] => True | _ => False), fun a M r M' => (match a, r with | [.inl x, .inl y, .inl z], some (.inl v) => (v = (if y ≤ x ∧ x ≤ z then 1 else 0)) ∧ M = M' | _, _ => False))
abbrev ct_X11_within : List (Bool × Nat × pz_C) := []
set_option maxRecDepth 100000 in
set_option maxHeartbeats 4000000 in
theorem h_X11_within : pz_H yX11_within cX11_within 3 (some .boolean) k_X11_within 0 0 := by
  refine pz_mk (own := RX11) (tb := t_X11_within) (fl := pz_flf fl_RX11) (ci := pz_cif ci_RX11) (ct := pz_ctf ct_X11_within) (rz := true) (by decide +kernel) rfl t_X11_within_ok (pz_flk fl_RX11_ok) (pz_cik ci_RX11_ok) ?_ ?_ (Or.inr ⟨rfl, rfl⟩) ?_ ?_
  · exact fun i k' h => pz_ctk (l := ct_X11_within) (P := fun b i k => b = true → pz_cV 0 0 RX11 i k) (fun _ h => absurd h List.not_mem_nil) true i k' h rfl
  · exact fun i k' h => pz_ctk (l := ct_X11_within) (P := fun b i k => b = false → (pz_cS 0 0 RX11 i k ∨ (k = pz_kac ∧ 1 ≤ 0 ∧ 60 ≤ 0 ∧ Cond.methodLink RX11 i arraycopyName ∈ pz_tbl))) (fun _ h => absurd h List.not_mem_nil) false i k' h rfl
  · intro a M hlen hpre
    obtain ⟨x, y, z, rfl, hpre⟩ : ∃ x y z, a = [.inl x, .inl y, .inl z] ∧ (True) := by
      have hpre : (match (generalizing := false) a with | [.inl x, .inl y, .inl z] => True | _ => False) := hpre
      split at hpre
      · exact ⟨_, _, _, rfl, hpre⟩
      · exact hpre.elim
    exact Nat.le_of_ble_eq_true rfl
  · intro a M hlen hcan hM hpre Ok hgo
    obtain ⟨x, y, z, rfl, hpre⟩ : ∃ x y z, a = [.inl x, .inl y, .inl z] ∧ (True) := by
      have hpre : (match (generalizing := false) a with | [.inl x, .inl y, .inl z] => True | _ => False) := hpre
      split at hpre
      · exact ⟨_, _, _, rfl, hpre⟩
      · exact hpre.elim
    obtain ⟨k_x, hcan⟩ := pz_tlm hcan
    have l_x : -2147483648 ≤ x := k_x.1
    have u_x : x ≤ 2147483647 := k_x.2
    obtain ⟨k_y, hcan⟩ := pz_tlm hcan
    have l_y : -2147483648 ≤ y := k_y.1
    have u_y : y ≤ 2147483647 := k_y.2
    obtain ⟨k_z, hcan⟩ := pz_tlm hcan
    have l_z : -2147483648 ≤ z := k_z.1
    have u_z : z ≤ 2147483647 := k_z.2
    refine hgo (fun _ => false) 12 0 _ [] M ?_
    refine And.intro (fun h2 => ?_) (fun h2 => ?_)
    · skip
      refine And.intro (by omega) ?_
      refine And.intro rfl ?_
      refine And.intro ?_ rfl
      split <;> omega
    · skip
      refine And.intro (fun h7 => ?_) (fun h7 => ?_)
      · skip
        refine And.intro (by omega) ?_
        refine And.intro rfl ?_
        refine And.intro ?_ rfl
        split <;> omega
      · skip
        refine And.intro (by omega) ?_
        refine And.intro rfl ?_
        refine And.intro ?_ rfl
        split <;> omega
theorem s_X11_within {fr lo i : Nat} {own : String} (h1 : 0 + 1 ≤ fr) (h2 : 8 + (3 + 11) + 0 ≤ lo) (h3 : .methodLink own i yX11_within ∈ lw_tbl ∨ (own = RX1 ∧ i = 35 ∧ yX11_within = yX11_within)) : pz_cS fr lo own i k_X11_within := pz_cSk (maxL := 3) (fr' := 0) (lo' := 0) 3 h_X11_within rfl ⟨by decide +kernel, by decide +kernel, by decide +kernel⟩ ⟨by decide +kernel, by decide +kernel, by decide +kernel⟩ h1 h2 h3
def k_X5_isIn : pz_C := (1, 1, fun a M => (match a with | [.inr (.inr (5, c))] => True | _ => False), fun a M r M' => (match a, r with | [.inr (.inr (5, c))], some (.inl v) => (v = (if M c 5 = 0 ∧ M c 7 = -1 then 1 else 0)) ∧ M = M' | _, _ => False))
abbrev ct_X5_isIn : List (Bool × Nat × pz_C) := []
set_option maxRecDepth 100000 in
set_option maxHeartbeats 4000000 in
theorem h_X5_isIn : pz_H yX5_isIn cX5_isIn 1 (some .boolean) k_X5_isIn 0 0 := by
  refine pz_mk (own := RX5) (tb := t_X5_isIn) (fl := pz_flf fl_RX5) (ci := fun _ => none) (ct := pz_ctf ct_X5_isIn) (rz := true) (by decide +kernel) rfl t_X5_isIn_ok (pz_flk fl_RX5_ok) (fun i v h => by cases h) ?_ ?_ (Or.inr ⟨rfl, rfl⟩) ?_ ?_
  · exact fun i k' h => pz_ctk (l := ct_X5_isIn) (P := fun b i k => b = true → pz_cV 0 0 RX5 i k) (fun _ h => absurd h List.not_mem_nil) true i k' h rfl
  · exact fun i k' h => pz_ctk (l := ct_X5_isIn) (P := fun b i k => b = false → (pz_cS 0 0 RX5 i k ∨ (k = pz_kac ∧ 1 ≤ 0 ∧ 60 ≤ 0 ∧ Cond.methodLink RX5 i arraycopyName ∈ pz_tbl))) (fun _ h => absurd h List.not_mem_nil) false i k' h rfl
  · intro a M hlen hpre
    obtain ⟨c, rfl, hpre⟩ : ∃ c, a = [.inr (.inr (5, c))] ∧ (True) := by
      have hpre : (match (generalizing := false) a with | [.inr (.inr (5, c))] => True | _ => False) := hpre
      split at hpre
      · exact ⟨_, rfl, hpre⟩
      · exact hpre.elim
    exact Nat.le_of_ble_eq_true rfl
  · intro a M hlen hcan hM hpre Ok hgo
    obtain ⟨c, rfl, hpre⟩ : ∃ c, a = [.inr (.inr (5, c))] ∧ (True) := by
      have hpre : (match (generalizing := false) a with | [.inr (.inr (5, c))] => True | _ => False) := hpre
      split at hpre
      · exact ⟨_, rfl, hpre⟩
      · exact hpre.elim
    obtain ⟨k_c, hcan⟩ := pz_tlm hcan
    have k_c : pz_kd c = 5 ∧ c < 231 := k_c
    have R_c := pz_kd5 k_c.1
    refine hgo (fun _ => false) 13 0 _ [] M ?_
    intro v1 e1 a1 b1
    refine And.intro (fun h4 => ?_) (fun h4 => ?_)
    · skip
      refine And.intro (by omega) ?_
      refine And.intro rfl ?_
      refine And.intro ?_ rfl
      split <;> omega
    · skip
      intro v8 e8 a8 b8
      refine And.intro (fun h12 => ?_) (fun h12 => ?_)
      · skip
        refine And.intro (by omega) ?_
        refine And.intro rfl ?_
        refine And.intro ?_ rfl
        split <;> omega
      · skip
        refine And.intro (by omega) ?_
        refine And.intro rfl ?_
        refine And.intro ?_ rfl
        split <;> omega
theorem v_X5_isIn {fr lo i : Nat} {own : String} (h1 : 0 + 1 ≤ fr) (h2 : 8 + (1 + 11) + 0 ≤ lo) (h3 : .methodLink own i yX5_isIn ∈ lw_tbl) : pz_cV fr lo own i k_X5_isIn :=
  pz_cVk (maxL := 1) (fr' := 0) (lo' := 0) 0 5 h_X5_isIn rfl ⟨by decide +kernel, by decide +kernel, by decide +kernel⟩ ⟨by decide +kernel, by decide +kernel, by decide +kernel, by decide +kernel⟩ (Or.inl ⟨TX5, 8, rfl⟩) (fun a M _ h => by
    have h : (match (generalizing := false) a with | [.inr (.inr (5, c))] => True | _ => False) := h
    split at h
    · exact ⟨_, _, rfl⟩
    · exact h.elim) h1 h2 h3
def k_X0_has : pz_C := (2, 1, fun a M => (match a with | [.inr (.inr (0, c)), .inl i] => True | _ => False), fun a M r M' => (match a, r with | [.inr (.inr (0, c)), .inl i], some (.inl v) => (v = (if 0 ≤ i ∧ i < M c 3 then 1 else 0)) ∧ M = M' | _, _ => False))
abbrev ct_X0_has : List (Bool × Nat × pz_C) := []
set_option maxRecDepth 100000 in
set_option maxHeartbeats 4000000 in
theorem h_X0_has : pz_H yX0_has cX0_has 2 (some .boolean) k_X0_has 0 0 := by
  refine pz_mk (own := RX0) (tb := t_X0_has) (fl := pz_flf fl_RX0) (ci := pz_cif ci_RX0) (ct := pz_ctf ct_X0_has) (rz := true) (by decide +kernel) rfl t_X0_has_ok (pz_flk fl_RX0_ok) (pz_cik ci_RX0_ok) ?_ ?_ (Or.inr ⟨rfl, rfl⟩) ?_ ?_
  · exact fun i k' h => pz_ctk (l := ct_X0_has) (P := fun b i k => b = true → pz_cV 0 0 RX0 i k) (fun _ h => absurd h List.not_mem_nil) true i k' h rfl
  · exact fun i k' h => pz_ctk (l := ct_X0_has) (P := fun b i k => b = false → (pz_cS 0 0 RX0 i k ∨ (k = pz_kac ∧ 1 ≤ 0 ∧ 60 ≤ 0 ∧ Cond.methodLink RX0 i arraycopyName ∈ pz_tbl))) (fun _ h => absurd h List.not_mem_nil) false i k' h rfl
  · intro a M hlen hpre
    obtain ⟨c, i, rfl, hpre⟩ : ∃ c i, a = [.inr (.inr (0, c)), .inl i] ∧ (True) := by
      have hpre : (match (generalizing := false) a with | [.inr (.inr (0, c)), .inl i] => True | _ => False) := hpre
      split at hpre
      · exact ⟨_, _, rfl, hpre⟩
      · exact hpre.elim
    exact Nat.le_of_ble_eq_true rfl
  · intro a M hlen hcan hM hpre Ok hgo
    obtain ⟨c, i, rfl, hpre⟩ : ∃ c i, a = [.inr (.inr (0, c)), .inl i] ∧ (True) := by
      have hpre : (match (generalizing := false) a with | [.inr (.inr (0, c)), .inl i] => True | _ => False) := hpre
      split at hpre
      · exact ⟨_, _, rfl, hpre⟩
      · exact hpre.elim
    obtain ⟨k_c, hcan⟩ := pz_tlm hcan
    have k_c : pz_kd c = 0 ∧ c < 231 := k_c
    have R_c := pz_kd0 k_c.1
    obtain ⟨k_i, hcan⟩ := pz_tlm hcan
    have l_i : -2147483648 ≤ i := k_i.1
    have u_i : i ≤ 2147483647 := k_i.2
    refine hgo (fun _ => false) 12 0 _ [] M ?_
    refine And.intro (fun h1 => ?_) (fun h1 => ?_)
    · skip
      refine And.intro (by omega) ?_
      refine And.intro rfl ?_
      refine And.intro ?_ rfl
      split <;> omega
    · skip
      intro v6 e6 a6 b6
      refine And.intro (fun h9 => ?_) (fun h9 => ?_)
      · skip
        refine And.intro (by omega) ?_
        refine And.intro rfl ?_
        refine And.intro ?_ rfl
        split <;> omega
      · skip
        refine And.intro (by omega) ?_
        refine And.intro rfl ?_
        refine And.intro ?_ rfl
        split <;> omega
theorem v_X0_has {fr lo i : Nat} {own : String} (h1 : 0 + 1 ≤ fr) (h2 : 8 + (2 + 11) + 0 ≤ lo) (h3 : .methodLink own i yX0_has ∈ lw_tbl) : pz_cV fr lo own i k_X0_has :=
  pz_cVk (maxL := 2) (fr' := 0) (lo' := 0) 1 0 h_X0_has rfl ⟨by decide +kernel, by decide +kernel, by decide +kernel⟩ ⟨by decide +kernel, by decide +kernel, by decide +kernel, by decide +kernel⟩ (Or.inl ⟨TX0, 8, rfl⟩) (fun a M _ h => by
    have h : (match (generalizing := false) a with | [.inr (.inr (0, c)), .inl i] => True | _ => False) := h
    split at h
    · exact ⟨_, _, rfl⟩
    · exact h.elim) h1 h2 h3
def k_X0_at : pz_C := (2, 8, fun a M => (match a with | [.inr (.inr (0, c)), .inl i] => True | _ => False), fun a M r M' => (match a, r with | [.inr (.inr (0, c)), .inl i], some (.inr (.inr (5, v))) => (v = (if 0 ≤ i ∧ i < 12 then pz_rf (pz_rf c 1) i.toNat else pz_rf c 2)) ∧ M = M' | _, _ => False))
abbrev ct_X0_at : List (Bool × Nat × pz_C) := []
set_option maxRecDepth 100000 in
set_option maxHeartbeats 4000000 in
theorem h_X0_at : pz_H yX0_at cX0_at 2 (some (.object "TwelveChain$Link")) k_X0_at 0 0 := by
  refine pz_mk (own := RX0) (tb := t_X0_at) (fl := pz_flf fl_RX0) (ci := pz_cif ci_RX0) (ct := pz_ctf ct_X0_at) (rz := false) (by decide +kernel) rfl t_X0_at_ok (pz_flk fl_RX0_ok) (pz_cik ci_RX0_ok) ?_ ?_ (⟨_, TX5, 8, rfl, rfl⟩) ?_ ?_
  · exact fun i k' h => pz_ctk (l := ct_X0_at) (P := fun b i k => b = true → pz_cV 0 0 RX0 i k) (fun _ h => absurd h List.not_mem_nil) true i k' h rfl
  · exact fun i k' h => pz_ctk (l := ct_X0_at) (P := fun b i k => b = false → (pz_cS 0 0 RX0 i k ∨ (k = pz_kac ∧ 1 ≤ 0 ∧ 60 ≤ 0 ∧ Cond.methodLink RX0 i arraycopyName ∈ pz_tbl))) (fun _ h => absurd h List.not_mem_nil) false i k' h rfl
  · intro a M hlen hpre
    obtain ⟨c, i, rfl, hpre⟩ : ∃ c i, a = [.inr (.inr (0, c)), .inl i] ∧ (True) := by
      have hpre : (match (generalizing := false) a with | [.inr (.inr (0, c)), .inl i] => True | _ => False) := hpre
      split at hpre
      · exact ⟨_, _, rfl, hpre⟩
      · exact hpre.elim
    exact Nat.le_of_ble_eq_true rfl
  · intro a M hlen hcan hM hpre Ok hgo
    obtain ⟨c, i, rfl, hpre⟩ : ∃ c i, a = [.inr (.inr (0, c)), .inl i] ∧ (True) := by
      have hpre : (match (generalizing := false) a with | [.inr (.inr (0, c)), .inl i] => True | _ => False) := hpre
      split at hpre
      · exact ⟨_, _, rfl, hpre⟩
      · exact hpre.elim
    obtain ⟨k_c, hcan⟩ := pz_tlm hcan
    have k_c : pz_kd c = 0 ∧ c < 231 := k_c
    have R_c := pz_kd0 k_c.1
    obtain ⟨k_i, hcan⟩ := pz_tlm hcan
    have l_i : -2147483648 ≤ i := k_i.1
    have u_i : i ≤ 2147483647 := k_i.2
    refine hgo (fun _ => false) 15 0 _ [] M ?_
    refine And.intro (fun h1 => ?_) (fun h1 => ?_)
    · skip
      intro r20 e20 k20
      have R20 := pz_kd5 k20
      refine And.intro rfl ?_
      refine And.intro ?_ rfl
      first | (rw [if_pos (by omega)]; (try subst e11); assumption) | (rw [if_neg (by omega)]; assumption)
    · skip
      refine And.intro (fun h7 => ?_) (fun h7 => ?_)
      · skip
        intro r20 e20 k20
        have R20 := pz_kd5 k20
        refine And.intro rfl ?_
        refine And.intro ?_ rfl
        first | (rw [if_pos (by omega)]; (try subst e11); assumption) | (rw [if_neg (by omega)]; assumption)
      · skip
        intro r11 e11 k11
        refine And.intro (by omega) (And.intro (show _ < (12 : Int) from by omega) ?_)
        intro r15 e15 k15
        have R15 := pz_kd5 k15
        refine And.intro rfl ?_
        refine And.intro ?_ rfl
        first | (rw [if_pos (by omega)]; (try subst e11); assumption) | (rw [if_neg (by omega)]; assumption)
theorem v_X0_at {fr lo i : Nat} {own : String} (h1 : 0 + 1 ≤ fr) (h2 : 8 + (2 + 11) + 0 ≤ lo) (h3 : .methodLink own i yX0_at ∈ lw_tbl) : pz_cV fr lo own i k_X0_at :=
  pz_cVk (maxL := 2) (fr' := 0) (lo' := 0) 1 0 h_X0_at rfl ⟨by decide +kernel, by decide +kernel, by decide +kernel⟩ ⟨by decide +kernel, by decide +kernel, by decide +kernel, by decide +kernel⟩ (Or.inl ⟨TX0, 8, rfl⟩) (fun a M _ h => by
    have h : (match (generalizing := false) a with | [.inr (.inr (0, c)), .inl i] => True | _ => False) := h
    split at h
    · exact ⟨_, _, rfl⟩
    · exact h.elim) h1 h2 h3
def k_X0_lackOfMoney : pz_C := (2, 1, fun a M => (match a with | [.inr (.inr (0, c)), .inl i] => pz_ic M | _ => False), fun a M r M' => (match a, r with | [.inr (.inr (0, c)), .inl i], some (.inl v) => (0 ≤ v) ∧ M = M' | _, _ => False))
abbrev ct_X0_lackOfMoney : List (Bool × Nat × pz_C) := [(true, 48, k_X0_at), (false, 58, k_J9_max_7cf53)]
set_option maxRecDepth 100000 in
set_option maxHeartbeats 4000000 in
theorem h_X0_lackOfMoney : pz_H yX0_lackOfMoney cX0_lackOfMoney 3 (some .int) k_X0_lackOfMoney 1 21 := by
  refine pz_mk (own := RX0) (tb := t_X0_lackOfMoney) (fl := pz_flf fl_RX0) (ci := pz_cif ci_RX0) (ct := pz_ctf ct_X0_lackOfMoney) (rz := false) (by decide +kernel) rfl t_X0_lackOfMoney_ok (pz_flk fl_RX0_ok) (pz_cik ci_RX0_ok) ?_ ?_ (Or.inl ⟨rfl, rfl⟩) ?_ ?_
  · exact fun i k' h => pz_ctk (l := ct_X0_lackOfMoney) (P := fun b i k => b = true → pz_cV 1 21 RX0 i k) (List.forall_mem_cons.mpr ⟨(fun _ => v_X0_at (by decide) (by decide) (by decide +kernel)), List.forall_mem_cons.mpr ⟨((fun z => by cases z)), fun _ h => absurd h List.not_mem_nil⟩⟩) true i k' h rfl
  · exact fun i k' h => pz_ctk (l := ct_X0_lackOfMoney) (P := fun b i k => b = false → (pz_cS 1 21 RX0 i k ∨ (k = pz_kac ∧ 1 ≤ 1 ∧ 60 ≤ 21 ∧ Cond.methodLink RX0 i arraycopyName ∈ pz_tbl))) (List.forall_mem_cons.mpr ⟨((fun z => by cases z)), List.forall_mem_cons.mpr ⟨(fun _ => Or.inl (s_J9_max_7cf53 (by decide) (by decide) (Or.inl (by decide +kernel)))), fun _ h => absurd h List.not_mem_nil⟩⟩) false i k' h rfl
  · intro a M hlen hpre
    obtain ⟨c, i, rfl, hpre⟩ : ∃ c i, a = [.inr (.inr (0, c)), .inl i] ∧ (pz_ic M) := by
      have hpre : (match (generalizing := false) a with | [.inr (.inr (0, c)), .inl i] => pz_ic M | _ => False) := hpre
      split at hpre
      · exact ⟨_, _, rfl, hpre⟩
      · exact hpre.elim
    exact Nat.le_of_ble_eq_true rfl
  · intro a M hlen hcan hM hpre Ok hgo
    obtain ⟨c, i, rfl, hpre⟩ : ∃ c i, a = [.inr (.inr (0, c)), .inl i] ∧ (pz_ic M) := by
      have hpre : (match (generalizing := false) a with | [.inr (.inr (0, c)), .inl i] => pz_ic M | _ => False) := hpre
      split at hpre
      · exact ⟨_, _, rfl, hpre⟩
      · exact hpre.elim
    obtain ⟨k_c, hcan⟩ := pz_tlm hcan
    have k_c : pz_kd c = 0 ∧ c < 231 := k_c
    have R_c := pz_kd0 k_c.1
    obtain ⟨k_i, hcan⟩ := pz_tlm hcan
    have l_i : -2147483648 ≤ i := k_i.1
    have u_i : i ≤ 2147483647 := k_i.2
    have hI : pz_ic M := hpre
    refine hgo (fun _ => false) 35 0 _ [] M ?_
    intro v2 e2 a2 b2
    have I2 := hI.1 c (by omega) (by omega)
    intro v6 e6 a6 b6
    try rw [pz_wi (by omega) (by omega)] at e6
    refine And.intro (fun h7 => ?_) (fun h7 => ?_)
    · skip
      refine And.intro (True.intro) ?_
      intro r14 M14 k14 q14
      have R14 := pz_kd5 k14
      obtain ⟨q14, z14⟩ := q14
      subst z14
      intro v17 e17 a17 b17
      refine And.intro (fun h21 => ?_) (fun h21 => ?_)
      · skip
        intro v36 e36 a36 b36
        try rw [pz_wi (by omega) (by omega)] at e36
        intro v42 e42 a42 b42
        try rw [pz_wi (by omega) (by omega)] at e42
        refine And.intro (True.intro) ?_
        intro r43 M43 k43 q43
        have R43 := pz_kd5 k43
        obtain ⟨q43, z43⟩ := q43
        subst z43
        intro v46 e46 a46 b46
        intro v50 e50 a50 b50
        try rw [pz_wi (by omega) (by omega)] at e50
        refine And.intro (True.intro) ?_
        intro v51 M51 a51 b51 q51
        obtain ⟨q51, z51⟩ := q51
        subst z51
        refine And.intro rfl ?_
        exact ⟨by omega, rfl⟩
      · skip
        refine And.intro (True.intro) ?_
        intro r26 M26 k26 q26
        have R26 := pz_kd5 k26
        obtain ⟨q26, z26⟩ := q26
        subst z26
        intro v29 e29 a29 b29
        intro v36 e36 a36 b36
        try rw [pz_wi (by omega) (by omega)] at e36
        intro v42 e42 a42 b42
        try rw [pz_wi (by omega) (by omega)] at e42
        refine And.intro (True.intro) ?_
        intro r43 M43 k43 q43
        have R43 := pz_kd5 k43
        obtain ⟨q43, z43⟩ := q43
        subst z43
        intro v46 e46 a46 b46
        intro v50 e50 a50 b50
        try rw [pz_wi (by omega) (by omega)] at e50
        refine And.intro (True.intro) ?_
        intro v51 M51 a51 b51 q51
        obtain ⟨q51, z51⟩ := q51
        subst z51
        refine And.intro rfl ?_
        exact ⟨by omega, rfl⟩
    · skip
      refine And.intro rfl ?_
      exact ⟨by omega, rfl⟩
theorem v_X0_lackOfMoney {fr lo i : Nat} {own : String} (h1 : 1 + 1 ≤ fr) (h2 : 8 + (3 + 11) + 21 ≤ lo) (h3 : .methodLink own i yX0_lackOfMoney ∈ lw_tbl) : pz_cV fr lo own i k_X0_lackOfMoney :=
  pz_cVk (maxL := 3) (fr' := 1) (lo' := 21) 1 0 h_X0_lackOfMoney rfl ⟨by decide +kernel, by decide +kernel, by decide +kernel⟩ ⟨by decide +kernel, by decide +kernel, by decide +kernel, by decide +kernel⟩ (Or.inl ⟨TX0, 8, rfl⟩) (fun a M _ h => by
    have h : (match (generalizing := false) a with | [.inr (.inr (0, c)), .inl i] => pz_ic M | _ => False) := h
    split at h
    · exact ⟨_, _, rfl⟩
    · exact h.elim) h1 h2 h3
def k_X0_canPay : pz_C := (2, 1, fun a M => (match a with | [.inr (.inr (0, c)), .inl i] => pz_ic M | _ => False), fun a M r M' => (match a, r with | [.inr (.inr (0, c)), .inl i], some (.inl v) => (v = 0 ∨ v = 1) ∧ M = M' | _, _ => False))
abbrev ct_X0_canPay : List (Bool × Nat × pz_C) := [(true, 64, k_X0_lackOfMoney)]
set_option maxRecDepth 100000 in
set_option maxHeartbeats 4000000 in
theorem h_X0_canPay : pz_H yX0_canPay cX0_canPay 2 (some .boolean) k_X0_canPay 2 43 := by
  refine pz_mk (own := RX0) (tb := t_X0_canPay) (fl := pz_flf fl_RX0) (ci := pz_cif ci_RX0) (ct := pz_ctf ct_X0_canPay) (rz := true) (by decide +kernel) rfl t_X0_canPay_ok (pz_flk fl_RX0_ok) (pz_cik ci_RX0_ok) ?_ ?_ (Or.inr ⟨rfl, rfl⟩) ?_ ?_
  · exact fun i k' h => pz_ctk (l := ct_X0_canPay) (P := fun b i k => b = true → pz_cV 2 43 RX0 i k) (List.forall_mem_cons.mpr ⟨(fun _ => v_X0_lackOfMoney (by decide) (by decide) (by decide +kernel)), fun _ h => absurd h List.not_mem_nil⟩) true i k' h rfl
  · exact fun i k' h => pz_ctk (l := ct_X0_canPay) (P := fun b i k => b = false → (pz_cS 2 43 RX0 i k ∨ (k = pz_kac ∧ 1 ≤ 2 ∧ 60 ≤ 43 ∧ Cond.methodLink RX0 i arraycopyName ∈ pz_tbl))) (List.forall_mem_cons.mpr ⟨((fun z => by cases z)), fun _ h => absurd h List.not_mem_nil⟩) false i k' h rfl
  · intro a M hlen hpre
    obtain ⟨c, i, rfl, hpre⟩ : ∃ c i, a = [.inr (.inr (0, c)), .inl i] ∧ (pz_ic M) := by
      have hpre : (match (generalizing := false) a with | [.inr (.inr (0, c)), .inl i] => pz_ic M | _ => False) := hpre
      split at hpre
      · exact ⟨_, _, rfl, hpre⟩
      · exact hpre.elim
    exact Nat.le_of_ble_eq_true rfl
  · intro a M hlen hcan hM hpre Ok hgo
    obtain ⟨c, i, rfl, hpre⟩ : ∃ c i, a = [.inr (.inr (0, c)), .inl i] ∧ (pz_ic M) := by
      have hpre : (match (generalizing := false) a with | [.inr (.inr (0, c)), .inl i] => pz_ic M | _ => False) := hpre
      split at hpre
      · exact ⟨_, _, rfl, hpre⟩
      · exact hpre.elim
    obtain ⟨k_c, hcan⟩ := pz_tlm hcan
    have k_c : pz_kd c = 0 ∧ c < 231 := k_c
    have R_c := pz_kd0 k_c.1
    obtain ⟨k_i, hcan⟩ := pz_tlm hcan
    have l_i : -2147483648 ≤ i := k_i.1
    have u_i : i ≤ 2147483647 := k_i.2
    have hI : pz_ic M := hpre
    refine hgo (fun _ => false) 10 0 _ [] M ?_
    refine And.intro (hI) ?_
    intro v2 M2 a2 b2 q2
    obtain ⟨q2, z2⟩ := q2
    subst z2
    refine And.intro (fun h5 => ?_) (fun h5 => ?_)
    · skip
      refine And.intro (by omega) ?_
      refine And.intro rfl ?_
      exact ⟨by omega, rfl⟩
    · skip
      refine And.intro (by omega) ?_
      refine And.intro rfl ?_
      exact ⟨by omega, rfl⟩
theorem v_X0_canPay {fr lo i : Nat} {own : String} (h1 : 2 + 1 ≤ fr) (h2 : 8 + (2 + 11) + 43 ≤ lo) (h3 : .methodLink own i yX0_canPay ∈ lw_tbl) : pz_cV fr lo own i k_X0_canPay :=
  pz_cVk (maxL := 2) (fr' := 2) (lo' := 43) 1 0 h_X0_canPay rfl ⟨by decide +kernel, by decide +kernel, by decide +kernel⟩ ⟨by decide +kernel, by decide +kernel, by decide +kernel, by decide +kernel⟩ (Or.inl ⟨TX0, 8, rfl⟩) (fun a M _ h => by
    have h : (match (generalizing := false) a with | [.inr (.inr (0, c)), .inl i] => pz_ic M | _ => False) := h
    split at h
    · exact ⟨_, _, rfl⟩
    · exact h.elim) h1 h2 h3
def k_X11_canHave : pz_C := (2, 1, fun a M => (match a with | [.inl x, .inl y] => True | _ => False), fun a M r M' => (match a, r with | [.inl x, .inl y], some (.inl v) => (v = 0 ∨ v = 1) ∧ M = M' | _, _ => False))
abbrev ct_X11_canHave : List (Bool × Nat × pz_C) := [(false, 137, k_X11_within)]
set_option maxRecDepth 100000 in
set_option maxHeartbeats 4000000 in
theorem h_X11_canHave : pz_H yX11_canHave cX11_canHave 2 (some .boolean) k_X11_canHave 1 22 := by
  refine pz_mk (own := RX11) (tb := t_X11_canHave) (fl := pz_flf fl_RX11) (ci := pz_cif ci_RX11) (ct := pz_ctf ct_X11_canHave) (rz := true) (by decide +kernel) rfl t_X11_canHave_ok (pz_flk fl_RX11_ok) (pz_cik ci_RX11_ok) ?_ ?_ (Or.inr ⟨rfl, rfl⟩) ?_ ?_
  · exact fun i k' h => pz_ctk (l := ct_X11_canHave) (P := fun b i k => b = true → pz_cV 1 22 RX11 i k) (List.forall_mem_cons.mpr ⟨((fun z => by cases z)), fun _ h => absurd h List.not_mem_nil⟩) true i k' h rfl
  · exact fun i k' h => pz_ctk (l := ct_X11_canHave) (P := fun b i k => b = false → (pz_cS 1 22 RX11 i k ∨ (k = pz_kac ∧ 1 ≤ 1 ∧ 60 ≤ 22 ∧ Cond.methodLink RX11 i arraycopyName ∈ pz_tbl))) (List.forall_mem_cons.mpr ⟨(fun _ => Or.inl (s_X11_within (by decide) (by decide) (Or.inl (by decide +kernel)))), fun _ h => absurd h List.not_mem_nil⟩) false i k' h rfl
  · intro a M hlen hpre
    obtain ⟨x, y, rfl, hpre⟩ : ∃ x y, a = [.inl x, .inl y] ∧ (True) := by
      have hpre : (match (generalizing := false) a with | [.inl x, .inl y] => True | _ => False) := hpre
      split at hpre
      · exact ⟨_, _, rfl, hpre⟩
      · exact hpre.elim
    exact Nat.le_of_ble_eq_true rfl
  · intro a M hlen hcan hM hpre Ok hgo
    obtain ⟨x, y, rfl, hpre⟩ : ∃ x y, a = [.inl x, .inl y] ∧ (True) := by
      have hpre : (match (generalizing := false) a with | [.inl x, .inl y] => True | _ => False) := hpre
      split at hpre
      · exact ⟨_, _, rfl, hpre⟩
      · exact hpre.elim
    obtain ⟨k_x, hcan⟩ := pz_tlm hcan
    have l_x : -2147483648 ≤ x := k_x.1
    have u_x : x ≤ 2147483647 := k_x.2
    obtain ⟨k_y, hcan⟩ := pz_tlm hcan
    have l_y : -2147483648 ≤ y := k_y.1
    have u_y : y ≤ 2147483647 := k_y.2
    refine hgo (fun _ => false) 31 0 _ [] M ?_
    refine And.intro ?_ ?_
    · skip
      refine And.intro (fun h1 => ?_) ?_
      · skip
        refine And.intro (True.intro) ?_
        intro v41 M41 a41 b41 q41
        obtain ⟨q41, z41⟩ := q41
        subst z41
        refine And.intro (by first | omega | (split at * <;> omega)) ?_
        refine And.intro rfl ?_
        exact ⟨by first | omega | (split at * <;> omega), rfl⟩
      refine And.intro (fun h1 => ?_) ?_
      · skip
        refine And.intro (True.intro) ?_
        intro v52 M52 a52 b52 q52
        obtain ⟨q52, z52⟩ := q52
        subst z52
        refine And.intro (by first | omega | (split at * <;> omega)) ?_
        refine And.intro rfl ?_
        exact ⟨by first | omega | (split at * <;> omega), rfl⟩
      refine And.intro (fun h1 => ?_) ?_
      · skip
        refine And.intro (True.intro) ?_
        intro v63 M63 a63 b63 q63
        obtain ⟨q63, z63⟩ := q63
        subst z63
        refine And.intro (by first | omega | (split at * <;> omega)) ?_
        refine And.intro rfl ?_
        exact ⟨by first | omega | (split at * <;> omega), rfl⟩
      refine And.intro (fun h1 => ?_) ?_
      · skip
        refine And.intro (True.intro) ?_
        intro v71 M71 a71 b71 q71
        obtain ⟨q71, z71⟩ := q71
        subst z71
        refine And.intro (by first | omega | (split at * <;> omega)) ?_
        refine And.intro rfl ?_
        exact ⟨by first | omega | (split at * <;> omega), rfl⟩
      refine And.intro (fun h1 => ?_) ?_
      · skip
        refine And.intro (True.intro) ?_
        intro v78 M78 a78 b78 q78
        obtain ⟨q78, z78⟩ := q78
        subst z78
        refine And.intro (by first | omega | (split at * <;> omega)) ?_
        refine And.intro rfl ?_
        exact ⟨by first | omega | (split at * <;> omega), rfl⟩
      exact True.intro
    · intro h1
      refine And.intro (by first | omega | (split at * <;> omega)) ?_
      refine And.intro rfl ?_
      exact ⟨by first | omega | (split at * <;> omega), rfl⟩
theorem s_X11_canHave {fr lo i : Nat} {own : String} (h1 : 1 + 1 ≤ fr) (h2 : 8 + (2 + 11) + 22 ≤ lo) (h3 : .methodLink own i yX11_canHave ∈ lw_tbl ∨ (own = RX1 ∧ i = 35 ∧ yX11_canHave = yX11_within)) : pz_cS fr lo own i k_X11_canHave := pz_cSk (maxL := 2) (fr' := 1) (lo' := 22) 2 h_X11_canHave rfl ⟨by decide +kernel, by decide +kernel, by decide +kernel⟩ ⟨by decide +kernel, by decide +kernel, by decide +kernel⟩ h1 h2 h3
def k_X0_all : pz_C := (1, 1, fun a M => (match a with | [.inr (.inr (0, c))] => True | _ => False), fun a M r M' => (match a, r with | [.inr (.inr (0, c))], some (.inl v) => (True) ∧ M = M' | _, _ => False))
abbrev ct_X0_all : List (Bool × Nat × pz_C) := []
set_option maxRecDepth 100000 in
set_option maxHeartbeats 4000000 in
theorem h_X0_all : pz_H yX0_all cX0_all 1 (some .int) k_X0_all 0 0 := by
  refine pz_mk (own := RX0) (tb := t_X0_all) (fl := pz_flf fl_RX0) (ci := pz_cif ci_RX0) (ct := pz_ctf ct_X0_all) (rz := false) (by decide +kernel) rfl t_X0_all_ok (pz_flk fl_RX0_ok) (pz_cik ci_RX0_ok) ?_ ?_ (Or.inl ⟨rfl, rfl⟩) ?_ ?_
  · exact fun i k' h => pz_ctk (l := ct_X0_all) (P := fun b i k => b = true → pz_cV 0 0 RX0 i k) (fun _ h => absurd h List.not_mem_nil) true i k' h rfl
  · exact fun i k' h => pz_ctk (l := ct_X0_all) (P := fun b i k => b = false → (pz_cS 0 0 RX0 i k ∨ (k = pz_kac ∧ 1 ≤ 0 ∧ 60 ≤ 0 ∧ Cond.methodLink RX0 i arraycopyName ∈ pz_tbl))) (fun _ h => absurd h List.not_mem_nil) false i k' h rfl
  · intro a M hlen hpre
    obtain ⟨c, rfl, hpre⟩ : ∃ c, a = [.inr (.inr (0, c))] ∧ (True) := by
      have hpre : (match (generalizing := false) a with | [.inr (.inr (0, c))] => True | _ => False) := hpre
      split at hpre
      · exact ⟨_, rfl, hpre⟩
      · exact hpre.elim
    exact Nat.le_of_ble_eq_true rfl
  · intro a M hlen hcan hM hpre Ok hgo
    obtain ⟨c, rfl, hpre⟩ : ∃ c, a = [.inr (.inr (0, c))] ∧ (True) := by
      have hpre : (match (generalizing := false) a with | [.inr (.inr (0, c))] => True | _ => False) := hpre
      split at hpre
      · exact ⟨_, rfl, hpre⟩
      · exact hpre.elim
    obtain ⟨k_c, hcan⟩ := pz_tlm hcan
    have k_c : pz_kd c = 0 ∧ c < 231 := k_c
    have R_c := pz_kd0 k_c.1
    refine hgo (fun _ => false) 9 0 _ [] M ?_
    intro v2 e2 a2 b2
    intro v5 e5 a5 b5
    intro v7 e7 a7 b7
    try rw [pz_wi (by omega) (by omega)] at e7
    refine And.intro rfl ?_
    exact ⟨trivial, rfl⟩
theorem v_X0_all {fr lo i : Nat} {own : String} (h1 : 0 + 1 ≤ fr) (h2 : 8 + (1 + 11) + 0 ≤ lo) (h3 : .methodLink own i yX0_all ∈ lw_tbl) : pz_cV fr lo own i k_X0_all :=
  pz_cVk (maxL := 1) (fr' := 0) (lo' := 0) 0 0 h_X0_all rfl ⟨by decide +kernel, by decide +kernel, by decide +kernel⟩ ⟨by decide +kernel, by decide +kernel, by decide +kernel, by decide +kernel⟩ (Or.inl ⟨TX0, 8, rfl⟩) (fun a M _ h => by
    have h : (match (generalizing := false) a with | [.inr (.inr (0, c))] => True | _ => False) := h
    split at h
    · exact ⟨_, _, rfl⟩
    · exact h.elim) h1 h2 h3
def k_X0_canBridge : pz_C := (2, 1, fun a M => (match a with | [.inr (.inr (0, c)), .inl i] => pz_ic M | _ => False), fun a M r M' => (match a, r with | [.inr (.inr (0, c)), .inl i], some (.inl v) => (v = 0 ∨ v = 1) ∧ M = M' | _, _ => False))
abbrev ct_X0_canBridge : List (Bool × Nat × pz_C) := [(true, 48, k_X0_at), (true, 71, k_X5_isIn)]
set_option maxRecDepth 100000 in
set_option maxHeartbeats 4000000 in
theorem h_X0_canBridge : pz_H yX0_canBridge cX0_canBridge 2 (some .boolean) k_X0_canBridge 1 21 := by
  refine pz_mk (own := RX0) (tb := t_X0_canBridge) (fl := pz_flf fl_RX0) (ci := pz_cif ci_RX0) (ct := pz_ctf ct_X0_canBridge) (rz := true) (by decide +kernel) rfl t_X0_canBridge_ok (pz_flk fl_RX0_ok) (pz_cik ci_RX0_ok) ?_ ?_ (Or.inr ⟨rfl, rfl⟩) ?_ ?_
  · exact fun i k' h => pz_ctk (l := ct_X0_canBridge) (P := fun b i k => b = true → pz_cV 1 21 RX0 i k) (List.forall_mem_cons.mpr ⟨(fun _ => v_X0_at (by decide) (by decide) (by decide +kernel)), List.forall_mem_cons.mpr ⟨(fun _ => v_X5_isIn (by decide) (by decide) (by decide +kernel)), fun _ h => absurd h List.not_mem_nil⟩⟩) true i k' h rfl
  · exact fun i k' h => pz_ctk (l := ct_X0_canBridge) (P := fun b i k => b = false → (pz_cS 1 21 RX0 i k ∨ (k = pz_kac ∧ 1 ≤ 1 ∧ 60 ≤ 21 ∧ Cond.methodLink RX0 i arraycopyName ∈ pz_tbl))) (List.forall_mem_cons.mpr ⟨((fun z => by cases z)), List.forall_mem_cons.mpr ⟨((fun z => by cases z)), fun _ h => absurd h List.not_mem_nil⟩⟩) false i k' h rfl
  · intro a M hlen hpre
    obtain ⟨c, i, rfl, hpre⟩ : ∃ c i, a = [.inr (.inr (0, c)), .inl i] ∧ (pz_ic M) := by
      have hpre : (match (generalizing := false) a with | [.inr (.inr (0, c)), .inl i] => pz_ic M | _ => False) := hpre
      split at hpre
      · exact ⟨_, _, rfl, hpre⟩
      · exact hpre.elim
    exact Nat.le_of_ble_eq_true rfl
  · intro a M hlen hcan hM hpre Ok hgo
    obtain ⟨c, i, rfl, hpre⟩ : ∃ c i, a = [.inr (.inr (0, c)), .inl i] ∧ (pz_ic M) := by
      have hpre : (match (generalizing := false) a with | [.inr (.inr (0, c)), .inl i] => pz_ic M | _ => False) := hpre
      split at hpre
      · exact ⟨_, _, rfl, hpre⟩
      · exact hpre.elim
    obtain ⟨k_c, hcan⟩ := pz_tlm hcan
    have k_c : pz_kd c = 0 ∧ c < 231 := k_c
    have R_c := pz_kd0 k_c.1
    obtain ⟨k_i, hcan⟩ := pz_tlm hcan
    have l_i : -2147483648 ≤ i := k_i.1
    have u_i : i ≤ 2147483647 := k_i.2
    have hI : pz_ic M := hpre
    refine hgo (fun _ => false) 24 0 _ [] M ?_
    refine And.intro (fun h1 => ?_) (fun h1 => ?_)
    · skip
      refine And.intro (by omega) ?_
      refine And.intro rfl ?_
      exact ⟨by omega, rfl⟩
    · skip
      intro v6 e6 a6 b6
      have I6 := hI.1 c (by omega) (by omega)
      intro v10 e10 a10 b10
      try rw [pz_wi (by omega) (by omega)] at e10
      refine And.intro (fun h11 => ?_) (fun h11 => ?_)
      · skip
        refine And.intro (by omega) ?_
        refine And.intro rfl ?_
        exact ⟨by omega, rfl⟩
      · skip
        refine And.intro (True.intro) ?_
        intro r16 M16 k16 q16
        have R16 := pz_kd5 k16
        obtain ⟨q16, z16⟩ := q16
        subst z16
        intro v19 e19 a19 b19
        refine And.intro (fun h22 => ?_) (fun h22 => ?_)
        · skip
          refine And.intro (by omega) ?_
          refine And.intro rfl ?_
          exact ⟨by omega, rfl⟩
        · skip
          refine And.intro (True.intro) ?_
          intro r27 M27 k27 q27
          have R27 := pz_kd5 k27
          obtain ⟨q27, z27⟩ := q27
          subst z27
          refine And.intro (True.intro) ?_
          intro v30 M30 a30 b30 q30
          obtain ⟨q30, z30⟩ := q30
          subst z30
          refine And.intro (fun h33 => ?_) (fun h33 => ?_)
          · skip
            refine And.intro (by omega) ?_
            refine And.intro rfl ?_
            exact ⟨by omega, rfl⟩
          · skip
            refine And.intro (by omega) ?_
            refine And.intro rfl ?_
            exact ⟨by omega, rfl⟩
theorem v_X0_canBridge {fr lo i : Nat} {own : String} (h1 : 1 + 1 ≤ fr) (h2 : 8 + (2 + 11) + 21 ≤ lo) (h3 : .methodLink own i yX0_canBridge ∈ lw_tbl) : pz_cV fr lo own i k_X0_canBridge :=
  pz_cVk (maxL := 2) (fr' := 1) (lo' := 21) 1 0 h_X0_canBridge rfl ⟨by decide +kernel, by decide +kernel, by decide +kernel⟩ ⟨by decide +kernel, by decide +kernel, by decide +kernel, by decide +kernel⟩ (Or.inl ⟨TX0, 8, rfl⟩) (fun a M _ h => by
    have h : (match (generalizing := false) a with | [.inr (.inr (0, c)), .inl i] => pz_ic M | _ => False) := h
    split at h
    · exact ⟨_, _, rfl⟩
    · exact h.elim) h1 h2 h3
def k_X0_partEnd : pz_C := (2, 1, fun a M => (match a with | [.inr (.inr (0, c)), .inl i] => pz_ic M | _ => False), fun a M r M' => (match a, r with | [.inr (.inr (0, c)), .inl i], some (.inl v) => (i ≤ v ∧ (v = i ∨ v ≤ 11)) ∧ M = M' | _, _ => False))
abbrev ct_X0_partEnd : List (Bool × Nat × pz_C) := [(true, 48, k_X0_at)]
set_option maxRecDepth 100000 in
set_option maxHeartbeats 4000000 in
theorem h_X0_partEnd : pz_H yX0_partEnd cX0_partEnd 3 (some .int) k_X0_partEnd 1 21 := by
  refine pz_mk (own := RX0) (tb := t_X0_partEnd) (fl := pz_flf fl_RX0) (ci := pz_cif ci_RX0) (ct := pz_ctf ct_X0_partEnd) (rz := false) (by decide +kernel) rfl t_X0_partEnd_ok (pz_flk fl_RX0_ok) (pz_cik ci_RX0_ok) ?_ ?_ (Or.inl ⟨rfl, rfl⟩) ?_ ?_
  · exact fun i k' h => pz_ctk (l := ct_X0_partEnd) (P := fun b i k => b = true → pz_cV 1 21 RX0 i k) (List.forall_mem_cons.mpr ⟨(fun _ => v_X0_at (by decide) (by decide) (by decide +kernel)), fun _ h => absurd h List.not_mem_nil⟩) true i k' h rfl
  · exact fun i k' h => pz_ctk (l := ct_X0_partEnd) (P := fun b i k => b = false → (pz_cS 1 21 RX0 i k ∨ (k = pz_kac ∧ 1 ≤ 1 ∧ 60 ≤ 21 ∧ Cond.methodLink RX0 i arraycopyName ∈ pz_tbl))) (List.forall_mem_cons.mpr ⟨((fun z => by cases z)), fun _ h => absurd h List.not_mem_nil⟩) false i k' h rfl
  · intro a M hlen hpre
    obtain ⟨c, i, rfl, hpre⟩ : ∃ c i, a = [.inr (.inr (0, c)), .inl i] ∧ (pz_ic M) := by
      have hpre : (match (generalizing := false) a with | [.inr (.inr (0, c)), .inl i] => pz_ic M | _ => False) := hpre
      split at hpre
      · exact ⟨_, _, rfl, hpre⟩
      · exact hpre.elim
    exact Nat.le_of_ble_eq_true rfl
  · intro a M hlen hcan hM hpre Ok hgo
    obtain ⟨c, i, rfl, hpre⟩ : ∃ c i, a = [.inr (.inr (0, c)), .inl i] ∧ (pz_ic M) := by
      have hpre : (match (generalizing := false) a with | [.inr (.inr (0, c)), .inl i] => pz_ic M | _ => False) := hpre
      split at hpre
      · exact ⟨_, _, rfl, hpre⟩
      · exact hpre.elim
    obtain ⟨k_c, hcan⟩ := pz_tlm hcan
    have k_c : pz_kd c = 0 ∧ c < 231 := k_c
    have R_c := pz_kd0 k_c.1
    obtain ⟨k_i, hcan⟩ := pz_tlm hcan
    have l_i : -2147483648 ≤ i := k_i.1
    have u_i : i ≤ 2147483647 := k_i.2
    have hI : pz_ic M := hpre
    have L2 : ∀ (fu : Nat) (x2 : Int), (M c 3 - x2).toNat < fu → (i ≤ x2) → (x2 = i ∨ x2 ≤ 11) → Ok 2 [some (.inr (.inr (0, c))), some (.inl i), some (.inl x2)] [] M := by
      intro fu
      induction fu with
      | zero => exact fun _ hn => absurd hn (Nat.not_lt_zero _)
      | succ fu ih2 =>
        intro x2 hn2 g2_0 g2_1
        refine hgo (fun p => Nat.beq p 2) 19 2 _ _ _ ?_
        intro v4 e4 a4 b4
        have I4 := hI.1 c (by omega) (by omega)
        intro v8 e8 a8 b8
        try rw [pz_wi (by omega) (by omega)] at e8
        refine And.intro (fun h9 => ?_) (fun h9 => ?_)
        · skip
          refine And.intro rfl ?_
          exact ⟨by omega, rfl⟩
        · skip
          intro v12 e12 a12 b12
          try rw [pz_wi (by omega) (by omega)] at e12
          refine And.intro (True.intro) ?_
          intro r17 M17 k17 q17
          have R17 := pz_kd5 k17
          obtain ⟨q17, z17⟩ := q17
          subst z17
          intro v20 e20 a20 b20
          refine And.intro (fun h23 => ?_) (fun h23 => ?_)
          · skip
            exact ih2 _ (by omega) (by omega) (by omega)
          · skip
            refine And.intro rfl ?_
            exact ⟨by omega, rfl⟩
    refine hgo (fun p => Nat.beq p 2) 19 0 _ [] M ?_
    exact L2 _ _ (Nat.lt_succ_self _) (by omega) (by omega)
theorem v_X0_partEnd {fr lo i : Nat} {own : String} (h1 : 1 + 1 ≤ fr) (h2 : 8 + (3 + 11) + 21 ≤ lo) (h3 : .methodLink own i yX0_partEnd ∈ lw_tbl) : pz_cV fr lo own i k_X0_partEnd :=
  pz_cVk (maxL := 3) (fr' := 1) (lo' := 21) 1 0 h_X0_partEnd rfl ⟨by decide +kernel, by decide +kernel, by decide +kernel⟩ ⟨by decide +kernel, by decide +kernel, by decide +kernel, by decide +kernel⟩ (Or.inl ⟨TX0, 8, rfl⟩) (fun a M _ h => by
    have h : (match (generalizing := false) a with | [.inr (.inr (0, c)), .inl i] => pz_ic M | _ => False) := h
    split at h
    · exact ⟨_, _, rfl⟩
    · exact h.elim) h1 h2 h3
def k_X0_movedOnes : pz_C := (1, 1, fun a M => (match a with | [.inr (.inr (0, c))] => pz_ic M | _ => False), fun a M r M' => (match a, r with | [.inr (.inr (0, c))], some (.inl v) => (True) ∧ M = M' | _, _ => False))
abbrev ct_X0_movedOnes : List (Bool × Nat × pz_C) := [(true, 48, k_X0_at)]
set_option maxRecDepth 100000 in
set_option maxHeartbeats 4000000 in
theorem h_X0_movedOnes : pz_H yX0_movedOnes cX0_movedOnes 3 (some .int) k_X0_movedOnes 1 21 := by
  refine pz_mk (own := RX0) (tb := t_X0_movedOnes) (fl := pz_flf fl_RX0) (ci := pz_cif ci_RX0) (ct := pz_ctf ct_X0_movedOnes) (rz := false) (by decide +kernel) rfl t_X0_movedOnes_ok (pz_flk fl_RX0_ok) (pz_cik ci_RX0_ok) ?_ ?_ (Or.inl ⟨rfl, rfl⟩) ?_ ?_
  · exact fun i k' h => pz_ctk (l := ct_X0_movedOnes) (P := fun b i k => b = true → pz_cV 1 21 RX0 i k) (List.forall_mem_cons.mpr ⟨(fun _ => v_X0_at (by decide) (by decide) (by decide +kernel)), fun _ h => absurd h List.not_mem_nil⟩) true i k' h rfl
  · exact fun i k' h => pz_ctk (l := ct_X0_movedOnes) (P := fun b i k => b = false → (pz_cS 1 21 RX0 i k ∨ (k = pz_kac ∧ 1 ≤ 1 ∧ 60 ≤ 21 ∧ Cond.methodLink RX0 i arraycopyName ∈ pz_tbl))) (List.forall_mem_cons.mpr ⟨((fun z => by cases z)), fun _ h => absurd h List.not_mem_nil⟩) false i k' h rfl
  · intro a M hlen hpre
    obtain ⟨c, rfl, hpre⟩ : ∃ c, a = [.inr (.inr (0, c))] ∧ (pz_ic M) := by
      have hpre : (match (generalizing := false) a with | [.inr (.inr (0, c))] => pz_ic M | _ => False) := hpre
      split at hpre
      · exact ⟨_, rfl, hpre⟩
      · exact hpre.elim
    exact Nat.le_of_ble_eq_true rfl
  · intro a M hlen hcan hM hpre Ok hgo
    obtain ⟨c, rfl, hpre⟩ : ∃ c, a = [.inr (.inr (0, c))] ∧ (pz_ic M) := by
      have hpre : (match (generalizing := false) a with | [.inr (.inr (0, c))] => pz_ic M | _ => False) := hpre
      split at hpre
      · exact ⟨_, rfl, hpre⟩
      · exact hpre.elim
    obtain ⟨k_c, hcan⟩ := pz_tlm hcan
    have k_c : pz_kd c = 0 ∧ c < 231 := k_c
    have R_c := pz_kd0 k_c.1
    have hI : pz_ic M := hpre
    have L4 : ∀ (fu : Nat) (x1 : Int) (x2 : Int), (M c 3 - x2).toNat < fu → (0 ≤ x2) → Ok 4 [some (.inr (.inr (0, c))), some (.inl x1), some (.inl x2)] [] M := by
      intro fu
      induction fu with
      | zero => exact fun _ _ hn => absurd hn (Nat.not_lt_zero _)
      | succ fu ih4 =>
        intro x1 x2 hn4 g4_0
        refine hgo (fun p => Nat.beq p 4) 28 4 _ _ _ ?_
        intro v6 e6 a6 b6
        have I6 := hI.1 c (by omega) (by omega)
        refine And.intro (fun h9 => ?_) (fun h9 => ?_)
        · skip
          refine And.intro rfl ?_
          exact ⟨trivial, rfl⟩
        · skip
          refine And.intro (True.intro) ?_
          intro r15 M15 k15 q15
          have R15 := pz_kd5 k15
          obtain ⟨q15, z15⟩ := q15
          subst z15
          intro v18 e18 a18 b18
          refine And.intro (fun h22 => ?_) (fun h22 => ?_)
          · skip
            intro v32 e32 a32 b32
            intro v34 e34 a34 b34
            try rw [pz_wi (by omega) (by omega)] at e34
            exact ih4 _ _ (by omega) (by omega)
          · skip
            intro v27 e27 a27 b27
            intro v32 e32 a32 b32
            intro v34 e34 a34 b34
            try rw [pz_wi (by omega) (by omega)] at e34
            exact ih4 _ _ (by omega) (by omega)
    refine hgo (fun p => Nat.beq p 4) 28 0 _ [] M ?_
    exact L4 _ _ _ (Nat.lt_succ_self _) (by omega)
theorem v_X0_movedOnes {fr lo i : Nat} {own : String} (h1 : 1 + 1 ≤ fr) (h2 : 8 + (3 + 11) + 21 ≤ lo) (h3 : .methodLink own i yX0_movedOnes ∈ lw_tbl) : pz_cV fr lo own i k_X0_movedOnes :=
  pz_cVk (maxL := 3) (fr' := 1) (lo' := 21) 0 0 h_X0_movedOnes rfl ⟨by decide +kernel, by decide +kernel, by decide +kernel⟩ ⟨by decide +kernel, by decide +kernel, by decide +kernel, by decide +kernel⟩ (Or.inl ⟨TX0, 8, rfl⟩) (fun a M _ h => by
    have h : (match (generalizing := false) a with | [.inr (.inr (0, c))] => pz_ic M | _ => False) := h
    split at h
    · exact ⟨_, _, rfl⟩
    · exact h.elim) h1 h2 h3
def k_X0_bridgedOnes : pz_C := (1, 1, fun a M => (match a with | [.inr (.inr (0, c))] => pz_ic M | _ => False), fun a M r M' => (match a, r with | [.inr (.inr (0, c))], some (.inl v) => (True) ∧ M = M' | _, _ => False))
abbrev ct_X0_bridgedOnes : List (Bool × Nat × pz_C) := [(true, 48, k_X0_at)]
set_option maxRecDepth 100000 in
set_option maxHeartbeats 4000000 in
theorem h_X0_bridgedOnes : pz_H yX0_bridgedOnes cX0_bridgedOnes 3 (some .int) k_X0_bridgedOnes 1 21 := by
  refine pz_mk (own := RX0) (tb := t_X0_bridgedOnes) (fl := pz_flf fl_RX0) (ci := pz_cif ci_RX0) (ct := pz_ctf ct_X0_bridgedOnes) (rz := false) (by decide +kernel) rfl t_X0_bridgedOnes_ok (pz_flk fl_RX0_ok) (pz_cik ci_RX0_ok) ?_ ?_ (Or.inl ⟨rfl, rfl⟩) ?_ ?_
  · exact fun i k' h => pz_ctk (l := ct_X0_bridgedOnes) (P := fun b i k => b = true → pz_cV 1 21 RX0 i k) (List.forall_mem_cons.mpr ⟨(fun _ => v_X0_at (by decide) (by decide) (by decide +kernel)), fun _ h => absurd h List.not_mem_nil⟩) true i k' h rfl
  · exact fun i k' h => pz_ctk (l := ct_X0_bridgedOnes) (P := fun b i k => b = false → (pz_cS 1 21 RX0 i k ∨ (k = pz_kac ∧ 1 ≤ 1 ∧ 60 ≤ 21 ∧ Cond.methodLink RX0 i arraycopyName ∈ pz_tbl))) (List.forall_mem_cons.mpr ⟨((fun z => by cases z)), fun _ h => absurd h List.not_mem_nil⟩) false i k' h rfl
  · intro a M hlen hpre
    obtain ⟨c, rfl, hpre⟩ : ∃ c, a = [.inr (.inr (0, c))] ∧ (pz_ic M) := by
      have hpre : (match (generalizing := false) a with | [.inr (.inr (0, c))] => pz_ic M | _ => False) := hpre
      split at hpre
      · exact ⟨_, rfl, hpre⟩
      · exact hpre.elim
    exact Nat.le_of_ble_eq_true rfl
  · intro a M hlen hcan hM hpre Ok hgo
    obtain ⟨c, rfl, hpre⟩ : ∃ c, a = [.inr (.inr (0, c))] ∧ (pz_ic M) := by
      have hpre : (match (generalizing := false) a with | [.inr (.inr (0, c))] => pz_ic M | _ => False) := hpre
      split at hpre
      · exact ⟨_, rfl, hpre⟩
      · exact hpre.elim
    obtain ⟨k_c, hcan⟩ := pz_tlm hcan
    have k_c : pz_kd c = 0 ∧ c < 231 := k_c
    have R_c := pz_kd0 k_c.1
    have hI : pz_ic M := hpre
    have L4 : ∀ (fu : Nat) (x1 : Int) (x2 : Int), (M c 3 - x2).toNat < fu → (0 ≤ x2) → Ok 4 [some (.inr (.inr (0, c))), some (.inl x1), some (.inl x2)] [] M := by
      intro fu
      induction fu with
      | zero => exact fun _ _ hn => absurd hn (Nat.not_lt_zero _)
      | succ fu ih4 =>
        intro x1 x2 hn4 g4_0
        refine hgo (fun p => Nat.beq p 4) 27 4 _ _ _ ?_
        intro v6 e6 a6 b6
        have I6 := hI.1 c (by omega) (by omega)
        refine And.intro (fun h9 => ?_) (fun h9 => ?_)
        · skip
          refine And.intro rfl ?_
          exact ⟨trivial, rfl⟩
        · skip
          refine And.intro (True.intro) ?_
          intro r15 M15 k15 q15
          have R15 := pz_kd5 k15
          obtain ⟨q15, z15⟩ := q15
          subst z15
          intro v18 e18 a18 b18
          refine And.intro (fun h21 => ?_) (fun h21 => ?_)
          · skip
            intro v31 e31 a31 b31
            intro v33 e33 a33 b33
            try rw [pz_wi (by omega) (by omega)] at e33
            exact ih4 _ _ (by omega) (by omega)
          · skip
            intro v26 e26 a26 b26
            intro v31 e31 a31 b31
            intro v33 e33 a33 b33
            try rw [pz_wi (by omega) (by omega)] at e33
            exact ih4 _ _ (by omega) (by omega)
    refine hgo (fun p => Nat.beq p 4) 27 0 _ [] M ?_
    exact L4 _ _ _ (Nat.lt_succ_self _) (by omega)
theorem v_X0_bridgedOnes {fr lo i : Nat} {own : String} (h1 : 1 + 1 ≤ fr) (h2 : 8 + (3 + 11) + 21 ≤ lo) (h3 : .methodLink own i yX0_bridgedOnes ∈ lw_tbl) : pz_cV fr lo own i k_X0_bridgedOnes :=
  pz_cVk (maxL := 3) (fr' := 1) (lo' := 21) 0 0 h_X0_bridgedOnes rfl ⟨by decide +kernel, by decide +kernel, by decide +kernel⟩ ⟨by decide +kernel, by decide +kernel, by decide +kernel, by decide +kernel⟩ (Or.inl ⟨TX0, 8, rfl⟩) (fun a M _ h => by
    have h : (match (generalizing := false) a with | [.inr (.inr (0, c))] => pz_ic M | _ => False) := h
    split at h
    · exact ⟨_, _, rfl⟩
    · exact h.elim) h1 h2 h3
def k_X0_bridgeableOnes : pz_C := (1, 1, fun a M => (match a with | [.inr (.inr (0, c))] => pz_ic M | _ => False), fun a M r M' => (match a, r with | [.inr (.inr (0, c))], some (.inl v) => (True) ∧ M = M' | _, _ => False))
abbrev ct_X0_bridgeableOnes : List (Bool × Nat × pz_C) := [(true, 90, k_X0_canBridge)]
set_option maxRecDepth 100000 in
set_option maxHeartbeats 4000000 in
theorem h_X0_bridgeableOnes : pz_H yX0_bridgeableOnes cX0_bridgeableOnes 3 (some .int) k_X0_bridgeableOnes 2 42 := by
  refine pz_mk (own := RX0) (tb := t_X0_bridgeableOnes) (fl := pz_flf fl_RX0) (ci := pz_cif ci_RX0) (ct := pz_ctf ct_X0_bridgeableOnes) (rz := false) (by decide +kernel) rfl t_X0_bridgeableOnes_ok (pz_flk fl_RX0_ok) (pz_cik ci_RX0_ok) ?_ ?_ (Or.inl ⟨rfl, rfl⟩) ?_ ?_
  · exact fun i k' h => pz_ctk (l := ct_X0_bridgeableOnes) (P := fun b i k => b = true → pz_cV 2 42 RX0 i k) (List.forall_mem_cons.mpr ⟨(fun _ => v_X0_canBridge (by decide) (by decide) (by decide +kernel)), fun _ h => absurd h List.not_mem_nil⟩) true i k' h rfl
  · exact fun i k' h => pz_ctk (l := ct_X0_bridgeableOnes) (P := fun b i k => b = false → (pz_cS 2 42 RX0 i k ∨ (k = pz_kac ∧ 1 ≤ 2 ∧ 60 ≤ 42 ∧ Cond.methodLink RX0 i arraycopyName ∈ pz_tbl))) (List.forall_mem_cons.mpr ⟨((fun z => by cases z)), fun _ h => absurd h List.not_mem_nil⟩) false i k' h rfl
  · intro a M hlen hpre
    obtain ⟨c, rfl, hpre⟩ : ∃ c, a = [.inr (.inr (0, c))] ∧ (pz_ic M) := by
      have hpre : (match (generalizing := false) a with | [.inr (.inr (0, c))] => pz_ic M | _ => False) := hpre
      split at hpre
      · exact ⟨_, rfl, hpre⟩
      · exact hpre.elim
    exact Nat.le_of_ble_eq_true rfl
  · intro a M hlen hcan hM hpre Ok hgo
    obtain ⟨c, rfl, hpre⟩ : ∃ c, a = [.inr (.inr (0, c))] ∧ (pz_ic M) := by
      have hpre : (match (generalizing := false) a with | [.inr (.inr (0, c))] => pz_ic M | _ => False) := hpre
      split at hpre
      · exact ⟨_, rfl, hpre⟩
      · exact hpre.elim
    obtain ⟨k_c, hcan⟩ := pz_tlm hcan
    have k_c : pz_kd c = 0 ∧ c < 231 := k_c
    have R_c := pz_kd0 k_c.1
    have hI : pz_ic M := hpre
    have L4 : ∀ (fu : Nat) (x1 : Int) (x2 : Int), (M c 3 - x2).toNat < fu → (0 ≤ x2) → Ok 4 [some (.inr (.inr (0, c))), some (.inl x1), some (.inl x2)] [] M := by
      intro fu
      induction fu with
      | zero => exact fun _ _ hn => absurd hn (Nat.not_lt_zero _)
      | succ fu ih4 =>
        intro x1 x2 hn4 g4_0
        refine hgo (fun p => Nat.beq p 4) 26 4 _ _ _ ?_
        intro v6 e6 a6 b6
        have I6 := hI.1 c (by omega) (by omega)
        refine And.intro (fun h9 => ?_) (fun h9 => ?_)
        · skip
          refine And.intro rfl ?_
          exact ⟨trivial, rfl⟩
        · skip
          refine And.intro (hI) ?_
          intro v15 M15 a15 b15 q15
          obtain ⟨q15, z15⟩ := q15
          subst z15
          refine And.intro (fun h18 => ?_) (fun h18 => ?_)
          · skip
            intro v28 e28 a28 b28
            intro v30 e30 a30 b30
            try rw [pz_wi (by omega) (by omega)] at e30
            exact ih4 _ _ (by omega) (by omega)
          · skip
            intro v23 e23 a23 b23
            intro v28 e28 a28 b28
            intro v30 e30 a30 b30
            try rw [pz_wi (by omega) (by omega)] at e30
            exact ih4 _ _ (by omega) (by omega)
    refine hgo (fun p => Nat.beq p 4) 26 0 _ [] M ?_
    exact L4 _ _ _ (Nat.lt_succ_self _) (by omega)
theorem v_X0_bridgeableOnes {fr lo i : Nat} {own : String} (h1 : 2 + 1 ≤ fr) (h2 : 8 + (3 + 11) + 42 ≤ lo) (h3 : .methodLink own i yX0_bridgeableOnes ∈ lw_tbl) : pz_cV fr lo own i k_X0_bridgeableOnes :=
  pz_cVk (maxL := 3) (fr' := 2) (lo' := 42) 0 0 h_X0_bridgeableOnes rfl ⟨by decide +kernel, by decide +kernel, by decide +kernel⟩ ⟨by decide +kernel, by decide +kernel, by decide +kernel, by decide +kernel⟩ (Or.inl ⟨TX0, 8, rfl⟩) (fun a M _ h => by
    have h : (match (generalizing := false) a with | [.inr (.inr (0, c))] => pz_ic M | _ => False) := h
    split at h
    · exact ⟨_, _, rfl⟩
    · exact h.elim) h1 h2 h3
def k_X0_latestMove : pz_C := (1, 1, fun a M => (match a with | [.inr (.inr (0, c))] => pz_ic M | _ => False), fun a M r M' => (match a, r with | [.inr (.inr (0, c))], some (.inl v) => (True) ∧ M = M' | _, _ => False))
abbrev ct_X0_latestMove : List (Bool × Nat × pz_C) := [(true, 48, k_X0_at), (false, 58, k_J9_max_7cf53)]
set_option maxRecDepth 100000 in
set_option maxHeartbeats 4000000 in
theorem h_X0_latestMove : pz_H yX0_latestMove cX0_latestMove 3 (some .int) k_X0_latestMove 1 21 := by
  refine pz_mk (own := RX0) (tb := t_X0_latestMove) (fl := pz_flf fl_RX0) (ci := pz_cif ci_RX0) (ct := pz_ctf ct_X0_latestMove) (rz := false) (by decide +kernel) rfl t_X0_latestMove_ok (pz_flk fl_RX0_ok) (pz_cik ci_RX0_ok) ?_ ?_ (Or.inl ⟨rfl, rfl⟩) ?_ ?_
  · exact fun i k' h => pz_ctk (l := ct_X0_latestMove) (P := fun b i k => b = true → pz_cV 1 21 RX0 i k) (List.forall_mem_cons.mpr ⟨(fun _ => v_X0_at (by decide) (by decide) (by decide +kernel)), List.forall_mem_cons.mpr ⟨((fun z => by cases z)), fun _ h => absurd h List.not_mem_nil⟩⟩) true i k' h rfl
  · exact fun i k' h => pz_ctk (l := ct_X0_latestMove) (P := fun b i k => b = false → (pz_cS 1 21 RX0 i k ∨ (k = pz_kac ∧ 1 ≤ 1 ∧ 60 ≤ 21 ∧ Cond.methodLink RX0 i arraycopyName ∈ pz_tbl))) (List.forall_mem_cons.mpr ⟨((fun z => by cases z)), List.forall_mem_cons.mpr ⟨(fun _ => Or.inl (s_J9_max_7cf53 (by decide) (by decide) (Or.inl (by decide +kernel)))), fun _ h => absurd h List.not_mem_nil⟩⟩) false i k' h rfl
  · intro a M hlen hpre
    obtain ⟨c, rfl, hpre⟩ : ∃ c, a = [.inr (.inr (0, c))] ∧ (pz_ic M) := by
      have hpre : (match (generalizing := false) a with | [.inr (.inr (0, c))] => pz_ic M | _ => False) := hpre
      split at hpre
      · exact ⟨_, rfl, hpre⟩
      · exact hpre.elim
    exact Nat.le_of_ble_eq_true rfl
  · intro a M hlen hcan hM hpre Ok hgo
    obtain ⟨c, rfl, hpre⟩ : ∃ c, a = [.inr (.inr (0, c))] ∧ (pz_ic M) := by
      have hpre : (match (generalizing := false) a with | [.inr (.inr (0, c))] => pz_ic M | _ => False) := hpre
      split at hpre
      · exact ⟨_, rfl, hpre⟩
      · exact hpre.elim
    obtain ⟨k_c, hcan⟩ := pz_tlm hcan
    have k_c : pz_kd c = 0 ∧ c < 231 := k_c
    have R_c := pz_kd0 k_c.1
    have hI : pz_ic M := hpre
    have L4 : ∀ (fu : Nat) (x1 : Int) (x2 : Int), (M c 3 - x2).toNat < fu → (0 ≤ x2) → Ok 4 [some (.inr (.inr (0, c))), some (.inl x1), some (.inl x2)] [] M := by
      intro fu
      induction fu with
      | zero => exact fun _ _ hn => absurd hn (Nat.not_lt_zero _)
      | succ fu ih4 =>
        intro x1 x2 hn4 g4_0
        refine hgo (fun p => Nat.beq p 4) 29 4 _ _ _ ?_
        intro v6 e6 a6 b6
        have I6 := hI.1 c (by omega) (by omega)
        refine And.intro (fun h9 => ?_) (fun h9 => ?_)
        · skip
          refine And.intro rfl ?_
          exact ⟨trivial, rfl⟩
        · skip
          refine And.intro (True.intro) ?_
          intro r14 M14 k14 q14
          have R14 := pz_kd5 k14
          obtain ⟨q14, z14⟩ := q14
          subst z14
          intro v17 e17 a17 b17
          refine And.intro (fun h21 => ?_) (fun h21 => ?_)
          · skip
            refine And.intro (True.intro) ?_
            intro r29 M29 k29 q29
            have R29 := pz_kd5 k29
            obtain ⟨q29, z29⟩ := q29
            subst z29
            intro v32 e32 a32 b32
            refine And.intro (True.intro) ?_
            intro v35 M35 a35 b35 q35
            obtain ⟨q35, z35⟩ := q35
            subst z35
            intro v39 e39 a39 b39
            try rw [pz_wi (by omega) (by omega)] at e39
            exact ih4 _ _ (by omega) (by omega)
          · skip
            refine And.intro rfl ?_
            exact ⟨trivial, rfl⟩
    refine hgo (fun p => Nat.beq p 4) 29 0 _ [] M ?_
    exact L4 _ _ _ (Nat.lt_succ_self _) (by omega)
theorem v_X0_latestMove {fr lo i : Nat} {own : String} (h1 : 1 + 1 ≤ fr) (h2 : 8 + (3 + 11) + 21 ≤ lo) (h3 : .methodLink own i yX0_latestMove ∈ lw_tbl) : pz_cV fr lo own i k_X0_latestMove :=
  pz_cVk (maxL := 3) (fr' := 1) (lo' := 21) 0 0 h_X0_latestMove rfl ⟨by decide +kernel, by decide +kernel, by decide +kernel⟩ ⟨by decide +kernel, by decide +kernel, by decide +kernel, by decide +kernel⟩ (Or.inl ⟨TX0, 8, rfl⟩) (fun a M _ h => by
    have h : (match (generalizing := false) a with | [.inr (.inr (0, c))] => pz_ic M | _ => False) := h
    split at h
    · exact ⟨_, _, rfl⟩
    · exact h.elim) h1 h2 h3
def k_X0_canGive : pz_C := (2, 1, fun a M => (match a with | [.inr (.inr (0, c)), .inl i] => True | _ => False), fun a M r M' => (match a, r with | [.inr (.inr (0, c)), .inl i], some (.inl v) => (True) ∧ M = M' | _, _ => False))
abbrev ct_X0_canGive : List (Bool × Nat × pz_C) := [(true, 48, k_X0_at), (true, 71, k_X5_isIn), (false, 58, k_J9_max_7cf53)]
set_option maxRecDepth 100000 in
set_option maxHeartbeats 4000000 in
theorem h_X0_canGive : pz_H yX0_canGive cX0_canGive 2 (some .int) k_X0_canGive 1 21 := by
  refine pz_mk (own := RX0) (tb := t_X0_canGive) (fl := pz_flf fl_RX0) (ci := pz_cif ci_RX0) (ct := pz_ctf ct_X0_canGive) (rz := false) (by decide +kernel) rfl t_X0_canGive_ok (pz_flk fl_RX0_ok) (pz_cik ci_RX0_ok) ?_ ?_ (Or.inl ⟨rfl, rfl⟩) ?_ ?_
  · exact fun i k' h => pz_ctk (l := ct_X0_canGive) (P := fun b i k => b = true → pz_cV 1 21 RX0 i k) (List.forall_mem_cons.mpr ⟨(fun _ => v_X0_at (by decide) (by decide) (by decide +kernel)), List.forall_mem_cons.mpr ⟨(fun _ => v_X5_isIn (by decide) (by decide) (by decide +kernel)), List.forall_mem_cons.mpr ⟨((fun z => by cases z)), fun _ h => absurd h List.not_mem_nil⟩⟩⟩) true i k' h rfl
  · exact fun i k' h => pz_ctk (l := ct_X0_canGive) (P := fun b i k => b = false → (pz_cS 1 21 RX0 i k ∨ (k = pz_kac ∧ 1 ≤ 1 ∧ 60 ≤ 21 ∧ Cond.methodLink RX0 i arraycopyName ∈ pz_tbl))) (List.forall_mem_cons.mpr ⟨((fun z => by cases z)), List.forall_mem_cons.mpr ⟨((fun z => by cases z)), List.forall_mem_cons.mpr ⟨(fun _ => Or.inl (s_J9_max_7cf53 (by decide) (by decide) (Or.inl (by decide +kernel)))), fun _ h => absurd h List.not_mem_nil⟩⟩⟩) false i k' h rfl
  · intro a M hlen hpre
    obtain ⟨c, i, rfl, hpre⟩ : ∃ c i, a = [.inr (.inr (0, c)), .inl i] ∧ (True) := by
      have hpre : (match (generalizing := false) a with | [.inr (.inr (0, c)), .inl i] => True | _ => False) := hpre
      split at hpre
      · exact ⟨_, _, rfl, hpre⟩
      · exact hpre.elim
    exact Nat.le_of_ble_eq_true rfl
  · intro a M hlen hcan hM hpre Ok hgo
    obtain ⟨c, i, rfl, hpre⟩ : ∃ c i, a = [.inr (.inr (0, c)), .inl i] ∧ (True) := by
      have hpre : (match (generalizing := false) a with | [.inr (.inr (0, c)), .inl i] => True | _ => False) := hpre
      split at hpre
      · exact ⟨_, _, rfl, hpre⟩
      · exact hpre.elim
    obtain ⟨k_c, hcan⟩ := pz_tlm hcan
    have k_c : pz_kd c = 0 ∧ c < 231 := k_c
    have R_c := pz_kd0 k_c.1
    obtain ⟨k_i, hcan⟩ := pz_tlm hcan
    have l_i : -2147483648 ≤ i := k_i.1
    have u_i : i ≤ 2147483647 := k_i.2
    refine hgo (fun _ => false) 16 0 _ [] M ?_
    refine And.intro (True.intro) ?_
    intro r2 M2 k2 q2
    have R2 := pz_kd5 k2
    obtain ⟨q2, z2⟩ := q2
    subst z2
    refine And.intro (True.intro) ?_
    intro v5 M5 a5 b5 q5
    obtain ⟨q5, z5⟩ := q5
    subst z5
    refine And.intro (fun h8 => ?_) (fun h8 => ?_)
    · skip
      refine And.intro rfl ?_
      exact ⟨trivial, rfl⟩
    · skip
      refine And.intro (True.intro) ?_
      intro r14 M14 k14 q14
      have R14 := pz_kd5 k14
      obtain ⟨q14, z14⟩ := q14
      subst z14
      intro v17 e17 a17 b17
      refine And.intro (True.intro) ?_
      intro v20 M20 a20 b20 q20
      obtain ⟨q20, z20⟩ := q20
      subst z20
      refine And.intro rfl ?_
      exact ⟨trivial, rfl⟩
theorem v_X0_canGive {fr lo i : Nat} {own : String} (h1 : 1 + 1 ≤ fr) (h2 : 8 + (2 + 11) + 21 ≤ lo) (h3 : .methodLink own i yX0_canGive ∈ lw_tbl) : pz_cV fr lo own i k_X0_canGive :=
  pz_cVk (maxL := 2) (fr' := 1) (lo' := 21) 1 0 h_X0_canGive rfl ⟨by decide +kernel, by decide +kernel, by decide +kernel⟩ ⟨by decide +kernel, by decide +kernel, by decide +kernel, by decide +kernel⟩ (Or.inl ⟨TX0, 8, rfl⟩) (fun a M _ h => by
    have h : (match (generalizing := false) a with | [.inr (.inr (0, c)), .inl i] => True | _ => False) := h
    split at h
    · exact ⟨_, _, rfl⟩
    · exact h.elim) h1 h2 h3
def k_X0_givenTo : pz_C := (2, 1, fun a M => (match a with | [.inr (.inr (0, c)), .inl i] => pz_ic M | _ => False), fun a M r M' => (match a, r with | [.inr (.inr (0, c)), .inl i], some (.inl v) => (True) ∧ M = M' | _, _ => False))
abbrev ct_X0_givenTo : List (Bool × Nat × pz_C) := [(true, 97, k_X0_canGive), (false, 100, k_J9_min_7cf53)]
set_option maxRecDepth 100000 in
set_option maxHeartbeats 4000000 in
theorem h_X0_givenTo : pz_H yX0_givenTo cX0_givenTo 4 (some .int) k_X0_givenTo 2 42 := by
  refine pz_mk (own := RX0) (tb := t_X0_givenTo) (fl := pz_flf fl_RX0) (ci := pz_cif ci_RX0) (ct := pz_ctf ct_X0_givenTo) (rz := false) (by decide +kernel) rfl t_X0_givenTo_ok (pz_flk fl_RX0_ok) (pz_cik ci_RX0_ok) ?_ ?_ (Or.inl ⟨rfl, rfl⟩) ?_ ?_
  · exact fun i k' h => pz_ctk (l := ct_X0_givenTo) (P := fun b i k => b = true → pz_cV 2 42 RX0 i k) (List.forall_mem_cons.mpr ⟨(fun _ => v_X0_canGive (by decide) (by decide) (by decide +kernel)), List.forall_mem_cons.mpr ⟨((fun z => by cases z)), fun _ h => absurd h List.not_mem_nil⟩⟩) true i k' h rfl
  · exact fun i k' h => pz_ctk (l := ct_X0_givenTo) (P := fun b i k => b = false → (pz_cS 2 42 RX0 i k ∨ (k = pz_kac ∧ 1 ≤ 2 ∧ 60 ≤ 42 ∧ Cond.methodLink RX0 i arraycopyName ∈ pz_tbl))) (List.forall_mem_cons.mpr ⟨((fun z => by cases z)), List.forall_mem_cons.mpr ⟨(fun _ => Or.inl (s_J9_min_7cf53 (by decide) (by decide) (Or.inl (by decide +kernel)))), fun _ h => absurd h List.not_mem_nil⟩⟩) false i k' h rfl
  · intro a M hlen hpre
    obtain ⟨c, i, rfl, hpre⟩ : ∃ c i, a = [.inr (.inr (0, c)), .inl i] ∧ (pz_ic M) := by
      have hpre : (match (generalizing := false) a with | [.inr (.inr (0, c)), .inl i] => pz_ic M | _ => False) := hpre
      split at hpre
      · exact ⟨_, _, rfl, hpre⟩
      · exact hpre.elim
    exact Nat.le_of_ble_eq_true rfl
  · intro a M hlen hcan hM hpre Ok hgo
    obtain ⟨c, i, rfl, hpre⟩ : ∃ c i, a = [.inr (.inr (0, c)), .inl i] ∧ (pz_ic M) := by
      have hpre : (match (generalizing := false) a with | [.inr (.inr (0, c)), .inl i] => pz_ic M | _ => False) := hpre
      split at hpre
      · exact ⟨_, _, rfl, hpre⟩
      · exact hpre.elim
    obtain ⟨k_c, hcan⟩ := pz_tlm hcan
    have k_c : pz_kd c = 0 ∧ c < 231 := k_c
    have R_c := pz_kd0 k_c.1
    obtain ⟨k_i, hcan⟩ := pz_tlm hcan
    have l_i : -2147483648 ≤ i := k_i.1
    have u_i : i ≤ 2147483647 := k_i.2
    have hI : pz_ic M := hpre
    have L4 : ∀ (fu : Nat) (x2 : Int) (x3 : Int), (M c 3 - x3).toNat < fu → (0 ≤ x3) → Ok 4 [some (.inr (.inr (0, c))), some (.inl i), some (.inl x2), some (.inl x3)] [] M := by
      intro fu
      induction fu with
      | zero => exact fun _ _ hn => absurd hn (Nat.not_lt_zero _)
      | succ fu ih4 =>
        intro x2 x3 hn4 g4_0
        refine hgo (fun p => Nat.beq p 4) 22 4 _ _ _ ?_
        intro v6 e6 a6 b6
        have I6 := hI.1 c (by omega) (by omega)
        refine And.intro (fun h9 => ?_) (fun h9 => ?_)
        · skip
          refine And.intro rfl ?_
          exact ⟨trivial, rfl⟩
        · skip
          refine And.intro (True.intro) ?_
          intro v16 M16 a16 b16 q16
          obtain ⟨q16, z16⟩ := q16
          subst z16
          refine And.intro (True.intro) ?_
          intro v19 M19 a19 b19 q19
          obtain ⟨q19, z19⟩ := q19
          subst z19
          intro v22 e22 a22 b22
          try rw [pz_wi (by omega) (by omega)] at e22
          intro v24 e24 a24 b24
          try rw [pz_wi (by omega) (by omega)] at e24
          exact ih4 _ _ (by omega) (by omega)
    refine hgo (fun p => Nat.beq p 4) 22 0 _ [] M ?_
    exact L4 _ _ _ (Nat.lt_succ_self _) (by omega)
theorem v_X0_givenTo {fr lo i : Nat} {own : String} (h1 : 2 + 1 ≤ fr) (h2 : 8 + (4 + 11) + 42 ≤ lo) (h3 : .methodLink own i yX0_givenTo ∈ lw_tbl) : pz_cV fr lo own i k_X0_givenTo :=
  pz_cVk (maxL := 4) (fr' := 2) (lo' := 42) 1 0 h_X0_givenTo rfl ⟨by decide +kernel, by decide +kernel, by decide +kernel⟩ ⟨by decide +kernel, by decide +kernel, by decide +kernel, by decide +kernel⟩ (Or.inl ⟨TX0, 8, rfl⟩) (fun a M _ h => by
    have h : (match (generalizing := false) a with | [.inr (.inr (0, c)), .inl i] => pz_ic M | _ => False) := h
    split at h
    · exact ⟨_, _, rfl⟩
    · exact h.elim) h1 h2 h3
def k_X0_parts : pz_C := (1, 1, fun a M => (match a with | [.inr (.inr (0, c))] => pz_ic M | _ => False), fun a M r M' => (match a, r with | [.inr (.inr (0, c))], some (.inl v) => (True) ∧ M = M' | _, _ => False))
abbrev ct_X0_parts : List (Bool × Nat × pz_C) := [(true, 78, k_X0_bridgedOnes), (false, 82, k_J6_bitCount_0f7a4)]
set_option maxRecDepth 100000 in
set_option maxHeartbeats 4000000 in
theorem h_X0_parts : pz_H yX0_parts cX0_parts 1 (some .int) k_X0_parts 2 43 := by
  refine pz_mk (own := RX0) (tb := t_X0_parts) (fl := pz_flf fl_RX0) (ci := pz_cif ci_RX0) (ct := pz_ctf ct_X0_parts) (rz := false) (by decide +kernel) rfl t_X0_parts_ok (pz_flk fl_RX0_ok) (pz_cik ci_RX0_ok) ?_ ?_ (Or.inl ⟨rfl, rfl⟩) ?_ ?_
  · exact fun i k' h => pz_ctk (l := ct_X0_parts) (P := fun b i k => b = true → pz_cV 2 43 RX0 i k) (List.forall_mem_cons.mpr ⟨(fun _ => v_X0_bridgedOnes (by decide) (by decide) (by decide +kernel)), List.forall_mem_cons.mpr ⟨((fun z => by cases z)), fun _ h => absurd h List.not_mem_nil⟩⟩) true i k' h rfl
  · exact fun i k' h => pz_ctk (l := ct_X0_parts) (P := fun b i k => b = false → (pz_cS 2 43 RX0 i k ∨ (k = pz_kac ∧ 1 ≤ 2 ∧ 60 ≤ 43 ∧ Cond.methodLink RX0 i arraycopyName ∈ pz_tbl))) (List.forall_mem_cons.mpr ⟨((fun z => by cases z)), List.forall_mem_cons.mpr ⟨(fun _ => Or.inl (s_J6_bitCount_0f7a4 (by decide) (by decide) (Or.inl (by decide +kernel)))), fun _ h => absurd h List.not_mem_nil⟩⟩) false i k' h rfl
  · intro a M hlen hpre
    obtain ⟨c, rfl, hpre⟩ : ∃ c, a = [.inr (.inr (0, c))] ∧ (pz_ic M) := by
      have hpre : (match (generalizing := false) a with | [.inr (.inr (0, c))] => pz_ic M | _ => False) := hpre
      split at hpre
      · exact ⟨_, rfl, hpre⟩
      · exact hpre.elim
    exact Nat.le_of_ble_eq_true rfl
  · intro a M hlen hcan hM hpre Ok hgo
    obtain ⟨c, rfl, hpre⟩ : ∃ c, a = [.inr (.inr (0, c))] ∧ (pz_ic M) := by
      have hpre : (match (generalizing := false) a with | [.inr (.inr (0, c))] => pz_ic M | _ => False) := hpre
      split at hpre
      · exact ⟨_, rfl, hpre⟩
      · exact hpre.elim
    obtain ⟨k_c, hcan⟩ := pz_tlm hcan
    have k_c : pz_kd c = 0 ∧ c < 231 := k_c
    have R_c := pz_kd0 k_c.1
    have hI : pz_ic M := hpre
    refine hgo (fun _ => false) 13 0 _ [] M ?_
    intro v1 e1 a1 b1
    have I1 := hI.1 c (by omega) (by omega)
    refine And.intro (fun h4 => ?_) (fun h4 => ?_)
    · skip
      refine And.intro (hI) ?_
      intro v13 M13 a13 b13 q13
      obtain ⟨q13, z13⟩ := q13
      subst z13
      refine And.intro (True.intro) ?_
      intro v16 M16 a16 b16 q16
      obtain ⟨q16, z16⟩ := q16
      subst z16
      intro v19 e19 a19 b19
      try rw [pz_wi (by omega) (by omega)] at e19
      refine And.intro rfl ?_
      exact ⟨trivial, rfl⟩
    · skip
      refine And.intro rfl ?_
      exact ⟨trivial, rfl⟩
theorem v_X0_parts {fr lo i : Nat} {own : String} (h1 : 2 + 1 ≤ fr) (h2 : 8 + (1 + 11) + 43 ≤ lo) (h3 : .methodLink own i yX0_parts ∈ lw_tbl) : pz_cV fr lo own i k_X0_parts :=
  pz_cVk (maxL := 1) (fr' := 2) (lo' := 43) 0 0 h_X0_parts rfl ⟨by decide +kernel, by decide +kernel, by decide +kernel⟩ ⟨by decide +kernel, by decide +kernel, by decide +kernel, by decide +kernel⟩ (Or.inl ⟨TX0, 8, rfl⟩) (fun a M _ h => by
    have h : (match (generalizing := false) a with | [.inr (.inr (0, c))] => pz_ic M | _ => False) := h
    split at h
    · exact ⟨_, _, rfl⟩
    · exact h.elim) h1 h2 h3
def k_X0_lacks : pz_C := (2, 1, fun a M => (match a with | [.inr (.inr (0, c)), .inl i] => pz_ic M | _ => False), fun a M r M' => (match a, r with | [.inr (.inr (0, c)), .inl i], some (.inl v) => (True) ∧ M = M' | _, _ => False))
abbrev ct_X0_lacks : List (Bool × Nat × pz_C) := []
set_option maxRecDepth 100000 in
set_option maxHeartbeats 4000000 in
theorem h_X0_lacks : pz_H yX0_lacks cX0_lacks 4 (some .int) k_X0_lacks 0 0 := by
  refine pz_mk (own := RX0) (tb := t_X0_lacks) (fl := pz_flf fl_RX0) (ci := pz_cif ci_RX0) (ct := pz_ctf ct_X0_lacks) (rz := false) (by decide +kernel) rfl t_X0_lacks_ok (pz_flk fl_RX0_ok) (pz_cik ci_RX0_ok) ?_ ?_ (Or.inl ⟨rfl, rfl⟩) ?_ ?_
  · exact fun i k' h => pz_ctk (l := ct_X0_lacks) (P := fun b i k => b = true → pz_cV 0 0 RX0 i k) (fun _ h => absurd h List.not_mem_nil) true i k' h rfl
  · exact fun i k' h => pz_ctk (l := ct_X0_lacks) (P := fun b i k => b = false → (pz_cS 0 0 RX0 i k ∨ (k = pz_kac ∧ 1 ≤ 0 ∧ 60 ≤ 0 ∧ Cond.methodLink RX0 i arraycopyName ∈ pz_tbl))) (fun _ h => absurd h List.not_mem_nil) false i k' h rfl
  · intro a M hlen hpre
    obtain ⟨c, i, rfl, hpre⟩ : ∃ c i, a = [.inr (.inr (0, c)), .inl i] ∧ (pz_ic M) := by
      have hpre : (match (generalizing := false) a with | [.inr (.inr (0, c)), .inl i] => pz_ic M | _ => False) := hpre
      split at hpre
      · exact ⟨_, _, rfl, hpre⟩
      · exact hpre.elim
    exact Nat.le_of_ble_eq_true rfl
  · intro a M hlen hcan hM hpre Ok hgo
    obtain ⟨c, i, rfl, hpre⟩ : ∃ c i, a = [.inr (.inr (0, c)), .inl i] ∧ (pz_ic M) := by
      have hpre : (match (generalizing := false) a with | [.inr (.inr (0, c)), .inl i] => pz_ic M | _ => False) := hpre
      split at hpre
      · exact ⟨_, _, rfl, hpre⟩
      · exact hpre.elim
    obtain ⟨k_c, hcan⟩ := pz_tlm hcan
    have k_c : pz_kd c = 0 ∧ c < 231 := k_c
    have R_c := pz_kd0 k_c.1
    obtain ⟨k_i, hcan⟩ := pz_tlm hcan
    have l_i : -2147483648 ≤ i := k_i.1
    have u_i : i ≤ 2147483647 := k_i.2
    have hI : pz_ic M := hpre
    have L79 : ∀ (fu : Nat) (x2 : Int) (x3 : Int), (12 - x3).toNat < fu → (0 ≤ x3) → Ok 79 [some (.inr (.inr (0, c))), some (.inl i), some (.inl x2), some (.inl x3)] [] M := by
      intro fu
      induction fu with
      | zero => exact fun _ _ hn => absurd hn (Nat.not_lt_zero _)
      | succ fu ih79 =>
        intro x2 x3 hn79 g79_0
        refine hgo (fun p => Nat.beq p 36 || Nat.beq p 75 || Nat.beq p 79) 78 79 _ _ _ ?_
        intro v81 e81 a81 b81
        have I81 := hI.1 c (by omega) (by omega)
        refine And.intro (fun h84 => ?_) (fun h84 => ?_)
        · skip
          refine And.intro rfl ?_
          exact ⟨trivial, rfl⟩
        · skip
          refine And.intro (fun h90 => ?_) (fun h90 => ?_)
          · skip
            refine And.intro rfl ?_
            exact ⟨trivial, rfl⟩
          · skip
            intro r96 e96 k96
            refine And.intro (by omega) (And.intro (show _ < (12 : Int) from by omega) ?_)
            intro r100 e100 k100
            have R100 := pz_kd5 k100
            intro v101 e101 a101 b101
            intro v104 e104 a104 b104
            try rw [pz_wi (by omega) (by omega)] at e104
            intro v105 e105 a105 b105
            try rw [pz_wi (by omega) (by omega)] at e105
            intro r108 e108 k108
            refine And.intro (by omega) (And.intro (show _ < (12 : Int) from by omega) ?_)
            intro r112 e112 k112
            have R112 := pz_kd5 k112
            intro v113 e113 a113 b113
            refine And.intro (fun h116 => ?_) (fun h116 => ?_)
            · skip
              intro v122 e122 a122 b122
              try rw [pz_wi (by omega) (by omega)] at e122
              exact ih79 _ _ (by omega) (by omega)
            · skip
              refine And.intro rfl ?_
              exact ⟨trivial, rfl⟩
    have L75 : ∀ (x2 : Int) (x3 : Int), (0 ≤ i ∧ i < 12) → Ok 75 [some (.inr (.inr (0, c))), some (.inl i), some (.inl x2), some (.inl x3)] [] M := by
      intro x2 x3 g75_0
      refine hgo (fun p => Nat.beq p 36 || Nat.beq p 75 || Nat.beq p 79) 78 75 _ _ _ ?_
      intro v77 e77 a77 b77
      try rw [pz_wi (by omega) (by omega)] at e77
      exact L79 _ _ _ (Nat.lt_succ_self _) (by omega)
    have L36 : ∀ (fu : Nat) (x2 : Int) (x3 : Int), (x3 + 1).toNat < fu → (x3 < 12) → (0 ≤ i ∧ i < 12) → Ok 36 [some (.inr (.inr (0, c))), some (.inl i), some (.inl x2), some (.inl x3)] [] M := by
      intro fu
      induction fu with
      | zero => exact fun _ _ hn => absurd hn (Nat.not_lt_zero _)
      | succ fu ih36 =>
        intro x2 x3 hn36 g36_0 g36_1
        refine hgo (fun p => Nat.beq p 36 || Nat.beq p 75 || Nat.beq p 79) 78 36 _ _ _ ?_
        refine And.intro (fun h37 => ?_) (fun h37 => ?_)
        · skip
          exact L75 _ _ (by omega)
        · skip
          intro r43 e43 k43
          refine And.intro (by omega) (And.intro (show _ < (12 : Int) from by omega) ?_)
          intro r47 e47 k47
          have R47 := pz_kd5 k47
          intro v48 e48 a48 b48
          intro v51 e51 a51 b51
          try rw [pz_wi (by omega) (by omega)] at e51
          intro v52 e52 a52 b52
          try rw [pz_wi (by omega) (by omega)] at e52
          intro r55 e55 k55
          refine And.intro (by omega) (And.intro (show _ < (12 : Int) from by omega) ?_)
          intro r59 e59 k59
          have R59 := pz_kd5 k59
          intro v60 e60 a60 b60
          refine And.intro (fun h63 => ?_) (fun h63 => ?_)
          · skip
            intro v69 e69 a69 b69
            try rw [pz_wi (by omega) (by omega)] at e69
            exact ih36 _ _ (by omega) (by omega) (by omega)
          · skip
            exact L75 _ _ (by omega)
    refine hgo (fun p => Nat.beq p 36 || Nat.beq p 75 || Nat.beq p 79) 78 0 _ [] M ?_
    refine And.intro (fun h1 => ?_) (fun h1 => ?_)
    · skip
      refine And.intro rfl ?_
      exact ⟨trivial, rfl⟩
    · skip
      intro v6 e6 a6 b6
      have I6 := hI.1 c (by omega) (by omega)
      refine And.intro (fun h9 => ?_) (fun h9 => ?_)
      · skip
        refine And.intro rfl ?_
        exact ⟨trivial, rfl⟩
      · skip
        refine And.intro (fun h15 => ?_) (fun h15 => ?_)
        · skip
          intro r22 e22 k22
          refine And.intro (by omega) (And.intro (show _ < (12 : Int) from by omega) ?_)
          intro r26 e26 k26
          have R26 := pz_kd5 k26
          intro v27 e27 a27 b27
          intro v30 e30 a30 b30
          try rw [pz_wi (by omega) (by omega)] at e30
          intro v34 e34 a34 b34
          try rw [pz_wi (by omega) (by omega)] at e34
          exact L36 _ _ _ (Nat.lt_succ_self _) (by omega) (by omega)
        · skip
          refine And.intro rfl ?_
          exact ⟨trivial, rfl⟩
theorem v_X0_lacks {fr lo i : Nat} {own : String} (h1 : 0 + 1 ≤ fr) (h2 : 8 + (4 + 11) + 0 ≤ lo) (h3 : .methodLink own i yX0_lacks ∈ lw_tbl) : pz_cV fr lo own i k_X0_lacks :=
  pz_cVk (maxL := 4) (fr' := 0) (lo' := 0) 1 0 h_X0_lacks rfl ⟨by decide +kernel, by decide +kernel, by decide +kernel⟩ ⟨by decide +kernel, by decide +kernel, by decide +kernel, by decide +kernel⟩ (Or.inl ⟨TX0, 8, rfl⟩) (fun a M _ h => by
    have h : (match (generalizing := false) a with | [.inr (.inr (0, c)), .inl i] => pz_ic M | _ => False) := h
    split at h
    · exact ⟨_, _, rfl⟩
    · exact h.elim) h1 h2 h3
def k_X0_named : pz_C := (3, 1, fun a M => (match a with | [.inr (.inr (0, c)), .inl w, .inl i] => pz_ic M | _ => False), fun a M r M' => (match a, r with | [.inr (.inr (0, c)), .inl w, .inl i], some (.inl v) => (True) ∧ M = M' | _, _ => False))
abbrev ct_X0_named : List (Bool × Nat × pz_C) := [(true, 48, k_X0_at), (true, 106, k_X0_lacks)]
set_option maxRecDepth 100000 in
set_option maxHeartbeats 4000000 in
theorem h_X0_named : pz_H yX0_named cX0_named 3 (some .int) k_X0_named 1 23 := by
  refine pz_mk (own := RX0) (tb := t_X0_named) (fl := pz_flf fl_RX0) (ci := pz_cif ci_RX0) (ct := pz_ctf ct_X0_named) (rz := false) (by decide +kernel) rfl t_X0_named_ok (pz_flk fl_RX0_ok) (pz_cik ci_RX0_ok) ?_ ?_ (Or.inl ⟨rfl, rfl⟩) ?_ ?_
  · exact fun i k' h => pz_ctk (l := ct_X0_named) (P := fun b i k => b = true → pz_cV 1 23 RX0 i k) (List.forall_mem_cons.mpr ⟨(fun _ => v_X0_at (by decide) (by decide) (by decide +kernel)), List.forall_mem_cons.mpr ⟨(fun _ => v_X0_lacks (by decide) (by decide) (by decide +kernel)), fun _ h => absurd h List.not_mem_nil⟩⟩) true i k' h rfl
  · exact fun i k' h => pz_ctk (l := ct_X0_named) (P := fun b i k => b = false → (pz_cS 1 23 RX0 i k ∨ (k = pz_kac ∧ 1 ≤ 1 ∧ 60 ≤ 23 ∧ Cond.methodLink RX0 i arraycopyName ∈ pz_tbl))) (List.forall_mem_cons.mpr ⟨((fun z => by cases z)), List.forall_mem_cons.mpr ⟨((fun z => by cases z)), fun _ h => absurd h List.not_mem_nil⟩⟩) false i k' h rfl
  · intro a M hlen hpre
    obtain ⟨c, w, i, rfl, hpre⟩ : ∃ c w i, a = [.inr (.inr (0, c)), .inl w, .inl i] ∧ (pz_ic M) := by
      have hpre : (match (generalizing := false) a with | [.inr (.inr (0, c)), .inl w, .inl i] => pz_ic M | _ => False) := hpre
      split at hpre
      · exact ⟨_, _, _, rfl, hpre⟩
      · exact hpre.elim
    exact Nat.le_of_ble_eq_true rfl
  · intro a M hlen hcan hM hpre Ok hgo
    obtain ⟨c, w, i, rfl, hpre⟩ : ∃ c w i, a = [.inr (.inr (0, c)), .inl w, .inl i] ∧ (pz_ic M) := by
      have hpre : (match (generalizing := false) a with | [.inr (.inr (0, c)), .inl w, .inl i] => pz_ic M | _ => False) := hpre
      split at hpre
      · exact ⟨_, _, _, rfl, hpre⟩
      · exact hpre.elim
    obtain ⟨k_c, hcan⟩ := pz_tlm hcan
    have k_c : pz_kd c = 0 ∧ c < 231 := k_c
    have R_c := pz_kd0 k_c.1
    obtain ⟨k_w, hcan⟩ := pz_tlm hcan
    have l_w : -2147483648 ≤ w := k_w.1
    have u_w : w ≤ 2147483647 := k_w.2
    obtain ⟨k_i, hcan⟩ := pz_tlm hcan
    have l_i : -2147483648 ≤ i := k_i.1
    have u_i : i ≤ 2147483647 := k_i.2
    have hI : pz_ic M := hpre
    refine hgo (fun _ => false) 43 0 _ [] M ?_
    refine And.intro ?_ ?_
    · skip
      refine And.intro (fun h1 => ?_) ?_
      · skip
        refine And.intro rfl ?_
        exact ⟨trivial, rfl⟩
      refine And.intro (fun h1 => ?_) ?_
      · skip
        refine And.intro (True.intro) ?_
        intro r56 M56 k56 q56
        have R56 := pz_kd5 k56
        obtain ⟨q56, z56⟩ := q56
        subst z56
        intro v59 e59 a59 b59
        refine And.intro rfl ?_
        exact ⟨trivial, rfl⟩
      refine And.intro (fun h1 => ?_) ?_
      · skip
        refine And.intro (True.intro) ?_
        intro r65 M65 k65 q65
        have R65 := pz_kd5 k65
        obtain ⟨q65, z65⟩ := q65
        subst z65
        intro v68 e68 a68 b68
        refine And.intro rfl ?_
        exact ⟨trivial, rfl⟩
      refine And.intro (fun h1 => ?_) ?_
      · skip
        refine And.intro (True.intro) ?_
        intro r74 M74 k74 q74
        have R74 := pz_kd5 k74
        obtain ⟨q74, z74⟩ := q74
        subst z74
        intro v77 e77 a77 b77
        refine And.intro rfl ?_
        exact ⟨trivial, rfl⟩
      refine And.intro (fun h1 => ?_) ?_
      · skip
        refine And.intro (True.intro) ?_
        intro r83 M83 k83 q83
        have R83 := pz_kd5 k83
        obtain ⟨q83, z83⟩ := q83
        subst z83
        intro v86 e86 a86 b86
        refine And.intro rfl ?_
        exact ⟨trivial, rfl⟩
      refine And.intro (fun h1 => ?_) ?_
      · skip
        intro v91 e91 a91 b91
        refine And.intro rfl ?_
        exact ⟨trivial, rfl⟩
      refine And.intro (fun h1 => ?_) ?_
      · skip
        intro v96 e96 a96 b96
        have I96 := hI.1 c (by omega) (by omega)
        refine And.intro rfl ?_
        exact ⟨trivial, rfl⟩
      refine And.intro (fun h1 => ?_) ?_
      · skip
        refine And.intro (True.intro) ?_
        intro r102 M102 k102 q102
        have R102 := pz_kd5 k102
        obtain ⟨q102, z102⟩ := q102
        subst z102
        intro v105 e105 a105 b105
        refine And.intro rfl ?_
        exact ⟨trivial, rfl⟩
      refine And.intro (fun h1 => ?_) ?_
      · skip
        refine And.intro (hI) ?_
        intro v111 M111 a111 b111 q111
        obtain ⟨q111, z111⟩ := q111
        subst z111
        refine And.intro rfl ?_
        exact ⟨trivial, rfl⟩
      exact True.intro
    · intro h1
      refine And.intro rfl ?_
      exact ⟨trivial, rfl⟩
theorem v_X0_named {fr lo i : Nat} {own : String} (h1 : 1 + 1 ≤ fr) (h2 : 8 + (3 + 11) + 23 ≤ lo) (h3 : .methodLink own i yX0_named ∈ lw_tbl) : pz_cV fr lo own i k_X0_named :=
  pz_cVk (maxL := 3) (fr' := 1) (lo' := 23) 2 0 h_X0_named rfl ⟨by decide +kernel, by decide +kernel, by decide +kernel⟩ ⟨by decide +kernel, by decide +kernel, by decide +kernel, by decide +kernel⟩ (Or.inl ⟨TX0, 8, rfl⟩) (fun a M _ h => by
    have h : (match (generalizing := false) a with | [.inr (.inr (0, c)), .inl w, .inl i] => pz_ic M | _ => False) := h
    split at h
    · exact ⟨_, _, rfl⟩
    · exact h.elim) h1 h2 h3
end
section
def k_X5_makeNew : pz_C := (5, 0, fun a M => (match a with | [.inr (.inr (5, c)), .inl p, .inl q, .inl w, .inl z] => pz_ic M | _ => False), fun a M r M' => (match a, r with | [.inr (.inr (5, c)), .inl p, .inl q, .inl w, .inl z], none => (M' 71 3 = M 71 3) ∧ pz_st M M' | _, _ => False))
abbrev ct_X5_makeNew : List (Bool × Nat × pz_C) := []
set_option maxRecDepth 100000 in
set_option maxHeartbeats 4000000 in
theorem h_X5_makeNew : pz_H yX5_makeNew cX5_makeNew 5 none k_X5_makeNew 0 0 := by
  refine pz_mk (own := RX5) (tb := t_X5_makeNew) (fl := pz_flf fl_RX5) (ci := fun _ => none) (ct := pz_ctf ct_X5_makeNew) (rz := false) (by decide +kernel) rfl t_X5_makeNew_ok (pz_flk fl_RX5_ok) (fun i v h => by cases h) ?_ ?_ (rfl) ?_ ?_
  · exact fun i k' h => pz_ctk (l := ct_X5_makeNew) (P := fun b i k => b = true → pz_cV 0 0 RX5 i k) (fun _ h => absurd h List.not_mem_nil) true i k' h rfl
  · exact fun i k' h => pz_ctk (l := ct_X5_makeNew) (P := fun b i k => b = false → (pz_cS 0 0 RX5 i k ∨ (k = pz_kac ∧ 1 ≤ 0 ∧ 60 ≤ 0 ∧ Cond.methodLink RX5 i arraycopyName ∈ pz_tbl))) (fun _ h => absurd h List.not_mem_nil) false i k' h rfl
  · intro a M hlen hpre
    obtain ⟨c, p, q, w, z, rfl, hpre⟩ : ∃ c p q w z, a = [.inr (.inr (5, c)), .inl p, .inl q, .inl w, .inl z] ∧ (pz_ic M) := by
      have hpre : (match (generalizing := false) a with | [.inr (.inr (5, c)), .inl p, .inl q, .inl w, .inl z] => pz_ic M | _ => False) := hpre
      split at hpre
      · exact ⟨_, _, _, _, _, rfl, hpre⟩
      · exact hpre.elim
    exact Nat.le_of_ble_eq_true rfl
  · intro a M hlen hcan hM hpre Ok hgo
    obtain ⟨c, p, q, w, z, rfl, hpre⟩ : ∃ c p q w z, a = [.inr (.inr (5, c)), .inl p, .inl q, .inl w, .inl z] ∧ (pz_ic M) := by
      have hpre : (match (generalizing := false) a with | [.inr (.inr (5, c)), .inl p, .inl q, .inl w, .inl z] => pz_ic M | _ => False) := hpre
      split at hpre
      · exact ⟨_, _, _, _, _, rfl, hpre⟩
      · exact hpre.elim
    obtain ⟨k_c, hcan⟩ := pz_tlm hcan
    have k_c : pz_kd c = 5 ∧ c < 231 := k_c
    have R_c := pz_kd5 k_c.1
    obtain ⟨k_p, hcan⟩ := pz_tlm hcan
    have l_p : -2147483648 ≤ p := k_p.1
    have u_p : p ≤ 2147483647 := k_p.2
    obtain ⟨k_q, hcan⟩ := pz_tlm hcan
    have l_q : -2147483648 ≤ q := k_q.1
    have u_q : q ≤ 2147483647 := k_q.2
    obtain ⟨k_w, hcan⟩ := pz_tlm hcan
    have l_w : -2147483648 ≤ w := k_w.1
    have u_w : w ≤ 2147483647 := k_w.2
    obtain ⟨k_z, hcan⟩ := pz_tlm hcan
    have l_z : -2147483648 ≤ z := k_z.1
    have u_z : z ≤ 2147483647 := k_z.2
    have hI : pz_ic M := hpre
    have hI0 := hI
    have hS : pz_st M M := pz_st.rf
    refine hgo (fun _ => false) 27 0 _ [] M ?_
    intro M2 e2
    have hS : pz_st M M2 := by
      rw [e2]
      exact pz_st_u hS (by unfold pz_mid; omega) (by omega) (by unfold pz_iok; omega)
    have hI : pz_ic M2 := hS.1.1 hI0
    have T2_0 := pz_uve e2 71 3
    intro M7 e7
    have hS : pz_st M M7 := by
      rw [e7]
      exact pz_st_u hS (by unfold pz_mid; omega) (by omega) (by unfold pz_iok; omega)
    have hI : pz_ic M7 := hS.1.1 hI0
    have T7_0 := pz_uve e7 71 3
    intro M12 e12
    have hS : pz_st M M12 := by
      rw [e12]
      exact pz_st_u hS (by unfold pz_mid; omega) (by omega) (by unfold pz_iok; omega)
    have hI : pz_ic M12 := hS.1.1 hI0
    have T12_0 := pz_uve e12 71 3
    intro M18 e18
    have hS : pz_st M M18 := by
      rw [e18]
      exact pz_st_u hS (by unfold pz_mid; omega) (by omega) (by unfold pz_iok; omega)
    have hI : pz_ic M18 := hS.1.1 hI0
    have T18_0 := pz_uve e18 71 3
    intro M23 e23
    have hS : pz_st M M23 := by
      rw [e23]
      exact pz_st_u hS (by unfold pz_mid; omega) (by omega) (by unfold pz_iok; omega)
    have hI : pz_ic M23 := hS.1.1 hI0
    have T23_0 := pz_uve e23 71 3
    intro M28 e28
    have hS : pz_st M M28 := by
      rw [e28]
      exact pz_st_u hS (by unfold pz_mid; omega) (by omega) (by unfold pz_iok; omega)
    have hI : pz_ic M28 := hS.1.1 hI0
    have T28_0 := pz_uve e28 71 3
    intro M33 e33
    have hS : pz_st M M33 := by
      rw [e33]
      exact pz_st_u hS (by unfold pz_mid; omega) (by omega) (by unfold pz_iok; omega)
    have hI : pz_ic M33 := hS.1.1 hI0
    have T33_0 := pz_uve e33 71 3
    intro M38 e38
    have hS : pz_st M M38 := by
      rw [e38]
      exact pz_st_u hS (by unfold pz_mid; omega) (by omega) (by unfold pz_iok; omega)
    have hI : pz_ic M38 := hS.1.1 hI0
    have T38_0 := pz_uve e38 71 3
    refine And.intro rfl ?_
    exact ⟨by omega, hS⟩
theorem v_X5_makeNew {fr lo i : Nat} {own : String} (h1 : 0 + 1 ≤ fr) (h2 : 8 + (5 + 11) + 0 ≤ lo) (h3 : .methodLink own i yX5_makeNew ∈ lw_tbl) : pz_cV fr lo own i k_X5_makeNew :=
  pz_cVk (maxL := 5) (fr' := 0) (lo' := 0) 4 5 h_X5_makeNew rfl ⟨by decide +kernel, by decide +kernel, by decide +kernel⟩ ⟨by decide +kernel, by decide +kernel, by decide +kernel, by decide +kernel⟩ (Or.inl ⟨TX5, 8, rfl⟩) (fun a M _ h => by
    have h : (match (generalizing := false) a with | [.inr (.inr (5, c)), .inl p, .inl q, .inl w, .inl z] => pz_ic M | _ => False) := h
    split at h
    · exact ⟨_, _, rfl⟩
    · exact h.elim) h1 h2 h3
def k_X5_take : pz_C := (2, 0, fun a M => (match a with | [.inr (.inr (5, c)), .inr (.inr (5, d))] => pz_ic M | _ => False), fun a M r M' => (match a, r with | [.inr (.inr (5, c)), .inr (.inr (5, d))], none => (True) ∧ pz_st M M' | _, _ => False))
abbrev ct_X5_take : List (Bool × Nat × pz_C) := []
set_option maxRecDepth 100000 in
set_option maxHeartbeats 4000000 in
theorem h_X5_take : pz_H yX5_take cX5_take 2 none k_X5_take 0 0 := by
  refine pz_mk (own := RX5) (tb := t_X5_take) (fl := pz_flf fl_RX5) (ci := fun _ => none) (ct := pz_ctf ct_X5_take) (rz := false) (by decide +kernel) rfl t_X5_take_ok (pz_flk fl_RX5_ok) (fun i v h => by cases h) ?_ ?_ (rfl) ?_ ?_
  · exact fun i k' h => pz_ctk (l := ct_X5_take) (P := fun b i k => b = true → pz_cV 0 0 RX5 i k) (fun _ h => absurd h List.not_mem_nil) true i k' h rfl
  · exact fun i k' h => pz_ctk (l := ct_X5_take) (P := fun b i k => b = false → (pz_cS 0 0 RX5 i k ∨ (k = pz_kac ∧ 1 ≤ 0 ∧ 60 ≤ 0 ∧ Cond.methodLink RX5 i arraycopyName ∈ pz_tbl))) (fun _ h => absurd h List.not_mem_nil) false i k' h rfl
  · intro a M hlen hpre
    obtain ⟨c, d, rfl, hpre⟩ : ∃ c d, a = [.inr (.inr (5, c)), .inr (.inr (5, d))] ∧ (pz_ic M) := by
      have hpre : (match (generalizing := false) a with | [.inr (.inr (5, c)), .inr (.inr (5, d))] => pz_ic M | _ => False) := hpre
      split at hpre
      · exact ⟨_, _, rfl, hpre⟩
      · exact hpre.elim
    exact Nat.le_of_ble_eq_true rfl
  · intro a M hlen hcan hM hpre Ok hgo
    obtain ⟨c, d, rfl, hpre⟩ : ∃ c d, a = [.inr (.inr (5, c)), .inr (.inr (5, d))] ∧ (pz_ic M) := by
      have hpre : (match (generalizing := false) a with | [.inr (.inr (5, c)), .inr (.inr (5, d))] => pz_ic M | _ => False) := hpre
      split at hpre
      · exact ⟨_, _, rfl, hpre⟩
      · exact hpre.elim
    obtain ⟨k_c, hcan⟩ := pz_tlm hcan
    have k_c : pz_kd c = 5 ∧ c < 231 := k_c
    have R_c := pz_kd5 k_c.1
    obtain ⟨k_d, hcan⟩ := pz_tlm hcan
    have k_d : pz_kd d = 5 ∧ d < 231 := k_d
    have R_d := pz_kd5 k_d.1
    have hI : pz_ic M := hpre
    have hI0 := hI
    have hS : pz_st M M := pz_st.rf
    refine hgo (fun _ => false) 35 0 _ [] M ?_
    intro v2 e2 a2 b2
    intro M5 e5
    have hS : pz_st M M5 := by
      rw [e5]
      exact pz_st_u hS (by unfold pz_mid; omega) (by omega) (by unfold pz_iok; omega)
    have hI : pz_ic M5 := hS.1.1 hI0
    intro v10 e10 a10 b10
    intro M13 e13
    have hS : pz_st M M13 := by
      rw [e13]
      exact pz_st_u hS (by unfold pz_mid; omega) (by omega) (by unfold pz_iok; omega)
    have hI : pz_ic M13 := hS.1.1 hI0
    intro v18 e18 a18 b18
    intro M21 e21
    have hS : pz_st M M21 := by
      rw [e21]
      exact pz_st_u hS (by unfold pz_mid; omega) (by omega) (by unfold pz_iok; omega)
    have hI : pz_ic M21 := hS.1.1 hI0
    intro v26 e26 a26 b26
    intro M29 e29
    have hS : pz_st M M29 := by
      rw [e29]
      exact pz_st_u hS (by unfold pz_mid; omega) (by omega) (by unfold pz_iok; omega)
    have hI : pz_ic M29 := hS.1.1 hI0
    intro v34 e34 a34 b34
    intro M37 e37
    have hS : pz_st M M37 := by
      rw [e37]
      exact pz_st_u hS (by unfold pz_mid; omega) (by omega) (by unfold pz_iok; omega)
    have hI : pz_ic M37 := hS.1.1 hI0
    intro v42 e42 a42 b42
    intro M45 e45
    have hS : pz_st M M45 := by
      rw [e45]
      exact pz_st_u hS (by unfold pz_mid; omega) (by omega) (by unfold pz_iok; omega)
    have hI : pz_ic M45 := hS.1.1 hI0
    intro v50 e50 a50 b50
    intro M53 e53
    have hS : pz_st M M53 := by
      rw [e53]
      exact pz_st_u hS (by unfold pz_mid; omega) (by omega) (by unfold pz_iok; omega)
    have hI : pz_ic M53 := hS.1.1 hI0
    intro v58 e58 a58 b58
    intro M61 e61
    have hS : pz_st M M61 := by
      rw [e61]
      exact pz_st_u hS (by unfold pz_mid; omega) (by omega) (by unfold pz_iok; omega)
    have hI : pz_ic M61 := hS.1.1 hI0
    refine And.intro rfl ?_
    exact ⟨trivial, hS⟩
theorem v_X5_take {fr lo i : Nat} {own : String} (h1 : 0 + 1 ≤ fr) (h2 : 8 + (2 + 11) + 0 ≤ lo) (h3 : .methodLink own i yX5_take ∈ lw_tbl) : pz_cV fr lo own i k_X5_take :=
  pz_cVk (maxL := 2) (fr' := 0) (lo' := 0) 1 5 h_X5_take rfl ⟨by decide +kernel, by decide +kernel, by decide +kernel⟩ ⟨by decide +kernel, by decide +kernel, by decide +kernel, by decide +kernel⟩ (Or.inl ⟨TX5, 8, rfl⟩) (fun a M _ h => by
    have h : (match (generalizing := false) a with | [.inr (.inr (5, c)), .inr (.inr (5, d))] => pz_ic M | _ => False) := h
    split at h
    · exact ⟨_, _, rfl⟩
    · exact h.elim) h1 h2 h3
def k_X6_cell : pz_C := (3, 1, fun a M => (match a with | [.inr (.inr (6, r)), .inl i, .inl j] => pz_ic M | _ => False), fun a M r M' => (match a, r with | [.inr (.inr (6, r)), .inl i, .inl j], some (.inl v) => (True) ∧ M = M' | _, _ => False))
abbrev ct_X6_cell : List (Bool × Nat × pz_C) := []
set_option maxRecDepth 100000 in
set_option maxHeartbeats 4000000 in
theorem h_X6_cell : pz_H yX6_cell cX6_cell 3 (some .int) k_X6_cell 0 0 := by
  refine pz_mk (own := RX6) (tb := t_X6_cell) (fl := pz_flf fl_RX6) (ci := fun _ => none) (ct := pz_ctf ct_X6_cell) (rz := false) (by decide +kernel) rfl t_X6_cell_ok (pz_flk fl_RX6_ok) (fun i v h => by cases h) ?_ ?_ (Or.inl ⟨rfl, rfl⟩) ?_ ?_
  · exact fun i k' h => pz_ctk (l := ct_X6_cell) (P := fun b i k => b = true → pz_cV 0 0 RX6 i k) (fun _ h => absurd h List.not_mem_nil) true i k' h rfl
  · exact fun i k' h => pz_ctk (l := ct_X6_cell) (P := fun b i k => b = false → (pz_cS 0 0 RX6 i k ∨ (k = pz_kac ∧ 1 ≤ 0 ∧ 60 ≤ 0 ∧ Cond.methodLink RX6 i arraycopyName ∈ pz_tbl))) (fun _ h => absurd h List.not_mem_nil) false i k' h rfl
  · intro a M hlen hpre
    obtain ⟨r, i, j, rfl, hpre⟩ : ∃ r i j, a = [.inr (.inr (6, r)), .inl i, .inl j] ∧ (pz_ic M) := by
      have hpre : (match (generalizing := false) a with | [.inr (.inr (6, r)), .inl i, .inl j] => pz_ic M | _ => False) := hpre
      split at hpre
      · exact ⟨_, _, _, rfl, hpre⟩
      · exact hpre.elim
    exact Nat.le_of_ble_eq_true rfl
  · intro a M hlen hcan hM hpre Ok hgo
    obtain ⟨r, i, j, rfl, hpre⟩ : ∃ r i j, a = [.inr (.inr (6, r)), .inl i, .inl j] ∧ (pz_ic M) := by
      have hpre : (match (generalizing := false) a with | [.inr (.inr (6, r)), .inl i, .inl j] => pz_ic M | _ => False) := hpre
      split at hpre
      · exact ⟨_, _, _, rfl, hpre⟩
      · exact hpre.elim
    obtain ⟨k_r, hcan⟩ := pz_tlm hcan
    have k_r : pz_kd r = 6 ∧ r < 231 := k_r
    have R_r := pz_kd6 k_r.1
    obtain ⟨k_i, hcan⟩ := pz_tlm hcan
    have l_i : -2147483648 ≤ i := k_i.1
    have u_i : i ≤ 2147483647 := k_i.2
    obtain ⟨k_j, hcan⟩ := pz_tlm hcan
    have l_j : -2147483648 ≤ j := k_j.1
    have u_j : j ≤ 2147483647 := k_j.2
    have hI : pz_ic M := hpre
    refine hgo (fun _ => false) 24 0 _ [] M ?_
    refine And.intro (fun h1 => ?_) (fun h1 => ?_)
    · skip
      refine And.intro rfl ?_
      exact ⟨trivial, rfl⟩
    · skip
      intro v6 e6 a6 b6
      have I6 := hI.2.2.1 r (by omega) (by omega)
      refine And.intro (fun h9 => ?_) (fun h9 => ?_)
      · skip
        refine And.intro rfl ?_
        exact ⟨trivial, rfl⟩
      · skip
        refine And.intro (fun h13 => ?_) (fun h13 => ?_)
        · skip
          refine And.intro rfl ?_
          exact ⟨trivial, rfl⟩
        · skip
          refine And.intro (fun h18 => ?_) (fun h18 => ?_)
          · skip
            refine And.intro rfl ?_
            exact ⟨trivial, rfl⟩
          · skip
            intro r22 e22 k22
            have R22 := pz_kdA k22 (by decide) (by decide)
            intro v27 e27 a27 b27
            try rw [pz_wi (by omega) (by omega)] at e27
            intro v29 e29 a29 b29
            try rw [pz_wi (by omega) (by omega)] at e29
            refine And.intro (by omega) (And.intro (show _ < (80 : Int) from by omega) ?_)
            intro v30 e30 a30 b30
            refine And.intro rfl ?_
            exact ⟨trivial, rfl⟩
theorem v_X6_cell {fr lo i : Nat} {own : String} (h1 : 0 + 1 ≤ fr) (h2 : 8 + (3 + 11) + 0 ≤ lo) (h3 : .methodLink own i yX6_cell ∈ lw_tbl) : pz_cV fr lo own i k_X6_cell :=
  pz_cVk (maxL := 3) (fr' := 0) (lo' := 0) 2 6 h_X6_cell rfl ⟨by decide +kernel, by decide +kernel, by decide +kernel⟩ ⟨by decide +kernel, by decide +kernel, by decide +kernel, by decide +kernel⟩ (Or.inl ⟨TX6, 2, rfl⟩) (fun a M _ h => by
    have h : (match (generalizing := false) a with | [.inr (.inr (6, r)), .inl i, .inl j] => pz_ic M | _ => False) := h
    split at h
    · exact ⟨_, _, rfl⟩
    · exact h.elim) h1 h2 h3
def k_X6_take : pz_C := (2, 0, fun a M => (match a with | [.inr (.inr (6, r)), .inr (.inr (6, o))] => pz_ic M | _ => False), fun a M r M' => (match a, r with | [.inr (.inr (6, r)), .inr (.inr (6, o))], none => (True) ∧ pz_st M M' | _, _ => False))
abbrev ct_X6_take : List (Bool × Nat × pz_C) := [(false, 19, pz_kac)]
set_option maxRecDepth 100000 in
set_option maxHeartbeats 4000000 in
theorem h_X6_take : pz_H yX6_take cX6_take 2 none k_X6_take 1 60 := by
  refine pz_mk (own := RX6) (tb := t_X6_take) (fl := pz_flf fl_RX6) (ci := fun _ => none) (ct := pz_ctf ct_X6_take) (rz := false) (by decide +kernel) rfl t_X6_take_ok (pz_flk fl_RX6_ok) (fun i v h => by cases h) ?_ ?_ (rfl) ?_ ?_
  · exact fun i k' h => pz_ctk (l := ct_X6_take) (P := fun b i k => b = true → pz_cV 1 60 RX6 i k) (List.forall_mem_cons.mpr ⟨((fun z => by cases z)), fun _ h => absurd h List.not_mem_nil⟩) true i k' h rfl
  · exact fun i k' h => pz_ctk (l := ct_X6_take) (P := fun b i k => b = false → (pz_cS 1 60 RX6 i k ∨ (k = pz_kac ∧ 1 ≤ 1 ∧ 60 ≤ 60 ∧ Cond.methodLink RX6 i arraycopyName ∈ pz_tbl))) (List.forall_mem_cons.mpr ⟨(fun _ => Or.inr ⟨rfl, by decide, by decide, pz_tbl_in (by decide +kernel) rfl⟩), fun _ h => absurd h List.not_mem_nil⟩) false i k' h rfl
  · intro a M hlen hpre
    obtain ⟨r, o, rfl, hpre⟩ : ∃ r o, a = [.inr (.inr (6, r)), .inr (.inr (6, o))] ∧ (pz_ic M) := by
      have hpre : (match (generalizing := false) a with | [.inr (.inr (6, r)), .inr (.inr (6, o))] => pz_ic M | _ => False) := hpre
      split at hpre
      · exact ⟨_, _, rfl, hpre⟩
      · exact hpre.elim
    exact Nat.le_of_ble_eq_true rfl
  · intro a M hlen hcan hM hpre Ok hgo
    obtain ⟨r, o, rfl, hpre⟩ : ∃ r o, a = [.inr (.inr (6, r)), .inr (.inr (6, o))] ∧ (pz_ic M) := by
      have hpre : (match (generalizing := false) a with | [.inr (.inr (6, r)), .inr (.inr (6, o))] => pz_ic M | _ => False) := hpre
      split at hpre
      · exact ⟨_, _, rfl, hpre⟩
      · exact hpre.elim
    obtain ⟨k_r, hcan⟩ := pz_tlm hcan
    have k_r : pz_kd r = 6 ∧ r < 231 := k_r
    have R_r := pz_kd6 k_r.1
    obtain ⟨k_o, hcan⟩ := pz_tlm hcan
    have k_o : pz_kd o = 6 ∧ o < 231 := k_o
    have R_o := pz_kd6 k_o.1
    have hI : pz_ic M := hpre
    have hI0 := hI
    have hS : pz_st M M := pz_st.rf
    refine hgo (fun _ => false) 17 0 _ [] M ?_
    intro v2 e2 a2 b2
    have I2 := hI.2.2.1 o (by omega) (by omega)
    intro M5 e5
    have hS : pz_st M M5 := by
      rw [e5]
      exact pz_st_u hS (by unfold pz_mid; omega) (by omega) (by unfold pz_iok; omega)
    have hI : pz_ic M5 := hS.1.1 hI0
    intro r9 e9 k9
    have R9 := pz_kdA k9 (by decide) (by decide)
    have Q9 := pz_nm e9 k_o.1 (by decide) (by decide) rfl
    intro r14 e14 k14
    have R14 := pz_kdA k14 (by decide) (by decide)
    have Q14 := pz_nm e14 k_r.1 (by decide) (by decide) rfl
    intro r19 e19 k19
    have R19 := pz_kdA k19 (by decide) (by decide)
    have Q19 := pz_nm e19 k_r.1 (by decide) (by decide) rfl
    refine And.intro ⟨_, _, _, _, _, _, _, rfl, rfl, rfl, by decide, by decide, by decide, by decide, by decide⟩ ?_
    intro M23 q23
    obtain ⟨k123, a123, k223, a223, sp23, dp23, n23, z123, -, z223⟩ := q23
    cases z123
    have hS : pz_st M M23 := by
      rw [z223]
      exact pz_st_c hS (by omega) (by omega)
    have hI : pz_ic M23 := hS.1.1 hI0
    refine And.intro rfl ?_
    exact ⟨trivial, hS⟩
theorem v_X6_take {fr lo i : Nat} {own : String} (h1 : 1 + 1 ≤ fr) (h2 : 8 + (2 + 11) + 60 ≤ lo) (h3 : .methodLink own i yX6_take ∈ lw_tbl) : pz_cV fr lo own i k_X6_take :=
  pz_cVk (maxL := 2) (fr' := 1) (lo' := 60) 1 6 h_X6_take rfl ⟨by decide +kernel, by decide +kernel, by decide +kernel⟩ ⟨by decide +kernel, by decide +kernel, by decide +kernel, by decide +kernel⟩ (Or.inl ⟨TX6, 2, rfl⟩) (fun a M _ h => by
    have h : (match (generalizing := false) a with | [.inr (.inr (6, r)), .inr (.inr (6, o))] => pz_ic M | _ => False) := h
    split at h
    · exact ⟨_, _, rfl⟩
    · exact h.elim) h1 h2 h3
def k_X6_add : pz_C := (6, 0, fun a M => (match a with | [.inr (.inr (6, r)), .inl n1, .inl n2, .inl n3, .inl n4, .inl n5] => pz_ic M | _ => False), fun a M r M' => (match a, r with | [.inr (.inr (6, r)), .inl n1, .inl n2, .inl n3, .inl n4, .inl n5], none => (True) ∧ pz_st M M' | _, _ => False))
abbrev ct_X6_add : List (Bool × Nat × pz_C) := []
set_option maxRecDepth 100000 in
set_option maxHeartbeats 4000000 in
theorem h_X6_add : pz_H yX6_add cX6_add 7 none k_X6_add 0 0 := by
  refine pz_mk (own := RX6) (tb := t_X6_add) (fl := pz_flf fl_RX6) (ci := fun _ => none) (ct := pz_ctf ct_X6_add) (rz := false) (by decide +kernel) rfl t_X6_add_ok (pz_flk fl_RX6_ok) (fun i v h => by cases h) ?_ ?_ (rfl) ?_ ?_
  · exact fun i k' h => pz_ctk (l := ct_X6_add) (P := fun b i k => b = true → pz_cV 0 0 RX6 i k) (fun _ h => absurd h List.not_mem_nil) true i k' h rfl
  · exact fun i k' h => pz_ctk (l := ct_X6_add) (P := fun b i k => b = false → (pz_cS 0 0 RX6 i k ∨ (k = pz_kac ∧ 1 ≤ 0 ∧ 60 ≤ 0 ∧ Cond.methodLink RX6 i arraycopyName ∈ pz_tbl))) (fun _ h => absurd h List.not_mem_nil) false i k' h rfl
  · intro a M hlen hpre
    obtain ⟨r, n1, n2, n3, n4, n5, rfl, hpre⟩ : ∃ r n1 n2 n3 n4 n5, a = [.inr (.inr (6, r)), .inl n1, .inl n2, .inl n3, .inl n4, .inl n5] ∧ (pz_ic M) := by
      have hpre : (match (generalizing := false) a with | [.inr (.inr (6, r)), .inl n1, .inl n2, .inl n3, .inl n4, .inl n5] => pz_ic M | _ => False) := hpre
      split at hpre
      · exact ⟨_, _, _, _, _, _, rfl, hpre⟩
      · exact hpre.elim
    exact Nat.le_of_ble_eq_true rfl
  · intro a M hlen hcan hM hpre Ok hgo
    obtain ⟨r, n1, n2, n3, n4, n5, rfl, hpre⟩ : ∃ r n1 n2 n3 n4 n5, a = [.inr (.inr (6, r)), .inl n1, .inl n2, .inl n3, .inl n4, .inl n5] ∧ (pz_ic M) := by
      have hpre : (match (generalizing := false) a with | [.inr (.inr (6, r)), .inl n1, .inl n2, .inl n3, .inl n4, .inl n5] => pz_ic M | _ => False) := hpre
      split at hpre
      · exact ⟨_, _, _, _, _, _, rfl, hpre⟩
      · exact hpre.elim
    obtain ⟨k_r, hcan⟩ := pz_tlm hcan
    have k_r : pz_kd r = 6 ∧ r < 231 := k_r
    have R_r := pz_kd6 k_r.1
    obtain ⟨k_n1, hcan⟩ := pz_tlm hcan
    have l_n1 : -2147483648 ≤ n1 := k_n1.1
    have u_n1 : n1 ≤ 2147483647 := k_n1.2
    obtain ⟨k_n2, hcan⟩ := pz_tlm hcan
    have l_n2 : -2147483648 ≤ n2 := k_n2.1
    have u_n2 : n2 ≤ 2147483647 := k_n2.2
    obtain ⟨k_n3, hcan⟩ := pz_tlm hcan
    have l_n3 : -2147483648 ≤ n3 := k_n3.1
    have u_n3 : n3 ≤ 2147483647 := k_n3.2
    obtain ⟨k_n4, hcan⟩ := pz_tlm hcan
    have l_n4 : -2147483648 ≤ n4 := k_n4.1
    have u_n4 : n4 ≤ 2147483647 := k_n4.2
    obtain ⟨k_n5, hcan⟩ := pz_tlm hcan
    have l_n5 : -2147483648 ≤ n5 := k_n5.1
    have u_n5 : n5 ≤ 2147483647 := k_n5.2
    have hI : pz_ic M := hpre
    have hI0 := hI
    have hS : pz_st M M := pz_st.rf
    refine hgo (fun _ => false) 51 0 _ [] M ?_
    intro v1 e1 a1 b1
    have I1 := hI.2.2.1 r (by omega) (by omega)
    refine And.intro (fun h6 => ?_) (fun h6 => ?_)
    · skip
      refine And.intro rfl ?_
      exact ⟨trivial, hS⟩
    · skip
      intro v10 e10 a10 b10
      have I10 := hI.2.2.1 r (by omega) (by omega)
      intro v14 e14 a14 b14
      try rw [pz_wi (by omega) (by omega)] at e14
      intro r18 e18 k18
      have R18 := pz_kdA k18 (by decide) (by decide)
      have Q18 := pz_nm e18 k_r.1 (by decide) (by decide) rfl
      refine And.intro (by omega) (And.intro (show _ < (80 : Int) from by omega) ?_)
      intro M24 e24
      have hS : pz_st M M24 := by
        rw [e24]
        exact pz_st_u hS (by unfold pz_mid; omega) (by omega) (by unfold pz_iok; omega)
      have hI : pz_ic M24 := hS.1.1 hI0
      have T24_0 := pz_uve e24 r 0
      intro r26 e26 k26
      have R26 := pz_kdA k26 (by decide) (by decide)
      have Q26 := pz_nm e26 k_r.1 (by decide) (by decide) rfl
      intro v32 e32 a32 b32
      try rw [pz_wi (by omega) (by omega)] at e32
      refine And.intro (by omega) (And.intro (show _ < (80 : Int) from by omega) ?_)
      intro M34 e34
      have hS : pz_st M M34 := by
        rw [e34]
        exact pz_st_u hS (by unfold pz_mid; omega) (by omega) (by unfold pz_iok; omega)
      have hI : pz_ic M34 := hS.1.1 hI0
      have T34_0 := pz_uve e34 r 0
      intro r36 e36 k36
      have R36 := pz_kdA k36 (by decide) (by decide)
      have Q36 := pz_nm e36 k_r.1 (by decide) (by decide) rfl
      intro v42 e42 a42 b42
      try rw [pz_wi (by omega) (by omega)] at e42
      refine And.intro (by omega) (And.intro (show _ < (80 : Int) from by omega) ?_)
      intro M44 e44
      have hS : pz_st M M44 := by
        rw [e44]
        exact pz_st_u hS (by unfold pz_mid; omega) (by omega) (by unfold pz_iok; omega)
      have hI : pz_ic M44 := hS.1.1 hI0
      have T44_0 := pz_uve e44 r 0
      intro r46 e46 k46
      have R46 := pz_kdA k46 (by decide) (by decide)
      have Q46 := pz_nm e46 k_r.1 (by decide) (by decide) rfl
      intro v52 e52 a52 b52
      try rw [pz_wi (by omega) (by omega)] at e52
      refine And.intro (by omega) (And.intro (show _ < (80 : Int) from by omega) ?_)
      intro M55 e55
      have hS : pz_st M M55 := by
        rw [e55]
        exact pz_st_u hS (by unfold pz_mid; omega) (by omega) (by unfold pz_iok; omega)
      have hI : pz_ic M55 := hS.1.1 hI0
      have T55_0 := pz_uve e55 r 0
      intro r57 e57 k57
      have R57 := pz_kdA k57 (by decide) (by decide)
      have Q57 := pz_nm e57 k_r.1 (by decide) (by decide) rfl
      intro v63 e63 a63 b63
      try rw [pz_wi (by omega) (by omega)] at e63
      refine And.intro (by omega) (And.intro (show _ < (80 : Int) from by omega) ?_)
      intro M66 e66
      have hS : pz_st M M66 := by
        rw [e66]
        exact pz_st_u hS (by unfold pz_mid; omega) (by omega) (by unfold pz_iok; omega)
      have hI : pz_ic M66 := hS.1.1 hI0
      have T66_0 := pz_uve e66 r 0
      intro v69 e69 a69 b69
      have I69 := hI.2.2.1 r (by omega) (by omega)
      intro v73 e73 a73 b73
      try rw [pz_wi (by omega) (by omega)] at e73
      intro M74 e74
      have hS : pz_st M M74 := by
        rw [e74]
        exact pz_st_u hS (by unfold pz_mid; omega) (by omega) (by unfold pz_iok; omega)
      have hI : pz_ic M74 := hS.1.1 hI0
      have T74_0 := pz_uve e74 r 0
      refine And.intro rfl ?_
      exact ⟨trivial, hS⟩
theorem v_X6_add {fr lo i : Nat} {own : String} (h1 : 0 + 1 ≤ fr) (h2 : 8 + (7 + 11) + 0 ≤ lo) (h3 : .methodLink own i yX6_add ∈ lw_tbl) : pz_cV fr lo own i k_X6_add :=
  pz_cVk (maxL := 7) (fr' := 0) (lo' := 0) 5 6 h_X6_add rfl ⟨by decide +kernel, by decide +kernel, by decide +kernel⟩ ⟨by decide +kernel, by decide +kernel, by decide +kernel, by decide +kernel⟩ (Or.inl ⟨TX6, 2, rfl⟩) (fun a M _ h => by
    have h : (match (generalizing := false) a with | [.inr (.inr (6, r)), .inl n1, .inl n2, .inl n3, .inl n4, .inl n5] => pz_ic M | _ => False) := h
    split at h
    · exact ⟨_, _, rfl⟩
    · exact h.elim) h1 h2 h3
def k_X3_clear : pz_C := (1, 0, fun a M => (match a with | [.inr (.inr (3, g))] => pz_ic M | _ => False), fun a M r M' => (match a, r with | [.inr (.inr (3, g))], none => (True) ∧ pz_st M M' | _, _ => False))
abbrev ct_X3_clear : List (Bool × Nat × pz_C) := []
set_option maxRecDepth 100000 in
set_option maxHeartbeats 4000000 in
theorem h_X3_clear : pz_H yX3_clear cX3_clear 1 none k_X3_clear 0 0 := by
  refine pz_mk (own := RX3) (tb := t_X3_clear) (fl := pz_flf fl_RX3) (ci := fun _ => none) (ct := pz_ctf ct_X3_clear) (rz := false) (by decide +kernel) rfl t_X3_clear_ok (pz_flk fl_RX3_ok) (fun i v h => by cases h) ?_ ?_ (rfl) ?_ ?_
  · exact fun i k' h => pz_ctk (l := ct_X3_clear) (P := fun b i k => b = true → pz_cV 0 0 RX3 i k) (fun _ h => absurd h List.not_mem_nil) true i k' h rfl
  · exact fun i k' h => pz_ctk (l := ct_X3_clear) (P := fun b i k => b = false → (pz_cS 0 0 RX3 i k ∨ (k = pz_kac ∧ 1 ≤ 0 ∧ 60 ≤ 0 ∧ Cond.methodLink RX3 i arraycopyName ∈ pz_tbl))) (fun _ h => absurd h List.not_mem_nil) false i k' h rfl
  · intro a M hlen hpre
    obtain ⟨g, rfl, hpre⟩ : ∃ g, a = [.inr (.inr (3, g))] ∧ (pz_ic M) := by
      have hpre : (match (generalizing := false) a with | [.inr (.inr (3, g))] => pz_ic M | _ => False) := hpre
      split at hpre
      · exact ⟨_, rfl, hpre⟩
      · exact hpre.elim
    exact Nat.le_of_ble_eq_true rfl
  · intro a M hlen hcan hM hpre Ok hgo
    obtain ⟨g, rfl, hpre⟩ : ∃ g, a = [.inr (.inr (3, g))] ∧ (pz_ic M) := by
      have hpre : (match (generalizing := false) a with | [.inr (.inr (3, g))] => pz_ic M | _ => False) := hpre
      split at hpre
      · exact ⟨_, rfl, hpre⟩
      · exact hpre.elim
    obtain ⟨k_g, hcan⟩ := pz_tlm hcan
    have k_g : pz_kd g = 3 ∧ g < 231 := k_g
    have R_g := pz_kd3 k_g.1
    have hI : pz_ic M := hpre
    have hI0 := hI
    have hS : pz_st M M := pz_st.rf
    refine hgo (fun _ => false) 9 0 _ [] M ?_
    intro M2 e2
    have hS : pz_st M M2 := by
      rw [e2]
      exact pz_st_u hS (by unfold pz_mid; omega) (by omega) (by unfold pz_iok; omega)
    have hI : pz_ic M2 := hS.1.1 hI0
    intro M7 e7
    have hS : pz_st M M7 := by
      rw [e7]
      exact pz_st_u hS (by unfold pz_mid; omega) (by omega) (by unfold pz_iok; omega)
    have hI : pz_ic M7 := hS.1.1 hI0
    refine And.intro rfl ?_
    exact ⟨trivial, hS⟩
theorem v_X3_clear {fr lo i : Nat} {own : String} (h1 : 0 + 1 ≤ fr) (h2 : 8 + (1 + 11) + 0 ≤ lo) (h3 : .methodLink own i yX3_clear ∈ lw_tbl) : pz_cV fr lo own i k_X3_clear :=
  pz_cVk (maxL := 1) (fr' := 0) (lo' := 0) 0 3 h_X3_clear rfl ⟨by decide +kernel, by decide +kernel, by decide +kernel⟩ ⟨by decide +kernel, by decide +kernel, by decide +kernel, by decide +kernel⟩ (Or.inl ⟨TX3, 8, rfl⟩) (fun a M _ h => by
    have h : (match (generalizing := false) a with | [.inr (.inr (3, g))] => pz_ic M | _ => False) := h
    split at h
    · exact ⟨_, _, rfl⟩
    · exact h.elim) h1 h2 h3
def k_X3_take : pz_C := (2, 0, fun a M => (match a with | [.inr (.inr (3, g)), .inr (.inr (3, o))] => pz_ic M | _ => False), fun a M r M' => (match a, r with | [.inr (.inr (3, g)), .inr (.inr (3, o))], none => (True) ∧ pz_st M M' | _, _ => False))
abbrev ct_X3_take : List (Bool × Nat × pz_C) := [(false, 37, pz_kac)]
set_option maxRecDepth 100000 in
set_option maxHeartbeats 4000000 in
theorem h_X3_take : pz_H yX3_take cX3_take 2 none k_X3_take 1 60 := by
  refine pz_mk (own := RX3) (tb := t_X3_take) (fl := pz_flf fl_RX3) (ci := fun _ => none) (ct := pz_ctf ct_X3_take) (rz := false) (by decide +kernel) rfl t_X3_take_ok (pz_flk fl_RX3_ok) (fun i v h => by cases h) ?_ ?_ (rfl) ?_ ?_
  · exact fun i k' h => pz_ctk (l := ct_X3_take) (P := fun b i k => b = true → pz_cV 1 60 RX3 i k) (List.forall_mem_cons.mpr ⟨((fun z => by cases z)), fun _ h => absurd h List.not_mem_nil⟩) true i k' h rfl
  · exact fun i k' h => pz_ctk (l := ct_X3_take) (P := fun b i k => b = false → (pz_cS 1 60 RX3 i k ∨ (k = pz_kac ∧ 1 ≤ 1 ∧ 60 ≤ 60 ∧ Cond.methodLink RX3 i arraycopyName ∈ pz_tbl))) (List.forall_mem_cons.mpr ⟨(fun _ => Or.inr ⟨rfl, by decide, by decide, pz_tbl_in (by decide +kernel) rfl⟩), fun _ h => absurd h List.not_mem_nil⟩) false i k' h rfl
  · intro a M hlen hpre
    obtain ⟨g, o, rfl, hpre⟩ : ∃ g o, a = [.inr (.inr (3, g)), .inr (.inr (3, o))] ∧ (pz_ic M) := by
      have hpre : (match (generalizing := false) a with | [.inr (.inr (3, g)), .inr (.inr (3, o))] => pz_ic M | _ => False) := hpre
      split at hpre
      · exact ⟨_, _, rfl, hpre⟩
      · exact hpre.elim
    exact Nat.le_of_ble_eq_true rfl
  · intro a M hlen hcan hM hpre Ok hgo
    obtain ⟨g, o, rfl, hpre⟩ : ∃ g o, a = [.inr (.inr (3, g)), .inr (.inr (3, o))] ∧ (pz_ic M) := by
      have hpre : (match (generalizing := false) a with | [.inr (.inr (3, g)), .inr (.inr (3, o))] => pz_ic M | _ => False) := hpre
      split at hpre
      · exact ⟨_, _, rfl, hpre⟩
      · exact hpre.elim
    obtain ⟨k_g, hcan⟩ := pz_tlm hcan
    have k_g : pz_kd g = 3 ∧ g < 231 := k_g
    have R_g := pz_kd3 k_g.1
    obtain ⟨k_o, hcan⟩ := pz_tlm hcan
    have k_o : pz_kd o = 3 ∧ o < 231 := k_o
    have R_o := pz_kd3 k_o.1
    have hI : pz_ic M := hpre
    have hI0 := hI
    have hS : pz_st M M := pz_st.rf
    refine hgo (fun _ => false) 51 0 _ [] M ?_
    intro v2 e2 a2 b2
    have I2 := hI.2.2.2.1 o (by omega) (by omega)
    intro M5 e5
    have hS : pz_st M M5 := by
      rw [e5]
      exact pz_st_u hS (by unfold pz_mid; omega) (by omega) (by unfold pz_iok; omega)
    have hI : pz_ic M5 := hS.1.1 hI0
    intro v10 e10 a10 b10
    have I10 := hI.2.2.2.1 o (by omega) (by omega)
    intro M13 e13
    have hS : pz_st M M13 := by
      rw [e13]
      exact pz_st_u hS (by unfold pz_mid; omega) (by omega) (by unfold pz_iok; omega)
    have hI : pz_ic M13 := hS.1.1 hI0
    intro r17 e17 k17
    have R17 := pz_kdA k17 (by decide) (by decide)
    have Q17 := pz_nm e17 k_o.1 (by decide) (by decide) rfl
    intro r22 e22 k22
    have R22 := pz_kdA k22 (by decide) (by decide)
    have Q22 := pz_nm e22 k_g.1 (by decide) (by decide) rfl
    refine And.intro ⟨_, _, _, _, _, _, _, rfl, rfl, rfl, by decide, by decide, by decide, by decide, by decide⟩ ?_
    intro M28 q28
    obtain ⟨k128, a128, k228, a228, sp28, dp28, n28, z128, -, z228⟩ := q28
    cases z128
    have hS : pz_st M M28 := by
      rw [z228]
      exact pz_st_c hS (by omega) (by omega)
    have hI : pz_ic M28 := hS.1.1 hI0
    intro r32 e32 k32
    have R32 := pz_kdA k32 (by decide) (by decide)
    have Q32 := pz_nm e32 k_o.1 (by decide) (by decide) rfl
    intro r37 e37 k37
    have R37 := pz_kdA k37 (by decide) (by decide)
    have Q37 := pz_nm e37 k_g.1 (by decide) (by decide) rfl
    refine And.intro ⟨_, _, _, _, _, _, _, rfl, rfl, rfl, by decide, by decide, by decide, by decide, by decide⟩ ?_
    intro M43 q43
    obtain ⟨k143, a143, k243, a243, sp43, dp43, n43, z143, -, z243⟩ := q43
    cases z143
    have hS : pz_st M M43 := by
      rw [z243]
      exact pz_st_c hS (by omega) (by omega)
    have hI : pz_ic M43 := hS.1.1 hI0
    intro r47 e47 k47
    have R47 := pz_kdA k47 (by decide) (by decide)
    have Q47 := pz_nm e47 k_o.1 (by decide) (by decide) rfl
    intro r52 e52 k52
    have R52 := pz_kdA k52 (by decide) (by decide)
    have Q52 := pz_nm e52 k_g.1 (by decide) (by decide) rfl
    refine And.intro ⟨_, _, _, _, _, _, _, rfl, rfl, rfl, by decide, by decide, by decide, by decide, by decide⟩ ?_
    intro M58 q58
    obtain ⟨k158, a158, k258, a258, sp58, dp58, n58, z158, -, z258⟩ := q58
    cases z158
    have hS : pz_st M M58 := by
      rw [z258]
      exact pz_st_c hS (by omega) (by omega)
    have hI : pz_ic M58 := hS.1.1 hI0
    intro r62 e62 k62
    have R62 := pz_kdA k62 (by decide) (by decide)
    have Q62 := pz_nm e62 k_o.1 (by decide) (by decide) rfl
    intro r67 e67 k67
    have R67 := pz_kdA k67 (by decide) (by decide)
    have Q67 := pz_nm e67 k_g.1 (by decide) (by decide) rfl
    refine And.intro ⟨_, _, _, _, _, _, _, rfl, rfl, rfl, by decide, by decide, by decide, by decide, by decide⟩ ?_
    intro M73 q73
    obtain ⟨k173, a173, k273, a273, sp73, dp73, n73, z173, -, z273⟩ := q73
    cases z173
    have hS : pz_st M M73 := by
      rw [z273]
      exact pz_st_c hS (by omega) (by omega)
    have hI : pz_ic M73 := hS.1.1 hI0
    intro r77 e77 k77
    have R77 := pz_kdA k77 (by decide) (by decide)
    have Q77 := pz_nm e77 k_o.1 (by decide) (by decide) rfl
    intro r82 e82 k82
    have R82 := pz_kdA k82 (by decide) (by decide)
    have Q82 := pz_nm e82 k_g.1 (by decide) (by decide) rfl
    refine And.intro ⟨_, _, _, _, _, _, _, rfl, rfl, rfl, by decide, by decide, by decide, by decide, by decide⟩ ?_
    intro M89 q89
    obtain ⟨k189, a189, k289, a289, sp89, dp89, n89, z189, -, z289⟩ := q89
    cases z189
    have hS : pz_st M M89 := by
      rw [z289]
      exact pz_st_c hS (by omega) (by omega)
    have hI : pz_ic M89 := hS.1.1 hI0
    refine And.intro rfl ?_
    exact ⟨trivial, hS⟩
theorem v_X3_take {fr lo i : Nat} {own : String} (h1 : 1 + 1 ≤ fr) (h2 : 8 + (2 + 11) + 60 ≤ lo) (h3 : .methodLink own i yX3_take ∈ lw_tbl) : pz_cV fr lo own i k_X3_take :=
  pz_cVk (maxL := 2) (fr' := 1) (lo' := 60) 1 3 h_X3_take rfl ⟨by decide +kernel, by decide +kernel, by decide +kernel⟩ ⟨by decide +kernel, by decide +kernel, by decide +kernel, by decide +kernel⟩ (Or.inl ⟨TX3, 8, rfl⟩) (fun a M _ h => by
    have h : (match (generalizing := false) a with | [.inr (.inr (3, g)), .inr (.inr (3, o))] => pz_ic M | _ => False) := h
    split at h
    · exact ⟨_, _, rfl⟩
    · exact h.elim) h1 h2 h3
def k_X3_put : pz_C := (2, 0, fun a M => (match a with | [.inr (.inr (3, g)), .inl p] => pz_ic M | _ => False), fun a M r M' => (match a, r with | [.inr (.inr (3, g)), .inl p], none => (True) ∧ pz_st M M' | _, _ => False))
abbrev ct_X3_put : List (Bool × Nat × pz_C) := []
set_option maxRecDepth 100000 in
set_option maxHeartbeats 4000000 in
theorem h_X3_put : pz_H yX3_put cX3_put 2 none k_X3_put 0 0 := by
  refine pz_mk (own := RX3) (tb := t_X3_put) (fl := pz_flf fl_RX3) (ci := fun _ => none) (ct := pz_ctf ct_X3_put) (rz := false) (by decide +kernel) rfl t_X3_put_ok (pz_flk fl_RX3_ok) (fun i v h => by cases h) ?_ ?_ (rfl) ?_ ?_
  · exact fun i k' h => pz_ctk (l := ct_X3_put) (P := fun b i k => b = true → pz_cV 0 0 RX3 i k) (fun _ h => absurd h List.not_mem_nil) true i k' h rfl
  · exact fun i k' h => pz_ctk (l := ct_X3_put) (P := fun b i k => b = false → (pz_cS 0 0 RX3 i k ∨ (k = pz_kac ∧ 1 ≤ 0 ∧ 60 ≤ 0 ∧ Cond.methodLink RX3 i arraycopyName ∈ pz_tbl))) (fun _ h => absurd h List.not_mem_nil) false i k' h rfl
  · intro a M hlen hpre
    obtain ⟨g, p, rfl, hpre⟩ : ∃ g p, a = [.inr (.inr (3, g)), .inl p] ∧ (pz_ic M) := by
      have hpre : (match (generalizing := false) a with | [.inr (.inr (3, g)), .inl p] => pz_ic M | _ => False) := hpre
      split at hpre
      · exact ⟨_, _, rfl, hpre⟩
      · exact hpre.elim
    exact Nat.le_of_ble_eq_true rfl
  · intro a M hlen hcan hM hpre Ok hgo
    obtain ⟨g, p, rfl, hpre⟩ : ∃ g p, a = [.inr (.inr (3, g)), .inl p] ∧ (pz_ic M) := by
      have hpre : (match (generalizing := false) a with | [.inr (.inr (3, g)), .inl p] => pz_ic M | _ => False) := hpre
      split at hpre
      · exact ⟨_, _, rfl, hpre⟩
      · exact hpre.elim
    obtain ⟨k_g, hcan⟩ := pz_tlm hcan
    have k_g : pz_kd g = 3 ∧ g < 231 := k_g
    have R_g := pz_kd3 k_g.1
    obtain ⟨k_p, hcan⟩ := pz_tlm hcan
    have l_p : -2147483648 ≤ p := k_p.1
    have u_p : p ≤ 2147483647 := k_p.2
    have hI : pz_ic M := hpre
    have hI0 := hI
    have hS : pz_st M M := pz_st.rf
    refine hgo (fun _ => false) 19 0 _ [] M ?_
    intro v1 e1 a1 b1
    have I1 := hI.2.2.2.1 g (by omega) (by omega)
    refine And.intro (fun h7 => ?_) (fun h7 => ?_)
    · skip
      refine And.intro rfl ?_
      exact ⟨trivial, hS⟩
    · skip
      intro r11 e11 k11
      have R11 := pz_kdA k11 (by decide) (by decide)
      have Q11 := pz_nm e11 k_g.1 (by decide) (by decide) rfl
      intro v15 e15 a15 b15
      have I15 := hI.2.2.2.1 g (by omega) (by omega)
      refine And.intro (by omega) (And.intro (show _ < (400 : Int) from by omega) ?_)
      intro M19 e19
      have hS : pz_st M M19 := by
        rw [e19]
        exact pz_st_u hS (by unfold pz_mid; omega) (by omega) (by unfold pz_iok; omega)
      have hI : pz_ic M19 := hS.1.1 hI0
      have T19_0 := pz_uve e19 g 1
      intro v22 e22 a22 b22
      have I22 := hI.2.2.2.1 g (by omega) (by omega)
      intro v26 e26 a26 b26
      try rw [pz_wi (by omega) (by omega)] at e26
      intro M27 e27
      have hS : pz_st M M27 := by
        rw [e27]
        exact pz_st_u hS (by unfold pz_mid; omega) (by omega) (by unfold pz_iok; omega)
      have hI : pz_ic M27 := hS.1.1 hI0
      have T27_0 := pz_uve e27 g 1
      refine And.intro rfl ?_
      exact ⟨trivial, hS⟩
theorem v_X3_put {fr lo i : Nat} {own : String} (h1 : 0 + 1 ≤ fr) (h2 : 8 + (2 + 11) + 0 ≤ lo) (h3 : .methodLink own i yX3_put ∈ lw_tbl) : pz_cV fr lo own i k_X3_put :=
  pz_cVk (maxL := 2) (fr' := 0) (lo' := 0) 1 3 h_X3_put rfl ⟨by decide +kernel, by decide +kernel, by decide +kernel⟩ ⟨by decide +kernel, by decide +kernel, by decide +kernel, by decide +kernel⟩ (Or.inl ⟨TX3, 8, rfl⟩) (fun a M _ h => by
    have h : (match (generalizing := false) a with | [.inr (.inr (3, g)), .inl p] => pz_ic M | _ => False) := h
    split at h
    · exact ⟨_, _, rfl⟩
    · exact h.elim) h1 h2 h3
def k_X3_addLine : pz_C := (4, 0, fun a M => (match a with | [.inr (.inr (3, g)), .inl p, .inl q, .inl w] => pz_ic M | _ => False), fun a M r M' => (match a, r with | [.inr (.inr (3, g)), .inl p, .inl q, .inl w], none => (True) ∧ pz_st M M' | _, _ => False))
abbrev ct_X3_addLine : List (Bool × Nat × pz_C) := []
set_option maxRecDepth 100000 in
set_option maxHeartbeats 4000000 in
theorem h_X3_addLine : pz_H yX3_addLine cX3_addLine 4 none k_X3_addLine 0 0 := by
  refine pz_mk (own := RX3) (tb := t_X3_addLine) (fl := pz_flf fl_RX3) (ci := fun _ => none) (ct := pz_ctf ct_X3_addLine) (rz := false) (by decide +kernel) rfl t_X3_addLine_ok (pz_flk fl_RX3_ok) (fun i v h => by cases h) ?_ ?_ (rfl) ?_ ?_
  · exact fun i k' h => pz_ctk (l := ct_X3_addLine) (P := fun b i k => b = true → pz_cV 0 0 RX3 i k) (fun _ h => absurd h List.not_mem_nil) true i k' h rfl
  · exact fun i k' h => pz_ctk (l := ct_X3_addLine) (P := fun b i k => b = false → (pz_cS 0 0 RX3 i k ∨ (k = pz_kac ∧ 1 ≤ 0 ∧ 60 ≤ 0 ∧ Cond.methodLink RX3 i arraycopyName ∈ pz_tbl))) (fun _ h => absurd h List.not_mem_nil) false i k' h rfl
  · intro a M hlen hpre
    obtain ⟨g, p, q, w, rfl, hpre⟩ : ∃ g p q w, a = [.inr (.inr (3, g)), .inl p, .inl q, .inl w] ∧ (pz_ic M) := by
      have hpre : (match (generalizing := false) a with | [.inr (.inr (3, g)), .inl p, .inl q, .inl w] => pz_ic M | _ => False) := hpre
      split at hpre
      · exact ⟨_, _, _, _, rfl, hpre⟩
      · exact hpre.elim
    exact Nat.le_of_ble_eq_true rfl
  · intro a M hlen hcan hM hpre Ok hgo
    obtain ⟨g, p, q, w, rfl, hpre⟩ : ∃ g p q w, a = [.inr (.inr (3, g)), .inl p, .inl q, .inl w] ∧ (pz_ic M) := by
      have hpre : (match (generalizing := false) a with | [.inr (.inr (3, g)), .inl p, .inl q, .inl w] => pz_ic M | _ => False) := hpre
      split at hpre
      · exact ⟨_, _, _, _, rfl, hpre⟩
      · exact hpre.elim
    obtain ⟨k_g, hcan⟩ := pz_tlm hcan
    have k_g : pz_kd g = 3 ∧ g < 231 := k_g
    have R_g := pz_kd3 k_g.1
    obtain ⟨k_p, hcan⟩ := pz_tlm hcan
    have l_p : -2147483648 ≤ p := k_p.1
    have u_p : p ≤ 2147483647 := k_p.2
    obtain ⟨k_q, hcan⟩ := pz_tlm hcan
    have l_q : -2147483648 ≤ q := k_q.1
    have u_q : q ≤ 2147483647 := k_q.2
    obtain ⟨k_w, hcan⟩ := pz_tlm hcan
    have l_w : -2147483648 ≤ w := k_w.1
    have u_w : w ≤ 2147483647 := k_w.2
    have hI : pz_ic M := hpre
    have hI0 := hI
    have hS : pz_st M M := pz_st.rf
    refine hgo (fun _ => false) 38 0 _ [] M ?_
    intro v1 e1 a1 b1
    have I1 := hI.2.2.2.1 g (by omega) (by omega)
    refine And.intro (fun h6 => ?_) (fun h6 => ?_)
    · skip
      refine And.intro rfl ?_
      exact ⟨trivial, hS⟩
    · skip
      intro r10 e10 k10
      have R10 := pz_kdA k10 (by decide) (by decide)
      have Q10 := pz_nm e10 k_g.1 (by decide) (by decide) rfl
      intro v14 e14 a14 b14
      have I14 := hI.2.2.2.1 g (by omega) (by omega)
      refine And.intro (by omega) (And.intro (show _ < (16 : Int) from by omega) ?_)
      intro M18 e18
      have hS : pz_st M M18 := by
        rw [e18]
        exact pz_st_u hS (by unfold pz_mid; omega) (by omega) (by unfold pz_iok; omega)
      have hI : pz_ic M18 := hS.1.1 hI0
      have T18_0 := pz_uve e18 g 0
      intro r20 e20 k20
      have R20 := pz_kdA k20 (by decide) (by decide)
      have Q20 := pz_nm e20 k_g.1 (by decide) (by decide) rfl
      intro v24 e24 a24 b24
      have I24 := hI.2.2.2.1 g (by omega) (by omega)
      refine And.intro (by omega) (And.intro (show _ < (16 : Int) from by omega) ?_)
      intro M28 e28
      have hS : pz_st M M28 := by
        rw [e28]
        exact pz_st_u hS (by unfold pz_mid; omega) (by omega) (by unfold pz_iok; omega)
      have hI : pz_ic M28 := hS.1.1 hI0
      have T28_0 := pz_uve e28 g 0
      intro r30 e30 k30
      have R30 := pz_kdA k30 (by decide) (by decide)
      have Q30 := pz_nm e30 k_g.1 (by decide) (by decide) rfl
      intro v34 e34 a34 b34
      have I34 := hI.2.2.2.1 g (by omega) (by omega)
      refine And.intro (by omega) (And.intro (show _ < (16 : Int) from by omega) ?_)
      intro M38 e38
      have hS : pz_st M M38 := by
        rw [e38]
        exact pz_st_u hS (by unfold pz_mid; omega) (by omega) (by unfold pz_iok; omega)
      have hI : pz_ic M38 := hS.1.1 hI0
      have T38_0 := pz_uve e38 g 0
      intro r40 e40 k40
      have R40 := pz_kdA k40 (by decide) (by decide)
      have Q40 := pz_nm e40 k_g.1 (by decide) (by decide) rfl
      intro v44 e44 a44 b44
      have I44 := hI.2.2.2.1 g (by omega) (by omega)
      intro v48 e48 a48 b48
      have I48 := hI.2.2.2.1 g (by omega) (by omega)
      refine And.intro (by omega) (And.intro (show _ < (16 : Int) from by omega) ?_)
      intro M51 e51
      have hS : pz_st M M51 := by
        rw [e51]
        exact pz_st_u hS (by unfold pz_mid; omega) (by omega) (by unfold pz_iok; omega)
      have hI : pz_ic M51 := hS.1.1 hI0
      have T51_0 := pz_uve e51 g 0
      intro v54 e54 a54 b54
      have I54 := hI.2.2.2.1 g (by omega) (by omega)
      intro v58 e58 a58 b58
      try rw [pz_wi (by omega) (by omega)] at e58
      intro M59 e59
      have hS : pz_st M M59 := by
        rw [e59]
        exact pz_st_u hS (by unfold pz_mid; omega) (by omega) (by unfold pz_iok; omega)
      have hI : pz_ic M59 := hS.1.1 hI0
      have T59_0 := pz_uve e59 g 0
      refine And.intro rfl ?_
      exact ⟨trivial, hS⟩
theorem v_X3_addLine {fr lo i : Nat} {own : String} (h1 : 0 + 1 ≤ fr) (h2 : 8 + (4 + 11) + 0 ≤ lo) (h3 : .methodLink own i yX3_addLine ∈ lw_tbl) : pz_cV fr lo own i k_X3_addLine :=
  pz_cVk (maxL := 4) (fr' := 0) (lo' := 0) 3 3 h_X3_addLine rfl ⟨by decide +kernel, by decide +kernel, by decide +kernel⟩ ⟨by decide +kernel, by decide +kernel, by decide +kernel, by decide +kernel⟩ (Or.inl ⟨TX3, 8, rfl⟩) (fun a M _ h => by
    have h : (match (generalizing := false) a with | [.inr (.inr (3, g)), .inl p, .inl q, .inl w] => pz_ic M | _ => False) := h
    split at h
    · exact ⟨_, _, rfl⟩
    · exact h.elim) h1 h2 h3
def k_X3_untold : pz_C := (2, 1, fun a M => (match a with | [.inl w, .inr (.inr (5, c))] => True | _ => False), fun a M r M' => (match a, r with | [.inl w, .inr (.inr (5, c))], some (.inl v) => (True) ∧ M = M' | _, _ => False))
abbrev ct_X3_untold : List (Bool × Nat × pz_C) := [(false, 69, k_J9_floorDiv_7cf53)]
set_option maxRecDepth 100000 in
set_option maxHeartbeats 4000000 in
theorem h_X3_untold : pz_H yX3_untold cX3_untold 2 (some .int) k_X3_untold 1 22 := by
  refine pz_mk (own := RX3) (tb := t_X3_untold) (fl := pz_flf fl_RX3) (ci := fun _ => none) (ct := pz_ctf ct_X3_untold) (rz := false) (by decide +kernel) rfl t_X3_untold_ok (pz_flk fl_RX3_ok) (fun i v h => by cases h) ?_ ?_ (Or.inl ⟨rfl, rfl⟩) ?_ ?_
  · exact fun i k' h => pz_ctk (l := ct_X3_untold) (P := fun b i k => b = true → pz_cV 1 22 RX3 i k) (List.forall_mem_cons.mpr ⟨((fun z => by cases z)), fun _ h => absurd h List.not_mem_nil⟩) true i k' h rfl
  · exact fun i k' h => pz_ctk (l := ct_X3_untold) (P := fun b i k => b = false → (pz_cS 1 22 RX3 i k ∨ (k = pz_kac ∧ 1 ≤ 1 ∧ 60 ≤ 22 ∧ Cond.methodLink RX3 i arraycopyName ∈ pz_tbl))) (List.forall_mem_cons.mpr ⟨(fun _ => Or.inl (s_J9_floorDiv_7cf53 (by decide) (by decide) (Or.inl (by decide +kernel)))), fun _ h => absurd h List.not_mem_nil⟩) false i k' h rfl
  · intro a M hlen hpre
    obtain ⟨w, c, rfl, hpre⟩ : ∃ w c, a = [.inl w, .inr (.inr (5, c))] ∧ (True) := by
      have hpre : (match (generalizing := false) a with | [.inl w, .inr (.inr (5, c))] => True | _ => False) := hpre
      split at hpre
      · exact ⟨_, _, rfl, hpre⟩
      · exact hpre.elim
    exact Nat.le_of_ble_eq_true rfl
  · intro a M hlen hcan hM hpre Ok hgo
    obtain ⟨w, c, rfl, hpre⟩ : ∃ w c, a = [.inl w, .inr (.inr (5, c))] ∧ (True) := by
      have hpre : (match (generalizing := false) a with | [.inl w, .inr (.inr (5, c))] => True | _ => False) := hpre
      split at hpre
      · exact ⟨_, _, rfl, hpre⟩
      · exact hpre.elim
    obtain ⟨k_w, hcan⟩ := pz_tlm hcan
    have l_w : -2147483648 ≤ w := k_w.1
    have u_w : w ≤ 2147483647 := k_w.2
    obtain ⟨k_c, hcan⟩ := pz_tlm hcan
    have k_c : pz_kd c = 5 ∧ c < 231 := k_c
    have R_c := pz_kd5 k_c.1
    refine hgo (fun _ => false) 20 0 _ [] M ?_
    refine And.intro ?_ ?_
    · skip
      refine And.intro (fun h1 => ?_) ?_
      · skip
        intro v38 e38 a38 b38
        intro v41 e41 a41 b41
        try rw [pz_wi (by omega) (by omega)] at e41
        intro v42 e42 a42 b42
        try rw [pz_wi (by omega) (by omega)] at e42
        refine And.intro rfl ?_
        exact ⟨trivial, rfl⟩
      refine And.intro (fun h1 => ?_) ?_
      · skip
        refine And.intro rfl ?_
        exact ⟨trivial, rfl⟩
      refine And.intro (fun h1 => ?_) ?_
      · skip
        intro v45 e45 a45 b45
        refine And.intro (by first | exact Or.inl rfl | exact Or.inr rfl) ?_
        intro v49 M49 a49 b49 q49
        obtain ⟨q49, z49⟩ := q49
        subst z49
        refine And.intro rfl ?_
        exact ⟨trivial, rfl⟩
      refine And.intro (fun h1 => ?_) ?_
      · skip
        refine And.intro rfl ?_
        exact ⟨trivial, rfl⟩
      exact True.intro
    · intro h1
      refine And.intro rfl ?_
      exact ⟨trivial, rfl⟩
theorem s_X3_untold {fr lo i : Nat} {own : String} (h1 : 1 + 1 ≤ fr) (h2 : 8 + (2 + 11) + 22 ≤ lo) (h3 : .methodLink own i yX3_untold ∈ lw_tbl ∨ (own = RX1 ∧ i = 35 ∧ yX3_untold = yX11_within)) : pz_cS fr lo own i k_X3_untold := pz_cSk (maxL := 2) (fr' := 1) (lo' := 22) 2 h_X3_untold rfl ⟨by decide +kernel, by decide +kernel, by decide +kernel⟩ ⟨by decide +kernel, by decide +kernel, by decide +kernel⟩ h1 h2 h3
def k_X3_held : pz_C := (2, 1, fun a M => (match a with | [.inl w, .inl x] => True | _ => False), fun a M r M' => (match a, r with | [.inl w, .inl x], some (.inl v) => (0 ≤ v ∧ v ≤ 1000) ∧ M = M' | _, _ => False))
abbrev ct_X3_held : List (Bool × Nat × pz_C) := [(false, 74, k_J9_min_7cf53), (false, 77, k_J9_max_7cf53)]
set_option maxRecDepth 100000 in
set_option maxHeartbeats 4000000 in
theorem h_X3_held : pz_H yX3_held cX3_held 3 (some .int) k_X3_held 1 21 := by
  refine pz_mk (own := RX3) (tb := t_X3_held) (fl := pz_flf fl_RX3) (ci := fun _ => none) (ct := pz_ctf ct_X3_held) (rz := false) (by decide +kernel) rfl t_X3_held_ok (pz_flk fl_RX3_ok) (fun i v h => by cases h) ?_ ?_ (Or.inl ⟨rfl, rfl⟩) ?_ ?_
  · exact fun i k' h => pz_ctk (l := ct_X3_held) (P := fun b i k => b = true → pz_cV 1 21 RX3 i k) (List.forall_mem_cons.mpr ⟨((fun z => by cases z)), List.forall_mem_cons.mpr ⟨((fun z => by cases z)), fun _ h => absurd h List.not_mem_nil⟩⟩) true i k' h rfl
  · exact fun i k' h => pz_ctk (l := ct_X3_held) (P := fun b i k => b = false → (pz_cS 1 21 RX3 i k ∨ (k = pz_kac ∧ 1 ≤ 1 ∧ 60 ≤ 21 ∧ Cond.methodLink RX3 i arraycopyName ∈ pz_tbl))) (List.forall_mem_cons.mpr ⟨(fun _ => Or.inl (s_J9_min_7cf53 (by decide) (by decide) (Or.inl (by decide +kernel)))), List.forall_mem_cons.mpr ⟨(fun _ => Or.inl (s_J9_max_7cf53 (by decide) (by decide) (Or.inl (by decide +kernel)))), fun _ h => absurd h List.not_mem_nil⟩⟩) false i k' h rfl
  · intro a M hlen hpre
    obtain ⟨w, x, rfl, hpre⟩ : ∃ w x, a = [.inl w, .inl x] ∧ (True) := by
      have hpre : (match (generalizing := false) a with | [.inl w, .inl x] => True | _ => False) := hpre
      split at hpre
      · exact ⟨_, _, rfl, hpre⟩
      · exact hpre.elim
    exact Nat.le_of_ble_eq_true rfl
  · intro a M hlen hcan hM hpre Ok hgo
    obtain ⟨w, x, rfl, hpre⟩ : ∃ w x, a = [.inl w, .inl x] ∧ (True) := by
      have hpre : (match (generalizing := false) a with | [.inl w, .inl x] => True | _ => False) := hpre
      split at hpre
      · exact ⟨_, _, rfl, hpre⟩
      · exact hpre.elim
    obtain ⟨k_w, hcan⟩ := pz_tlm hcan
    have l_w : -2147483648 ≤ w := k_w.1
    have u_w : w ≤ 2147483647 := k_w.2
    obtain ⟨k_x, hcan⟩ := pz_tlm hcan
    have l_x : -2147483648 ≤ x := k_x.1
    have u_x : x ≤ 2147483647 := k_x.2
    refine hgo (fun _ => false) 20 0 _ [] M ?_
    refine And.intro (fun h2 => ?_) (fun h2 => ?_)
    · skip
      refine And.intro (fun h13 => ?_) (fun h13 => ?_)
      · skip
        refine And.intro (True.intro) ?_
        intro v28 M28 a28 b28 q28
        obtain ⟨q28, z28⟩ := q28
        subst z28
        refine And.intro (True.intro) ?_
        intro v31 M31 a31 b31 q31
        obtain ⟨q31, z31⟩ := q31
        subst z31
        refine And.intro rfl ?_
        exact ⟨by omega, rfl⟩
      · skip
        refine And.intro (True.intro) ?_
        intro v28 M28 a28 b28 q28
        obtain ⟨q28, z28⟩ := q28
        subst z28
        refine And.intro (True.intro) ?_
        intro v31 M31 a31 b31 q31
        obtain ⟨q31, z31⟩ := q31
        subst z31
        refine And.intro rfl ?_
        exact ⟨by omega, rfl⟩
    · skip
      refine And.intro (True.intro) ?_
      intro v28 M28 a28 b28 q28
      obtain ⟨q28, z28⟩ := q28
      subst z28
      refine And.intro (True.intro) ?_
      intro v31 M31 a31 b31 q31
      obtain ⟨q31, z31⟩ := q31
      subst z31
      refine And.intro rfl ?_
      exact ⟨by omega, rfl⟩
theorem s_X3_held {fr lo i : Nat} {own : String} (h1 : 1 + 1 ≤ fr) (h2 : 8 + (3 + 11) + 21 ≤ lo) (h3 : .methodLink own i yX3_held ∈ lw_tbl ∨ (own = RX1 ∧ i = 35 ∧ yX3_held = yX11_within)) : pz_cS fr lo own i k_X3_held := pz_cSk (maxL := 3) (fr' := 1) (lo' := 21) 2 h_X3_held rfl ⟨by decide +kernel, by decide +kernel, by decide +kernel⟩ ⟨by decide +kernel, by decide +kernel, by decide +kernel⟩ h1 h2 h3
def k_X3_joined : pz_C := (3, 1, fun a M => (match a with | [.inl w, .inl x, .inl y] => True | _ => False), fun a M r M' => (match a, r with | [.inl w, .inl x, .inl y], some (.inl v) => (True) ∧ M = M' | _, _ => False))
abbrev ct_X3_joined : List (Bool × Nat × pz_C) := []
set_option maxRecDepth 100000 in
set_option maxHeartbeats 4000000 in
theorem h_X3_joined : pz_H yX3_joined cX3_joined 3 (some .int) k_X3_joined 0 0 := by
  refine pz_mk (own := RX3) (tb := t_X3_joined) (fl := pz_flf fl_RX3) (ci := fun _ => none) (ct := pz_ctf ct_X3_joined) (rz := false) (by decide +kernel) rfl t_X3_joined_ok (pz_flk fl_RX3_ok) (fun i v h => by cases h) ?_ ?_ (Or.inl ⟨rfl, rfl⟩) ?_ ?_
  · exact fun i k' h => pz_ctk (l := ct_X3_joined) (P := fun b i k => b = true → pz_cV 0 0 RX3 i k) (fun _ h => absurd h List.not_mem_nil) true i k' h rfl
  · exact fun i k' h => pz_ctk (l := ct_X3_joined) (P := fun b i k => b = false → (pz_cS 0 0 RX3 i k ∨ (k = pz_kac ∧ 1 ≤ 0 ∧ 60 ≤ 0 ∧ Cond.methodLink RX3 i arraycopyName ∈ pz_tbl))) (fun _ h => absurd h List.not_mem_nil) false i k' h rfl
  · intro a M hlen hpre
    obtain ⟨w, x, y, rfl, hpre⟩ : ∃ w x y, a = [.inl w, .inl x, .inl y] ∧ (True) := by
      have hpre : (match (generalizing := false) a with | [.inl w, .inl x, .inl y] => True | _ => False) := hpre
      split at hpre
      · exact ⟨_, _, _, rfl, hpre⟩
      · exact hpre.elim
    exact Nat.le_of_ble_eq_true rfl
  · intro a M hlen hcan hM hpre Ok hgo
    obtain ⟨w, x, y, rfl, hpre⟩ : ∃ w x y, a = [.inl w, .inl x, .inl y] ∧ (True) := by
      have hpre : (match (generalizing := false) a with | [.inl w, .inl x, .inl y] => True | _ => False) := hpre
      split at hpre
      · exact ⟨_, _, _, rfl, hpre⟩
      · exact hpre.elim
    obtain ⟨k_w, hcan⟩ := pz_tlm hcan
    have l_w : -2147483648 ≤ w := k_w.1
    have u_w : w ≤ 2147483647 := k_w.2
    obtain ⟨k_x, hcan⟩ := pz_tlm hcan
    have l_x : -2147483648 ≤ x := k_x.1
    have u_x : x ≤ 2147483647 := k_x.2
    obtain ⟨k_y, hcan⟩ := pz_tlm hcan
    have l_y : -2147483648 ≤ y := k_y.1
    have u_y : y ≤ 2147483647 := k_y.2
    refine hgo (fun _ => false) 55 0 _ [] M ?_
    refine And.intro ?_ ?_
    · skip
      refine And.intro (fun h1 => ?_) ?_
      · skip
        intro v147 e147 a147 b147
        refine And.intro rfl ?_
        exact ⟨trivial, rfl⟩
      refine And.intro (fun h1 => ?_) ?_
      · skip
        intro v143 e143 a143 b143
        refine And.intro rfl ?_
        exact ⟨trivial, rfl⟩
      refine And.intro (fun h1 => ?_) ?_
      · skip
        intro v94 e94 a94 b94
        try rw [pz_wi (by omega) (by omega)] at e94
        refine And.intro rfl ?_
        exact ⟨trivial, rfl⟩
      refine And.intro (fun h1 => ?_) ?_
      · skip
        intro v86 e86 a86 b86
        try rw [pz_wi (by omega) (by omega)] at e86
        refine And.intro rfl ?_
        exact ⟨trivial, rfl⟩
      refine And.intro (fun h1 => ?_) ?_
      · skip
        intro v90 e90 a90 b90
        try rw [pz_wi (by omega) (by omega)] at e90
        refine And.intro rfl ?_
        exact ⟨trivial, rfl⟩
      refine And.intro (fun h1 => ?_) ?_
      · skip
        refine And.intro (fun h97 => ?_) (fun h97 => ?_)
        · skip
          refine And.intro (by omega) ?_
          intro v106 e106 a106 b106
          refine And.intro rfl ?_
          exact ⟨trivial, rfl⟩
        · skip
          refine And.intro rfl ?_
          exact ⟨trivial, rfl⟩
      refine And.intro (fun h1 => ?_) ?_
      · skip
        refine And.intro (fun h110 => ?_) (fun h110 => ?_)
        · skip
          refine And.intro rfl ?_
          exact ⟨trivial, rfl⟩
        · skip
          refine And.intro rfl ?_
          exact ⟨trivial, rfl⟩
      refine And.intro (fun h1 => ?_) ?_
      · skip
        refine And.intro (fun h121 => ?_) (fun h121 => ?_)
        · skip
          refine And.intro rfl ?_
          exact ⟨trivial, rfl⟩
        · skip
          refine And.intro rfl ?_
          exact ⟨trivial, rfl⟩
      refine And.intro (fun h1 => ?_) ?_
      · skip
        refine And.intro (fun h132 => ?_) (fun h132 => ?_)
        · skip
          refine And.intro rfl ?_
          exact ⟨trivial, rfl⟩
        · skip
          refine And.intro rfl ?_
          exact ⟨trivial, rfl⟩
      exact True.intro
    · intro h1_0 h1_1 h1_2 h1_3 h1_4 h1_5 h1_6 h1_7 h1_8
      refine And.intro rfl ?_
      exact ⟨trivial, rfl⟩
theorem s_X3_joined {fr lo i : Nat} {own : String} (h1 : 0 + 1 ≤ fr) (h2 : 8 + (3 + 11) + 0 ≤ lo) (h3 : .methodLink own i yX3_joined ∈ lw_tbl ∨ (own = RX1 ∧ i = 35 ∧ yX3_joined = yX11_within)) : pz_cS fr lo own i k_X3_joined := pz_cSk (maxL := 3) (fr' := 0) (lo' := 0) 3 h_X3_joined rfl ⟨by decide +kernel, by decide +kernel, by decide +kernel⟩ ⟨by decide +kernel, by decide +kernel, by decide +kernel⟩ h1 h2 h3
def k_X3_worked : pz_C := (5, 1, fun a M => (match a with | [.inr (.inr (3, g)), .inl p, .inl q, .inr (.inr (0, c)), .inl i] => pz_ic M | _ => False), fun a M r M' => (match a, r with | [.inr (.inr (3, g)), .inl p, .inl q, .inr (.inr (0, c)), .inl i], some (.inl v) => (True) ∧ pz_st M M' | _, _ => False))
abbrev ct_X3_worked : List (Bool × Nat × pz_C) := [(true, 80, k_X0_named), (false, 83, k_X3_joined)]
set_option maxRecDepth 100000 in
set_option maxHeartbeats 4000000 in
theorem h_X3_worked : pz_H yX3_worked cX3_worked 8 (some .int) k_X3_worked 2 45 := by
  refine pz_mk (own := RX3) (tb := t_X3_worked) (fl := pz_flf fl_RX3) (ci := fun _ => none) (ct := pz_ctf ct_X3_worked) (rz := false) (by decide +kernel) rfl t_X3_worked_ok (pz_flk fl_RX3_ok) (fun i v h => by cases h) ?_ ?_ (Or.inl ⟨rfl, rfl⟩) ?_ ?_
  · exact fun i k' h => pz_ctk (l := ct_X3_worked) (P := fun b i k => b = true → pz_cV 2 45 RX3 i k) (List.forall_mem_cons.mpr ⟨(fun _ => v_X0_named (by decide) (by decide) (by decide +kernel)), List.forall_mem_cons.mpr ⟨((fun z => by cases z)), fun _ h => absurd h List.not_mem_nil⟩⟩) true i k' h rfl
  · exact fun i k' h => pz_ctk (l := ct_X3_worked) (P := fun b i k => b = false → (pz_cS 2 45 RX3 i k ∨ (k = pz_kac ∧ 1 ≤ 2 ∧ 60 ≤ 45 ∧ Cond.methodLink RX3 i arraycopyName ∈ pz_tbl))) (List.forall_mem_cons.mpr ⟨((fun z => by cases z)), List.forall_mem_cons.mpr ⟨(fun _ => Or.inl (s_X3_joined (by decide) (by decide) (Or.inl (by decide +kernel)))), fun _ h => absurd h List.not_mem_nil⟩⟩) false i k' h rfl
  · intro a M hlen hpre
    obtain ⟨g, p, q, c, i, rfl, hpre⟩ : ∃ g p q c i, a = [.inr (.inr (3, g)), .inl p, .inl q, .inr (.inr (0, c)), .inl i] ∧ (pz_ic M) := by
      have hpre : (match (generalizing := false) a with | [.inr (.inr (3, g)), .inl p, .inl q, .inr (.inr (0, c)), .inl i] => pz_ic M | _ => False) := hpre
      split at hpre
      · exact ⟨_, _, _, _, _, rfl, hpre⟩
      · exact hpre.elim
    exact Nat.le_of_ble_eq_true rfl
  · intro a M hlen hcan hM hpre Ok hgo
    obtain ⟨g, p, q, c, i, rfl, hpre⟩ : ∃ g p q c i, a = [.inr (.inr (3, g)), .inl p, .inl q, .inr (.inr (0, c)), .inl i] ∧ (pz_ic M) := by
      have hpre : (match (generalizing := false) a with | [.inr (.inr (3, g)), .inl p, .inl q, .inr (.inr (0, c)), .inl i] => pz_ic M | _ => False) := hpre
      split at hpre
      · exact ⟨_, _, _, _, _, rfl, hpre⟩
      · exact hpre.elim
    obtain ⟨k_g, hcan⟩ := pz_tlm hcan
    have k_g : pz_kd g = 3 ∧ g < 231 := k_g
    have R_g := pz_kd3 k_g.1
    obtain ⟨k_p, hcan⟩ := pz_tlm hcan
    have l_p : -2147483648 ≤ p := k_p.1
    have u_p : p ≤ 2147483647 := k_p.2
    obtain ⟨k_q, hcan⟩ := pz_tlm hcan
    have l_q : -2147483648 ≤ q := k_q.1
    have u_q : q ≤ 2147483647 := k_q.2
    obtain ⟨k_c, hcan⟩ := pz_tlm hcan
    have k_c : pz_kd c = 0 ∧ c < 231 := k_c
    have R_c := pz_kd0 k_c.1
    obtain ⟨k_i, hcan⟩ := pz_tlm hcan
    have l_i : -2147483648 ≤ i := k_i.1
    have u_i : i ≤ 2147483647 := k_i.2
    have hI : pz_ic M := hpre
    have hI0 := hI
    have hS : pz_st M M := pz_st.rf
    have L182 : ∀ (x5 : Int) (x6 : Int) (d7 : Option pz_V) (N182 : pz_M), (pz_st M N182) → (0 ≤ x5) → (x5 ≤ 64) → Ok 182 [some (.inr (.inr (3, g))), some (.inl p), some (.inl q), some (.inr (.inr (0, c))), some (.inl i), some (.inl x5), some (.inl x6), d7] [] N182 := by
      intro x5 x6 d7 N182 hS g182_1 g182_2
      have hI : pz_ic N182 := hS.1.1 hI0
      refine hgo (fun p => Nat.beq p 6 || Nat.beq p 176 || Nat.beq p 182) 107 182 _ _ _ ?_
      refine And.intro (fun h184 => ?_) (fun h184 => ?_)
      · skip
        refine And.intro rfl ?_
        exact ⟨trivial, hS⟩
      · skip
        intro r188 e188 k188
        have R188 := pz_kdA k188 (by decide) (by decide)
        have Q188 := pz_nm e188 k_g.1 (by decide) (by decide) rfl
        intro v194 e194 a194 b194
        try rw [pz_wi (by omega) (by omega)] at e194
        refine And.intro (by omega) (And.intro (show _ < (64 : Int) from by omega) ?_)
        intro v195 e195 a195 b195
        refine And.intro rfl ?_
        exact ⟨trivial, hS⟩
    have L6 : ∀ (fu : Nat) (x5 : Int) (x6 : Int) (d7 : Option pz_V) (N6 : pz_M), (q - x6).toNat < fu → (pz_st M N6) → (0 ≤ x5) → (x5 ≤ 64) → Ok 6 [some (.inr (.inr (3, g))), some (.inl p), some (.inl q), some (.inr (.inr (0, c))), some (.inl i), some (.inl x5), some (.inl x6), d7] [] N6 := by
      intro fu
      induction fu with
      | zero => exact fun _ _ _ _ hn => absurd hn (Nat.not_lt_zero _)
      | succ fu ih6 =>
        intro x5 x6 d7 N6 hn6 hS g6_1 g6_2
        have hI : pz_ic N6 := hS.1.1 hI0
        have L176 : ∀ (x5 : Int) (x6 : Int) (x7 : Int) (N176 : pz_M), (pz_st M N176) → (0 ≤ x5) → (x5 ≤ 64) → (x6 < q) → (0 ≤ x6) → ((q - x6).toNat < fu + 1) → Ok 176 [some (.inr (.inr (3, g))), some (.inl p), some (.inl q), some (.inr (.inr (0, c))), some (.inl i), some (.inl x5), some (.inl x6), some (.inl x7)] [] N176 := by
          intro x5 x6 x7 N176 hS g176_1 g176_2 g176_3 g176_4 g176_5
          have hI : pz_ic N176 := hS.1.1 hI0
          refine hgo (fun p => Nat.beq p 6 || Nat.beq p 176 || Nat.beq p 182) 107 176 _ _ _ ?_
          intro v176 e176 a176 b176
          try rw [pz_wi (by omega) (by omega)] at e176
          exact ih6 _ _ _ _ (by omega) hS (by omega) (by omega)
        refine hgo (fun p => Nat.beq p 6 || Nat.beq p 176 || Nat.beq p 182) 107 6 _ _ _ ?_
        refine And.intro (fun h9 => ?_) (fun h9 => ?_)
        · skip
          exact L182 _ _ _ _ hS (by omega) (by omega)
        · skip
          refine And.intro (fun h14 => ?_) (fun h14 => ?_)
          · skip
            exact L182 _ _ _ _ hS (by omega) (by omega)
          · skip
            intro v20 e20 a20 b20
            have I20 := hI.2.2.2.1 g (by omega) (by omega)
            refine And.intro (fun h23 => ?_) (fun h23 => ?_)
            · skip
              exact L182 _ _ _ _ hS (by omega) (by omega)
            · skip
              intro r27 e27 k27
              have R27 := pz_kdA k27 (by decide) (by decide)
              have Q27 := pz_nm e27 k_g.1 (by decide) (by decide) rfl
              refine And.intro (by omega) (And.intro (show _ < (400 : Int) from by omega) ?_)
              intro v32 e32 a32 b32
              intro v34 e34 a34 b34
              refine And.intro (fun h39 => ?_) (fun h39 => ?_)
              · skip
                intro r59 e59 k59
                have R59 := pz_kdA k59 (by decide) (by decide)
                have Q59 := pz_nm e59 k_g.1 (by decide) (by decide) rfl
                refine And.intro (fun h63 => ?_) (fun h63 => ?_)
                · skip
                  exact L176 _ _ _ _ hS (by omega) (by omega) (by omega) (by omega) (by omega)
                · skip
                  intro r67 e67 k67
                  have R67 := pz_kdA k67 (by decide) (by decide)
                  have Q67 := pz_nm e67 k_g.1 (by decide) (by decide) rfl
                  refine And.intro (fun h74 => ?_) (fun h74 => ?_)
                  · skip
                    refine And.intro (hI) ?_
                    intro v92 M92 a92 b92 q92
                    obtain ⟨q92, z92⟩ := q92
                    subst z92
                    refine And.intro (by omega) (And.intro (show _ < (64 : Int) from by omega) ?_)
                    intro M95 e95
                    have hS : pz_st M M95 := by
                      rw [e95]
                      exact pz_st_u hS (by unfold pz_mid; omega) (by omega) (by unfold pz_iok; omega)
                    have hI : pz_ic M95 := hS.1.1 hI0
                    intro v96 e96 a96 b96
                    try rw [pz_wi (by omega) (by omega)] at e96
                    exact L176 _ _ _ _ hS (by omega) (by omega) (by omega) (by omega) (by omega)
                  · skip
                    intro r78 e78 k78
                    have R78 := pz_kdA k78 (by decide) (by decide)
                    have Q78 := pz_nm e78 k_g.1 (by decide) (by decide) rfl
                    refine And.intro (by omega) (And.intro (show _ < (400 : Int) from by omega) ?_)
                    intro v83 e83 a83 b83
                    refine And.intro (by omega) (And.intro (show _ < (64 : Int) from by omega) ?_)
                    intro M95 e95
                    have hS : pz_st M M95 := by
                      rw [e95]
                      exact pz_st_u hS (by unfold pz_mid; omega) (by omega) (by unfold pz_iok; omega)
                    have hI : pz_ic M95 := hS.1.1 hI0
                    intro v96 e96 a96 b96
                    try rw [pz_wi (by omega) (by omega)] at e96
                    exact L176 _ _ _ _ hS (by omega) (by omega) (by omega) (by omega) (by omega)
              · skip
                refine And.intro (fun h46 => ?_) (fun h46 => ?_)
                · skip
                  refine And.intro (fun h106 => ?_) (fun h106 => ?_)
                  · skip
                    refine And.intro (fun h140 => ?_) (fun h140 => ?_)
                    · skip
                      exact L176 _ _ _ _ hS (by omega) (by omega) (by omega) (by omega) (by omega)
                    · skip
                      intro v143 e143 a143 b143
                      try rw [pz_wi (by omega) (by omega)] at e143
                      intro r147 e147 k147
                      have R147 := pz_kdA k147 (by decide) (by decide)
                      have Q147 := pz_nm e147 k_g.1 (by decide) (by decide) rfl
                      intro v153 e153 a153 b153
                      try rw [pz_wi (by omega) (by omega)] at e153
                      intro r157 e157 k157
                      have R157 := pz_kdA k157 (by decide) (by decide)
                      have Q157 := pz_nm e157 k_g.1 (by decide) (by decide) rfl
                      intro v163 e163 a163 b163
                      try rw [pz_wi (by omega) (by omega)] at e163
                      refine And.intro (by omega) (And.intro (show _ < (64 : Int) from by omega) ?_)
                      intro v164 e164 a164 b164
                      intro r166 e166 k166
                      have R166 := pz_kdA k166 (by decide) (by decide)
                      have Q166 := pz_nm e166 k_g.1 (by decide) (by decide) rfl
                      refine And.intro (by omega) (And.intro (show _ < (64 : Int) from by omega) ?_)
                      intro v171 e171 a171 b171
                      refine And.intro (True.intro) ?_
                      intro v172 M172 a172 b172 q172
                      obtain ⟨q172, z172⟩ := q172
                      subst z172
                      refine And.intro (by omega) (And.intro (show _ < (64 : Int) from by omega) ?_)
                      intro M175 e175
                      have hS : pz_st M M175 := by
                        rw [e175]
                        exact pz_st_u hS (by unfold pz_mid; omega) (by omega) (by unfold pz_iok; omega)
                      have hI : pz_ic M175 := hS.1.1 hI0
                      exact L176 _ _ _ _ hS (by omega) (by omega) (by omega) (by omega) (by omega)
                  · skip
                    refine And.intro (fun h111 => ?_) (fun h111 => ?_)
                    · skip
                      exact L176 _ _ _ _ hS (by omega) (by omega) (by omega) (by omega) (by omega)
                    · skip
                      intro r115 e115 k115
                      have R115 := pz_kdA k115 (by decide) (by decide)
                      have Q115 := pz_nm e115 k_g.1 (by decide) (by decide) rfl
                      intro v121 e121 a121 b121
                      try rw [pz_wi (by omega) (by omega)] at e121
                      intro r124 e124 k124
                      have R124 := pz_kdA k124 (by decide) (by decide)
                      have Q124 := pz_nm e124 k_g.1 (by decide) (by decide) rfl
                      intro v130 e130 a130 b130
                      try rw [pz_wi (by omega) (by omega)] at e130
                      refine And.intro (by omega) (And.intro (show _ < (64 : Int) from by omega) ?_)
                      intro v131 e131 a131 b131
                      intro v132 e132 a132 b132
                      try rw [pz_wi (by omega) (by omega)] at e132
                      refine And.intro (by omega) (And.intro (show _ < (64 : Int) from by omega) ?_)
                      intro M133 e133
                      have hS : pz_st M M133 := by
                        rw [e133]
                        exact pz_st_u hS (by unfold pz_mid; omega) (by omega) (by unfold pz_iok; omega)
                      have hI : pz_ic M133 := hS.1.1 hI0
                      exact L176 _ _ _ _ hS (by omega) (by omega) (by omega) (by omega) (by omega)
                · skip
                  refine And.intro (fun h53 => ?_) (fun h53 => ?_)
                  · skip
                    refine And.intro (fun h106 => ?_) (fun h106 => ?_)
                    · skip
                      refine And.intro (fun h140 => ?_) (fun h140 => ?_)
                      · skip
                        exact L176 _ _ _ _ hS (by omega) (by omega) (by omega) (by omega) (by omega)
                      · skip
                        intro v143 e143 a143 b143
                        try rw [pz_wi (by omega) (by omega)] at e143
                        intro r147 e147 k147
                        have R147 := pz_kdA k147 (by decide) (by decide)
                        have Q147 := pz_nm e147 k_g.1 (by decide) (by decide) rfl
                        intro v153 e153 a153 b153
                        try rw [pz_wi (by omega) (by omega)] at e153
                        intro r157 e157 k157
                        have R157 := pz_kdA k157 (by decide) (by decide)
                        have Q157 := pz_nm e157 k_g.1 (by decide) (by decide) rfl
                        intro v163 e163 a163 b163
                        try rw [pz_wi (by omega) (by omega)] at e163
                        refine And.intro (by omega) (And.intro (show _ < (64 : Int) from by omega) ?_)
                        intro v164 e164 a164 b164
                        intro r166 e166 k166
                        have R166 := pz_kdA k166 (by decide) (by decide)
                        have Q166 := pz_nm e166 k_g.1 (by decide) (by decide) rfl
                        refine And.intro (by omega) (And.intro (show _ < (64 : Int) from by omega) ?_)
                        intro v171 e171 a171 b171
                        refine And.intro (True.intro) ?_
                        intro v172 M172 a172 b172 q172
                        obtain ⟨q172, z172⟩ := q172
                        subst z172
                        refine And.intro (by omega) (And.intro (show _ < (64 : Int) from by omega) ?_)
                        intro M175 e175
                        have hS : pz_st M M175 := by
                          rw [e175]
                          exact pz_st_u hS (by unfold pz_mid; omega) (by omega) (by unfold pz_iok; omega)
                        have hI : pz_ic M175 := hS.1.1 hI0
                        exact L176 _ _ _ _ hS (by omega) (by omega) (by omega) (by omega) (by omega)
                    · skip
                      refine And.intro (fun h111 => ?_) (fun h111 => ?_)
                      · skip
                        exact L176 _ _ _ _ hS (by omega) (by omega) (by omega) (by omega) (by omega)
                      · skip
                        intro r115 e115 k115
                        have R115 := pz_kdA k115 (by decide) (by decide)
                        have Q115 := pz_nm e115 k_g.1 (by decide) (by decide) rfl
                        intro v121 e121 a121 b121
                        try rw [pz_wi (by omega) (by omega)] at e121
                        intro r124 e124 k124
                        have R124 := pz_kdA k124 (by decide) (by decide)
                        have Q124 := pz_nm e124 k_g.1 (by decide) (by decide) rfl
                        intro v130 e130 a130 b130
                        try rw [pz_wi (by omega) (by omega)] at e130
                        refine And.intro (by omega) (And.intro (show _ < (64 : Int) from by omega) ?_)
                        intro v131 e131 a131 b131
                        intro v132 e132 a132 b132
                        try rw [pz_wi (by omega) (by omega)] at e132
                        refine And.intro (by omega) (And.intro (show _ < (64 : Int) from by omega) ?_)
                        intro M133 e133
                        have hS : pz_st M M133 := by
                          rw [e133]
                          exact pz_st_u hS (by unfold pz_mid; omega) (by omega) (by unfold pz_iok; omega)
                        have hI : pz_ic M133 := hS.1.1 hI0
                        exact L176 _ _ _ _ hS (by omega) (by omega) (by omega) (by omega) (by omega)
                  · skip
                    intro r59 e59 k59
                    have R59 := pz_kdA k59 (by decide) (by decide)
                    have Q59 := pz_nm e59 k_g.1 (by decide) (by decide) rfl
                    refine And.intro (fun h63 => ?_) (fun h63 => ?_)
                    · skip
                      exact L176 _ _ _ _ hS (by omega) (by omega) (by omega) (by omega) (by omega)
                    · skip
                      intro r67 e67 k67
                      have R67 := pz_kdA k67 (by decide) (by decide)
                      have Q67 := pz_nm e67 k_g.1 (by decide) (by decide) rfl
                      refine And.intro (fun h74 => ?_) (fun h74 => ?_)
                      · skip
                        refine And.intro (hI) ?_
                        intro v92 M92 a92 b92 q92
                        obtain ⟨q92, z92⟩ := q92
                        subst z92
                        refine And.intro (by omega) (And.intro (show _ < (64 : Int) from by omega) ?_)
                        intro M95 e95
                        have hS : pz_st M M95 := by
                          rw [e95]
                          exact pz_st_u hS (by unfold pz_mid; omega) (by omega) (by unfold pz_iok; omega)
                        have hI : pz_ic M95 := hS.1.1 hI0
                        intro v96 e96 a96 b96
                        try rw [pz_wi (by omega) (by omega)] at e96
                        exact L176 _ _ _ _ hS (by omega) (by omega) (by omega) (by omega) (by omega)
                      · skip
                        intro r78 e78 k78
                        have R78 := pz_kdA k78 (by decide) (by decide)
                        have Q78 := pz_nm e78 k_g.1 (by decide) (by decide) rfl
                        refine And.intro (by omega) (And.intro (show _ < (400 : Int) from by omega) ?_)
                        intro v83 e83 a83 b83
                        refine And.intro (by omega) (And.intro (show _ < (64 : Int) from by omega) ?_)
                        intro M95 e95
                        have hS : pz_st M M95 := by
                          rw [e95]
                          exact pz_st_u hS (by unfold pz_mid; omega) (by omega) (by unfold pz_iok; omega)
                        have hI : pz_ic M95 := hS.1.1 hI0
                        intro v96 e96 a96 b96
                        try rw [pz_wi (by omega) (by omega)] at e96
                        exact L176 _ _ _ _ hS (by omega) (by omega) (by omega) (by omega) (by omega)
    refine hgo (fun p => Nat.beq p 6 || Nat.beq p 176 || Nat.beq p 182) 107 0 _ [] M ?_
    exact L6 _ _ _ _ _ (Nat.lt_succ_self _) hS (by omega) (by omega)
theorem v_X3_worked {fr lo i : Nat} {own : String} (h1 : 2 + 1 ≤ fr) (h2 : 8 + (8 + 11) + 45 ≤ lo) (h3 : .methodLink own i yX3_worked ∈ lw_tbl) : pz_cV fr lo own i k_X3_worked :=
  pz_cVk (maxL := 8) (fr' := 2) (lo' := 45) 4 3 h_X3_worked rfl ⟨by decide +kernel, by decide +kernel, by decide +kernel⟩ ⟨by decide +kernel, by decide +kernel, by decide +kernel, by decide +kernel⟩ (Or.inl ⟨TX3, 8, rfl⟩) (fun a M _ h => by
    have h : (match (generalizing := false) a with | [.inr (.inr (3, g)), .inl p, .inl q, .inr (.inr (0, c)), .inl i] => pz_ic M | _ => False) := h
    split at h
    · exact ⟨_, _, rfl⟩
    · exact h.elim) h1 h2 h3
def k_X3_tells : pz_C := (4, 1, fun a M => (match a with | [.inr (.inr (3, g)), .inl w, .inr (.inr (0, c)), .inl i] => pz_ic M | _ => False), fun a M r M' => (match a, r with | [.inr (.inr (3, g)), .inl w, .inr (.inr (0, c)), .inl i], some (.inl v) => (0 ≤ v ∧ v ≤ 1000) ∧ pz_st M M' | _, _ => False))
abbrev ct_X3_tells : List (Bool × Nat × pz_C) := [(true, 43, k_X3_worked), (false, 47, k_X3_held), (true, 51, k_X0_at), (false, 57, k_X3_untold)]
set_option maxRecDepth 100000 in
set_option maxHeartbeats 4000000 in
theorem h_X3_tells : pz_H yX3_tells cX3_tells 6 (some .int) k_X3_tells 3 72 := by
  refine pz_mk (own := RX3) (tb := t_X3_tells) (fl := pz_flf fl_RX3) (ci := fun _ => none) (ct := pz_ctf ct_X3_tells) (rz := false) (by decide +kernel) rfl t_X3_tells_ok (pz_flk fl_RX3_ok) (fun i v h => by cases h) ?_ ?_ (Or.inl ⟨rfl, rfl⟩) ?_ ?_
  · exact fun i k' h => pz_ctk (l := ct_X3_tells) (P := fun b i k => b = true → pz_cV 3 72 RX3 i k) (List.forall_mem_cons.mpr ⟨(fun _ => v_X3_worked (by decide) (by decide) (by decide +kernel)), List.forall_mem_cons.mpr ⟨((fun z => by cases z)), List.forall_mem_cons.mpr ⟨(fun _ => v_X0_at (by decide) (by decide) (by decide +kernel)), List.forall_mem_cons.mpr ⟨((fun z => by cases z)), fun _ h => absurd h List.not_mem_nil⟩⟩⟩⟩) true i k' h rfl
  · exact fun i k' h => pz_ctk (l := ct_X3_tells) (P := fun b i k => b = false → (pz_cS 3 72 RX3 i k ∨ (k = pz_kac ∧ 1 ≤ 3 ∧ 60 ≤ 72 ∧ Cond.methodLink RX3 i arraycopyName ∈ pz_tbl))) (List.forall_mem_cons.mpr ⟨((fun z => by cases z)), List.forall_mem_cons.mpr ⟨(fun _ => Or.inl (s_X3_held (by decide) (by decide) (Or.inl (by decide +kernel)))), List.forall_mem_cons.mpr ⟨((fun z => by cases z)), List.forall_mem_cons.mpr ⟨(fun _ => Or.inl (s_X3_untold (by decide) (by decide) (Or.inl (by decide +kernel)))), fun _ h => absurd h List.not_mem_nil⟩⟩⟩⟩) false i k' h rfl
  · intro a M hlen hpre
    obtain ⟨g, w, c, i, rfl, hpre⟩ : ∃ g w c i, a = [.inr (.inr (3, g)), .inl w, .inr (.inr (0, c)), .inl i] ∧ (pz_ic M) := by
      have hpre : (match (generalizing := false) a with | [.inr (.inr (3, g)), .inl w, .inr (.inr (0, c)), .inl i] => pz_ic M | _ => False) := hpre
      split at hpre
      · exact ⟨_, _, _, _, rfl, hpre⟩
      · exact hpre.elim
    exact Nat.le_of_ble_eq_true rfl
  · intro a M hlen hcan hM hpre Ok hgo
    obtain ⟨g, w, c, i, rfl, hpre⟩ : ∃ g w c i, a = [.inr (.inr (3, g)), .inl w, .inr (.inr (0, c)), .inl i] ∧ (pz_ic M) := by
      have hpre : (match (generalizing := false) a with | [.inr (.inr (3, g)), .inl w, .inr (.inr (0, c)), .inl i] => pz_ic M | _ => False) := hpre
      split at hpre
      · exact ⟨_, _, _, _, rfl, hpre⟩
      · exact hpre.elim
    obtain ⟨k_g, hcan⟩ := pz_tlm hcan
    have k_g : pz_kd g = 3 ∧ g < 231 := k_g
    have R_g := pz_kd3 k_g.1
    obtain ⟨k_w, hcan⟩ := pz_tlm hcan
    have l_w : -2147483648 ≤ w := k_w.1
    have u_w : w ≤ 2147483647 := k_w.2
    obtain ⟨k_c, hcan⟩ := pz_tlm hcan
    have k_c : pz_kd c = 0 ∧ c < 231 := k_c
    have R_c := pz_kd0 k_c.1
    obtain ⟨k_i, hcan⟩ := pz_tlm hcan
    have l_i : -2147483648 ≤ i := k_i.1
    have u_i : i ≤ 2147483647 := k_i.2
    have hI : pz_ic M := hpre
    have hI0 := hI
    have hS : pz_st M M := pz_st.rf
    have L3 : ∀ (fu : Nat) (x4 : Int) (d5 : Option pz_V) (N3 : pz_M), (16 - x4).toNat < fu → (pz_st M N3) → (0 ≤ x4) → Ok 3 [some (.inr (.inr (3, g))), some (.inl w), some (.inr (.inr (0, c))), some (.inl i), some (.inl x4), d5] [] N3 := by
      intro fu
      induction fu with
      | zero => exact fun _ _ _ hn => absurd hn (Nat.not_lt_zero _)
      | succ fu ih3 =>
        intro x4 d5 N3 hn3 hS g3_1
        have hI : pz_ic N3 := hS.1.1 hI0
        have L107 : ∀ (x4 : Int) (x5 : Int) (N107 : pz_M), (pz_st M N107) → (0 ≤ x4) → (x4 < 16) → ((16 - x4).toNat < fu + 1) → Ok 107 [some (.inr (.inr (3, g))), some (.inl w), some (.inr (.inr (0, c))), some (.inl i), some (.inl x4), some (.inl x5)] [] N107 := by
          intro x4 x5 N107 hS g107_1 g107_2 g107_3
          have hI : pz_ic N107 := hS.1.1 hI0
          refine hgo (fun p => Nat.beq p 3 || Nat.beq p 107) 70 107 _ _ _ ?_
          intro v107 e107 a107 b107
          try rw [pz_wi (by omega) (by omega)] at e107
          exact ih3 _ _ _ (by omega) hS (by omega)
        refine hgo (fun p => Nat.beq p 3 || Nat.beq p 107) 70 3 _ _ _ ?_
        intro v6 e6 a6 b6
        have I6 := hI.2.2.2.1 g (by omega) (by omega)
        refine And.intro (fun h9 => ?_) (fun h9 => ?_)
        · skip
          refine And.intro (True.intro) ?_
          intro r117 M117 k117 q117
          have R117 := pz_kd5 k117
          obtain ⟨q117, z117⟩ := q117
          subst z117
          refine And.intro (True.intro) ?_
          intro v120 M120 a120 b120 q120
          obtain ⟨q120, z120⟩ := q120
          subst z120
          refine And.intro (True.intro) ?_
          intro v123 M123 a123 b123 q123
          obtain ⟨q123, z123⟩ := q123
          subst z123
          refine And.intro rfl ?_
          exact ⟨by omega, hS⟩
        · skip
          refine And.intro (fun h16 => ?_) (fun h16 => ?_)
          · skip
            refine And.intro (True.intro) ?_
            intro r117 M117 k117 q117
            have R117 := pz_kd5 k117
            obtain ⟨q117, z117⟩ := q117
            subst z117
            refine And.intro (True.intro) ?_
            intro v120 M120 a120 b120 q120
            obtain ⟨q120, z120⟩ := q120
            subst z120
            refine And.intro (True.intro) ?_
            intro v123 M123 a123 b123 q123
            obtain ⟨q123, z123⟩ := q123
            subst z123
            refine And.intro rfl ?_
            exact ⟨by omega, hS⟩
          · skip
            intro r20 e20 k20
            have R20 := pz_kdA k20 (by decide) (by decide)
            have Q20 := pz_nm e20 k_g.1 (by decide) (by decide) rfl
            refine And.intro (by omega) (And.intro (show _ < (16 : Int) from by omega) ?_)
            intro v25 e25 a25 b25
            intro r27 e27 k27
            have R27 := pz_kdA k27 (by decide) (by decide)
            have Q27 := pz_nm e27 k_g.1 (by decide) (by decide) rfl
            refine And.intro (by omega) (And.intro (show _ < (16 : Int) from by omega) ?_)
            intro v32 e32 a32 b32
            refine And.intro (fun h33 => ?_) (fun h33 => ?_)
            · skip
              intro r44 e44 k44
              have R44 := pz_kdA k44 (by decide) (by decide)
              have Q44 := pz_nm e44 k_g.1 (by decide) (by decide) rfl
              refine And.intro (by omega) (And.intro (show _ < (16 : Int) from by omega) ?_)
              intro v49 e49 a49 b49
              refine And.intro (fun h51 => ?_) (fun h51 => ?_)
              · skip
                exact L107 _ _ _ hS (by omega) (by omega) (by omega)
              · skip
                refine And.intro (fun h56 => ?_) (fun h56 => ?_)
                · skip
                  intro r85 e85 k85
                  have R85 := pz_kdA k85 (by decide) (by decide)
                  have Q85 := pz_nm e85 k_g.1 (by decide) (by decide) rfl
                  refine And.intro (by omega) (And.intro (show _ < (16 : Int) from by omega) ?_)
                  intro v90 e90 a90 b90
                  intro r92 e92 k92
                  have R92 := pz_kdA k92 (by decide) (by decide)
                  have Q92 := pz_nm e92 k_g.1 (by decide) (by decide) rfl
                  refine And.intro (by omega) (And.intro (show _ < (16 : Int) from by omega) ?_)
                  intro v97 e97 a97 b97
                  refine And.intro (hI) ?_
                  intro v100 M100 a100 b100 q100
                  obtain ⟨q100, z100⟩ := q100
                  have hS : pz_st M M100 := hS.tr z100
                  have hI : pz_ic M100 := hS.1.1 hI0
                  refine And.intro (True.intro) ?_
                  intro v103 M103 a103 b103 q103
                  obtain ⟨q103, z103⟩ := q103
                  subst z103
                  refine And.intro rfl ?_
                  exact ⟨by omega, hS⟩
                · skip
                  intro r61 e61 k61
                  have R61 := pz_kdA k61 (by decide) (by decide)
                  have Q61 := pz_nm e61 k_g.1 (by decide) (by decide) rfl
                  refine And.intro (by omega) (And.intro (show _ < (16 : Int) from by omega) ?_)
                  intro v66 e66 a66 b66
                  intro r68 e68 k68
                  have R68 := pz_kdA k68 (by decide) (by decide)
                  have Q68 := pz_nm e68 k_g.1 (by decide) (by decide) rfl
                  refine And.intro (by omega) (And.intro (show _ < (16 : Int) from by omega) ?_)
                  intro v73 e73 a73 b73
                  refine And.intro (hI) ?_
                  intro v76 M76 a76 b76 q76
                  obtain ⟨q76, z76⟩ := q76
                  have hS : pz_st M M76 := hS.tr z76
                  have hI : pz_ic M76 := hS.1.1 hI0
                  refine And.intro (fun h79 => ?_) (fun h79 => ?_)
                  · skip
                    exact L107 _ _ _ hS (by omega) (by omega) (by omega)
                  · skip
                    intro r85 e85 k85
                    have R85 := pz_kdA k85 (by decide) (by decide)
                    have Q85 := pz_nm e85 k_g.1 (by decide) (by decide) rfl
                    refine And.intro (by omega) (And.intro (show _ < (16 : Int) from by omega) ?_)
                    intro v90 e90 a90 b90
                    intro r92 e92 k92
                    have R92 := pz_kdA k92 (by decide) (by decide)
                    have Q92 := pz_nm e92 k_g.1 (by decide) (by decide) rfl
                    refine And.intro (by omega) (And.intro (show _ < (16 : Int) from by omega) ?_)
                    intro v97 e97 a97 b97
                    refine And.intro (hI) ?_
                    intro v100 M100 a100 b100 q100
                    obtain ⟨q100, z100⟩ := q100
                    have hS : pz_st M M100 := hS.tr z100
                    have hI : pz_ic M100 := hS.1.1 hI0
                    refine And.intro (True.intro) ?_
                    intro v103 M103 a103 b103 q103
                    obtain ⟨q103, z103⟩ := q103
                    subst z103
                    refine And.intro rfl ?_
                    exact ⟨by omega, hS⟩
            · skip
              intro r44 e44 k44
              have R44 := pz_kdA k44 (by decide) (by decide)
              have Q44 := pz_nm e44 k_g.1 (by decide) (by decide) rfl
              refine And.intro (by omega) (And.intro (show _ < (16 : Int) from by omega) ?_)
              intro v49 e49 a49 b49
              refine And.intro (fun h51 => ?_) (fun h51 => ?_)
              · skip
                exact L107 _ _ _ hS (by omega) (by omega) (by omega)
              · skip
                refine And.intro (fun h56 => ?_) (fun h56 => ?_)
                · skip
                  intro r85 e85 k85
                  have R85 := pz_kdA k85 (by decide) (by decide)
                  have Q85 := pz_nm e85 k_g.1 (by decide) (by decide) rfl
                  refine And.intro (by omega) (And.intro (show _ < (16 : Int) from by omega) ?_)
                  intro v90 e90 a90 b90
                  intro r92 e92 k92
                  have R92 := pz_kdA k92 (by decide) (by decide)
                  have Q92 := pz_nm e92 k_g.1 (by decide) (by decide) rfl
                  refine And.intro (by omega) (And.intro (show _ < (16 : Int) from by omega) ?_)
                  intro v97 e97 a97 b97
                  refine And.intro (hI) ?_
                  intro v100 M100 a100 b100 q100
                  obtain ⟨q100, z100⟩ := q100
                  have hS : pz_st M M100 := hS.tr z100
                  have hI : pz_ic M100 := hS.1.1 hI0
                  refine And.intro (True.intro) ?_
                  intro v103 M103 a103 b103 q103
                  obtain ⟨q103, z103⟩ := q103
                  subst z103
                  refine And.intro rfl ?_
                  exact ⟨by omega, hS⟩
                · skip
                  intro r61 e61 k61
                  have R61 := pz_kdA k61 (by decide) (by decide)
                  have Q61 := pz_nm e61 k_g.1 (by decide) (by decide) rfl
                  refine And.intro (by omega) (And.intro (show _ < (16 : Int) from by omega) ?_)
                  intro v66 e66 a66 b66
                  intro r68 e68 k68
                  have R68 := pz_kdA k68 (by decide) (by decide)
                  have Q68 := pz_nm e68 k_g.1 (by decide) (by decide) rfl
                  refine And.intro (by omega) (And.intro (show _ < (16 : Int) from by omega) ?_)
                  intro v73 e73 a73 b73
                  refine And.intro (hI) ?_
                  intro v76 M76 a76 b76 q76
                  obtain ⟨q76, z76⟩ := q76
                  have hS : pz_st M M76 := hS.tr z76
                  have hI : pz_ic M76 := hS.1.1 hI0
                  refine And.intro (fun h79 => ?_) (fun h79 => ?_)
                  · skip
                    exact L107 _ _ _ hS (by omega) (by omega) (by omega)
                  · skip
                    intro r85 e85 k85
                    have R85 := pz_kdA k85 (by decide) (by decide)
                    have Q85 := pz_nm e85 k_g.1 (by decide) (by decide) rfl
                    refine And.intro (by omega) (And.intro (show _ < (16 : Int) from by omega) ?_)
                    intro v90 e90 a90 b90
                    intro r92 e92 k92
                    have R92 := pz_kdA k92 (by decide) (by decide)
                    have Q92 := pz_nm e92 k_g.1 (by decide) (by decide) rfl
                    refine And.intro (by omega) (And.intro (show _ < (16 : Int) from by omega) ?_)
                    intro v97 e97 a97 b97
                    refine And.intro (hI) ?_
                    intro v100 M100 a100 b100 q100
                    obtain ⟨q100, z100⟩ := q100
                    have hS : pz_st M M100 := hS.tr z100
                    have hI : pz_ic M100 := hS.1.1 hI0
                    refine And.intro (True.intro) ?_
                    intro v103 M103 a103 b103 q103
                    obtain ⟨q103, z103⟩ := q103
                    subst z103
                    refine And.intro rfl ?_
                    exact ⟨by omega, hS⟩
    refine hgo (fun p => Nat.beq p 3 || Nat.beq p 107) 70 0 _ [] M ?_
    exact L3 _ _ _ _ (Nat.lt_succ_self _) hS (by omega)
theorem v_X3_tells {fr lo i : Nat} {own : String} (h1 : 3 + 1 ≤ fr) (h2 : 8 + (6 + 11) + 72 ≤ lo) (h3 : .methodLink own i yX3_tells ∈ lw_tbl) : pz_cV fr lo own i k_X3_tells :=
  pz_cVk (maxL := 6) (fr' := 3) (lo' := 72) 3 3 h_X3_tells rfl ⟨by decide +kernel, by decide +kernel, by decide +kernel⟩ ⟨by decide +kernel, by decide +kernel, by decide +kernel, by decide +kernel⟩ (Or.inl ⟨TX3, 8, rfl⟩) (fun a M _ h => by
    have h : (match (generalizing := false) a with | [.inr (.inr (3, g)), .inl w, .inr (.inr (0, c)), .inl i] => pz_ic M | _ => False) := h
    split at h
    · exact ⟨_, _, rfl⟩
    · exact h.elim) h1 h2 h3
end
section
def k_X7_isLetter : pz_C := (1, 1, fun a M => (match a with | [.inl x] => True | _ => False), fun a M r M' => (match a, r with | [.inl x], some (.inl v) => (v = 0 ∨ v = 1) ∧ M = M' | _, _ => False))
abbrev ct_X7_isLetter : List (Bool × Nat × pz_C) := []
set_option maxRecDepth 100000 in
set_option maxHeartbeats 4000000 in
theorem h_X7_isLetter : pz_H yX7_isLetter cX7_isLetter 1 (some .boolean) k_X7_isLetter 0 0 := by
  refine pz_mk (own := RX7) (tb := t_X7_isLetter) (fl := pz_flf fl_RX7) (ci := pz_cif ci_RX7) (ct := pz_ctf ct_X7_isLetter) (rz := true) (by decide +kernel) rfl t_X7_isLetter_ok (pz_flk fl_RX7_ok) (pz_cik ci_RX7_ok) ?_ ?_ (Or.inr ⟨rfl, rfl⟩) ?_ ?_
  · exact fun i k' h => pz_ctk (l := ct_X7_isLetter) (P := fun b i k => b = true → pz_cV 0 0 RX7 i k) (fun _ h => absurd h List.not_mem_nil) true i k' h rfl
  · exact fun i k' h => pz_ctk (l := ct_X7_isLetter) (P := fun b i k => b = false → (pz_cS 0 0 RX7 i k ∨ (k = pz_kac ∧ 1 ≤ 0 ∧ 60 ≤ 0 ∧ Cond.methodLink RX7 i arraycopyName ∈ pz_tbl))) (fun _ h => absurd h List.not_mem_nil) false i k' h rfl
  · intro a M hlen hpre
    obtain ⟨x, rfl, hpre⟩ : ∃ x, a = [.inl x] ∧ (True) := by
      have hpre : (match (generalizing := false) a with | [.inl x] => True | _ => False) := hpre
      split at hpre
      · exact ⟨_, rfl, hpre⟩
      · exact hpre.elim
    exact Nat.le_of_ble_eq_true rfl
  · intro a M hlen hcan hM hpre Ok hgo
    obtain ⟨x, rfl, hpre⟩ : ∃ x, a = [.inl x] ∧ (True) := by
      have hpre : (match (generalizing := false) a with | [.inl x] => True | _ => False) := hpre
      split at hpre
      · exact ⟨_, rfl, hpre⟩
      · exact hpre.elim
    obtain ⟨k_x, hcan⟩ := pz_tlm hcan
    have l_x : -2147483648 ≤ x := k_x.1
    have u_x : x ≤ 2147483647 := k_x.2
    refine hgo (fun _ => false) 18 0 _ [] M ?_
    refine And.intro (fun h3 => ?_) (fun h3 => ?_)
    · skip
      refine And.intro (fun h15 => ?_) (fun h15 => ?_)
      · skip
        refine And.intro (by omega) ?_
        refine And.intro rfl ?_
        exact ⟨by omega, rfl⟩
      · skip
        refine And.intro (fun h21 => ?_) (fun h21 => ?_)
        · skip
          refine And.intro (by omega) ?_
          refine And.intro rfl ?_
          exact ⟨by omega, rfl⟩
        · skip
          refine And.intro (by omega) ?_
          refine And.intro rfl ?_
          exact ⟨by omega, rfl⟩
    · skip
      refine And.intro (fun h9 => ?_) (fun h9 => ?_)
      · skip
        refine And.intro (by omega) ?_
        refine And.intro rfl ?_
        exact ⟨by omega, rfl⟩
      · skip
        refine And.intro (fun h15 => ?_) (fun h15 => ?_)
        · skip
          refine And.intro (by omega) ?_
          refine And.intro rfl ?_
          exact ⟨by omega, rfl⟩
        · skip
          refine And.intro (fun h21 => ?_) (fun h21 => ?_)
          · skip
            refine And.intro (by omega) ?_
            refine And.intro rfl ?_
            exact ⟨by omega, rfl⟩
          · skip
            refine And.intro (by omega) ?_
            refine And.intro rfl ?_
            exact ⟨by omega, rfl⟩
theorem s_X7_isLetter {fr lo i : Nat} {own : String} (h1 : 0 + 1 ≤ fr) (h2 : 8 + (1 + 11) + 0 ≤ lo) (h3 : .methodLink own i yX7_isLetter ∈ lw_tbl ∨ (own = RX1 ∧ i = 35 ∧ yX7_isLetter = yX11_within)) : pz_cS fr lo own i k_X7_isLetter := pz_cSk (maxL := 1) (fr' := 0) (lo' := 0) 1 h_X7_isLetter rfl ⟨by decide +kernel, by decide +kernel, by decide +kernel⟩ ⟨by decide +kernel, by decide +kernel, by decide +kernel⟩ h1 h2 h3
def k_X7_isDigit : pz_C := (1, 1, fun a M => (match a with | [.inl x] => True | _ => False), fun a M r M' => (match a, r with | [.inl x], some (.inl v) => (v = 0 ∨ v = 1) ∧ M = M' | _, _ => False))
abbrev ct_X7_isDigit : List (Bool × Nat × pz_C) := []
set_option maxRecDepth 100000 in
set_option maxHeartbeats 4000000 in
theorem h_X7_isDigit : pz_H yX7_isDigit cX7_isDigit 1 (some .boolean) k_X7_isDigit 0 0 := by
  refine pz_mk (own := RX7) (tb := t_X7_isDigit) (fl := pz_flf fl_RX7) (ci := pz_cif ci_RX7) (ct := pz_ctf ct_X7_isDigit) (rz := true) (by decide +kernel) rfl t_X7_isDigit_ok (pz_flk fl_RX7_ok) (pz_cik ci_RX7_ok) ?_ ?_ (Or.inr ⟨rfl, rfl⟩) ?_ ?_
  · exact fun i k' h => pz_ctk (l := ct_X7_isDigit) (P := fun b i k => b = true → pz_cV 0 0 RX7 i k) (fun _ h => absurd h List.not_mem_nil) true i k' h rfl
  · exact fun i k' h => pz_ctk (l := ct_X7_isDigit) (P := fun b i k => b = false → (pz_cS 0 0 RX7 i k ∨ (k = pz_kac ∧ 1 ≤ 0 ∧ 60 ≤ 0 ∧ Cond.methodLink RX7 i arraycopyName ∈ pz_tbl))) (fun _ h => absurd h List.not_mem_nil) false i k' h rfl
  · intro a M hlen hpre
    obtain ⟨x, rfl, hpre⟩ : ∃ x, a = [.inl x] ∧ (True) := by
      have hpre : (match (generalizing := false) a with | [.inl x] => True | _ => False) := hpre
      split at hpre
      · exact ⟨_, rfl, hpre⟩
      · exact hpre.elim
    exact Nat.le_of_ble_eq_true rfl
  · intro a M hlen hcan hM hpre Ok hgo
    obtain ⟨x, rfl, hpre⟩ : ∃ x, a = [.inl x] ∧ (True) := by
      have hpre : (match (generalizing := false) a with | [.inl x] => True | _ => False) := hpre
      split at hpre
      · exact ⟨_, rfl, hpre⟩
      · exact hpre.elim
    obtain ⟨k_x, hcan⟩ := pz_tlm hcan
    have l_x : -2147483648 ≤ x := k_x.1
    have u_x : x ≤ 2147483647 := k_x.2
    refine hgo (fun _ => false) 12 0 _ [] M ?_
    refine And.intro (fun h3 => ?_) (fun h3 => ?_)
    · skip
      refine And.intro (by omega) ?_
      refine And.intro rfl ?_
      exact ⟨by omega, rfl⟩
    · skip
      refine And.intro (fun h9 => ?_) (fun h9 => ?_)
      · skip
        refine And.intro (by omega) ?_
        refine And.intro rfl ?_
        exact ⟨by omega, rfl⟩
      · skip
        refine And.intro (by omega) ?_
        refine And.intro rfl ?_
        exact ⟨by omega, rfl⟩
theorem s_X7_isDigit {fr lo i : Nat} {own : String} (h1 : 0 + 1 ≤ fr) (h2 : 8 + (1 + 11) + 0 ≤ lo) (h3 : .methodLink own i yX7_isDigit ∈ lw_tbl ∨ (own = RX1 ∧ i = 35 ∧ yX7_isDigit = yX11_within)) : pz_cS fr lo own i k_X7_isDigit := pz_cSk (maxL := 1) (fr' := 0) (lo' := 0) 1 h_X7_isDigit rfl ⟨by decide +kernel, by decide +kernel, by decide +kernel⟩ ⟨by decide +kernel, by decide +kernel, by decide +kernel⟩ h1 h2 h3
def k_X7_isSign : pz_C := (1, 1, fun a M => (match a with | [.inl x] => True | _ => False), fun a M r M' => (match a, r with | [.inl x], some (.inl v) => (v = 0 ∨ v = 1) ∧ M = M' | _, _ => False))
abbrev ct_X7_isSign : List (Bool × Nat × pz_C) := []
set_option maxRecDepth 100000 in
set_option maxHeartbeats 4000000 in
theorem h_X7_isSign : pz_H yX7_isSign cX7_isSign 1 (some .boolean) k_X7_isSign 0 0 := by
  refine pz_mk (own := RX7) (tb := t_X7_isSign) (fl := pz_flf fl_RX7) (ci := pz_cif ci_RX7) (ct := pz_ctf ct_X7_isSign) (rz := true) (by decide +kernel) rfl t_X7_isSign_ok (pz_flk fl_RX7_ok) (pz_cik ci_RX7_ok) ?_ ?_ (Or.inr ⟨rfl, rfl⟩) ?_ ?_
  · exact fun i k' h => pz_ctk (l := ct_X7_isSign) (P := fun b i k => b = true → pz_cV 0 0 RX7 i k) (fun _ h => absurd h List.not_mem_nil) true i k' h rfl
  · exact fun i k' h => pz_ctk (l := ct_X7_isSign) (P := fun b i k => b = false → (pz_cS 0 0 RX7 i k ∨ (k = pz_kac ∧ 1 ≤ 0 ∧ 60 ≤ 0 ∧ Cond.methodLink RX7 i arraycopyName ∈ pz_tbl))) (fun _ h => absurd h List.not_mem_nil) false i k' h rfl
  · intro a M hlen hpre
    obtain ⟨x, rfl, hpre⟩ : ∃ x, a = [.inl x] ∧ (True) := by
      have hpre : (match (generalizing := false) a with | [.inl x] => True | _ => False) := hpre
      split at hpre
      · exact ⟨_, rfl, hpre⟩
      · exact hpre.elim
    exact Nat.le_of_ble_eq_true rfl
  · intro a M hlen hcan hM hpre Ok hgo
    obtain ⟨x, rfl, hpre⟩ : ∃ x, a = [.inl x] ∧ (True) := by
      have hpre : (match (generalizing := false) a with | [.inl x] => True | _ => False) := hpre
      split at hpre
      · exact ⟨_, rfl, hpre⟩
      · exact hpre.elim
    obtain ⟨k_x, hcan⟩ := pz_tlm hcan
    have l_x : -2147483648 ≤ x := k_x.1
    have u_x : x ≤ 2147483647 := k_x.2
    refine hgo (fun _ => false) 24 0 _ [] M ?_
    refine And.intro (fun h3 => ?_) (fun h3 => ?_)
    · skip
      refine And.intro (fun h15 => ?_) (fun h15 => ?_)
      · skip
        refine And.intro (by omega) ?_
        refine And.intro rfl ?_
        exact ⟨by omega, rfl⟩
      · skip
        refine And.intro (fun h21 => ?_) (fun h21 => ?_)
        · skip
          refine And.intro (by omega) ?_
          refine And.intro rfl ?_
          exact ⟨by omega, rfl⟩
        · skip
          refine And.intro (fun h27 => ?_) (fun h27 => ?_)
          · skip
            refine And.intro (by omega) ?_
            refine And.intro rfl ?_
            exact ⟨by omega, rfl⟩
          · skip
            refine And.intro (fun h33 => ?_) (fun h33 => ?_)
            · skip
              refine And.intro (by omega) ?_
              refine And.intro rfl ?_
              exact ⟨by omega, rfl⟩
            · skip
              refine And.intro (by omega) ?_
              refine And.intro rfl ?_
              exact ⟨by omega, rfl⟩
    · skip
      refine And.intro (fun h9 => ?_) (fun h9 => ?_)
      · skip
        refine And.intro (by omega) ?_
        refine And.intro rfl ?_
        exact ⟨by omega, rfl⟩
      · skip
        refine And.intro (fun h15 => ?_) (fun h15 => ?_)
        · skip
          refine And.intro (by omega) ?_
          refine And.intro rfl ?_
          exact ⟨by omega, rfl⟩
        · skip
          refine And.intro (fun h21 => ?_) (fun h21 => ?_)
          · skip
            refine And.intro (by omega) ?_
            refine And.intro rfl ?_
            exact ⟨by omega, rfl⟩
          · skip
            refine And.intro (fun h27 => ?_) (fun h27 => ?_)
            · skip
              refine And.intro (by omega) ?_
              refine And.intro rfl ?_
              exact ⟨by omega, rfl⟩
            · skip
              refine And.intro (fun h33 => ?_) (fun h33 => ?_)
              · skip
                refine And.intro (by omega) ?_
                refine And.intro rfl ?_
                exact ⟨by omega, rfl⟩
              · skip
                refine And.intro (by omega) ?_
                refine And.intro rfl ?_
                exact ⟨by omega, rfl⟩
theorem s_X7_isSign {fr lo i : Nat} {own : String} (h1 : 0 + 1 ≤ fr) (h2 : 8 + (1 + 11) + 0 ≤ lo) (h3 : .methodLink own i yX7_isSign ∈ lw_tbl ∨ (own = RX1 ∧ i = 35 ∧ yX7_isSign = yX11_within)) : pz_cS fr lo own i k_X7_isSign := pz_cSk (maxL := 1) (fr' := 0) (lo' := 0) 1 h_X7_isSign rfl ⟨by decide +kernel, by decide +kernel, by decide +kernel⟩ ⟨by decide +kernel, by decide +kernel, by decide +kernel⟩ h1 h2 h3
def k_X7_put : pz_C := (2, 0, fun a M => (match a with | [.inr (.inr (7, th)), .inl x] => pz_ic M | _ => False), fun a M r M' => (match a, r with | [.inr (.inr (7, th)), .inl x], none => (M' 4 1 = min (M 4 1 + 4) 400) ∧ pz_sy M M' | _, _ => False))
abbrev ct_X7_put : List (Bool × Nat × pz_C) := []
set_option maxRecDepth 100000 in
set_option maxHeartbeats 4000000 in
theorem h_X7_put : pz_H yX7_put cX7_put 3 none k_X7_put 0 0 := by
  refine pz_mk (own := RX7) (tb := t_X7_put) (fl := pz_flf fl_RX7) (ci := pz_cif ci_RX7) (ct := pz_ctf ct_X7_put) (rz := false) (by decide +kernel) rfl t_X7_put_ok (pz_flk fl_RX7_ok) (pz_cik ci_RX7_ok) ?_ ?_ (rfl) ?_ ?_
  · exact fun i k' h => pz_ctk (l := ct_X7_put) (P := fun b i k => b = true → pz_cV 0 0 RX7 i k) (fun _ h => absurd h List.not_mem_nil) true i k' h rfl
  · exact fun i k' h => pz_ctk (l := ct_X7_put) (P := fun b i k => b = false → (pz_cS 0 0 RX7 i k ∨ (k = pz_kac ∧ 1 ≤ 0 ∧ 60 ≤ 0 ∧ Cond.methodLink RX7 i arraycopyName ∈ pz_tbl))) (fun _ h => absurd h List.not_mem_nil) false i k' h rfl
  · intro a M hlen hpre
    obtain ⟨th, x, rfl, hpre⟩ : ∃ th x, a = [.inr (.inr (7, th)), .inl x] ∧ (pz_ic M) := by
      have hpre : (match (generalizing := false) a with | [.inr (.inr (7, th)), .inl x] => pz_ic M | _ => False) := hpre
      split at hpre
      · exact ⟨_, _, rfl, hpre⟩
      · exact hpre.elim
    exact Nat.le_of_ble_eq_true rfl
  · intro a M hlen hcan hM hpre Ok hgo
    obtain ⟨th, x, rfl, hpre⟩ : ∃ th x, a = [.inr (.inr (7, th)), .inl x] ∧ (pz_ic M) := by
      have hpre : (match (generalizing := false) a with | [.inr (.inr (7, th)), .inl x] => pz_ic M | _ => False) := hpre
      split at hpre
      · exact ⟨_, _, rfl, hpre⟩
      · exact hpre.elim
    obtain ⟨k_th, hcan⟩ := pz_tlm hcan
    have k_th : pz_kd th = 7 ∧ th < 231 := k_th
    have R_th := pz_kd7 k_th.1
    subst R_th
    obtain ⟨k_x, hcan⟩ := pz_tlm hcan
    have l_x : -2147483648 ≤ x := k_x.1
    have u_x : x ≤ 2147483647 := k_x.2
    have hI : pz_ic M := hpre
    have hI0 := hI
    have hS : pz_st M M := pz_st.rf
    have L3 : ∀ (fu : Nat) (x2 : Int) (N3 : pz_M), (x2 + 8).toNat < fu → (pz_sy M N3) → (-8 ≤ x2) → (x2 ≤ 24) → ((x2 + 8) % 8 = 0) → (N3 4 1 = min (M 4 1 + (24 - x2) / 8) 400) → Ok 3 [some (.inr (.inr (7, 4))), some (.inl x), some (.inl x2)] [] N3 := by
      intro fu
      induction fu with
      | zero => exact fun _ _ hn => absurd hn (Nat.not_lt_zero _)
      | succ fu ih3 =>
        intro x2 N3 hn3 hS g3_1 g3_2 g3_3 g3_4
        have hI : pz_ic N3 := hS.1 hI0
        have L40 : ∀ (x2 : Int) (N40 : pz_M), (pz_sy M N40) → (0 ≤ x2) → (x2 ≤ 24) → ((x2 + 8) % 8 = 0) → ((x2 + 8).toNat < fu + 1) → (N40 4 1 = min (M 4 1 + (32 - x2) / 8) 400) → Ok 40 [some (.inr (.inr (7, 4))), some (.inl x), some (.inl x2)] [] N40 := by
          intro x2 N40 hS g40_1 g40_2 g40_3 g40_4 g40_5
          have hI : pz_ic N40 := hS.1 hI0
          refine hgo (fun p => Nat.beq p 3 || Nat.beq p 40) 28 40 _ _ _ ?_
          intro v40 e40 a40 b40
          try rw [pz_wi (by omega) (by omega)] at e40
          exact ih3 _ _ (by omega) hS (by omega) (by omega) (by omega) (by omega)
        refine hgo (fun p => Nat.beq p 3 || Nat.beq p 40) 28 3 _ _ _ ?_
        refine And.intro (fun h4 => ?_) (fun h4 => ?_)
        · skip
          refine And.intro rfl ?_
          exact ⟨by omega, hS⟩
        · skip
          intro v8 e8 a8 b8
          have I8 := hI.2.2.2.2.1
          refine And.intro (fun h14 => ?_) (fun h14 => ?_)
          · skip
            exact L40 _ _ hS (by omega) (by omega) (by omega) (by omega) (by omega)
          · skip
            intro r18 e18 k18
            have R18 := pz_kdA k18 (by decide) (by decide)
            have Q18 := pz_nm e18 k_th.1 (by decide) (by decide) rfl
            intro v22 e22 a22 b22
            have I22 := hI.2.2.2.2.1
            intro v27 e27 a27 b27
            intro v28 e28 a28 b28
            have B28 := pz_i2b v27
            rw [← e28] at B28
            refine And.intro (by omega) (And.intro (show _ < (400 : Int) from by omega) (And.intro (by omega) (And.intro (by omega) ?_)))
            intro M29 e29
            have hS : pz_sy M M29 := by
              rw [e29]
              exact pz_sy_u hS (by unfold pz_mid; omega) (by unfold pz_iok; omega)
            have hI : pz_ic M29 := hS.1 hI0
            have T29_0 := pz_uve e29 4 1
            intro v32 e32 a32 b32
            have I32 := hI.2.2.2.2.1
            intro v36 e36 a36 b36
            try rw [pz_wi (by omega) (by omega)] at e36
            intro M37 e37
            have hS : pz_sy M M37 := by
              rw [e37]
              exact pz_sy_u hS (by unfold pz_mid; omega) (by unfold pz_iok; omega)
            have hI : pz_ic M37 := hS.1 hI0
            have T37_0 := pz_uve e37 4 1
            exact L40 _ _ hS (by omega) (by omega) (by omega) (by omega) (by omega)
    refine hgo (fun p => Nat.beq p 3 || Nat.beq p 40) 28 0 _ [] M ?_
    exact L3 _ _ _ (Nat.lt_succ_self _) hS (by omega) (by omega) (by omega) (by omega)
theorem v_X7_put {fr lo i : Nat} {own : String} (h1 : 0 + 1 ≤ fr) (h2 : 8 + (3 + 11) + 0 ≤ lo) (h3 : .methodLink own i yX7_put ∈ lw_tbl) : pz_cV fr lo own i k_X7_put :=
  pz_cVk (maxL := 3) (fr' := 0) (lo' := 0) 1 7 h_X7_put rfl ⟨by decide +kernel, by decide +kernel, by decide +kernel⟩ ⟨by decide +kernel, by decide +kernel, by decide +kernel, by decide +kernel⟩ (Or.inl ⟨TX7, 5, rfl⟩) (fun a M _ h => by
    have h : (match (generalizing := false) a with | [.inr (.inr (7, th)), .inl x] => pz_ic M | _ => False) := h
    split at h
    · exact ⟨_, _, rfl⟩
    · exact h.elim) h1 h2 h3
def k_X7_wordOf : pz_C := (3, 1, fun a M => (match a with | [.inr (.inr (7, th)), .inl p, .inl q] => pz_ic M ∧ 0 ≤ p ∧ q ≤ 400 | _ => False), fun a M r M' => (match a, r with | [.inr (.inr (7, th)), .inl p, .inl q], some (.inl v) => (True) ∧ M = M' | _, _ => False))
abbrev ct_X7_wordOf : List (Bool × Nat × pz_C) := [(true, 54, k_J0_length_8abf5), (true, 59, k_J0_charAt_5068e)]
set_option maxRecDepth 100000 in
set_option maxHeartbeats 4000000 in
theorem h_X7_wordOf : pz_H yX7_wordOf cX7_wordOf 8 (some .int) k_X7_wordOf 3 141 := by
  refine pz_mk (own := RX7) (tb := t_X7_wordOf) (fl := pz_flf fl_RX7) (ci := pz_cif ci_RX7) (ct := pz_ctf ct_X7_wordOf) (rz := false) (by decide +kernel) rfl t_X7_wordOf_ok (pz_flk fl_RX7_ok) (pz_cik ci_RX7_ok) ?_ ?_ (Or.inl ⟨rfl, rfl⟩) ?_ ?_
  · exact fun i k' h => pz_ctk (l := ct_X7_wordOf) (P := fun b i k => b = true → pz_cV 3 141 RX7 i k) (List.forall_mem_cons.mpr ⟨(fun _ => v_J0_length_8abf5 (by decide) (by decide) (by decide +kernel)), List.forall_mem_cons.mpr ⟨(fun _ => v_J0_charAt_5068e (by decide) (by decide) (by decide +kernel)), fun _ h => absurd h List.not_mem_nil⟩⟩) true i k' h rfl
  · exact fun i k' h => pz_ctk (l := ct_X7_wordOf) (P := fun b i k => b = false → (pz_cS 3 141 RX7 i k ∨ (k = pz_kac ∧ 1 ≤ 3 ∧ 60 ≤ 141 ∧ Cond.methodLink RX7 i arraycopyName ∈ pz_tbl))) (List.forall_mem_cons.mpr ⟨((fun z => by cases z)), List.forall_mem_cons.mpr ⟨((fun z => by cases z)), fun _ h => absurd h List.not_mem_nil⟩⟩) false i k' h rfl
  · intro a M hlen hpre
    obtain ⟨th, p, q, rfl, hpre⟩ : ∃ th p q, a = [.inr (.inr (7, th)), .inl p, .inl q] ∧ (pz_ic M ∧ 0 ≤ p ∧ q ≤ 400) := by
      have hpre : (match (generalizing := false) a with | [.inr (.inr (7, th)), .inl p, .inl q] => pz_ic M ∧ 0 ≤ p ∧ q ≤ 400 | _ => False) := hpre
      split at hpre
      · exact ⟨_, _, _, rfl, hpre⟩
      · exact hpre.elim
    exact Nat.le_of_ble_eq_true rfl
  · intro a M hlen hcan hM hpre Ok hgo
    obtain ⟨th, p, q, rfl, hpre⟩ : ∃ th p q, a = [.inr (.inr (7, th)), .inl p, .inl q] ∧ (pz_ic M ∧ 0 ≤ p ∧ q ≤ 400) := by
      have hpre : (match (generalizing := false) a with | [.inr (.inr (7, th)), .inl p, .inl q] => pz_ic M ∧ 0 ≤ p ∧ q ≤ 400 | _ => False) := hpre
      split at hpre
      · exact ⟨_, _, _, rfl, hpre⟩
      · exact hpre.elim
    obtain ⟨k_th, hcan⟩ := pz_tlm hcan
    have k_th : pz_kd th = 7 ∧ th < 231 := k_th
    have R_th := pz_kd7 k_th.1
    subst R_th
    obtain ⟨k_p, hcan⟩ := pz_tlm hcan
    have l_p : -2147483648 ≤ p := k_p.1
    have u_p : p ≤ 2147483647 := k_p.2
    obtain ⟨k_q, hcan⟩ := pz_tlm hcan
    have l_q : -2147483648 ≤ q := k_q.1
    have u_q : q ≤ 2147483647 := k_q.2
    have hI : pz_ic M := hpre.1
    have L11 : ∀ (fu : Nat) (x3 : Int) (x4 : Int) (x5 : Int) (x6 : Int) (d7 : Option pz_V), (122 - x6).toNat < fu → (0 ≤ x6) → (x6 ≤ 122) → (p ≤ x4) → (x4 ≤ p + x6) → (0 ≤ x3) → (x3 ≤ x6) → (p ≤ 1000000) → Ok 11 [some (.inr (.inr (7, 4))), some (.inl p), some (.inl q), some (.inl x3), some (.inl x4), some (.inl x5), some (.inl x6), d7] [] M := by
      intro fu
      induction fu with
      | zero => exact fun _ _ _ _ _ hn => absurd hn (Nat.not_lt_zero _)
      | succ fu ih11 =>
        intro x3 x4 x5 x6 d7 hn11 g11_0 g11_1 g11_2 g11_3 g11_4 g11_5 g11_6
        have L95 : ∀ (x3 : Int) (x4 : Int) (x5 : Int) (x6 : Int) (x7 : Int), (0 ≤ x6) → (x6 < 122) → (p ≤ x4) → (x4 ≤ p + x6 + 1) → (0 ≤ x3) → (x3 ≤ x6 + 1) → ((122 - x6).toNat < fu + 1) → Ok 95 [some (.inr (.inr (7, 4))), some (.inl p), some (.inl q), some (.inl x3), some (.inl x4), some (.inl x5), some (.inl x6), some (.inl x7)] [] M := by
          intro x3 x4 x5 x6 x7 g95_0 g95_1 g95_2 g95_3 g95_4 g95_5 g95_6
          refine hgo (fun p => Nat.beq p 11 || Nat.beq p 95) 54 95 _ _ _ ?_
          intro v95 e95 a95 b95
          try rw [pz_wi (by omega) (by omega)] at e95
          exact ih11 _ _ _ _ _ (by omega) (by omega) (by omega) (by omega) (by omega) (by omega) (by omega) (by omega)
        refine hgo (fun p => Nat.beq p 11 || Nat.beq p 95) 54 11 _ _ _ ?_
        refine And.intro (True.intro) ?_
        intro v15 M15 a15 b15 q15
        obtain ⟨q15, z15⟩ := q15
        subst z15
        have q15 : v15 = 122 := q15
        refine And.intro (fun h18 => ?_) (fun h18 => ?_)
        · skip
          refine And.intro rfl ?_
          exact ⟨trivial, rfl⟩
        · skip
          refine And.intro (And.intro (by omega) (show x6 < (122 : Int) from by omega)) ?_
          intro v25 M25 a25 b25 q25
          obtain ⟨q25, z25⟩ := q25
          subst z25
          refine And.intro (fun h34 => ?_) (fun h34 => ?_)
          · skip
            refine And.intro (fun h64 => ?_) (fun h64 => ?_)
            · skip
              intro v92 e92 a92 b92
              try rw [pz_wi (by omega) (by omega)] at e92
              exact L95 _ _ _ _ _ (by omega) (by omega) (by omega) (by omega) (by omega) (by omega) (by omega)
            · skip
              refine And.intro (fun h70 => ?_) (fun h70 => ?_)
              · skip
                intro v92 e92 a92 b92
                try rw [pz_wi (by omega) (by omega)] at e92
                exact L95 _ _ _ _ _ (by omega) (by omega) (by omega) (by omega) (by omega) (by omega) (by omega)
              · skip
                intro r74 e74 k74
                have R74 := pz_kdA k74 (by decide) (by decide)
                refine And.intro (by omega) (And.intro (show _ < (400 : Int) from by omega) ?_)
                intro v79 e79 a79 b79
                refine And.intro (fun h82 => ?_) (fun h82 => ?_)
                · skip
                  intro v92 e92 a92 b92
                  try rw [pz_wi (by omega) (by omega)] at e92
                  exact L95 _ _ _ _ _ (by omega) (by omega) (by omega) (by omega) (by omega) (by omega) (by omega)
                · skip
                  intro v92 e92 a92 b92
                  try rw [pz_wi (by omega) (by omega)] at e92
                  exact L95 _ _ _ _ _ (by omega) (by omega) (by omega) (by omega) (by omega) (by omega) (by omega)
          · skip
            refine And.intro (fun h39 => ?_) (fun h39 => ?_)
            · skip
              intro v50 e50 a50 b50
              try rw [pz_wi (by omega) (by omega)] at e50
              exact L95 _ _ _ _ _ (by omega) (by omega) (by omega) (by omega) (by omega) (by omega) (by omega)
            · skip
              refine And.intro (fun h45 => ?_) (fun h45 => ?_)
              · skip
                intro v50 e50 a50 b50
                try rw [pz_wi (by omega) (by omega)] at e50
                exact L95 _ _ _ _ _ (by omega) (by omega) (by omega) (by omega) (by omega) (by omega) (by omega)
              · skip
                refine And.intro rfl ?_
                exact ⟨trivial, rfl⟩
    refine hgo (fun p => Nat.beq p 11 || Nat.beq p 95) 54 0 _ [] M ?_
    exact L11 _ _ _ _ _ _ (Nat.lt_succ_self _) (by omega) (by omega) (by omega) (by omega) (by omega) (by omega) (by omega)
theorem v_X7_wordOf {fr lo i : Nat} {own : String} (h1 : 3 + 1 ≤ fr) (h2 : 8 + (8 + 11) + 141 ≤ lo) (h3 : .methodLink own i yX7_wordOf ∈ lw_tbl) : pz_cV fr lo own i k_X7_wordOf :=
  pz_cVk (maxL := 8) (fr' := 3) (lo' := 141) 2 7 h_X7_wordOf rfl ⟨by decide +kernel, by decide +kernel, by decide +kernel⟩ ⟨by decide +kernel, by decide +kernel, by decide +kernel, by decide +kernel⟩ (Or.inl ⟨TX7, 5, rfl⟩) (fun a M _ h => by
    have h : (match (generalizing := false) a with | [.inr (.inr (7, th)), .inl p, .inl q] => pz_ic M ∧ 0 ≤ p ∧ q ≤ 400 | _ => False) := h
    split at h
    · exact ⟨_, _, rfl⟩
    · exact h.elim) h1 h2 h3
def k_X7_takeWord : pz_C := (3, 1, fun a M => (match a with | [.inr (.inr (7, th)), .inl x, .inl y] => pz_ic M ∧ 0 ≤ x ∧ x ≤ 400 ∧ 0 ≤ y ∧ y < 400 | _ => False), fun a M r M' => (match a, r with | [.inr (.inr (7, th)), .inl x, .inl y], some (.inl v) => (0 ≤ v ∧ v ≤ 400) ∧ pz_st M M' | _, _ => False))
abbrev ct_X7_takeWord : List (Bool × Nat × pz_C) := [(false, 29, k_X7_isLetter), (true, 46, k_X7_wordOf)]
set_option maxRecDepth 100000 in
set_option maxHeartbeats 4000000 in
theorem h_X7_takeWord : pz_H yX7_takeWord cX7_takeWord 4 (some .int) k_X7_takeWord 4 168 := by
  refine pz_mk (own := RX7) (tb := t_X7_takeWord) (fl := pz_flf fl_RX7) (ci := pz_cif ci_RX7) (ct := pz_ctf ct_X7_takeWord) (rz := false) (by decide +kernel) rfl t_X7_takeWord_ok (pz_flk fl_RX7_ok) (pz_cik ci_RX7_ok) ?_ ?_ (Or.inl ⟨rfl, rfl⟩) ?_ ?_
  · exact fun i k' h => pz_ctk (l := ct_X7_takeWord) (P := fun b i k => b = true → pz_cV 4 168 RX7 i k) (List.forall_mem_cons.mpr ⟨((fun z => by cases z)), List.forall_mem_cons.mpr ⟨(fun _ => v_X7_wordOf (by decide) (by decide) (by decide +kernel)), fun _ h => absurd h List.not_mem_nil⟩⟩) true i k' h rfl
  · exact fun i k' h => pz_ctk (l := ct_X7_takeWord) (P := fun b i k => b = false → (pz_cS 4 168 RX7 i k ∨ (k = pz_kac ∧ 1 ≤ 4 ∧ 60 ≤ 168 ∧ Cond.methodLink RX7 i arraycopyName ∈ pz_tbl))) (List.forall_mem_cons.mpr ⟨(fun _ => Or.inl (s_X7_isLetter (by decide) (by decide) (Or.inl (by decide +kernel)))), List.forall_mem_cons.mpr ⟨((fun z => by cases z)), fun _ h => absurd h List.not_mem_nil⟩⟩) false i k' h rfl
  · intro a M hlen hpre
    obtain ⟨th, x, y, rfl, hpre⟩ : ∃ th x y, a = [.inr (.inr (7, th)), .inl x, .inl y] ∧ (pz_ic M ∧ 0 ≤ x ∧ x ≤ 400 ∧ 0 ≤ y ∧ y < 400) := by
      have hpre : (match (generalizing := false) a with | [.inr (.inr (7, th)), .inl x, .inl y] => pz_ic M ∧ 0 ≤ x ∧ x ≤ 400 ∧ 0 ≤ y ∧ y < 400 | _ => False) := hpre
      split at hpre
      · exact ⟨_, _, _, rfl, hpre⟩
      · exact hpre.elim
    exact Nat.le_of_ble_eq_true rfl
  · intro a M hlen hcan hM hpre Ok hgo
    obtain ⟨th, x, y, rfl, hpre⟩ : ∃ th x y, a = [.inr (.inr (7, th)), .inl x, .inl y] ∧ (pz_ic M ∧ 0 ≤ x ∧ x ≤ 400 ∧ 0 ≤ y ∧ y < 400) := by
      have hpre : (match (generalizing := false) a with | [.inr (.inr (7, th)), .inl x, .inl y] => pz_ic M ∧ 0 ≤ x ∧ x ≤ 400 ∧ 0 ≤ y ∧ y < 400 | _ => False) := hpre
      split at hpre
      · exact ⟨_, _, _, rfl, hpre⟩
      · exact hpre.elim
    obtain ⟨k_th, hcan⟩ := pz_tlm hcan
    have k_th : pz_kd th = 7 ∧ th < 231 := k_th
    have R_th := pz_kd7 k_th.1
    subst R_th
    obtain ⟨k_x, hcan⟩ := pz_tlm hcan
    have l_x : -2147483648 ≤ x := k_x.1
    have u_x : x ≤ 2147483647 := k_x.2
    obtain ⟨k_y, hcan⟩ := pz_tlm hcan
    have l_y : -2147483648 ≤ y := k_y.1
    have u_y : y ≤ 2147483647 := k_y.2
    have hI : pz_ic M := hpre.1
    have hI0 := hI
    have hS : pz_st M M := pz_st.rf
    have L37 : ∀ (x3 : Int) (N37 : pz_M), (pz_st M N37) → (0 ≤ x3) → (x3 ≤ 400) → Ok 37 [some (.inr (.inr (7, 4))), some (.inl x), some (.inl y), some (.inl x3)] [] N37 := by
      intro x3 N37 hS g37_1 g37_2
      have hI : pz_ic N37 := hS.1.1 hI0
      refine hgo (fun p => Nat.beq p 4 || Nat.beq p 37) 31 37 _ _ _ ?_
      intro r38 e38 k38
      have R38 := pz_kdA k38 (by decide) (by decide)
      have Q38 := pz_nm e38 k_th.1 (by decide) (by decide) rfl
      refine And.intro (And.intro hI (And.intro (by omega) (by omega))) ?_
      intro v45 M45 a45 b45 q45
      obtain ⟨q45, z45⟩ := q45
      subst z45
      refine And.intro (by omega) (And.intro (show _ < (401 : Int) from by omega) ?_)
      intro M48 e48
      have hS : pz_st M M48 := by
        rw [e48]
        exact pz_st_u hS (by unfold pz_mid; omega) (by omega) (by unfold pz_iok; omega)
      have hI : pz_ic M48 := hS.1.1 hI0
      refine And.intro rfl ?_
      exact ⟨by omega, hS⟩
    have L4 : ∀ (fu : Nat) (x3 : Int) (N4 : pz_M), (400 - x3).toNat < fu → (pz_st M N4) → (0 ≤ x3) → (x3 ≤ 400) → Ok 4 [some (.inr (.inr (7, 4))), some (.inl x), some (.inl y), some (.inl x3)] [] N4 := by
      intro fu
      induction fu with
      | zero => exact fun _ _ hn => absurd hn (Nat.not_lt_zero _)
      | succ fu ih4 =>
        intro x3 N4 hn4 hS g4_1 g4_2
        have hI : pz_ic N4 := hS.1.1 hI0
        refine hgo (fun p => Nat.beq p 4 || Nat.beq p 37) 31 4 _ _ _ ?_
        intro v6 e6 a6 b6
        have I6 := hI.2.2.2.2.1
        refine And.intro (fun h9 => ?_) (fun h9 => ?_)
        · skip
          exact L37 _ _ hS (by omega) (by omega)
        · skip
          refine And.intro (fun h16 => ?_) (fun h16 => ?_)
          · skip
            exact L37 _ _ hS (by omega) (by omega)
          · skip
            intro r20 e20 k20
            have R20 := pz_kdA k20 (by decide) (by decide)
            have Q20 := pz_nm e20 k_th.1 (by decide) (by decide) rfl
            refine And.intro (by omega) (And.intro (show _ < (400 : Int) from by omega) ?_)
            intro v24 e24 a24 b24
            refine And.intro (True.intro) ?_
            intro v25 M25 a25 b25 q25
            obtain ⟨q25, z25⟩ := q25
            subst z25
            refine And.intro (fun h28 => ?_) (fun h28 => ?_)
            · skip
              exact L37 _ _ hS (by omega) (by omega)
            · skip
              intro v31 e31 a31 b31
              try rw [pz_wi (by omega) (by omega)] at e31
              exact ih4 _ _ (by omega) hS (by omega) (by omega)
    refine hgo (fun p => Nat.beq p 4 || Nat.beq p 37) 31 0 _ [] M ?_
    intro v2 e2 a2 b2
    try rw [pz_wi (by omega) (by omega)] at e2
    exact L4 _ _ _ (Nat.lt_succ_self _) hS (by omega) (by omega)
theorem v_X7_takeWord {fr lo i : Nat} {own : String} (h1 : 4 + 1 ≤ fr) (h2 : 8 + (4 + 11) + 168 ≤ lo) (h3 : .methodLink own i yX7_takeWord ∈ lw_tbl) : pz_cV fr lo own i k_X7_takeWord :=
  pz_cVk (maxL := 4) (fr' := 4) (lo' := 168) 2 7 h_X7_takeWord rfl ⟨by decide +kernel, by decide +kernel, by decide +kernel⟩ ⟨by decide +kernel, by decide +kernel, by decide +kernel, by decide +kernel⟩ (Or.inl ⟨TX7, 5, rfl⟩) (fun a M _ h => by
    have h : (match (generalizing := false) a with | [.inr (.inr (7, th)), .inl x, .inl y] => pz_ic M ∧ 0 ≤ x ∧ x ≤ 400 ∧ 0 ≤ y ∧ y < 400 | _ => False) := h
    split at h
    · exact ⟨_, _, rfl⟩
    · exact h.elim) h1 h2 h3
def k_X7_takeNumber : pz_C := (3, 1, fun a M => (match a with | [.inr (.inr (7, th)), .inl x, .inl y] => pz_ic M ∧ 0 ≤ x ∧ x ≤ 400 ∧ 0 ≤ y ∧ y < 400 | _ => False), fun a M r M' => (match a, r with | [.inr (.inr (7, th)), .inl x, .inl y], some (.inl v) => (0 ≤ v ∧ v ≤ 400) ∧ pz_st M M' | _, _ => False))
abbrev ct_X7_takeNumber : List (Bool × Nat × pz_C) := [(false, 37, k_X7_isDigit)]
set_option maxRecDepth 100000 in
set_option maxHeartbeats 4000000 in
theorem h_X7_takeNumber : pz_H yX7_takeNumber cX7_takeNumber 5 (some .int) k_X7_takeNumber 1 20 := by
  refine pz_mk (own := RX7) (tb := t_X7_takeNumber) (fl := pz_flf fl_RX7) (ci := pz_cif ci_RX7) (ct := pz_ctf ct_X7_takeNumber) (rz := false) (by decide +kernel) rfl t_X7_takeNumber_ok (pz_flk fl_RX7_ok) (pz_cik ci_RX7_ok) ?_ ?_ (Or.inl ⟨rfl, rfl⟩) ?_ ?_
  · exact fun i k' h => pz_ctk (l := ct_X7_takeNumber) (P := fun b i k => b = true → pz_cV 1 20 RX7 i k) (List.forall_mem_cons.mpr ⟨((fun z => by cases z)), fun _ h => absurd h List.not_mem_nil⟩) true i k' h rfl
  · exact fun i k' h => pz_ctk (l := ct_X7_takeNumber) (P := fun b i k => b = false → (pz_cS 1 20 RX7 i k ∨ (k = pz_kac ∧ 1 ≤ 1 ∧ 60 ≤ 20 ∧ Cond.methodLink RX7 i arraycopyName ∈ pz_tbl))) (List.forall_mem_cons.mpr ⟨(fun _ => Or.inl (s_X7_isDigit (by decide) (by decide) (Or.inl (by decide +kernel)))), fun _ h => absurd h List.not_mem_nil⟩) false i k' h rfl
  · intro a M hlen hpre
    obtain ⟨th, x, y, rfl, hpre⟩ : ∃ th x y, a = [.inr (.inr (7, th)), .inl x, .inl y] ∧ (pz_ic M ∧ 0 ≤ x ∧ x ≤ 400 ∧ 0 ≤ y ∧ y < 400) := by
      have hpre : (match (generalizing := false) a with | [.inr (.inr (7, th)), .inl x, .inl y] => pz_ic M ∧ 0 ≤ x ∧ x ≤ 400 ∧ 0 ≤ y ∧ y < 400 | _ => False) := hpre
      split at hpre
      · exact ⟨_, _, _, rfl, hpre⟩
      · exact hpre.elim
    exact Nat.le_of_ble_eq_true rfl
  · intro a M hlen hcan hM hpre Ok hgo
    obtain ⟨th, x, y, rfl, hpre⟩ : ∃ th x y, a = [.inr (.inr (7, th)), .inl x, .inl y] ∧ (pz_ic M ∧ 0 ≤ x ∧ x ≤ 400 ∧ 0 ≤ y ∧ y < 400) := by
      have hpre : (match (generalizing := false) a with | [.inr (.inr (7, th)), .inl x, .inl y] => pz_ic M ∧ 0 ≤ x ∧ x ≤ 400 ∧ 0 ≤ y ∧ y < 400 | _ => False) := hpre
      split at hpre
      · exact ⟨_, _, _, rfl, hpre⟩
      · exact hpre.elim
    obtain ⟨k_th, hcan⟩ := pz_tlm hcan
    have k_th : pz_kd th = 7 ∧ th < 231 := k_th
    have R_th := pz_kd7 k_th.1
    subst R_th
    obtain ⟨k_x, hcan⟩ := pz_tlm hcan
    have l_x : -2147483648 ≤ x := k_x.1
    have u_x : x ≤ 2147483647 := k_x.2
    obtain ⟨k_y, hcan⟩ := pz_tlm hcan
    have l_y : -2147483648 ≤ y := k_y.1
    have u_y : y ≤ 2147483647 := k_y.2
    have hI : pz_ic M := hpre.1
    have hI0 := hI
    have hS : pz_st M M := pz_st.rf
    have L57 : ∀ (x3 : Int) (x4 : Int) (N57 : pz_M), (pz_st M N57) → (0 ≤ x4) → (x4 ≤ 400) → Ok 57 [some (.inr (.inr (7, 4))), some (.inl x), some (.inl y), some (.inl x3), some (.inl x4)] [] N57 := by
      intro x3 x4 N57 hS g57_1 g57_2
      have hI : pz_ic N57 := hS.1.1 hI0
      refine hgo (fun p => Nat.beq p 5 || Nat.beq p 57) 51 57 _ _ _ ?_
      intro r58 e58 k58
      have R58 := pz_kdA k58 (by decide) (by decide)
      have Q58 := pz_nm e58 k_th.1 (by decide) (by decide) rfl
      intro v65 e65 a65 b65
      try rw [pz_wi (by omega) (by omega)] at e65
      refine And.intro (fun h67 => ?_) (fun h67 => ?_)
      · skip
        refine And.intro (by omega) (And.intro (show _ < (401 : Int) from by omega) ?_)
        intro M77 e77
        have hS : pz_st M M77 := by
          rw [e77]
          exact pz_st_u hS (by unfold pz_mid; omega) (by omega) (by unfold pz_iok; omega)
        have hI : pz_ic M77 := hS.1.1 hI0
        intro r79 e79 k79
        have R79 := pz_kdA k79 (by decide) (by decide)
        have Q79 := pz_nm e79 k_th.1 (by decide) (by decide) rfl
        refine And.intro (by omega) (And.intro (show _ < (401 : Int) from by omega) ?_)
        intro M84 e84
        have hS : pz_st M M84 := by
          rw [e84]
          exact pz_st_u hS (by unfold pz_mid; omega) (by omega) (by unfold pz_iok; omega)
        have hI : pz_ic M84 := hS.1.1 hI0
        refine And.intro rfl ?_
        exact ⟨by omega, hS⟩
      · skip
        refine And.intro (by omega) (And.intro (show _ < (401 : Int) from by omega) ?_)
        intro M77 e77
        have hS : pz_st M M77 := by
          rw [e77]
          exact pz_st_u hS (by unfold pz_mid; omega) (by omega) (by unfold pz_iok; omega)
        have hI : pz_ic M77 := hS.1.1 hI0
        intro r79 e79 k79
        have R79 := pz_kdA k79 (by decide) (by decide)
        have Q79 := pz_nm e79 k_th.1 (by decide) (by decide) rfl
        refine And.intro (by omega) (And.intro (show _ < (401 : Int) from by omega) ?_)
        intro M84 e84
        have hS : pz_st M M84 := by
          rw [e84]
          exact pz_st_u hS (by unfold pz_mid; omega) (by omega) (by unfold pz_iok; omega)
        have hI : pz_ic M84 := hS.1.1 hI0
        refine And.intro rfl ?_
        exact ⟨by omega, hS⟩
    have L5 : ∀ (fu : Nat) (x3 : Int) (x4 : Int) (N5 : pz_M), (400 - x4).toNat < fu → (pz_st M N5) → (0 ≤ x4) → (x4 ≤ 400) → Ok 5 [some (.inr (.inr (7, 4))), some (.inl x), some (.inl y), some (.inl x3), some (.inl x4)] [] N5 := by
      intro fu
      induction fu with
      | zero => exact fun _ _ _ hn => absurd hn (Nat.not_lt_zero _)
      | succ fu ih5 =>
        intro x3 x4 N5 hn5 hS g5_1 g5_2
        have hI : pz_ic N5 := hS.1.1 hI0
        refine hgo (fun p => Nat.beq p 5 || Nat.beq p 57) 51 5 _ _ _ ?_
        intro v8 e8 a8 b8
        have I8 := hI.2.2.2.2.1
        refine And.intro (fun h11 => ?_) (fun h11 => ?_)
        · skip
          exact L57 _ _ _ hS (by omega) (by omega)
        · skip
          refine And.intro (fun h19 => ?_) (fun h19 => ?_)
          · skip
            exact L57 _ _ _ hS (by omega) (by omega)
          · skip
            intro r23 e23 k23
            have R23 := pz_kdA k23 (by decide) (by decide)
            have Q23 := pz_nm e23 k_th.1 (by decide) (by decide) rfl
            refine And.intro (by omega) (And.intro (show _ < (400 : Int) from by omega) ?_)
            intro v28 e28 a28 b28
            refine And.intro (True.intro) ?_
            intro v29 M29 a29 b29 q29
            obtain ⟨q29, z29⟩ := q29
            subst z29
            refine And.intro (fun h32 => ?_) (fun h32 => ?_)
            · skip
              exact L57 _ _ _ hS (by omega) (by omega)
            · skip
              intro v38 e38 a38 b38
              try rw [pz_wi (by omega) (by omega)] at e38
              intro r40 e40 k40
              have R40 := pz_kdA k40 (by decide) (by decide)
              have Q40 := pz_nm e40 k_th.1 (by decide) (by decide) rfl
              refine And.intro (by omega) (And.intro (show _ < (400 : Int) from by omega) ?_)
              intro v45 e45 a45 b45
              intro v46 e46 a46 b46
              try rw [pz_wi (by omega) (by omega)] at e46
              intro v49 e49 a49 b49
              try rw [pz_wi (by omega) (by omega)] at e49
              intro v51 e51 a51 b51
              try rw [pz_wi (by omega) (by omega)] at e51
              exact ih5 _ _ _ (by omega) hS (by omega) (by omega)
    refine hgo (fun p => Nat.beq p 5 || Nat.beq p 57) 51 0 _ [] M ?_
    exact L5 _ _ _ _ (Nat.lt_succ_self _) hS (by omega) (by omega)
theorem v_X7_takeNumber {fr lo i : Nat} {own : String} (h1 : 1 + 1 ≤ fr) (h2 : 8 + (5 + 11) + 20 ≤ lo) (h3 : .methodLink own i yX7_takeNumber ∈ lw_tbl) : pz_cV fr lo own i k_X7_takeNumber :=
  pz_cVk (maxL := 5) (fr' := 1) (lo' := 20) 2 7 h_X7_takeNumber rfl ⟨by decide +kernel, by decide +kernel, by decide +kernel⟩ ⟨by decide +kernel, by decide +kernel, by decide +kernel, by decide +kernel⟩ (Or.inl ⟨TX7, 5, rfl⟩) (fun a M _ h => by
    have h : (match (generalizing := false) a with | [.inr (.inr (7, th)), .inl x, .inl y] => pz_ic M ∧ 0 ≤ x ∧ x ≤ 400 ∧ 0 ≤ y ∧ y < 400 | _ => False) := h
    split at h
    · exact ⟨_, _, rfl⟩
    · exact h.elim) h1 h2 h3
def k_X7_takeSign : pz_C := (3, 1, fun a M => (match a with | [.inr (.inr (7, th)), .inl x, .inl y] => pz_ic M ∧ 0 ≤ x ∧ x ≤ 400 ∧ 0 ≤ y ∧ y < 400 | _ => False), fun a M r M' => (match a, r with | [.inr (.inr (7, th)), .inl x, .inl y], some (.inl v) => (0 ≤ v ∧ v ≤ 400) ∧ pz_st M M' | _, _ => False))
abbrev ct_X7_takeSign : List (Bool × Nat × pz_C) := [(false, 49, k_X7_isSign)]
set_option maxRecDepth 100000 in
set_option maxHeartbeats 4000000 in
theorem h_X7_takeSign : pz_H yX7_takeSign cX7_takeSign 3 (some .int) k_X7_takeSign 1 20 := by
  refine pz_mk (own := RX7) (tb := t_X7_takeSign) (fl := pz_flf fl_RX7) (ci := pz_cif ci_RX7) (ct := pz_ctf ct_X7_takeSign) (rz := false) (by decide +kernel) rfl t_X7_takeSign_ok (pz_flk fl_RX7_ok) (pz_cik ci_RX7_ok) ?_ ?_ (Or.inl ⟨rfl, rfl⟩) ?_ ?_
  · exact fun i k' h => pz_ctk (l := ct_X7_takeSign) (P := fun b i k => b = true → pz_cV 1 20 RX7 i k) (List.forall_mem_cons.mpr ⟨((fun z => by cases z)), fun _ h => absurd h List.not_mem_nil⟩) true i k' h rfl
  · exact fun i k' h => pz_ctk (l := ct_X7_takeSign) (P := fun b i k => b = false → (pz_cS 1 20 RX7 i k ∨ (k = pz_kac ∧ 1 ≤ 1 ∧ 60 ≤ 20 ∧ Cond.methodLink RX7 i arraycopyName ∈ pz_tbl))) (List.forall_mem_cons.mpr ⟨(fun _ => Or.inl (s_X7_isSign (by decide) (by decide) (Or.inl (by decide +kernel)))), fun _ h => absurd h List.not_mem_nil⟩) false i k' h rfl
  · intro a M hlen hpre
    obtain ⟨th, x, y, rfl, hpre⟩ : ∃ th x y, a = [.inr (.inr (7, th)), .inl x, .inl y] ∧ (pz_ic M ∧ 0 ≤ x ∧ x ≤ 400 ∧ 0 ≤ y ∧ y < 400) := by
      have hpre : (match (generalizing := false) a with | [.inr (.inr (7, th)), .inl x, .inl y] => pz_ic M ∧ 0 ≤ x ∧ x ≤ 400 ∧ 0 ≤ y ∧ y < 400 | _ => False) := hpre
      split at hpre
      · exact ⟨_, _, _, rfl, hpre⟩
      · exact hpre.elim
    exact Nat.le_of_ble_eq_true rfl
  · intro a M hlen hcan hM hpre Ok hgo
    obtain ⟨th, x, y, rfl, hpre⟩ : ∃ th x y, a = [.inr (.inr (7, th)), .inl x, .inl y] ∧ (pz_ic M ∧ 0 ≤ x ∧ x ≤ 400 ∧ 0 ≤ y ∧ y < 400) := by
      have hpre : (match (generalizing := false) a with | [.inr (.inr (7, th)), .inl x, .inl y] => pz_ic M ∧ 0 ≤ x ∧ x ≤ 400 ∧ 0 ≤ y ∧ y < 400 | _ => False) := hpre
      split at hpre
      · exact ⟨_, _, _, rfl, hpre⟩
      · exact hpre.elim
    obtain ⟨k_th, hcan⟩ := pz_tlm hcan
    have k_th : pz_kd th = 7 ∧ th < 231 := k_th
    have R_th := pz_kd7 k_th.1
    subst R_th
    obtain ⟨k_x, hcan⟩ := pz_tlm hcan
    have l_x : -2147483648 ≤ x := k_x.1
    have u_x : x ≤ 2147483647 := k_x.2
    obtain ⟨k_y, hcan⟩ := pz_tlm hcan
    have l_y : -2147483648 ≤ y := k_y.1
    have u_y : y ≤ 2147483647 := k_y.2
    have hI : pz_ic M := hpre.1
    have hI0 := hI
    have hS : pz_st M M := pz_st.rf
    refine hgo (fun _ => false) 22 0 _ [] M ?_
    intro r1 e1 k1
    have R1 := pz_kdA k1 (by decide) (by decide)
    have Q1 := pz_nm e1 k_th.1 (by decide) (by decide) rfl
    intro r6 e6 k6
    have R6 := pz_kdA k6 (by decide) (by decide)
    have Q6 := pz_nm e6 k_th.1 (by decide) (by decide) rfl
    refine And.intro (by omega) (And.intro (show _ < (400 : Int) from by omega) ?_)
    intro v10 e10 a10 b10
    refine And.intro (True.intro) ?_
    intro v11 M11 a11 b11 q11
    obtain ⟨q11, z11⟩ := q11
    subst z11
    refine And.intro (fun h14 => ?_) (fun h14 => ?_)
    · skip
      refine And.intro (by omega) (And.intro (show _ < (401 : Int) from by omega) ?_)
      intro M28 e28
      have hS : pz_st M M28 := by
        rw [e28]
        exact pz_st_u hS (by unfold pz_mid; omega) (by omega) (by unfold pz_iok; omega)
      have hI : pz_ic M28 := hS.1.1 hI0
      intro v31 e31 a31 b31
      try rw [pz_wi (by omega) (by omega)] at e31
      refine And.intro rfl ?_
      exact ⟨by omega, hS⟩
    · skip
      intro r18 e18 k18
      have R18 := pz_kdA k18 (by decide) (by decide)
      have Q18 := pz_nm e18 k_th.1 (by decide) (by decide) rfl
      refine And.intro (by omega) (And.intro (show _ < (400 : Int) from by omega) ?_)
      intro v22 e22 a22 b22
      refine And.intro (by omega) (And.intro (show _ < (401 : Int) from by omega) ?_)
      intro M28 e28
      have hS : pz_st M M28 := by
        rw [e28]
        exact pz_st_u hS (by unfold pz_mid; omega) (by omega) (by unfold pz_iok; omega)
      have hI : pz_ic M28 := hS.1.1 hI0
      intro v31 e31 a31 b31
      try rw [pz_wi (by omega) (by omega)] at e31
      refine And.intro rfl ?_
      exact ⟨by omega, hS⟩
theorem v_X7_takeSign {fr lo i : Nat} {own : String} (h1 : 1 + 1 ≤ fr) (h2 : 8 + (3 + 11) + 20 ≤ lo) (h3 : .methodLink own i yX7_takeSign ∈ lw_tbl) : pz_cV fr lo own i k_X7_takeSign :=
  pz_cVk (maxL := 3) (fr' := 1) (lo' := 20) 2 7 h_X7_takeSign rfl ⟨by decide +kernel, by decide +kernel, by decide +kernel⟩ ⟨by decide +kernel, by decide +kernel, by decide +kernel, by decide +kernel⟩ (Or.inl ⟨TX7, 5, rfl⟩) (fun a M _ h => by
    have h : (match (generalizing := false) a with | [.inr (.inr (7, th)), .inl x, .inl y] => pz_ic M ∧ 0 ≤ x ∧ x ≤ 400 ∧ 0 ≤ y ∧ y < 400 | _ => False) := h
    split at h
    · exact ⟨_, _, rfl⟩
    · exact h.elim) h1 h2 h3
def k_X7_scan : pz_C := (1, 0, fun a M => (match a with | [.inr (.inr (7, th))] => pz_ic M | _ => False), fun a M r M' => (match a, r with | [.inr (.inr (7, th))], none => (True) ∧ pz_st M M' | _, _ => False))
abbrev ct_X7_scan : List (Bool × Nat × pz_C) := [(false, 29, k_X7_isLetter), (true, 33, k_X7_takeWord), (false, 37, k_X7_isDigit), (true, 40, k_X7_takeNumber), (true, 43, k_X7_takeSign)]
set_option maxRecDepth 100000 in
set_option maxHeartbeats 4000000 in
theorem h_X7_scan : pz_H yX7_scan cX7_scan 5 none k_X7_scan 5 191 := by
  refine pz_mk (own := RX7) (tb := t_X7_scan) (fl := pz_flf fl_RX7) (ci := pz_cif ci_RX7) (ct := pz_ctf ct_X7_scan) (rz := false) (by decide +kernel) rfl t_X7_scan_ok (pz_flk fl_RX7_ok) (pz_cik ci_RX7_ok) ?_ ?_ (rfl) ?_ ?_
  · exact fun i k' h => pz_ctk (l := ct_X7_scan) (P := fun b i k => b = true → pz_cV 5 191 RX7 i k) (List.forall_mem_cons.mpr ⟨((fun z => by cases z)), List.forall_mem_cons.mpr ⟨(fun _ => v_X7_takeWord (by decide) (by decide) (by decide +kernel)), List.forall_mem_cons.mpr ⟨((fun z => by cases z)), List.forall_mem_cons.mpr ⟨(fun _ => v_X7_takeNumber (by decide) (by decide) (by decide +kernel)), List.forall_mem_cons.mpr ⟨(fun _ => v_X7_takeSign (by decide) (by decide) (by decide +kernel)), fun _ h => absurd h List.not_mem_nil⟩⟩⟩⟩⟩) true i k' h rfl
  · exact fun i k' h => pz_ctk (l := ct_X7_scan) (P := fun b i k => b = false → (pz_cS 5 191 RX7 i k ∨ (k = pz_kac ∧ 1 ≤ 5 ∧ 60 ≤ 191 ∧ Cond.methodLink RX7 i arraycopyName ∈ pz_tbl))) (List.forall_mem_cons.mpr ⟨(fun _ => Or.inl (s_X7_isLetter (by decide) (by decide) (Or.inl (by decide +kernel)))), List.forall_mem_cons.mpr ⟨((fun z => by cases z)), List.forall_mem_cons.mpr ⟨(fun _ => Or.inl (s_X7_isDigit (by decide) (by decide) (Or.inl (by decide +kernel)))), List.forall_mem_cons.mpr ⟨((fun z => by cases z)), List.forall_mem_cons.mpr ⟨((fun z => by cases z)), fun _ h => absurd h List.not_mem_nil⟩⟩⟩⟩⟩) false i k' h rfl
  · intro a M hlen hpre
    obtain ⟨th, rfl, hpre⟩ : ∃ th, a = [.inr (.inr (7, th))] ∧ (pz_ic M) := by
      have hpre : (match (generalizing := false) a with | [.inr (.inr (7, th))] => pz_ic M | _ => False) := hpre
      split at hpre
      · exact ⟨_, rfl, hpre⟩
      · exact hpre.elim
    exact Nat.le_of_ble_eq_true rfl
  · intro a M hlen hcan hM hpre Ok hgo
    obtain ⟨th, rfl, hpre⟩ : ∃ th, a = [.inr (.inr (7, th))] ∧ (pz_ic M) := by
      have hpre : (match (generalizing := false) a with | [.inr (.inr (7, th))] => pz_ic M | _ => False) := hpre
      split at hpre
      · exact ⟨_, rfl, hpre⟩
      · exact hpre.elim
    obtain ⟨k_th, hcan⟩ := pz_tlm hcan
    have k_th : pz_kd th = 7 ∧ th < 231 := k_th
    have R_th := pz_kd7 k_th.1
    subst R_th
    have hI : pz_ic M := hpre
    have hI0 := hI
    have hS : pz_st M M := pz_st.rf
    have L6 : ∀ (fu : Nat) (x1 : Int) (x2 : Int) (x3 : Int) (d4 : Option pz_V) (N6 : pz_M), (400 - x3).toNat < fu → (pz_st M N6) → (0 ≤ x1) → (x1 ≤ x3) → (x3 ≤ 400) → Ok 6 [some (.inr (.inr (7, 4))), some (.inl x1), some (.inl x2), some (.inl x3), d4] [] N6 := by
      intro fu
      induction fu with
      | zero => exact fun _ _ _ _ _ hn => absurd hn (Nat.not_lt_zero _)
      | succ fu ih6 =>
        intro x1 x2 x3 d4 N6 hn6 hS g6_1 g6_2 g6_3
        have hI : pz_ic N6 := hS.1.1 hI0
        have L99 : ∀ (x1 : Int) (x2 : Int) (x3 : Int) (x4 : Int) (N99 : pz_M), (pz_st M N99) → (0 ≤ x1) → (x1 ≤ x3 + 1) → (x3 < 400) → (0 ≤ x3) → ((400 - x3).toNat < fu + 1) → Ok 99 [some (.inr (.inr (7, 4))), some (.inl x1), some (.inl x2), some (.inl x3), some (.inl x4)] [] N99 := by
          intro x1 x2 x3 x4 N99 hS g99_1 g99_2 g99_3 g99_4 g99_5
          have hI : pz_ic N99 := hS.1.1 hI0
          refine hgo (fun p => Nat.beq p 6 || Nat.beq p 95 || Nat.beq p 99) 70 99 _ _ _ ?_
          intro v99 e99 a99 b99
          try rw [pz_wi (by omega) (by omega)] at e99
          exact ih6 _ _ _ _ _ (by omega) hS (by omega) (by omega) (by omega)
        have L95 : ∀ (x1 : Int) (x2 : Int) (x3 : Int) (x4 : Int) (s0 : Int) (N95 : pz_M), (pz_st M N95) → (0 ≤ x1) → (x1 ≤ x3) → (x3 < 400) → (0 ≤ x3) → ((400 - x3).toNat < fu + 1) → Ok 95 [some (.inr (.inr (7, 4))), some (.inl x1), some (.inl x2), some (.inl x3), some (.inl x4)] [.inl s0] N95 := by
          intro x1 x2 x3 x4 s0 N95 hS g95_1 g95_2 g95_3 g95_4 g95_5
          have hI : pz_ic N95 := hS.1.1 hI0
          refine hgo (fun p => Nat.beq p 6 || Nat.beq p 95 || Nat.beq p 99) 70 95 _ _ _ ?_
          intro v96 e96 a96 b96
          try rw [pz_wi (by omega) (by omega)] at e96
          exact L99 _ _ _ _ _ hS (by omega) (by omega) (by omega) (by omega) (by omega)
        refine hgo (fun p => Nat.beq p 6 || Nat.beq p 95 || Nat.beq p 99) 70 6 _ _ _ ?_
        intro v8 e8 a8 b8
        have I8 := hI.2.2.2.2.1
        refine And.intro (fun h11 => ?_) (fun h11 => ?_)
        · skip
          intro r106 e106 k106
          have R106 := pz_kdA k106 (by decide) (by decide)
          have Q106 := pz_nm e106 k_th.1 (by decide) (by decide) rfl
          refine And.intro (by omega) (And.intro (show _ < (401 : Int) from by omega) ?_)
          intro M112 e112
          have hS : pz_st M M112 := by
            rw [e112]
            exact pz_st_u hS (by unfold pz_mid; omega) (by omega) (by unfold pz_iok; omega)
          have hI : pz_ic M112 := hS.1.1 hI0
          intro r114 e114 k114
          have R114 := pz_kdA k114 (by decide) (by decide)
          have Q114 := pz_nm e114 k_th.1 (by decide) (by decide) rfl
          intro v119 e119 a119 b119
          have I119 := hI.2.2.2.2.1
          refine And.intro (by omega) (And.intro (show _ < (401 : Int) from by omega) ?_)
          intro M122 e122
          have hS : pz_st M M122 := by
            rw [e122]
            exact pz_st_u hS (by unfold pz_mid; omega) (by omega) (by unfold pz_iok; omega)
          have hI : pz_ic M122 := hS.1.1 hI0
          refine And.intro rfl ?_
          exact ⟨trivial, hS⟩
        · skip
          refine And.intro (fun h18 => ?_) (fun h18 => ?_)
          · skip
            intro r106 e106 k106
            have R106 := pz_kdA k106 (by decide) (by decide)
            have Q106 := pz_nm e106 k_th.1 (by decide) (by decide) rfl
            refine And.intro (by omega) (And.intro (show _ < (401 : Int) from by omega) ?_)
            intro M112 e112
            have hS : pz_st M M112 := by
              rw [e112]
              exact pz_st_u hS (by unfold pz_mid; omega) (by omega) (by unfold pz_iok; omega)
            have hI : pz_ic M112 := hS.1.1 hI0
            intro r114 e114 k114
            have R114 := pz_kdA k114 (by decide) (by decide)
            have Q114 := pz_nm e114 k_th.1 (by decide) (by decide) rfl
            intro v119 e119 a119 b119
            have I119 := hI.2.2.2.2.1
            refine And.intro (by omega) (And.intro (show _ < (401 : Int) from by omega) ?_)
            intro M122 e122
            have hS : pz_st M M122 := by
              rw [e122]
              exact pz_st_u hS (by unfold pz_mid; omega) (by omega) (by unfold pz_iok; omega)
            have hI : pz_ic M122 := hS.1.1 hI0
            refine And.intro rfl ?_
            exact ⟨trivial, hS⟩
          · skip
            intro r22 e22 k22
            have R22 := pz_kdA k22 (by decide) (by decide)
            have Q22 := pz_nm e22 k_th.1 (by decide) (by decide) rfl
            refine And.intro (by omega) (And.intro (show _ < (400 : Int) from by omega) ?_)
            intro v26 e26 a26 b26
            refine And.intro (fun h31 => ?_) (fun h31 => ?_)
            · skip
              exact L99 _ _ _ _ _ hS (by omega) (by omega) (by omega) (by omega) (by omega)
            · skip
              refine And.intro (fun h38 => ?_) (fun h38 => ?_)
              · skip
                exact L99 _ _ _ _ _ hS (by omega) (by omega) (by omega) (by omega) (by omega)
              · skip
                refine And.intro (fun h45 => ?_) (fun h45 => ?_)
                · skip
                  exact L99 _ _ _ _ _ hS (by omega) (by omega) (by omega) (by omega) (by omega)
                · skip
                  intro r49 e49 k49
                  have R49 := pz_kdA k49 (by decide) (by decide)
                  have Q49 := pz_nm e49 k_th.1 (by decide) (by decide) rfl
                  refine And.intro (by omega) (And.intro (show _ < (401 : Int) from by omega) ?_)
                  intro M54 e54
                  have hS : pz_st M M54 := by
                    rw [e54]
                    exact pz_st_u hS (by unfold pz_mid; omega) (by omega) (by unfold pz_iok; omega)
                  have hI : pz_ic M54 := hS.1.1 hI0
                  refine And.intro (True.intro) ?_
                  intro v57 M57 a57 b57 q57
                  obtain ⟨q57, z57⟩ := q57
                  subst z57
                  refine And.intro (fun h60 => ?_) (fun h60 => ?_)
                  · skip
                    refine And.intro (True.intro) ?_
                    intro v74 M74 a74 b74 q74
                    obtain ⟨q74, z74⟩ := q74
                    subst z74
                    refine And.intro (fun h77 => ?_) (fun h77 => ?_)
                    · skip
                      refine And.intro (And.intro hI (And.intro (by omega) (And.intro (by omega) (And.intro (by omega) (by omega))))) ?_
                      intro v92 M92 a92 b92 q92
                      obtain ⟨q92, z92⟩ := q92
                      have hS : pz_st M M92 := hS.tr z92
                      have hI : pz_ic M92 := hS.1.1 hI0
                      exact L95 _ _ _ _ _ _ hS (by omega) (by omega) (by omega) (by omega) (by omega)
                    · skip
                      refine And.intro (And.intro hI (And.intro (by omega) (And.intro (by omega) (And.intro (by omega) (by omega))))) ?_
                      intro v83 M83 a83 b83 q83
                      obtain ⟨q83, z83⟩ := q83
                      have hS : pz_st M M83 := hS.tr z83
                      have hI : pz_ic M83 := hS.1.1 hI0
                      exact L95 _ _ _ _ _ _ hS (by omega) (by omega) (by omega) (by omega) (by omega)
                  · skip
                    refine And.intro (And.intro hI (And.intro (by omega) (And.intro (by omega) (And.intro (by omega) (by omega))))) ?_
                    intro v66 M66 a66 b66 q66
                    obtain ⟨q66, z66⟩ := q66
                    have hS : pz_st M M66 := hS.tr z66
                    have hI : pz_ic M66 := hS.1.1 hI0
                    exact L95 _ _ _ _ _ _ hS (by omega) (by omega) (by omega) (by omega) (by omega)
    refine hgo (fun p => Nat.beq p 6 || Nat.beq p 95 || Nat.beq p 99) 70 0 _ [] M ?_
    exact L6 _ _ _ _ _ _ (Nat.lt_succ_self _) hS (by omega) (by omega) (by omega)
theorem v_X7_scan {fr lo i : Nat} {own : String} (h1 : 5 + 1 ≤ fr) (h2 : 8 + (5 + 11) + 191 ≤ lo) (h3 : .methodLink own i yX7_scan ∈ lw_tbl) : pz_cV fr lo own i k_X7_scan :=
  pz_cVk (maxL := 5) (fr' := 5) (lo' := 191) 0 7 h_X7_scan rfl ⟨by decide +kernel, by decide +kernel, by decide +kernel⟩ ⟨by decide +kernel, by decide +kernel, by decide +kernel, by decide +kernel⟩ (Or.inl ⟨TX7, 5, rfl⟩) (fun a M _ h => by
    have h : (match (generalizing := false) a with | [.inr (.inr (7, th))] => pz_ic M | _ => False) := h
    split at h
    · exact ⟨_, _, rfl⟩
    · exact h.elim) h1 h2 h3
def k_X8_forgetAll : pz_C := (1, 0, fun a M => (match a with | [.inr (.inr (8, th))] => pz_ic M | _ => False), fun a M r M' => (match a, r with | [.inr (.inr (8, th))], none => (True) ∧ pz_st M M' | _, _ => False))
abbrev ct_X8_forgetAll : List (Bool × Nat × pz_C) := []
set_option maxRecDepth 100000 in
set_option maxHeartbeats 4000000 in
theorem h_X8_forgetAll : pz_H yX8_forgetAll cX8_forgetAll 1 none k_X8_forgetAll 0 0 := by
  refine pz_mk (own := RX8) (tb := t_X8_forgetAll) (fl := pz_flf fl_RX8) (ci := fun _ => none) (ct := pz_ctf ct_X8_forgetAll) (rz := false) (by decide +kernel) rfl t_X8_forgetAll_ok (pz_flk fl_RX8_ok) (fun i v h => by cases h) ?_ ?_ (rfl) ?_ ?_
  · exact fun i k' h => pz_ctk (l := ct_X8_forgetAll) (P := fun b i k => b = true → pz_cV 0 0 RX8 i k) (fun _ h => absurd h List.not_mem_nil) true i k' h rfl
  · exact fun i k' h => pz_ctk (l := ct_X8_forgetAll) (P := fun b i k => b = false → (pz_cS 0 0 RX8 i k ∨ (k = pz_kac ∧ 1 ≤ 0 ∧ 60 ≤ 0 ∧ Cond.methodLink RX8 i arraycopyName ∈ pz_tbl))) (fun _ h => absurd h List.not_mem_nil) false i k' h rfl
  · intro a M hlen hpre
    obtain ⟨th, rfl, hpre⟩ : ∃ th, a = [.inr (.inr (8, th))] ∧ (pz_ic M) := by
      have hpre : (match (generalizing := false) a with | [.inr (.inr (8, th))] => pz_ic M | _ => False) := hpre
      split at hpre
      · exact ⟨_, rfl, hpre⟩
      · exact hpre.elim
    exact Nat.le_of_ble_eq_true rfl
  · intro a M hlen hcan hM hpre Ok hgo
    obtain ⟨th, rfl, hpre⟩ : ∃ th, a = [.inr (.inr (8, th))] ∧ (pz_ic M) := by
      have hpre : (match (generalizing := false) a with | [.inr (.inr (8, th))] => pz_ic M | _ => False) := hpre
      split at hpre
      · exact ⟨_, rfl, hpre⟩
      · exact hpre.elim
    obtain ⟨k_th, hcan⟩ := pz_tlm hcan
    have k_th : pz_kd th = 8 ∧ th < 231 := k_th
    have R_th := pz_kd8 k_th.1
    subst R_th
    have hI : pz_ic M := hpre
    have hI0 := hI
    have hS : pz_st M M := pz_st.rf
    refine hgo (fun _ => false) 6 0 _ [] M ?_
    refine And.intro (by omega) ?_
    intro M2 e2
    have hS : pz_st M M2 := by
      rw [e2]
      exact pz_st_u hS (by unfold pz_mid; omega) (by omega) (by unfold pz_iok; omega)
    have hI : pz_ic M2 := hS.1.1 hI0
    refine And.intro rfl ?_
    exact ⟨trivial, hS⟩
theorem v_X8_forgetAll {fr lo i : Nat} {own : String} (h1 : 0 + 1 ≤ fr) (h2 : 8 + (1 + 11) + 0 ≤ lo) (h3 : .methodLink own i yX8_forgetAll ∈ lw_tbl) : pz_cV fr lo own i k_X8_forgetAll :=
  pz_cVk (maxL := 1) (fr' := 0) (lo' := 0) 0 8 h_X8_forgetAll rfl ⟨by decide +kernel, by decide +kernel, by decide +kernel⟩ ⟨by decide +kernel, by decide +kernel, by decide +kernel, by decide +kernel⟩ (Or.inl ⟨TX8, 8, rfl⟩) (fun a M _ h => by
    have h : (match (generalizing := false) a with | [.inr (.inr (8, th))] => pz_ic M | _ => False) := h
    split at h
    · exact ⟨_, _, rfl⟩
    · exact h.elim) h1 h2 h3
def k_X8_findEarliest : pz_C := (1, 0, fun a M => (match a with | [.inr (.inr (8, th))] => pz_ic M | _ => False), fun a M r M' => (match a, r with | [.inr (.inr (8, th))], none => (True) ∧ pz_st M M' | _, _ => False))
abbrev ct_X8_findEarliest : List (Bool × Nat × pz_C) := [(false, 62, k_J9_max_7cf53), (false, 65, k_J6_bitCount_0f7a4)]
set_option maxRecDepth 100000 in
set_option maxHeartbeats 4000000 in
theorem h_X8_findEarliest : pz_H yX8_findEarliest cX8_findEarliest 6 none k_X8_findEarliest 1 21 := by
  refine pz_mk (own := RX8) (tb := t_X8_findEarliest) (fl := pz_flf fl_RX8) (ci := fun _ => none) (ct := pz_ctf ct_X8_findEarliest) (rz := false) (by decide +kernel) rfl t_X8_findEarliest_ok (pz_flk fl_RX8_ok) (fun i v h => by cases h) ?_ ?_ (rfl) ?_ ?_
  · exact fun i k' h => pz_ctk (l := ct_X8_findEarliest) (P := fun b i k => b = true → pz_cV 1 21 RX8 i k) (List.forall_mem_cons.mpr ⟨((fun z => by cases z)), List.forall_mem_cons.mpr ⟨((fun z => by cases z)), fun _ h => absurd h List.not_mem_nil⟩⟩) true i k' h rfl
  · exact fun i k' h => pz_ctk (l := ct_X8_findEarliest) (P := fun b i k => b = false → (pz_cS 1 21 RX8 i k ∨ (k = pz_kac ∧ 1 ≤ 1 ∧ 60 ≤ 21 ∧ Cond.methodLink RX8 i arraycopyName ∈ pz_tbl))) (List.forall_mem_cons.mpr ⟨(fun _ => Or.inl (s_J9_max_7cf53 (by decide) (by decide) (Or.inl (by decide +kernel)))), List.forall_mem_cons.mpr ⟨(fun _ => Or.inl (s_J6_bitCount_0f7a4 (by decide) (by decide) (Or.inl (by decide +kernel)))), fun _ h => absurd h List.not_mem_nil⟩⟩) false i k' h rfl
  · intro a M hlen hpre
    obtain ⟨th, rfl, hpre⟩ : ∃ th, a = [.inr (.inr (8, th))] ∧ (pz_ic M) := by
      have hpre : (match (generalizing := false) a with | [.inr (.inr (8, th))] => pz_ic M | _ => False) := hpre
      split at hpre
      · exact ⟨_, rfl, hpre⟩
      · exact hpre.elim
    exact Nat.le_of_ble_eq_true rfl
  · intro a M hlen hcan hM hpre Ok hgo
    obtain ⟨th, rfl, hpre⟩ : ∃ th, a = [.inr (.inr (8, th))] ∧ (pz_ic M) := by
      have hpre : (match (generalizing := false) a with | [.inr (.inr (8, th))] => pz_ic M | _ => False) := hpre
      split at hpre
      · exact ⟨_, rfl, hpre⟩
      · exact hpre.elim
    obtain ⟨k_th, hcan⟩ := pz_tlm hcan
    have k_th : pz_kd th = 8 ∧ th < 231 := k_th
    have R_th := pz_kd8 k_th.1
    subst R_th
    have hI : pz_ic M := hpre
    have hI0 := hI
    have hS : pz_st M M := pz_st.rf
    have L14 : ∀ (fu : Nat) (x1 : Int) (d2 : Option pz_V) (d3 : Option pz_V) (d4 : Option pz_V) (d5 : Option pz_V) (N14 : pz_M), (4096 - x1).toNat < fu → (pz_st M N14) → (1 ≤ x1) → (x1 ≤ 4096) → Ok 14 [some (.inr (.inr (8, 7))), some (.inl x1), d2, d3, d4, d5] [] N14 := by
      intro fu
      induction fu with
      | zero => exact fun _ _ _ _ _ _ hn => absurd hn (Nat.not_lt_zero _)
      | succ fu ih14 =>
        intro x1 d2 d3 d4 d5 N14 hn14 hS g14_1 g14_2
        have hI : pz_ic N14 := hS.1.1 hI0
        have L140 : ∀ (x1 : Int) (x2 : Int) (x3 : Int) (d4 : Option pz_V) (d5 : Option pz_V) (N140 : pz_M), (pz_st M N140) → (1 ≤ x1) → (x1 < 4096) → ((4096 - x1).toNat < fu + 1) → Ok 140 [some (.inr (.inr (8, 7))), some (.inl x1), some (.inl x2), some (.inl x3), d4, d5] [] N140 := by
          intro x1 x2 x3 d4 d5 N140 hS g140_1 g140_2 g140_3
          have hI : pz_ic N140 := hS.1.1 hI0
          refine hgo (fun p => Nat.beq p 14 || Nat.beq p 28 || Nat.beq p 58 || Nat.beq p 107 || Nat.beq p 140) 100 140 _ _ _ ?_
          intro v140 e140 a140 b140
          try rw [pz_wi (by omega) (by omega)] at e140
          exact ih14 _ _ _ _ _ _ (by omega) hS (by omega) (by omega)
        have L28 : ∀ (fu : Nat) (x1 : Int) (x2 : Int) (x3 : Int) (d4 : Option pz_V) (d5 : Option pz_V) (N28 : pz_M), (12 - x3).toNat < fu → (pz_st M N28) → (0 ≤ x3) → (1 ≤ x1) → (x1 < 4096) → ((4096 - x1).toNat < fu + 1) → Ok 28 [some (.inr (.inr (8, 7))), some (.inl x1), some (.inl x2), some (.inl x3), d4, d5] [] N28 := by
          intro fu
          induction fu with
          | zero => exact fun _ _ _ _ _ _ hn => absurd hn (Nat.not_lt_zero _)
          | succ fu ih28 =>
            intro x1 x2 x3 d4 d5 N28 hn28 hS g28_1 g28_2 g28_3 g28_4
            have hI : pz_ic N28 := hS.1.1 hI0
            have L107 : ∀ (x1 : Int) (x2 : Int) (x3 : Int) (x4 : Int) (x5 : Int) (N107 : pz_M), (pz_st M N107) → (0 ≤ x3) → (x3 < 12) → ((12 - x3).toNat < fu + 1) → (1 ≤ x1) → (x1 < 4096) → Ok 107 [some (.inr (.inr (8, 7))), some (.inl x1), some (.inl x2), some (.inl x3), some (.inl x4), some (.inl x5)] [] N107 := by
              intro x1 x2 x3 x4 x5 N107 hS g107_1 g107_2 g107_3 g107_4 g107_5
              have hI : pz_ic N107 := hS.1.1 hI0
              refine hgo (fun p => Nat.beq p 14 || Nat.beq p 28 || Nat.beq p 58 || Nat.beq p 107 || Nat.beq p 140) 100 107 _ _ _ ?_
              intro v107 e107 a107 b107
              try rw [pz_wi (by omega) (by omega)] at e107
              exact ih28 _ _ _ _ _ _ (by omega) hS (by omega) (by omega) (by omega) (by omega)
            have L58 : ∀ (x1 : Int) (x2 : Int) (x3 : Int) (d4 : Option pz_V) (d5 : Option pz_V) (s0 : Int) (N58 : pz_M), (pz_st M N58) → (0 ≤ x3) → (x3 < 12) → ((12 - x3).toNat < fu + 1) → (1 ≤ x1) → (x1 < 4096) → Ok 58 [some (.inr (.inr (8, 7))), some (.inl x1), some (.inl x2), some (.inl x3), d4, d5] [.inl s0] N58 := by
              intro x1 x2 x3 d4 d5 s0 N58 hS g58_1 g58_2 g58_3 g58_4 g58_5
              have hI : pz_ic N58 := hS.1.1 hI0
              refine hgo (fun p => Nat.beq p 14 || Nat.beq p 28 || Nat.beq p 58 || Nat.beq p 107 || Nat.beq p 140) 100 58 _ _ _ ?_
              intro r63 e63 k63
              have R63 := pz_kdA k63 (by decide) (by decide)
              have Q63 := pz_nm e63 k_th.1 (by decide) (by decide) rfl
              refine And.intro (by omega) (And.intro (show _ < (12 : Int) from by omega) ?_)
              intro v67 e67 a67 b67
              refine And.intro (True.intro) ?_
              intro v68 M68 a68 b68 q68
              obtain ⟨q68, z68⟩ := q68
              subst z68
              intro v73 e73 a73 b73
              try rw [pz_wi (by omega) (by omega)] at e73
              refine And.intro (fun h79 => ?_) (fun h79 => ?_)
              · skip
                exact L107 _ _ _ _ _ _ hS (by omega) (by omega) (by omega) (by omega) (by omega)
              · skip
                intro r85 e85 k85
                have R85 := pz_kdA k85 (by decide) (by decide)
                have Q85 := pz_nm e85 k_th.1 (by decide) (by decide) rfl
                refine And.intro (by omega) (And.intro (show _ < (12 : Int) from by omega) ?_)
                intro v89 e89 a89 b89
                refine And.intro (fun h90 => ?_) (fun h90 => ?_)
                · skip
                  exact L107 _ _ _ _ _ _ hS (by omega) (by omega) (by omega) (by omega) (by omega)
                · skip
                  refine And.intro (fun h95 => ?_) (fun h95 => ?_)
                  · skip
                    exact L107 _ _ _ _ _ _ hS (by omega) (by omega) (by omega) (by omega) (by omega)
                  · skip
                    refine And.intro (fun h101 => ?_) (fun h101 => ?_)
                    · skip
                      exact L107 _ _ _ _ _ _ hS (by omega) (by omega) (by omega) (by omega) (by omega)
                    · skip
                      exact L107 _ _ _ _ _ _ hS (by omega) (by omega) (by omega) (by omega) (by omega)
            refine hgo (fun p => Nat.beq p 14 || Nat.beq p 28 || Nat.beq p 58 || Nat.beq p 107 || Nat.beq p 140) 100 28 _ _ _ ?_
            intro v30 e30 a30 b30
            have I30 := hI.2.2.2.2.2
            refine And.intro (fun h33 => ?_) (fun h33 => ?_)
            · skip
              intro r114 e114 k114
              have R114 := pz_kdA k114 (by decide) (by decide)
              have Q114 := pz_nm e114 k_th.1 (by decide) (by decide) rfl
              refine And.intro (by omega) (And.intro (show _ < (4096 : Int) from by omega) ?_)
              intro M119 e119
              have hS : pz_st M M119 := by
                rw [e119]
                exact pz_st_u hS (by unfold pz_mid; omega) (by omega) (by unfold pz_iok; omega)
              have hI : pz_ic M119 := hS.1.1 hI0
              refine And.intro (fun h122 => ?_) (fun h122 => ?_)
              · skip
                exact L140 _ _ _ _ _ _ hS (by omega) (by omega) (by omega)
              · skip
                intro v127 e127 a127 b127
                refine And.intro (True.intro) ?_
                intro v131 M131 a131 b131 q131
                obtain ⟨q131, z131⟩ := q131
                subst z131
                refine And.intro (True.intro) ?_
                intro v134 M134 a134 b134 q134
                obtain ⟨q134, z134⟩ := q134
                subst z134
                intro M137 e137
                have hS : pz_st M M137 := by
                  rw [e137]
                  exact pz_st_u hS (by unfold pz_mid; omega) (by omega) (by unfold pz_iok; omega)
                have hI : pz_ic M137 := hS.1.1 hI0
                exact L140 _ _ _ _ _ _ hS (by omega) (by omega) (by omega)
            · skip
              intro v38 e38 a38 b38
              intro v40 e40 a40 b40
              refine And.intro (fun h41 => ?_) (fun h41 => ?_)
              · skip
                exact L58 _ _ _ _ _ _ _ hS (by omega) (by omega) (by omega) (by omega) (by omega)
              · skip
                intro r45 e45 k45
                have R45 := pz_kdA k45 (by decide) (by decide)
                have Q45 := pz_nm e45 k_th.1 (by decide) (by decide) rfl
                intro v51 e51 a51 b51
                have S51 := pz_shl1 (c := x3) (by omega) (by omega)
                rw [← e51] at S51
                intro v52 e52 a52 b52
                have X52 := pz_xor12 (x := x1) (y := v51) (by omega) (by omega) (by omega) (by omega)
                rw [← e52] at X52
                refine And.intro (by omega) (And.intro (show _ < (4096 : Int) from by omega) ?_)
                intro v53 e53 a53 b53
                exact L58 _ _ _ _ _ _ _ hS (by omega) (by omega) (by omega) (by omega) (by omega)
        refine hgo (fun p => Nat.beq p 14 || Nat.beq p 28 || Nat.beq p 58 || Nat.beq p 107 || Nat.beq p 140) 100 14 _ _ _ ?_
        intro v17 e17 a17 b17
        have I17 := hI.2.2.2.2.2
        intro v20 e20 a20 b20
        have S20 := pz_shl1 (c := v17) (by omega) (by omega)
        rw [← e20] at S20
        refine And.intro (fun h21 => ?_) (fun h21 => ?_)
        · skip
          intro r148 e148 k148
          have R148 := pz_kdA k148 (by decide) (by decide)
          have Q148 := pz_nm e148 k_th.1 (by decide) (by decide) rfl
          intro v153 e153 a153 b153
          have I153 := hI.2.2.2.2.2
          intro v156 e156 a156 b156
          have S156 := pz_shl1 (c := v153) (by omega) (by omega)
          rw [← e156] at S156
          intro v158 e158 a158 b158
          try rw [pz_wi (by omega) (by omega)] at e158
          refine And.intro (by omega) (And.intro (show _ < (4096 : Int) from by omega) ?_)
          intro v159 e159 a159 b159
          intro M160 e160
          have hS : pz_st M M160 := by
            rw [e160]
            exact pz_st_u hS (by unfold pz_mid; omega) (by omega) (by unfold pz_iok; omega)
          have hI : pz_ic M160 := hS.1.1 hI0
          refine And.intro rfl ?_
          exact ⟨trivial, hS⟩
        · skip
          exact L28 _ _ _ _ _ _ _ (Nat.lt_succ_self _) hS (by omega) (by omega) (by omega) (by omega)
    refine hgo (fun p => Nat.beq p 14 || Nat.beq p 28 || Nat.beq p 58 || Nat.beq p 107 || Nat.beq p 140) 100 0 _ [] M ?_
    intro M2 e2
    have hS : pz_st M M2 := by
      rw [e2]
      exact pz_st_u hS (by unfold pz_mid; omega) (by omega) (by unfold pz_iok; omega)
    have hI : pz_ic M2 := hS.1.1 hI0
    intro r6 e6 k6
    have R6 := pz_kdA k6 (by decide) (by decide)
    have Q6 := pz_nm e6 k_th.1 (by decide) (by decide) rfl
    refine And.intro (by omega) (And.intro (show _ < (4096 : Int) from by omega) ?_)
    intro M11 e11
    have hS : pz_st M M11 := by
      rw [e11]
      exact pz_st_u hS (by unfold pz_mid; omega) (by omega) (by unfold pz_iok; omega)
    have hI : pz_ic M11 := hS.1.1 hI0
    exact L14 _ _ _ _ _ _ _ (Nat.lt_succ_self _) hS (by omega) (by omega)
theorem v_X8_findEarliest {fr lo i : Nat} {own : String} (h1 : 1 + 1 ≤ fr) (h2 : 8 + (6 + 11) + 21 ≤ lo) (h3 : .methodLink own i yX8_findEarliest ∈ lw_tbl) : pz_cV fr lo own i k_X8_findEarliest :=
  pz_cVk (maxL := 6) (fr' := 1) (lo' := 21) 0 8 h_X8_findEarliest rfl ⟨by decide +kernel, by decide +kernel, by decide +kernel⟩ ⟨by decide +kernel, by decide +kernel, by decide +kernel, by decide +kernel⟩ (Or.inl ⟨TX8, 8, rfl⟩) (fun a M _ h => by
    have h : (match (generalizing := false) a with | [.inr (.inr (8, th))] => pz_ic M | _ => False) := h
    split at h
    · exact ⟨_, _, rfl⟩
    · exact h.elim) h1 h2 h3
def k_X8_findLatest : pz_C := (1, 0, fun a M => (match a with | [.inr (.inr (8, th))] => pz_ic M | _ => False), fun a M r M' => (match a, r with | [.inr (.inr (8, th))], none => (True) ∧ pz_st M M' | _, _ => False))
abbrev ct_X8_findLatest : List (Bool × Nat × pz_C) := [(false, 28, k_J9_min_7cf53), (false, 62, k_J9_max_7cf53)]
set_option maxRecDepth 100000 in
set_option maxHeartbeats 4000000 in
theorem h_X8_findLatest : pz_H yX8_findLatest cX8_findLatest 6 none k_X8_findLatest 1 21 := by
  refine pz_mk (own := RX8) (tb := t_X8_findLatest) (fl := pz_flf fl_RX8) (ci := fun _ => none) (ct := pz_ctf ct_X8_findLatest) (rz := false) (by decide +kernel) rfl t_X8_findLatest_ok (pz_flk fl_RX8_ok) (fun i v h => by cases h) ?_ ?_ (rfl) ?_ ?_
  · exact fun i k' h => pz_ctk (l := ct_X8_findLatest) (P := fun b i k => b = true → pz_cV 1 21 RX8 i k) (List.forall_mem_cons.mpr ⟨((fun z => by cases z)), List.forall_mem_cons.mpr ⟨((fun z => by cases z)), fun _ h => absurd h List.not_mem_nil⟩⟩) true i k' h rfl
  · exact fun i k' h => pz_ctk (l := ct_X8_findLatest) (P := fun b i k => b = false → (pz_cS 1 21 RX8 i k ∨ (k = pz_kac ∧ 1 ≤ 1 ∧ 60 ≤ 21 ∧ Cond.methodLink RX8 i arraycopyName ∈ pz_tbl))) (List.forall_mem_cons.mpr ⟨(fun _ => Or.inl (s_J9_min_7cf53 (by decide) (by decide) (Or.inl (by decide +kernel)))), List.forall_mem_cons.mpr ⟨(fun _ => Or.inl (s_J9_max_7cf53 (by decide) (by decide) (Or.inl (by decide +kernel)))), fun _ h => absurd h List.not_mem_nil⟩⟩) false i k' h rfl
  · intro a M hlen hpre
    obtain ⟨th, rfl, hpre⟩ : ∃ th, a = [.inr (.inr (8, th))] ∧ (pz_ic M) := by
      have hpre : (match (generalizing := false) a with | [.inr (.inr (8, th))] => pz_ic M | _ => False) := hpre
      split at hpre
      · exact ⟨_, rfl, hpre⟩
      · exact hpre.elim
    exact Nat.le_of_ble_eq_true rfl
  · intro a M hlen hcan hM hpre Ok hgo
    obtain ⟨th, rfl, hpre⟩ : ∃ th, a = [.inr (.inr (8, th))] ∧ (pz_ic M) := by
      have hpre : (match (generalizing := false) a with | [.inr (.inr (8, th))] => pz_ic M | _ => False) := hpre
      split at hpre
      · exact ⟨_, rfl, hpre⟩
      · exact hpre.elim
    obtain ⟨k_th, hcan⟩ := pz_tlm hcan
    have k_th : pz_kd th = 8 ∧ th < 231 := k_th
    have R_th := pz_kd8 k_th.1
    subst R_th
    have hI : pz_ic M := hpre
    have hI0 := hI
    have hS : pz_st M M := pz_st.rf
    have L12 : ∀ (fu : Nat) (x1 : Int) (d2 : Option pz_V) (d3 : Option pz_V) (d4 : Option pz_V) (d5 : Option pz_V) (N12 : pz_M), (4096 - x1).toNat < fu → (pz_st M N12) → (1 ≤ x1) → (x1 ≤ 4096) → Ok 12 [some (.inr (.inr (8, 7))), some (.inl x1), d2, d3, d4, d5] [] N12 := by
      intro fu
      induction fu with
      | zero => exact fun _ _ _ _ _ _ hn => absurd hn (Nat.not_lt_zero _)
      | succ fu ih12 =>
        intro x1 d2 d3 d4 d5 N12 hn12 hS g12_1 g12_2
        have hI : pz_ic N12 := hS.1.1 hI0
        have L26 : ∀ (fu : Nat) (x1 : Int) (x2 : Int) (x3 : Int) (d4 : Option pz_V) (d5 : Option pz_V) (N26 : pz_M), (12 - x3).toNat < fu → (pz_st M N26) → (0 ≤ x3) → (1 ≤ x1) → (x1 < 4096) → ((4096 - x1).toNat < fu + 1) → Ok 26 [some (.inr (.inr (8, 7))), some (.inl x1), some (.inl x2), some (.inl x3), d4, d5] [] N26 := by
          intro fu
          induction fu with
          | zero => exact fun _ _ _ _ _ _ hn => absurd hn (Nat.not_lt_zero _)
          | succ fu ih26 =>
            intro x1 x2 x3 d4 d5 N26 hn26 hS g26_1 g26_2 g26_3 g26_4
            have hI : pz_ic N26 := hS.1.1 hI0
            have L98 : ∀ (x1 : Int) (x2 : Int) (x3 : Int) (x4 : Int) (x5 : Int) (N98 : pz_M), (pz_st M N98) → (0 ≤ x3) → (x3 < 12) → ((12 - x3).toNat < fu + 1) → (1 ≤ x1) → (x1 < 4096) → Ok 98 [some (.inr (.inr (8, 7))), some (.inl x1), some (.inl x2), some (.inl x3), some (.inl x4), some (.inl x5)] [] N98 := by
              intro x1 x2 x3 x4 x5 N98 hS g98_1 g98_2 g98_3 g98_4 g98_5
              have hI : pz_ic N98 := hS.1.1 hI0
              refine hgo (fun p => Nat.beq p 12 || Nat.beq p 26 || Nat.beq p 56 || Nat.beq p 98) 73 98 _ _ _ ?_
              intro v98 e98 a98 b98
              try rw [pz_wi (by omega) (by omega)] at e98
              exact ih26 _ _ _ _ _ _ (by omega) hS (by omega) (by omega) (by omega) (by omega)
            have L56 : ∀ (x1 : Int) (x2 : Int) (x3 : Int) (d4 : Option pz_V) (d5 : Option pz_V) (s0 : Int) (N56 : pz_M), (pz_st M N56) → (0 ≤ x3) → (x3 < 12) → ((12 - x3).toNat < fu + 1) → (1 ≤ x1) → (x1 < 4096) → Ok 56 [some (.inr (.inr (8, 7))), some (.inl x1), some (.inl x2), some (.inl x3), d4, d5] [.inl s0] N56 := by
              intro x1 x2 x3 d4 d5 s0 N56 hS g56_1 g56_2 g56_3 g56_4 g56_5
              have hI : pz_ic N56 := hS.1.1 hI0
              refine hgo (fun p => Nat.beq p 12 || Nat.beq p 26 || Nat.beq p 56 || Nat.beq p 98) 73 56 _ _ _ ?_
              intro r61 e61 k61
              have R61 := pz_kdA k61 (by decide) (by decide)
              have Q61 := pz_nm e61 k_th.1 (by decide) (by decide) rfl
              refine And.intro (by omega) (And.intro (show _ < (12 : Int) from by omega) ?_)
              intro v65 e65 a65 b65
              refine And.intro (True.intro) ?_
              intro v66 M66 a66 b66 q66
              obtain ⟨q66, z66⟩ := q66
              subst z66
              intro v71 e71 a71 b71
              try rw [pz_wi (by omega) (by omega)] at e71
              refine And.intro (fun h77 => ?_) (fun h77 => ?_)
              · skip
                exact L98 _ _ _ _ _ _ hS (by omega) (by omega) (by omega) (by omega) (by omega)
              · skip
                intro r83 e83 k83
                have R83 := pz_kdA k83 (by decide) (by decide)
                have Q83 := pz_nm e83 k_th.1 (by decide) (by decide) rfl
                refine And.intro (by omega) (And.intro (show _ < (12 : Int) from by omega) ?_)
                intro v87 e87 a87 b87
                refine And.intro (fun h88 => ?_) (fun h88 => ?_)
                · skip
                  exact L98 _ _ _ _ _ _ hS (by omega) (by omega) (by omega) (by omega) (by omega)
                · skip
                  refine And.intro (True.intro) ?_
                  intro v94 M94 a94 b94 q94
                  obtain ⟨q94, z94⟩ := q94
                  subst z94
                  exact L98 _ _ _ _ _ _ hS (by omega) (by omega) (by omega) (by omega) (by omega)
            refine hgo (fun p => Nat.beq p 12 || Nat.beq p 26 || Nat.beq p 56 || Nat.beq p 98) 73 26 _ _ _ ?_
            intro v28 e28 a28 b28
            have I28 := hI.2.2.2.2.2
            refine And.intro (fun h31 => ?_) (fun h31 => ?_)
            · skip
              intro r105 e105 k105
              have R105 := pz_kdA k105 (by decide) (by decide)
              have Q105 := pz_nm e105 k_th.1 (by decide) (by decide) rfl
              refine And.intro (by omega) (And.intro (show _ < (4096 : Int) from by omega) ?_)
              intro M110 e110
              have hS : pz_st M M110 := by
                rw [e110]
                exact pz_st_u hS (by unfold pz_mid; omega) (by omega) (by unfold pz_iok; omega)
              have hI : pz_ic M110 := hS.1.1 hI0
              intro v111 e111 a111 b111
              try rw [pz_wi (by omega) (by omega)] at e111
              exact ih12 _ _ _ _ _ _ (by omega) hS (by omega) (by omega)
            · skip
              intro v36 e36 a36 b36
              intro v38 e38 a38 b38
              refine And.intro (fun h39 => ?_) (fun h39 => ?_)
              · skip
                exact L56 _ _ _ _ _ _ _ hS (by omega) (by omega) (by omega) (by omega) (by omega)
              · skip
                intro r43 e43 k43
                have R43 := pz_kdA k43 (by decide) (by decide)
                have Q43 := pz_nm e43 k_th.1 (by decide) (by decide) rfl
                intro v49 e49 a49 b49
                have S49 := pz_shl1 (c := x3) (by omega) (by omega)
                rw [← e49] at S49
                intro v50 e50 a50 b50
                have X50 := pz_xor12 (x := x1) (y := v49) (by omega) (by omega) (by omega) (by omega)
                rw [← e50] at X50
                refine And.intro (by omega) (And.intro (show _ < (4096 : Int) from by omega) ?_)
                intro v51 e51 a51 b51
                exact L56 _ _ _ _ _ _ _ hS (by omega) (by omega) (by omega) (by omega) (by omega)
        refine hgo (fun p => Nat.beq p 12 || Nat.beq p 26 || Nat.beq p 56 || Nat.beq p 98) 73 12 _ _ _ ?_
        intro v15 e15 a15 b15
        have I15 := hI.2.2.2.2.2
        intro v18 e18 a18 b18
        have S18 := pz_shl1 (c := v15) (by omega) (by omega)
        rw [← e18] at S18
        refine And.intro (fun h19 => ?_) (fun h19 => ?_)
        · skip
          refine And.intro rfl ?_
          exact ⟨trivial, hS⟩
        · skip
          exact L26 _ _ _ _ _ _ _ (Nat.lt_succ_self _) hS (by omega) (by omega) (by omega) (by omega)
    refine hgo (fun p => Nat.beq p 12 || Nat.beq p 26 || Nat.beq p 56 || Nat.beq p 98) 73 0 _ [] M ?_
    intro r1 e1 k1
    have R1 := pz_kdA k1 (by decide) (by decide)
    have Q1 := pz_nm e1 k_th.1 (by decide) (by decide) rfl
    intro v6 e6 a6 b6
    refine And.intro (by omega) (And.intro (show _ < (4096 : Int) from by omega) ?_)
    intro M9 e9
    have hS : pz_st M M9 := by
      rw [e9]
      exact pz_st_u hS (by unfold pz_mid; omega) (by omega) (by unfold pz_iok; omega)
    have hI : pz_ic M9 := hS.1.1 hI0
    exact L12 _ _ _ _ _ _ _ (Nat.lt_succ_self _) hS (by omega) (by omega)
theorem v_X8_findLatest {fr lo i : Nat} {own : String} (h1 : 1 + 1 ≤ fr) (h2 : 8 + (6 + 11) + 21 ≤ lo) (h3 : .methodLink own i yX8_findLatest ∈ lw_tbl) : pz_cV fr lo own i k_X8_findLatest :=
  pz_cVk (maxL := 6) (fr' := 1) (lo' := 21) 0 8 h_X8_findLatest rfl ⟨by decide +kernel, by decide +kernel, by decide +kernel⟩ ⟨by decide +kernel, by decide +kernel, by decide +kernel, by decide +kernel⟩ (Or.inl ⟨TX8, 8, rfl⟩) (fun a M _ h => by
    have h : (match (generalizing := false) a with | [.inr (.inr (8, th))] => pz_ic M | _ => False) := h
    split at h
    · exact ⟨_, _, rfl⟩
    · exact h.elim) h1 h2 h3
def k_X8_findOrder : pz_C := (1, 0, fun a M => (match a with | [.inr (.inr (8, th))] => pz_ic M | _ => False), fun a M r M' => (match a, r with | [.inr (.inr (8, th))], none => (True) ∧ pz_st M M' | _, _ => False))
abbrev ct_X8_findOrder : List (Bool × Nat × pz_C) := [(false, 62, k_J9_max_7cf53), (false, 28, k_J9_min_7cf53)]
set_option maxRecDepth 100000 in
set_option maxHeartbeats 4000000 in
theorem h_X8_findOrder : pz_H yX8_findOrder cX8_findOrder 7 none k_X8_findOrder 1 21 := by
  refine pz_mk (own := RX8) (tb := t_X8_findOrder) (fl := pz_flf fl_RX8) (ci := fun _ => none) (ct := pz_ctf ct_X8_findOrder) (rz := false) (by decide +kernel) rfl t_X8_findOrder_ok (pz_flk fl_RX8_ok) (fun i v h => by cases h) ?_ ?_ (rfl) ?_ ?_
  · exact fun i k' h => pz_ctk (l := ct_X8_findOrder) (P := fun b i k => b = true → pz_cV 1 21 RX8 i k) (List.forall_mem_cons.mpr ⟨((fun z => by cases z)), List.forall_mem_cons.mpr ⟨((fun z => by cases z)), fun _ h => absurd h List.not_mem_nil⟩⟩) true i k' h rfl
  · exact fun i k' h => pz_ctk (l := ct_X8_findOrder) (P := fun b i k => b = false → (pz_cS 1 21 RX8 i k ∨ (k = pz_kac ∧ 1 ≤ 1 ∧ 60 ≤ 21 ∧ Cond.methodLink RX8 i arraycopyName ∈ pz_tbl))) (List.forall_mem_cons.mpr ⟨(fun _ => Or.inl (s_J9_max_7cf53 (by decide) (by decide) (Or.inl (by decide +kernel)))), List.forall_mem_cons.mpr ⟨(fun _ => Or.inl (s_J9_min_7cf53 (by decide) (by decide) (Or.inl (by decide +kernel)))), fun _ h => absurd h List.not_mem_nil⟩⟩) false i k' h rfl
  · intro a M hlen hpre
    obtain ⟨th, rfl, hpre⟩ : ∃ th, a = [.inr (.inr (8, th))] ∧ (pz_ic M) := by
      have hpre : (match (generalizing := false) a with | [.inr (.inr (8, th))] => pz_ic M | _ => False) := hpre
      split at hpre
      · exact ⟨_, rfl, hpre⟩
      · exact hpre.elim
    exact Nat.le_of_ble_eq_true rfl
  · intro a M hlen hcan hM hpre Ok hgo
    obtain ⟨th, rfl, hpre⟩ : ∃ th, a = [.inr (.inr (8, th))] ∧ (pz_ic M) := by
      have hpre : (match (generalizing := false) a with | [.inr (.inr (8, th))] => pz_ic M | _ => False) := hpre
      split at hpre
      · exact ⟨_, rfl, hpre⟩
      · exact hpre.elim
    obtain ⟨k_th, hcan⟩ := pz_tlm hcan
    have k_th : pz_kd th = 8 ∧ th < 231 := k_th
    have R_th := pz_kd8 k_th.1
    subst R_th
    have hI : pz_ic M := hpre
    have hI0 := hI
    have hS : pz_st M M := pz_st.rf
    have L13 : ∀ (fu : Nat) (x1 : Int) (x2 : Int) (x3 : Int) (d4 : Option pz_V) (d5 : Option pz_V) (d6 : Option pz_V) (N13 : pz_M), (12 - x3).toNat < fu → (pz_st M N13) → (0 ≤ x3) → (0 ≤ x2) → (x2 < 4096) → Ok 13 [some (.inr (.inr (8, 7))), some (.inl x1), some (.inl x2), some (.inl x3), d4, d5, d6] [] N13 := by
      intro fu
      induction fu with
      | zero => exact fun _ _ _ _ _ _ _ hn => absurd hn (Nat.not_lt_zero _)
      | succ fu ih13 =>
        intro x1 x2 x3 d4 d5 d6 N13 hn13 hS g13_1 g13_2 g13_3
        have hI : pz_ic N13 := hS.1.1 hI0
        have L125 : ∀ (x1 : Int) (x2 : Int) (x3 : Int) (x4 : Int) (d5 : Option pz_V) (d6 : Option pz_V) (N125 : pz_M), (pz_st M N125) → (0 ≤ x3) → (x3 < 12) → ((12 - x3).toNat < fu + 1) → (0 ≤ x2) → (x2 < 4096) → Ok 125 [some (.inr (.inr (8, 7))), some (.inl x1), some (.inl x2), some (.inl x3), some (.inl x4), d5, d6] [] N125 := by
          intro x1 x2 x3 x4 d5 d6 N125 hS g125_1 g125_2 g125_3 g125_4 g125_5
          have hI : pz_ic N125 := hS.1.1 hI0
          refine hgo (fun p => Nat.beq p 13 || Nat.beq p 24 || Nat.beq p 57 || Nat.beq p 119 || Nat.beq p 125) 79 125 _ _ _ ?_
          intro v125 e125 a125 b125
          try rw [pz_wi (by omega) (by omega)] at e125
          exact ih13 _ _ _ _ _ _ _ (by omega) hS (by omega) (by omega) (by omega)
        have L24 : ∀ (fu : Nat) (x1 : Int) (x2 : Int) (x3 : Int) (x4 : Int) (d5 : Option pz_V) (d6 : Option pz_V) (N24 : pz_M), (12 - x4).toNat < fu → (pz_st M N24) → (0 ≤ x4) → (0 ≤ x3) → (x3 < 12) → ((12 - x3).toNat < fu + 1) → (0 ≤ x2) → (x2 < 4096) → Ok 24 [some (.inr (.inr (8, 7))), some (.inl x1), some (.inl x2), some (.inl x3), some (.inl x4), d5, d6] [] N24 := by
          intro fu
          induction fu with
          | zero => exact fun _ _ _ _ _ _ _ hn => absurd hn (Nat.not_lt_zero _)
          | succ fu ih24 =>
            intro x1 x2 x3 x4 d5 d6 N24 hn24 hS g24_1 g24_2 g24_3 g24_4 g24_5 g24_6
            have hI : pz_ic N24 := hS.1.1 hI0
            have L119 : ∀ (x1 : Int) (x2 : Int) (x3 : Int) (x4 : Int) (x5 : Int) (x6 : Int) (N119 : pz_M), (pz_st M N119) → (0 ≤ x4) → (x4 < 12) → ((12 - x4).toNat < fu + 1) → (0 ≤ x3) → (x3 < 12) → (0 ≤ x2) → (x2 < 4096) → Ok 119 [some (.inr (.inr (8, 7))), some (.inl x1), some (.inl x2), some (.inl x3), some (.inl x4), some (.inl x5), some (.inl x6)] [] N119 := by
              intro x1 x2 x3 x4 x5 x6 N119 hS g119_1 g119_2 g119_3 g119_4 g119_5 g119_6 g119_7
              have hI : pz_ic N119 := hS.1.1 hI0
              refine hgo (fun p => Nat.beq p 13 || Nat.beq p 24 || Nat.beq p 57 || Nat.beq p 119 || Nat.beq p 125) 79 119 _ _ _ ?_
              intro v119 e119 a119 b119
              try rw [pz_wi (by omega) (by omega)] at e119
              exact ih24 _ _ _ _ _ _ _ (by omega) hS (by omega) (by omega) (by omega) (by omega) (by omega) (by omega)
            have L57 : ∀ (x1 : Int) (x2 : Int) (x3 : Int) (x4 : Int) (d5 : Option pz_V) (d6 : Option pz_V) (s0 : Int) (N57 : pz_M), (pz_st M N57) → (0 ≤ x4) → (x4 < 12) → ((12 - x4).toNat < fu + 1) → (0 ≤ x3) → (x3 < 12) → (0 ≤ x2) → (x2 < 4096) → Ok 57 [some (.inr (.inr (8, 7))), some (.inl x1), some (.inl x2), some (.inl x3), some (.inl x4), d5, d6] [.inl s0] N57 := by
              intro x1 x2 x3 x4 d5 d6 s0 N57 hS g57_1 g57_2 g57_3 g57_4 g57_5 g57_6 g57_7
              have hI : pz_ic N57 := hS.1.1 hI0
              refine hgo (fun p => Nat.beq p 13 || Nat.beq p 24 || Nat.beq p 57 || Nat.beq p 119 || Nat.beq p 125) 79 57 _ _ _ ?_
              intro r61 e61 k61
              have R61 := pz_kdA k61 (by decide) (by decide)
              have Q61 := pz_nm e61 k_th.1 (by decide) (by decide) rfl
              refine And.intro (by omega) (And.intro (show _ < (12 : Int) from by omega) ?_)
              intro v66 e66 a66 b66
              refine And.intro (True.intro) ?_
              intro v67 M67 a67 b67 q67
              obtain ⟨q67, z67⟩ := q67
              subst z67
              intro v72 e72 a72 b72
              try rw [pz_wi (by omega) (by omega)] at e72
              refine And.intro (fun h78 => ?_) (fun h78 => ?_)
              · skip
                exact L119 _ _ _ _ _ _ _ hS (by omega) (by omega) (by omega) (by omega) (by omega) (by omega) (by omega)
              · skip
                intro r86 e86 k86
                have R86 := pz_kdA k86 (by decide) (by decide)
                have Q86 := pz_nm e86 k_th.1 (by decide) (by decide) rfl
                refine And.intro (by omega) (And.intro (show _ < (12 : Int) from by omega) ?_)
                intro v91 e91 a91 b91
                refine And.intro (True.intro) ?_
                intro v92 M92 a92 b92 q92
                obtain ⟨q92, z92⟩ := q92
                subst z92
                refine And.intro (fun h95 => ?_) (fun h95 => ?_)
                · skip
                  exact L119 _ _ _ _ _ _ _ hS (by omega) (by omega) (by omega) (by omega) (by omega) (by omega) (by omega)
                · skip
                  intro r99 e99 k99
                  have R99 := pz_kdA k99 (by decide) (by decide)
                  have Q99 := pz_nm e99 k_th.1 (by decide) (by decide) rfl
                  refine And.intro (by omega) (And.intro (show _ < (12 : Int) from by omega) ?_)
                  intro M105 e105
                  have hS : pz_st M M105 := by
                    rw [e105]
                    exact pz_st_u hS (by unfold pz_mid; omega) (by omega) (by unfold pz_iok; omega)
                  have hI : pz_ic M105 := hS.1.1 hI0
                  intro v113 e113 a113 b113
                  have S113 := pz_shl1 (c := x4) (by omega) (by omega)
                  rw [← e113] at S113
                  intro v114 e114 a114 b114
                  have X114 := pz_xor12 (x := x2) (y := v113) (by omega) (by omega) (by omega) (by omega)
                  rw [← e114] at X114
                  exact L125 _ _ _ _ _ _ _ hS (by omega) (by omega) (by omega) (by omega) (by omega)
            refine hgo (fun p => Nat.beq p 13 || Nat.beq p 24 || Nat.beq p 57 || Nat.beq p 119 || Nat.beq p 125) 79 24 _ _ _ ?_
            intro v27 e27 a27 b27
            have I27 := hI.2.2.2.2.2
            refine And.intro (fun h30 => ?_) (fun h30 => ?_)
            · skip
              exact L125 _ _ _ _ _ _ _ hS (by omega) (by omega) (by omega) (by omega) (by omega)
            · skip
              intro v36 e36 a36 b36
              intro v38 e38 a38 b38
              refine And.intro (fun h39 => ?_) (fun h39 => ?_)
              · skip
                exact L57 _ _ _ _ _ _ _ _ hS (by omega) (by omega) (by omega) (by omega) (by omega) (by omega) (by omega)
              · skip
                intro r43 e43 k43
                have R43 := pz_kdA k43 (by decide) (by decide)
                have Q43 := pz_nm e43 k_th.1 (by decide) (by decide) rfl
                intro v50 e50 a50 b50
                have S50 := pz_shl1 (c := x4) (by omega) (by omega)
                rw [← e50] at S50
                intro v51 e51 a51 b51
                have X51 := pz_xor12 (x := x2) (y := v50) (by omega) (by omega) (by omega) (by omega)
                rw [← e51] at X51
                refine And.intro (by omega) (And.intro (show _ < (4096 : Int) from by omega) ?_)
                intro v52 e52 a52 b52
                exact L57 _ _ _ _ _ _ _ _ hS (by omega) (by omega) (by omega) (by omega) (by omega) (by omega) (by omega)
        refine hgo (fun p => Nat.beq p 13 || Nat.beq p 24 || Nat.beq p 57 || Nat.beq p 119 || Nat.beq p 125) 79 13 _ _ _ ?_
        intro v15 e15 a15 b15
        have I15 := hI.2.2.2.2.2
        refine And.intro (fun h18 => ?_) (fun h18 => ?_)
        · skip
          refine And.intro rfl ?_
          exact ⟨trivial, hS⟩
        · skip
          exact L24 _ _ _ _ _ _ _ _ (Nat.lt_succ_self _) hS (by omega) (by omega) (by omega) (by omega) (by omega) (by omega)
    refine hgo (fun p => Nat.beq p 13 || Nat.beq p 24 || Nat.beq p 57 || Nat.beq p 119 || Nat.beq p 125) 79 0 _ [] M ?_
    intro v4 e4 a4 b4
    have I4 := hI.2.2.2.2.2
    intro v7 e7 a7 b7
    have S7 := pz_shl1 (c := v4) (by omega) (by omega)
    rw [← e7] at S7
    intro v9 e9 a9 b9
    try rw [pz_wi (by omega) (by omega)] at e9
    exact L13 _ _ _ _ _ _ _ _ (Nat.lt_succ_self _) hS (by omega) (by omega) (by omega)
theorem v_X8_findOrder {fr lo i : Nat} {own : String} (h1 : 1 + 1 ≤ fr) (h2 : 8 + (7 + 11) + 21 ≤ lo) (h3 : .methodLink own i yX8_findOrder ∈ lw_tbl) : pz_cV fr lo own i k_X8_findOrder :=
  pz_cVk (maxL := 7) (fr' := 1) (lo' := 21) 0 8 h_X8_findOrder rfl ⟨by decide +kernel, by decide +kernel, by decide +kernel⟩ ⟨by decide +kernel, by decide +kernel, by decide +kernel, by decide +kernel⟩ (Or.inl ⟨TX8, 8, rfl⟩) (fun a M _ h => by
    have h : (match (generalizing := false) a with | [.inr (.inr (8, th))] => pz_ic M | _ => False) := h
    split at h
    · exact ⟨_, _, rfl⟩
    · exact h.elim) h1 h2 h3
def k_X8_plan : pz_C := (3, 0, fun a M => (match a with | [.inr (.inr (8, th)), .inl l, .inr (.inr (10, t))] => pz_ic M ∧ 0 ≤ l | _ => False), fun a M r M' => (match a, r with | [.inr (.inr (8, th)), .inl l, .inr (.inr (10, t))], none => (True) ∧ pz_st M M' | _, _ => False))
abbrev ct_X8_plan : List (Bool × Nat × pz_C) := [(false, 28, k_J9_min_7cf53), (true, 38, k_X10_phoneFrom), (true, 44, k_X10_phoneTo), (true, 47, k_X8_findEarliest), (true, 53, k_X8_findLatest), (true, 56, k_X8_findOrder)]
set_option maxRecDepth 100000 in
set_option maxHeartbeats 4000000 in
theorem h_X8_plan : pz_H yX8_plan cX8_plan 4 none k_X8_plan 3 66 := by
  refine pz_mk (own := RX8) (tb := t_X8_plan) (fl := pz_flf fl_RX8) (ci := fun _ => none) (ct := pz_ctf ct_X8_plan) (rz := false) (by decide +kernel) rfl t_X8_plan_ok (pz_flk fl_RX8_ok) (fun i v h => by cases h) ?_ ?_ (rfl) ?_ ?_
  · exact fun i k' h => pz_ctk (l := ct_X8_plan) (P := fun b i k => b = true → pz_cV 3 66 RX8 i k) (List.forall_mem_cons.mpr ⟨((fun z => by cases z)), List.forall_mem_cons.mpr ⟨(fun _ => v_X10_phoneFrom (by decide) (by decide) (by decide +kernel)), List.forall_mem_cons.mpr ⟨(fun _ => v_X10_phoneTo (by decide) (by decide) (by decide +kernel)), List.forall_mem_cons.mpr ⟨(fun _ => v_X8_findEarliest (by decide) (by decide) (by decide +kernel)), List.forall_mem_cons.mpr ⟨(fun _ => v_X8_findLatest (by decide) (by decide) (by decide +kernel)), List.forall_mem_cons.mpr ⟨(fun _ => v_X8_findOrder (by decide) (by decide) (by decide +kernel)), fun _ h => absurd h List.not_mem_nil⟩⟩⟩⟩⟩⟩) true i k' h rfl
  · exact fun i k' h => pz_ctk (l := ct_X8_plan) (P := fun b i k => b = false → (pz_cS 3 66 RX8 i k ∨ (k = pz_kac ∧ 1 ≤ 3 ∧ 60 ≤ 66 ∧ Cond.methodLink RX8 i arraycopyName ∈ pz_tbl))) (List.forall_mem_cons.mpr ⟨(fun _ => Or.inl (s_J9_min_7cf53 (by decide) (by decide) (Or.inl (by decide +kernel)))), List.forall_mem_cons.mpr ⟨((fun z => by cases z)), List.forall_mem_cons.mpr ⟨((fun z => by cases z)), List.forall_mem_cons.mpr ⟨((fun z => by cases z)), List.forall_mem_cons.mpr ⟨((fun z => by cases z)), List.forall_mem_cons.mpr ⟨((fun z => by cases z)), fun _ h => absurd h List.not_mem_nil⟩⟩⟩⟩⟩⟩) false i k' h rfl
  · intro a M hlen hpre
    obtain ⟨th, l, t, rfl, hpre⟩ : ∃ th l t, a = [.inr (.inr (8, th)), .inl l, .inr (.inr (10, t))] ∧ (pz_ic M ∧ 0 ≤ l) := by
      have hpre : (match (generalizing := false) a with | [.inr (.inr (8, th)), .inl l, .inr (.inr (10, t))] => pz_ic M ∧ 0 ≤ l | _ => False) := hpre
      split at hpre
      · exact ⟨_, _, _, rfl, hpre⟩
      · exact hpre.elim
    exact Nat.le_of_ble_eq_true rfl
  · intro a M hlen hcan hM hpre Ok hgo
    obtain ⟨th, l, t, rfl, hpre⟩ : ∃ th l t, a = [.inr (.inr (8, th)), .inl l, .inr (.inr (10, t))] ∧ (pz_ic M ∧ 0 ≤ l) := by
      have hpre : (match (generalizing := false) a with | [.inr (.inr (8, th)), .inl l, .inr (.inr (10, t))] => pz_ic M ∧ 0 ≤ l | _ => False) := hpre
      split at hpre
      · exact ⟨_, _, _, rfl, hpre⟩
      · exact hpre.elim
    obtain ⟨k_th, hcan⟩ := pz_tlm hcan
    have k_th : pz_kd th = 8 ∧ th < 231 := k_th
    have R_th := pz_kd8 k_th.1
    subst R_th
    obtain ⟨k_l, hcan⟩ := pz_tlm hcan
    have l_l : -2147483648 ≤ l := k_l.1
    have u_l : l ≤ 2147483647 := k_l.2
    obtain ⟨k_t, hcan⟩ := pz_tlm hcan
    have k_t : pz_kd t = 10 ∧ t < 231 := k_t
    have R_t := pz_kd10 k_t.1
    have hI : pz_ic M := hpre.1
    have hI0 := hI
    have hS : pz_st M M := pz_st.rf
    have L25 : ∀ (fu : Nat) (x3 : Int) (N25 : pz_M), (12 - x3).toNat < fu → (pz_st M N25) → (0 ≤ x3) → Ok 25 [some (.inr (.inr (8, 7))), some (.inl l), some (.inr (.inr (10, t))), some (.inl x3)] [] N25 := by
      intro fu
      induction fu with
      | zero => exact fun _ _ hn => absurd hn (Nat.not_lt_zero _)
      | succ fu ih25 =>
        intro x3 N25 hn25 hS g25_1
        have hI : pz_ic N25 := hS.1.1 hI0
        refine hgo (fun p => Nat.beq p 25) 47 25 _ _ _ ?_
        intro v27 e27 a27 b27
        have I27 := hI.2.2.2.2.2
        refine And.intro (fun h30 => ?_) (fun h30 => ?_)
        · skip
          refine And.intro (hI) ?_
          intro M62 q62
          obtain ⟨q62, z62⟩ := q62
          have hS : pz_st M M62 := hS.tr z62
          have hI : pz_ic M62 := hS.1.1 hI0
          intro v66 e66 a66 b66
          refine And.intro (fun h70 => ?_) (fun h70 => ?_)
          · skip
            refine And.intro rfl ?_
            exact ⟨trivial, hS⟩
          · skip
            refine And.intro (hI) ?_
            intro M74 q74
            obtain ⟨q74, z74⟩ := q74
            have hS : pz_st M M74 := hS.tr z74
            have hI : pz_ic M74 := hS.1.1 hI0
            refine And.intro (hI) ?_
            intro M78 q78
            obtain ⟨q78, z78⟩ := q78
            have hS : pz_st M M78 := hS.tr z78
            have hI : pz_ic M78 := hS.1.1 hI0
            refine And.intro rfl ?_
            exact ⟨trivial, hS⟩
        · skip
          intro r34 e34 k34
          have R34 := pz_kdA k34 (by decide) (by decide)
          have Q34 := pz_nm e34 k_th.1 (by decide) (by decide) rfl
          refine And.intro (hI) ?_
          intro v40 M40 a40 b40 q40
          obtain ⟨q40, z40⟩ := q40
          subst z40
          refine And.intro (by omega) (And.intro (show _ < (12 : Int) from by omega) ?_)
          intro M43 e43
          have hS : pz_st M M43 := by
            rw [e43]
            exact pz_st_u hS (by unfold pz_mid; omega) (by omega) (by unfold pz_iok; omega)
          have hI : pz_ic M43 := hS.1.1 hI0
          intro r45 e45 k45
          have R45 := pz_kdA k45 (by decide) (by decide)
          have Q45 := pz_nm e45 k_th.1 (by decide) (by decide) rfl
          refine And.intro (hI) ?_
          intro v51 M51 a51 b51 q51
          obtain ⟨q51, z51⟩ := q51
          subst z51
          refine And.intro (by omega) (And.intro (show _ < (12 : Int) from by omega) ?_)
          intro M54 e54
          have hS : pz_st M M54 := by
            rw [e54]
            exact pz_st_u hS (by unfold pz_mid; omega) (by omega) (by unfold pz_iok; omega)
          have hI : pz_ic M54 := hS.1.1 hI0
          intro v55 e55 a55 b55
          try rw [pz_wi (by omega) (by omega)] at e55
          exact ih25 _ _ (by omega) hS (by omega)
    refine hgo (fun p => Nat.beq p 25) 47 0 _ [] M ?_
    intro v1 e1 a1 b1
    refine And.intro (fun h4 => ?_) (fun h4 => ?_)
    · skip
      refine And.intro (by omega) ?_
      intro M10 e10
      have hS : pz_st M M10 := by
        rw [e10]
        exact pz_st_u hS (by unfold pz_mid; omega) (by omega) (by unfold pz_iok; omega)
      have hI : pz_ic M10 := hS.1.1 hI0
      refine And.intro (True.intro) ?_
      intro v17 M17 a17 b17 q17
      obtain ⟨q17, z17⟩ := q17
      subst z17
      intro M20 e20
      have hS : pz_st M M20 := by
        rw [e20]
        exact pz_st_u hS (by unfold pz_mid; omega) (by omega) (by unfold pz_iok; omega)
      have hI : pz_ic M20 := hS.1.1 hI0
      exact L25 _ _ _ (Nat.lt_succ_self _) hS (by omega)
    · skip
      refine And.intro rfl ?_
      exact ⟨trivial, hS⟩
theorem v_X8_plan {fr lo i : Nat} {own : String} (h1 : 3 + 1 ≤ fr) (h2 : 8 + (4 + 11) + 66 ≤ lo) (h3 : .methodLink own i yX8_plan ∈ lw_tbl) : pz_cV fr lo own i k_X8_plan :=
  pz_cVk (maxL := 4) (fr' := 3) (lo' := 66) 2 8 h_X8_plan rfl ⟨by decide +kernel, by decide +kernel, by decide +kernel⟩ ⟨by decide +kernel, by decide +kernel, by decide +kernel, by decide +kernel⟩ (Or.inl ⟨TX8, 8, rfl⟩) (fun a M _ h => by
    have h : (match (generalizing := false) a with | [.inr (.inr (8, th)), .inl l, .inr (.inr (10, t))] => pz_ic M ∧ 0 ≤ l | _ => False) := h
    split at h
    · exact ⟨_, _, rfl⟩
    · exact h.elim) h1 h2 h3
def k_X8_signer : pz_C := (2, 1, fun a M => (match a with | [.inr (.inr (8, th)), .inl i] => pz_ic M | _ => False), fun a M r M' => (match a, r with | [.inr (.inr (8, th)), .inl i], some (.inl v) => (True) ∧ M = M' | _, _ => False))
abbrev ct_X8_signer : List (Bool × Nat × pz_C) := []
set_option maxRecDepth 100000 in
set_option maxHeartbeats 4000000 in
theorem h_X8_signer : pz_H yX8_signer cX8_signer 2 (some .int) k_X8_signer 0 0 := by
  refine pz_mk (own := RX8) (tb := t_X8_signer) (fl := pz_flf fl_RX8) (ci := fun _ => none) (ct := pz_ctf ct_X8_signer) (rz := false) (by decide +kernel) rfl t_X8_signer_ok (pz_flk fl_RX8_ok) (fun i v h => by cases h) ?_ ?_ (Or.inl ⟨rfl, rfl⟩) ?_ ?_
  · exact fun i k' h => pz_ctk (l := ct_X8_signer) (P := fun b i k => b = true → pz_cV 0 0 RX8 i k) (fun _ h => absurd h List.not_mem_nil) true i k' h rfl
  · exact fun i k' h => pz_ctk (l := ct_X8_signer) (P := fun b i k => b = false → (pz_cS 0 0 RX8 i k ∨ (k = pz_kac ∧ 1 ≤ 0 ∧ 60 ≤ 0 ∧ Cond.methodLink RX8 i arraycopyName ∈ pz_tbl))) (fun _ h => absurd h List.not_mem_nil) false i k' h rfl
  · intro a M hlen hpre
    obtain ⟨th, i, rfl, hpre⟩ : ∃ th i, a = [.inr (.inr (8, th)), .inl i] ∧ (pz_ic M) := by
      have hpre : (match (generalizing := false) a with | [.inr (.inr (8, th)), .inl i] => pz_ic M | _ => False) := hpre
      split at hpre
      · exact ⟨_, _, rfl, hpre⟩
      · exact hpre.elim
    exact Nat.le_of_ble_eq_true rfl
  · intro a M hlen hcan hM hpre Ok hgo
    obtain ⟨th, i, rfl, hpre⟩ : ∃ th i, a = [.inr (.inr (8, th)), .inl i] ∧ (pz_ic M) := by
      have hpre : (match (generalizing := false) a with | [.inr (.inr (8, th)), .inl i] => pz_ic M | _ => False) := hpre
      split at hpre
      · exact ⟨_, _, rfl, hpre⟩
      · exact hpre.elim
    obtain ⟨k_th, hcan⟩ := pz_tlm hcan
    have k_th : pz_kd th = 8 ∧ th < 231 := k_th
    have R_th := pz_kd8 k_th.1
    subst R_th
    obtain ⟨k_i, hcan⟩ := pz_tlm hcan
    have l_i : -2147483648 ≤ i := k_i.1
    have u_i : i ≤ 2147483647 := k_i.2
    have hI : pz_ic M := hpre
    refine hgo (fun _ => false) 19 0 _ [] M ?_
    intro v1 e1 a1 b1
    refine And.intro (fun h5 => ?_) (fun h5 => ?_)
    · skip
      refine And.intro rfl ?_
      exact ⟨trivial, rfl⟩
    · skip
      refine And.intro (fun h9 => ?_) (fun h9 => ?_)
      · skip
        refine And.intro rfl ?_
        exact ⟨trivial, rfl⟩
      · skip
        intro v14 e14 a14 b14
        have I14 := hI.2.2.2.2.2
        refine And.intro (fun h17 => ?_) (fun h17 => ?_)
        · skip
          refine And.intro rfl ?_
          exact ⟨trivial, rfl⟩
        · skip
          intro r21 e21 k21
          have R21 := pz_kdA k21 (by decide) (by decide)
          refine And.intro (by omega) (And.intro (show _ < (12 : Int) from by omega) ?_)
          intro v25 e25 a25 b25
          refine And.intro rfl ?_
          exact ⟨trivial, rfl⟩
theorem v_X8_signer {fr lo i : Nat} {own : String} (h1 : 0 + 1 ≤ fr) (h2 : 8 + (2 + 11) + 0 ≤ lo) (h3 : .methodLink own i yX8_signer ∈ lw_tbl) : pz_cV fr lo own i k_X8_signer :=
  pz_cVk (maxL := 2) (fr' := 0) (lo' := 0) 1 8 h_X8_signer rfl ⟨by decide +kernel, by decide +kernel, by decide +kernel⟩ ⟨by decide +kernel, by decide +kernel, by decide +kernel, by decide +kernel⟩ (Or.inl ⟨TX8, 8, rfl⟩) (fun a M _ h => by
    have h : (match (generalizing := false) a with | [.inr (.inr (8, th)), .inl i] => pz_ic M | _ => False) := h
    split at h
    · exact ⟨_, _, rfl⟩
    · exact h.elim) h1 h2 h3
end
