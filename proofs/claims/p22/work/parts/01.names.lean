section
-- ===== PART A: goes FIRST, ahead of the names: the tables' words, and 'selects' of the private methods out of them =====
/-- a private method of a class that the tables say can be made, by its rows of tables_1 -/
def lw_okq (q : MethodName × Nat) : Prop := (q.1.cls ≠ "java/lang/invoke/MethodHandle" ∧ q.1.cls ≠ "java/lang/invoke/VarHandle") ∧ Cond.instantiable q.1.cls q.2 ∈ tables_1 ∧ Cond.privateMethod q.1 ∈ tables_1 ∧ Cond.instanceMethod q.1 ∈ tables_1
theorem lw_nh0 : ("TwelveChain" : String) ≠ "java/lang/invoke/MethodHandle" ∧ ("TwelveChain" : String) ≠ "java/lang/invoke/VarHandle" := ⟨by decide +kernel, by decide +kernel⟩
theorem lw_nh1 : ("TwelveChain$Teller" : String) ≠ "java/lang/invoke/MethodHandle" ∧ ("TwelveChain$Teller" : String) ≠ "java/lang/invoke/VarHandle" := ⟨by decide +kernel, by decide +kernel⟩
theorem lw_nh2 : ("TwelveChainModel" : String) ≠ "java/lang/invoke/MethodHandle" ∧ ("TwelveChainModel" : String) ≠ "java/lang/invoke/VarHandle" := ⟨by decide +kernel, by decide +kernel⟩
theorem lw_p0 : lw_okq (⟨"TwelveChain$Teller", "conditions", "()Z"⟩, 10) := ⟨lw_nh1, (pz_ti16 _ (List.mem_of_getElem? (i := 14) rfl)), (pz_ti48 _ (List.mem_of_getElem? (i := 2) rfl)), (pz_ti48 _ (List.mem_of_getElem? (i := 3) rfl))⟩
theorem lw_p1 : lw_okq (⟨"TwelveChain$Teller", "condition", "()Z"⟩, 10) := ⟨lw_nh1, (pz_ti16 _ (List.mem_of_getElem? (i := 14) rfl)), (pz_ti48 _ (List.mem_of_getElem? (i := 6) rfl)), (pz_ti48 _ (List.mem_of_getElem? (i := 7) rfl))⟩
theorem lw_p2 : lw_okq (⟨"TwelveChain", "highestLevel", "(I)I"⟩, 14) := ⟨lw_nh0, (pz_ti1 _ (List.mem_of_getElem? (i := 6) rfl)), (pz_ti60 _ (List.mem_of_getElem? (i := 15) rfl)), (pz_ti61 _ (List.mem_of_getElem? (i := 0) rfl))⟩
theorem lw_p3 : lw_okq (⟨"TwelveChain", "heap", "(I)I"⟩, 14) := ⟨lw_nh0, (pz_ti1 _ (List.mem_of_getElem? (i := 6) rfl)), (pz_ti65 _ (List.mem_of_getElem? (i := 14) rfl)), (pz_ti65 _ (List.mem_of_getElem? (i := 15) rfl))⟩
theorem lw_p4 : lw_okq (⟨"TwelveChainModel", "forgets", "()V"⟩, 28) := ⟨lw_nh2, (pz_ti69 _ (List.mem_of_getElem? (i := 11) rfl)), (pz_ti75 _ (List.mem_of_getElem? (i := 10) rfl)), (pz_ti75 _ (List.mem_of_getElem? (i := 11) rfl))⟩
theorem lw_p5 : lw_okq (⟨"TwelveChainModel", "isLink", "(I)Z"⟩, 28) := ⟨lw_nh2, (pz_ti69 _ (List.mem_of_getElem? (i := 11) rfl)), (pz_ti76 _ (List.mem_of_getElem? (i := 9) rfl)), (pz_ti76 _ (List.mem_of_getElem? (i := 10) rfl))⟩
theorem lw_p6 : lw_okq (⟨"TwelveChainModel", "next0", "()V"⟩, 28) := ⟨lw_nh2, (pz_ti69 _ (List.mem_of_getElem? (i := 11) rfl)), (pz_ti77 _ (List.mem_of_getElem? (i := 12) rfl)), (pz_ti77 _ (List.mem_of_getElem? (i := 13) rfl))⟩
theorem lw_p7 : lw_okq (⟨"TwelveChainModel", "see", "(I)I"⟩, 28) := ⟨lw_nh2, (pz_ti69 _ (List.mem_of_getElem? (i := 11) rfl)), (pz_ti78 _ (List.mem_of_getElem? (i := 0) rfl)), (pz_ti78 _ (List.mem_of_getElem? (i := 1) rfl))⟩
theorem lw_p8 : lw_okq (⟨"TwelveChainModel", "word", "()I"⟩, 28) := ⟨lw_nh2, (pz_ti69 _ (List.mem_of_getElem? (i := 11) rfl)), (pz_ti78 _ (List.mem_of_getElem? (i := 7) rfl)), (pz_ti78 _ (List.mem_of_getElem? (i := 8) rfl))⟩
theorem lw_p9 : lw_okq (⟨"TwelveChainModel", "lawWord", "()I"⟩, 28) := ⟨lw_nh2, (pz_ti69 _ (List.mem_of_getElem? (i := 11) rfl)), (pz_ti78 _ (List.mem_of_getElem? (i := 11) rfl)), (pz_ti78 _ (List.mem_of_getElem? (i := 12) rfl))⟩
theorem lw_p10 : lw_okq (⟨"TwelveChainModel", "is", "(Ljava/lang/String;)Z"⟩, 28) := ⟨lw_nh2, (pz_ti69 _ (List.mem_of_getElem? (i := 11) rfl)), (pz_ti79 _ (List.mem_of_getElem? (i := 0) rfl)), (pz_ti79 _ (List.mem_of_getElem? (i := 1) rfl))⟩
theorem lw_p11 : lw_okq (⟨"TwelveChainModel", "asked", "()I"⟩, 28) := ⟨lw_nh2, (pz_ti69 _ (List.mem_of_getElem? (i := 11) rfl)), (pz_ti79 _ (List.mem_of_getElem? (i := 13) rfl)), (pz_ti79 _ (List.mem_of_getElem? (i := 14) rfl))⟩
theorem lw_p12 : lw_okq (⟨"TwelveChainModel", "planWord", "()I"⟩, 28) := ⟨lw_nh2, (pz_ti69 _ (List.mem_of_getElem? (i := 11) rfl)), (pz_ti80 _ (List.mem_of_getElem? (i := 10) rfl)), (pz_ti80 _ (List.mem_of_getElem? (i := 11) rfl))⟩
theorem lw_p13 : lw_okq (⟨"TwelveChainModel", "readsLaw", "()Z"⟩, 28) := ⟨lw_nh2, (pz_ti69 _ (List.mem_of_getElem? (i := 11) rfl)), (pz_ti81 _ (List.mem_of_getElem? (i := 8) rfl)), (pz_ti81 _ (List.mem_of_getElem? (i := 9) rfl))⟩
theorem lw_p14 : lw_okq (⟨"TwelveChainModel", "aLine", "()Z"⟩, 28) := ⟨lw_nh2, (pz_ti69 _ (List.mem_of_getElem? (i := 11) rfl)), (pz_ti81 _ (List.mem_of_getElem? (i := 12) rfl)), (pz_ti81 _ (List.mem_of_getElem? (i := 13) rfl))⟩
theorem lw_p15 : lw_okq (⟨"TwelveChainModel", "bad", "(I)Z"⟩, 28) := ⟨lw_nh2, (pz_ti69 _ (List.mem_of_getElem? (i := 11) rfl)), (pz_ti82 _ (List.mem_of_getElem? (i := 0) rfl)), (pz_ti82 _ (List.mem_of_getElem? (i := 1) rfl))⟩
def lw_privs_1 : List (MethodName × Nat) := [(⟨"TwelveChain$Teller", "conditions", "()Z"⟩, 10), (⟨"TwelveChain$Teller", "condition", "()Z"⟩, 10), (⟨"TwelveChain", "highestLevel", "(I)I"⟩, 14), (⟨"TwelveChain", "heap", "(I)I"⟩, 14), (⟨"TwelveChainModel", "forgets", "()V"⟩, 28), (⟨"TwelveChainModel", "isLink", "(I)Z"⟩, 28), (⟨"TwelveChainModel", "next0", "()V"⟩, 28), (⟨"TwelveChainModel", "see", "(I)I"⟩, 28), (⟨"TwelveChainModel", "word", "()I"⟩, 28), (⟨"TwelveChainModel", "lawWord", "()I"⟩, 28), (⟨"TwelveChainModel", "is", "(Ljava/lang/String;)Z"⟩, 28), (⟨"TwelveChainModel", "asked", "()I"⟩, 28), (⟨"TwelveChainModel", "planWord", "()I"⟩, 28), (⟨"TwelveChainModel", "readsLaw", "()Z"⟩, 28), (⟨"TwelveChainModel", "aLine", "()Z"⟩, 28), (⟨"TwelveChainModel", "bad", "(I)Z"⟩, 28)]
theorem lw_r1 : ∀ q ∈ lw_privs_1, lw_okq q := List.forall_mem_cons.mpr ⟨lw_p0, List.forall_mem_cons.mpr ⟨lw_p1, List.forall_mem_cons.mpr ⟨lw_p2, List.forall_mem_cons.mpr ⟨lw_p3, List.forall_mem_cons.mpr ⟨lw_p4, List.forall_mem_cons.mpr ⟨lw_p5, List.forall_mem_cons.mpr ⟨lw_p6, List.forall_mem_cons.mpr ⟨lw_p7, List.forall_mem_cons.mpr ⟨lw_p8, List.forall_mem_cons.mpr ⟨lw_p9, List.forall_mem_cons.mpr ⟨lw_p10, List.forall_mem_cons.mpr ⟨lw_p11, List.forall_mem_cons.mpr ⟨lw_p12, List.forall_mem_cons.mpr ⟨lw_p13, List.forall_mem_cons.mpr ⟨lw_p14, List.forall_mem_cons.mpr ⟨lw_p15, fun _ h => absurd h List.not_mem_nil⟩⟩⟩⟩⟩⟩⟩⟩⟩⟩⟩⟩⟩⟩⟩⟩
theorem lw_p16 : lw_okq (⟨"TwelveChainModel", "sumUp", "()Z"⟩, 28) := ⟨lw_nh2, (pz_ti69 _ (List.mem_of_getElem? (i := 11) rfl)), (pz_ti82 _ (List.mem_of_getElem? (i := 4) rfl)), (pz_ti82 _ (List.mem_of_getElem? (i := 5) rfl))⟩
theorem lw_p17 : lw_okq (⟨"TwelveChainModel", "product", "()Z"⟩, 28) := ⟨lw_nh2, (pz_ti69 _ (List.mem_of_getElem? (i := 11) rfl)), (pz_ti82 _ (List.mem_of_getElem? (i := 8) rfl)), (pz_ti82 _ (List.mem_of_getElem? (i := 9) rfl))⟩
theorem lw_p18 : lw_okq (⟨"TwelveChainModel", "unit", "()Z"⟩, 28) := ⟨lw_nh2, (pz_ti69 _ (List.mem_of_getElem? (i := 11) rfl)), (pz_ti82 _ (List.mem_of_getElem? (i := 12) rfl)), (pz_ti82 _ (List.mem_of_getElem? (i := 13) rfl))⟩
theorem lw_p19 : lw_okq (⟨"TwelveChainModel", "lay", "(II)V"⟩, 28) := ⟨lw_nh2, (pz_ti69 _ (List.mem_of_getElem? (i := 11) rfl)), (pz_ti83 _ (List.mem_of_getElem? (i := 0) rfl)), (pz_ti83 _ (List.mem_of_getElem? (i := 1) rfl))⟩
theorem lw_p20 : lw_okq (⟨"TwelveChainModel", "any", "()Z"⟩, 28) := ⟨lw_nh2, (pz_ti69 _ (List.mem_of_getElem? (i := 11) rfl)), (pz_ti83 _ (List.mem_of_getElem? (i := 4) rfl)), (pz_ti83 _ (List.mem_of_getElem? (i := 5) rfl))⟩
theorem lw_p21 : lw_okq (⟨"TwelveChainModel", "every", "()Z"⟩, 28) := ⟨lw_nh2, (pz_ti69 _ (List.mem_of_getElem? (i := 11) rfl)), (pz_ti83 _ (List.mem_of_getElem? (i := 8) rfl)), (pz_ti83 _ (List.mem_of_getElem? (i := 9) rfl))⟩
theorem lw_p22 : lw_okq (⟨"TwelveChainModel", "oneTest", "()Z"⟩, 28) := ⟨lw_nh2, (pz_ti69 _ (List.mem_of_getElem? (i := 11) rfl)), (pz_ti83 _ (List.mem_of_getElem? (i := 12) rfl)), (pz_ti83 _ (List.mem_of_getElem? (i := 13) rfl))⟩
theorem lw_p23 : lw_okq (⟨"TwelveChainModel", "opens", "()Z"⟩, 28) := ⟨lw_nh2, (pz_ti69 _ (List.mem_of_getElem? (i := 11) rfl)), (pz_ti84 _ (List.mem_of_getElem? (i := 0) rfl)), (pz_ti84 _ (List.mem_of_getElem? (i := 1) rfl))⟩
theorem lw_p24 : lw_okq (⟨"TwelveChainModel", "need", "(I)Z"⟩, 28) := ⟨lw_nh2, (pz_ti69 _ (List.mem_of_getElem? (i := 11) rfl)), (pz_ti84 _ (List.mem_of_getElem? (i := 4) rfl)), (pz_ti84 _ (List.mem_of_getElem? (i := 5) rfl))⟩
theorem lw_p25 : lw_okq (⟨"TwelveChainModel", "readsRows", "()Z"⟩, 28) := ⟨lw_nh2, (pz_ti69 _ (List.mem_of_getElem? (i := 11) rfl)), (pz_ti84 _ (List.mem_of_getElem? (i := 8) rfl)), (pz_ti84 _ (List.mem_of_getElem? (i := 9) rfl))⟩
theorem lw_p26 : lw_okq (⟨"TwelveChainModel", "aRow", "()Z"⟩, 28) := ⟨lw_nh2, (pz_ti69 _ (List.mem_of_getElem? (i := 11) rfl)), (pz_ti84 _ (List.mem_of_getElem? (i := 12) rfl)), (pz_ti84 _ (List.mem_of_getElem? (i := 13) rfl))⟩
theorem lw_p27 : lw_okq (⟨"TwelveChainModel", "aPlan", "()Z"⟩, 28) := ⟨lw_nh2, (pz_ti69 _ (List.mem_of_getElem? (i := 11) rfl)), (pz_ti85 _ (List.mem_of_getElem? (i := 0) rfl)), (pz_ti85 _ (List.mem_of_getElem? (i := 1) rfl))⟩
theorem lw_p28 : lw_okq (⟨"TwelveChainModel", "told", "(IIII)Z"⟩, 28) := ⟨lw_nh2, (pz_ti69 _ (List.mem_of_getElem? (i := 11) rfl)), (pz_ti85 _ (List.mem_of_getElem? (i := 4) rfl)), (pz_ti85 _ (List.mem_of_getElem? (i := 5) rfl))⟩
theorem lw_p29 : lw_okq (⟨"TwelveChainModel", "number", "(III)Z"⟩, 28) := ⟨lw_nh2, (pz_ti69 _ (List.mem_of_getElem? (i := 11) rfl)), (pz_ti85 _ (List.mem_of_getElem? (i := 8) rfl)), (pz_ti85 _ (List.mem_of_getElem? (i := 9) rfl))⟩
theorem lw_p30 : lw_okq (⟨"TwelveChainModel", "aLink", "(I)Z"⟩, 28) := ⟨lw_nh2, (pz_ti69 _ (List.mem_of_getElem? (i := 11) rfl)), (pz_ti85 _ (List.mem_of_getElem? (i := 12) rfl)), (pz_ti85 _ (List.mem_of_getElem? (i := 13) rfl))⟩
theorem lw_p31 : lw_okq (⟨"TwelveChainModel", "aPhone", "()Z"⟩, 28) := ⟨lw_nh2, (pz_ti69 _ (List.mem_of_getElem? (i := 11) rfl)), (pz_ti86 _ (List.mem_of_getElem? (i := 0) rfl)), (pz_ti86 _ (List.mem_of_getElem? (i := 1) rfl))⟩
def lw_privs_2 : List (MethodName × Nat) := [(⟨"TwelveChainModel", "sumUp", "()Z"⟩, 28), (⟨"TwelveChainModel", "product", "()Z"⟩, 28), (⟨"TwelveChainModel", "unit", "()Z"⟩, 28), (⟨"TwelveChainModel", "lay", "(II)V"⟩, 28), (⟨"TwelveChainModel", "any", "()Z"⟩, 28), (⟨"TwelveChainModel", "every", "()Z"⟩, 28), (⟨"TwelveChainModel", "oneTest", "()Z"⟩, 28), (⟨"TwelveChainModel", "opens", "()Z"⟩, 28), (⟨"TwelveChainModel", "need", "(I)Z"⟩, 28), (⟨"TwelveChainModel", "readsRows", "()Z"⟩, 28), (⟨"TwelveChainModel", "aRow", "()Z"⟩, 28), (⟨"TwelveChainModel", "aPlan", "()Z"⟩, 28), (⟨"TwelveChainModel", "told", "(IIII)Z"⟩, 28), (⟨"TwelveChainModel", "number", "(III)Z"⟩, 28), (⟨"TwelveChainModel", "aLink", "(I)Z"⟩, 28), (⟨"TwelveChainModel", "aPhone", "()Z"⟩, 28)]
theorem lw_r2 : ∀ q ∈ lw_privs_2, lw_okq q := List.forall_mem_cons.mpr ⟨lw_p16, List.forall_mem_cons.mpr ⟨lw_p17, List.forall_mem_cons.mpr ⟨lw_p18, List.forall_mem_cons.mpr ⟨lw_p19, List.forall_mem_cons.mpr ⟨lw_p20, List.forall_mem_cons.mpr ⟨lw_p21, List.forall_mem_cons.mpr ⟨lw_p22, List.forall_mem_cons.mpr ⟨lw_p23, List.forall_mem_cons.mpr ⟨lw_p24, List.forall_mem_cons.mpr ⟨lw_p25, List.forall_mem_cons.mpr ⟨lw_p26, List.forall_mem_cons.mpr ⟨lw_p27, List.forall_mem_cons.mpr ⟨lw_p28, List.forall_mem_cons.mpr ⟨lw_p29, List.forall_mem_cons.mpr ⟨lw_p30, List.forall_mem_cons.mpr ⟨lw_p31, fun _ h => absurd h List.not_mem_nil⟩⟩⟩⟩⟩⟩⟩⟩⟩⟩⟩⟩⟩⟩⟩⟩
theorem lw_p32 : lw_okq (⟨"TwelveChainModel", "aRecord", "()Z"⟩, 28) := ⟨lw_nh2, (pz_ti69 _ (List.mem_of_getElem? (i := 11) rfl)), (pz_ti86 _ (List.mem_of_getElem? (i := 4) rfl)), (pz_ti86 _ (List.mem_of_getElem? (i := 5) rfl))⟩
theorem lw_p33 : lw_okq (⟨"TwelveChainModel", "putsText", "(I)I"⟩, 28) := ⟨lw_nh2, (pz_ti69 _ (List.mem_of_getElem? (i := 11) rfl)), (pz_ti86 _ (List.mem_of_getElem? (i := 8) rfl)), (pz_ti86 _ (List.mem_of_getElem? (i := 9) rfl))⟩
theorem lw_p34 : lw_okq (⟨"TwelveChainModel", "putsLaw", "()I"⟩, 28) := ⟨lw_nh2, (pz_ti69 _ (List.mem_of_getElem? (i := 11) rfl)), (pz_ti86 _ (List.mem_of_getElem? (i := 12) rfl)), (pz_ti86 _ (List.mem_of_getElem? (i := 13) rfl))⟩
theorem lw_p35 : lw_okq (⟨"TwelveChainModel", "puts", "(III)I"⟩, 28) := ⟨lw_nh2, (pz_ti69 _ (List.mem_of_getElem? (i := 11) rfl)), (pz_ti87 _ (List.mem_of_getElem? (i := 0) rfl)), (pz_ti87 _ (List.mem_of_getElem? (i := 1) rfl))⟩
theorem lw_p36 : lw_okq (⟨"TwelveChainModel", "putsPhones", "()I"⟩, 28) := ⟨lw_nh2, (pz_ti69 _ (List.mem_of_getElem? (i := 11) rfl)), (pz_ti87 _ (List.mem_of_getElem? (i := 4) rfl)), (pz_ti87 _ (List.mem_of_getElem? (i := 5) rfl))⟩
theorem lw_p37 : lw_okq (⟨"TwelveChainModel", "canAsk", "(I)Z"⟩, 28) := ⟨lw_nh2, (pz_ti69 _ (List.mem_of_getElem? (i := 11) rfl)), (pz_ti88 _ (List.mem_of_getElem? (i := 4) rfl)), (pz_ti88 _ (List.mem_of_getElem? (i := 5) rfl))⟩
theorem lw_p38 : lw_okq (⟨"TwelveChainModel", "isThere", "(I)Z"⟩, 28) := ⟨lw_nh2, (pz_ti69 _ (List.mem_of_getElem? (i := 11) rfl)), (pz_ti88 _ (List.mem_of_getElem? (i := 8) rfl)), (pz_ti88 _ (List.mem_of_getElem? (i := 9) rfl))⟩
theorem lw_p39 : lw_okq (⟨"TwelveChainModel", "isOut", "(I)Z"⟩, 28) := ⟨lw_nh2, (pz_ti69 _ (List.mem_of_getElem? (i := 11) rfl)), (pz_ti88 _ (List.mem_of_getElem? (i := 12) rfl)), (pz_ti88 _ (List.mem_of_getElem? (i := 13) rfl))⟩
theorem lw_p40 : lw_okq (⟨"TwelveChainModel", "hasMoved", "(I)Z"⟩, 28) := ⟨lw_nh2, (pz_ti69 _ (List.mem_of_getElem? (i := 11) rfl)), (pz_ti89 _ (List.mem_of_getElem? (i := 0) rfl)), (pz_ti89 _ (List.mem_of_getElem? (i := 1) rfl))⟩
theorem lw_p41 : lw_okq (⟨"TwelveChainModel", "keeps", "()V"⟩, 28) := ⟨lw_nh2, (pz_ti69 _ (List.mem_of_getElem? (i := 11) rfl)), (pz_ti89 _ (List.mem_of_getElem? (i := 4) rfl)), (pz_ti89 _ (List.mem_of_getElem? (i := 5) rfl))⟩
theorem lw_p42 : lw_okq (⟨"TwelveChainModel", "asks", "(II)I"⟩, 28) := ⟨lw_nh2, (pz_ti69 _ (List.mem_of_getElem? (i := 11) rfl)), (pz_ti89 _ (List.mem_of_getElem? (i := 8) rfl)), (pz_ti89 _ (List.mem_of_getElem? (i := 9) rfl))⟩
theorem lw_p43 : lw_okq (⟨"TwelveChainModel", "giveOf", "(I)I"⟩, 28) := ⟨lw_nh2, (pz_ti69 _ (List.mem_of_getElem? (i := 11) rfl)), (pz_ti89 _ (List.mem_of_getElem? (i := 12) rfl)), (pz_ti89 _ (List.mem_of_getElem? (i := 13) rfl))⟩
theorem lw_p44 : lw_okq (⟨"TwelveChainModel", "says", "(IIII)I"⟩, 28) := ⟨lw_nh2, (pz_ti69 _ (List.mem_of_getElem? (i := 11) rfl)), (pz_ti90 _ (List.mem_of_getElem? (i := 0) rfl)), (pz_ti90 _ (List.mem_of_getElem? (i := 1) rfl))⟩
theorem lw_p45 : lw_okq (⟨"TwelveChainModel", "lacksOf", "(I)I"⟩, 28) := ⟨lw_nh2, (pz_ti69 _ (List.mem_of_getElem? (i := 11) rfl)), (pz_ti90 _ (List.mem_of_getElem? (i := 4) rfl)), (pz_ti90 _ (List.mem_of_getElem? (i := 5) rfl))⟩
theorem lw_p46 : lw_okq (⟨"TwelveChainModel", "isBridged", "(I)Z"⟩, 28) := ⟨lw_nh2, (pz_ti69 _ (List.mem_of_getElem? (i := 11) rfl)), (pz_ti90 _ (List.mem_of_getElem? (i := 11) rfl)), (pz_ti90 _ (List.mem_of_getElem? (i := 12) rfl))⟩
theorem lw_p47 : lw_okq (⟨"TwelveChainModel", "bridgedOnes", "()I"⟩, 28) := ⟨lw_nh2, (pz_ti69 _ (List.mem_of_getElem? (i := 11) rfl)), (pz_ti90 _ (List.mem_of_getElem? (i := 15) rfl)), (pz_ti91 _ (List.mem_of_getElem? (i := 0) rfl))⟩
def lw_privs_3 : List (MethodName × Nat) := [(⟨"TwelveChainModel", "aRecord", "()Z"⟩, 28), (⟨"TwelveChainModel", "putsText", "(I)I"⟩, 28), (⟨"TwelveChainModel", "putsLaw", "()I"⟩, 28), (⟨"TwelveChainModel", "puts", "(III)I"⟩, 28), (⟨"TwelveChainModel", "putsPhones", "()I"⟩, 28), (⟨"TwelveChainModel", "canAsk", "(I)Z"⟩, 28), (⟨"TwelveChainModel", "isThere", "(I)Z"⟩, 28), (⟨"TwelveChainModel", "isOut", "(I)Z"⟩, 28), (⟨"TwelveChainModel", "hasMoved", "(I)Z"⟩, 28), (⟨"TwelveChainModel", "keeps", "()V"⟩, 28), (⟨"TwelveChainModel", "asks", "(II)I"⟩, 28), (⟨"TwelveChainModel", "giveOf", "(I)I"⟩, 28), (⟨"TwelveChainModel", "says", "(IIII)I"⟩, 28), (⟨"TwelveChainModel", "lacksOf", "(I)I"⟩, 28), (⟨"TwelveChainModel", "isBridged", "(I)Z"⟩, 28), (⟨"TwelveChainModel", "bridgedOnes", "()I"⟩, 28)]
theorem lw_r3 : ∀ q ∈ lw_privs_3, lw_okq q := List.forall_mem_cons.mpr ⟨lw_p32, List.forall_mem_cons.mpr ⟨lw_p33, List.forall_mem_cons.mpr ⟨lw_p34, List.forall_mem_cons.mpr ⟨lw_p35, List.forall_mem_cons.mpr ⟨lw_p36, List.forall_mem_cons.mpr ⟨lw_p37, List.forall_mem_cons.mpr ⟨lw_p38, List.forall_mem_cons.mpr ⟨lw_p39, List.forall_mem_cons.mpr ⟨lw_p40, List.forall_mem_cons.mpr ⟨lw_p41, List.forall_mem_cons.mpr ⟨lw_p42, List.forall_mem_cons.mpr ⟨lw_p43, List.forall_mem_cons.mpr ⟨lw_p44, List.forall_mem_cons.mpr ⟨lw_p45, List.forall_mem_cons.mpr ⟨lw_p46, List.forall_mem_cons.mpr ⟨lw_p47, fun _ h => absurd h List.not_mem_nil⟩⟩⟩⟩⟩⟩⟩⟩⟩⟩⟩⟩⟩⟩⟩⟩
theorem lw_p48 : lw_okq (⟨"TwelveChainModel", "endOf", "(II)I"⟩, 28) := ⟨lw_nh2, (pz_ti69 _ (List.mem_of_getElem? (i := 11) rfl)), (pz_ti91 _ (List.mem_of_getElem? (i := 3) rfl)), (pz_ti91 _ (List.mem_of_getElem? (i := 4) rfl))⟩
theorem lw_p49 : lw_okq (⟨"TwelveChainModel", "isReady", "(I)Z"⟩, 28) := ⟨lw_nh2, (pz_ti69 _ (List.mem_of_getElem? (i := 11) rfl)), (pz_ti91 _ (List.mem_of_getElem? (i := 10) rfl)), (pz_ti91 _ (List.mem_of_getElem? (i := 11) rfl))⟩
theorem lw_p50 : lw_okq (⟨"TwelveChainModel", "isSo", "(I)Z"⟩, 28) := ⟨lw_nh2, (pz_ti69 _ (List.mem_of_getElem? (i := 11) rfl)), (pz_ti91 _ (List.mem_of_getElem? (i := 14) rfl)), (pz_ti91 _ (List.mem_of_getElem? (i := 15) rfl))⟩
theorem lw_p51 : lw_okq (⟨"TwelveChainModel", "comesTo", "(III)I"⟩, 28) := ⟨lw_nh2, (pz_ti69 _ (List.mem_of_getElem? (i := 11) rfl)), (pz_ti92 _ (List.mem_of_getElem? (i := 2) rfl)), (pz_ti92 _ (List.mem_of_getElem? (i := 3) rfl))⟩
theorem lw_p52 : lw_okq (⟨"TwelveChainModel", "notes", "(III)V"⟩, 28) := ⟨lw_nh2, (pz_ti69 _ (List.mem_of_getElem? (i := 11) rfl)), (pz_ti92 _ (List.mem_of_getElem? (i := 12) rfl)), (pz_ti92 _ (List.mem_of_getElem? (i := 13) rfl))⟩
theorem lw_p53 : lw_okq (⟨"TwelveChainModel", "canBridge", "(I)Z"⟩, 28) := ⟨lw_nh2, (pz_ti69 _ (List.mem_of_getElem? (i := 11) rfl)), (pz_ti93 _ (List.mem_of_getElem? (i := 4) rfl)), (pz_ti93 _ (List.mem_of_getElem? (i := 5) rfl))⟩
theorem lw_p54 : lw_okq (⟨"TwelveChainModel", "bridges0", "(I)V"⟩, 28) := ⟨lw_nh2, (pz_ti69 _ (List.mem_of_getElem? (i := 11) rfl)), (pz_ti93 _ (List.mem_of_getElem? (i := 8) rfl)), (pz_ti93 _ (List.mem_of_getElem? (i := 9) rfl))⟩
theorem lw_p55 : lw_okq (⟨"TwelveChainModel", "canPay0", "(III)Z"⟩, 28) := ⟨lw_nh2, (pz_ti69 _ (List.mem_of_getElem? (i := 11) rfl)), (pz_ti94 _ (List.mem_of_getElem? (i := 0) rfl)), (pz_ti94 _ (List.mem_of_getElem? (i := 1) rfl))⟩
theorem lw_p56 : lw_okq (⟨"TwelveChainModel", "pays", "(III)V"⟩, 28) := ⟨lw_nh2, (pz_ti69 _ (List.mem_of_getElem? (i := 11) rfl)), (pz_ti94 _ (List.mem_of_getElem? (i := 4) rfl)), (pz_ti94 _ (List.mem_of_getElem? (i := 5) rfl))⟩
theorem lw_p57 : lw_okq (⟨"TwelveChainModel", "canPaper", "(I)Z"⟩, 28) := ⟨lw_nh2, (pz_ti69 _ (List.mem_of_getElem? (i := 11) rfl)), (pz_ti94 _ (List.mem_of_getElem? (i := 12) rfl)), (pz_ti94 _ (List.mem_of_getElem? (i := 13) rfl))⟩
theorem lw_p58 : lw_okq (⟨"TwelveChainModel", "getsReady", "(I)V"⟩, 28) := ⟨lw_nh2, (pz_ti69 _ (List.mem_of_getElem? (i := 11) rfl)), (pz_ti95 _ (List.mem_of_getElem? (i := 0) rfl)), (pz_ti95 _ (List.mem_of_getElem? (i := 1) rfl))⟩
theorem lw_p59 : lw_okq (⟨"TwelveChainModel", "aDay", "()I"⟩, 28) := ⟨lw_nh2, (pz_ti69 _ (List.mem_of_getElem? (i := 11) rfl)), (pz_ti95 _ (List.mem_of_getElem? (i := 12) rfl)), (pz_ti95 _ (List.mem_of_getElem? (i := 13) rfl))⟩
theorem lw_p60 : lw_okq (⟨"TwelveChainModel", "does", "(I)V"⟩, 28) := ⟨lw_nh2, (pz_ti69 _ (List.mem_of_getElem? (i := 11) rfl)), (pz_ti96 _ (List.mem_of_getElem? (i := 0) rfl)), (pz_ti96 _ (List.mem_of_getElem? (i := 1) rfl))⟩
theorem lw_p61 : lw_okq (⟨"TwelveChainModel", "readyOf", "(I)I"⟩, 28) := ⟨lw_nh2, (pz_ti69 _ (List.mem_of_getElem? (i := 11) rfl)), (pz_ti96 _ (List.mem_of_getElem? (i := 4) rfl)), (pz_ti96 _ (List.mem_of_getElem? (i := 5) rfl))⟩
theorem lw_p62 : lw_okq (⟨"TwelveChainModel", "falls", "(I)Z"⟩, 28) := ⟨lw_nh2, (pz_ti69 _ (List.mem_of_getElem? (i := 11) rfl)), (pz_ti96 _ (List.mem_of_getElem? (i := 8) rfl)), (pz_ti96 _ (List.mem_of_getElem? (i := 9) rfl))⟩
theorem lw_p63 : lw_okq (⟨"TwelveChainModel", "draw", "(I)I"⟩, 28) := ⟨lw_nh2, (pz_ti69 _ (List.mem_of_getElem? (i := 11) rfl)), (pz_ti96 _ (List.mem_of_getElem? (i := 12) rfl)), (pz_ti96 _ (List.mem_of_getElem? (i := 13) rfl))⟩
def lw_privs_4 : List (MethodName × Nat) := [(⟨"TwelveChainModel", "endOf", "(II)I"⟩, 28), (⟨"TwelveChainModel", "isReady", "(I)Z"⟩, 28), (⟨"TwelveChainModel", "isSo", "(I)Z"⟩, 28), (⟨"TwelveChainModel", "comesTo", "(III)I"⟩, 28), (⟨"TwelveChainModel", "notes", "(III)V"⟩, 28), (⟨"TwelveChainModel", "canBridge", "(I)Z"⟩, 28), (⟨"TwelveChainModel", "bridges0", "(I)V"⟩, 28), (⟨"TwelveChainModel", "canPay0", "(III)Z"⟩, 28), (⟨"TwelveChainModel", "pays", "(III)V"⟩, 28), (⟨"TwelveChainModel", "canPaper", "(I)Z"⟩, 28), (⟨"TwelveChainModel", "getsReady", "(I)V"⟩, 28), (⟨"TwelveChainModel", "aDay", "()I"⟩, 28), (⟨"TwelveChainModel", "does", "(I)V"⟩, 28), (⟨"TwelveChainModel", "readyOf", "(I)I"⟩, 28), (⟨"TwelveChainModel", "falls", "(I)Z"⟩, 28), (⟨"TwelveChainModel", "draw", "(I)I"⟩, 28)]
theorem lw_r4 : ∀ q ∈ lw_privs_4, lw_okq q := List.forall_mem_cons.mpr ⟨lw_p48, List.forall_mem_cons.mpr ⟨lw_p49, List.forall_mem_cons.mpr ⟨lw_p50, List.forall_mem_cons.mpr ⟨lw_p51, List.forall_mem_cons.mpr ⟨lw_p52, List.forall_mem_cons.mpr ⟨lw_p53, List.forall_mem_cons.mpr ⟨lw_p54, List.forall_mem_cons.mpr ⟨lw_p55, List.forall_mem_cons.mpr ⟨lw_p56, List.forall_mem_cons.mpr ⟨lw_p57, List.forall_mem_cons.mpr ⟨lw_p58, List.forall_mem_cons.mpr ⟨lw_p59, List.forall_mem_cons.mpr ⟨lw_p60, List.forall_mem_cons.mpr ⟨lw_p61, List.forall_mem_cons.mpr ⟨lw_p62, List.forall_mem_cons.mpr ⟨lw_p63, fun _ h => absurd h List.not_mem_nil⟩⟩⟩⟩⟩⟩⟩⟩⟩⟩⟩⟩⟩⟩⟩⟩
theorem lw_p64 : lw_okq (⟨"TwelveChainModel", "leaveOf", "(I)I"⟩, 28) := ⟨lw_nh2, (pz_ti69 _ (List.mem_of_getElem? (i := 11) rfl)), (pz_ti97 _ (List.mem_of_getElem? (i := 2) rfl)), (pz_ti97 _ (List.mem_of_getElem? (i := 3) rfl))⟩
theorem lw_p65 : lw_okq (⟨"TwelveChainModel", "leaves", "(I)V"⟩, 28) := ⟨lw_nh2, (pz_ti69 _ (List.mem_of_getElem? (i := 11) rfl)), (pz_ti97 _ (List.mem_of_getElem? (i := 6) rfl)), (pz_ti97 _ (List.mem_of_getElem? (i := 7) rfl))⟩
theorem lw_p66 : lw_okq (⟨"TwelveChainModel", "unreadies", "(I)V"⟩, 28) := ⟨lw_nh2, (pz_ti69 _ (List.mem_of_getElem? (i := 11) rfl)), (pz_ti97 _ (List.mem_of_getElem? (i := 10) rfl)), (pz_ti97 _ (List.mem_of_getElem? (i := 11) rfl))⟩
theorem lw_p67 : lw_okq (⟨"TwelveChainModel", "moves", "()I"⟩, 28) := ⟨lw_nh2, (pz_ti69 _ (List.mem_of_getElem? (i := 11) rfl)), (pz_ti97 _ (List.mem_of_getElem? (i := 14) rfl)), (pz_ti97 _ (List.mem_of_getElem? (i := 15) rfl))⟩
theorem lw_p68 : lw_okq (⟨"TwelveChainModel", "canMove", "(II)Z"⟩, 28) := ⟨lw_nh2, (pz_ti69 _ (List.mem_of_getElem? (i := 11) rfl)), (pz_ti98 _ (List.mem_of_getElem? (i := 2) rfl)), (pz_ti98 _ (List.mem_of_getElem? (i := 3) rfl))⟩
theorem lw_p69 : lw_okq (⟨"TwelveChainModel", "canPay", "(I)Z"⟩, 28) := ⟨lw_nh2, (pz_ti69 _ (List.mem_of_getElem? (i := 11) rfl)), (pz_ti98 _ (List.mem_of_getElem? (i := 6) rfl)), (pz_ti98 _ (List.mem_of_getElem? (i := 7) rfl))⟩
theorem lw_p70 : lw_okq (⟨"TwelveChainModel", "costOf", "(I)I"⟩, 28) := ⟨lw_nh2, (pz_ti69 _ (List.mem_of_getElem? (i := 11) rfl)), (pz_ti98 _ (List.mem_of_getElem? (i := 10) rfl)), (pz_ti98 _ (List.mem_of_getElem? (i := 11) rfl))⟩
theorem lw_p71 : lw_okq (⟨"TwelveChainModel", "recordsOf", "(III)I"⟩, 28) := ⟨lw_nh2, (pz_ti69 _ (List.mem_of_getElem? (i := 11) rfl)), (pz_ti99 _ (List.mem_of_getElem? (i := 7) rfl)), (pz_ti99 _ (List.mem_of_getElem? (i := 8) rfl))⟩
theorem lw_p72 : lw_okq (⟨"TwelveChainModel", "movedOnes", "()I"⟩, 28) := ⟨lw_nh2, (pz_ti69 _ (List.mem_of_getElem? (i := 11) rfl)), (pz_ti100 _ (List.mem_of_getElem? (i := 3) rfl)), (pz_ti100 _ (List.mem_of_getElem? (i := 4) rfl))⟩
theorem lw_p73 : lw_okq (⟨"TwelveChainModel", "latestMoved", "()I"⟩, 28) := ⟨lw_nh2, (pz_ti69 _ (List.mem_of_getElem? (i := 11) rfl)), (pz_ti100 _ (List.mem_of_getElem? (i := 10) rfl)), (pz_ti100 _ (List.mem_of_getElem? (i := 11) rfl))⟩
theorem lw_p74 : lw_okq (⟨"TwelveChainModel", "allBy", "(III)J"⟩, 28) := ⟨lw_nh2, (pz_ti69 _ (List.mem_of_getElem? (i := 11) rfl)), (pz_ti101 _ (List.mem_of_getElem? (i := 2) rfl)), (pz_ti101 _ (List.mem_of_getElem? (i := 3) rfl))⟩
theorem lw_p75 : lw_okq (⟨"TwelveChainModel", "readyBy", "(II)J"⟩, 28) := ⟨lw_nh2, (pz_ti69 _ (List.mem_of_getElem? (i := 11) rfl)), (pz_ti101 _ (List.mem_of_getElem? (i := 7) rfl)), (pz_ti101 _ (List.mem_of_getElem? (i := 8) rfl))⟩
theorem lw_p76 : lw_okq (⟨"TwelveChainModel", "hurriedBy", "(II)J"⟩, 28) := ⟨lw_nh2, (pz_ti69 _ (List.mem_of_getElem? (i := 11) rfl)), (pz_ti103 _ (List.mem_of_getElem? (i := 1) rfl)), (pz_ti103 _ (List.mem_of_getElem? (i := 2) rfl))⟩
theorem lw_p77 : lw_okq (⟨"TwelveChainModel", "leastBy", "(II)J"⟩, 28) := ⟨lw_nh2, (pz_ti69 _ (List.mem_of_getElem? (i := 11) rfl)), (pz_ti103 _ (List.mem_of_getElem? (i := 10) rfl)), (pz_ti103 _ (List.mem_of_getElem? (i := 11) rfl))⟩
theorem lw_p78 : lw_okq (⟨"TwelveChainModel", "bridgeable", "()I"⟩, 28) := ⟨lw_nh2, (pz_ti69 _ (List.mem_of_getElem? (i := 11) rfl)), (pz_ti104 _ (List.mem_of_getElem? (i := 2) rfl)), (pz_ti104 _ (List.mem_of_getElem? (i := 3) rfl))⟩
theorem lw_p79 : lw_okq (⟨"TwelveChainModel", "costsOf", "(I)I"⟩, 28) := ⟨lw_nh2, (pz_ti69 _ (List.mem_of_getElem? (i := 11) rfl)), (pz_ti104 _ (List.mem_of_getElem? (i := 6) rfl)), (pz_ti104 _ (List.mem_of_getElem? (i := 7) rfl))⟩
def lw_privs_5 : List (MethodName × Nat) := [(⟨"TwelveChainModel", "leaveOf", "(I)I"⟩, 28), (⟨"TwelveChainModel", "leaves", "(I)V"⟩, 28), (⟨"TwelveChainModel", "unreadies", "(I)V"⟩, 28), (⟨"TwelveChainModel", "moves", "()I"⟩, 28), (⟨"TwelveChainModel", "canMove", "(II)Z"⟩, 28), (⟨"TwelveChainModel", "canPay", "(I)Z"⟩, 28), (⟨"TwelveChainModel", "costOf", "(I)I"⟩, 28), (⟨"TwelveChainModel", "recordsOf", "(III)I"⟩, 28), (⟨"TwelveChainModel", "movedOnes", "()I"⟩, 28), (⟨"TwelveChainModel", "latestMoved", "()I"⟩, 28), (⟨"TwelveChainModel", "allBy", "(III)J"⟩, 28), (⟨"TwelveChainModel", "readyBy", "(II)J"⟩, 28), (⟨"TwelveChainModel", "hurriedBy", "(II)J"⟩, 28), (⟨"TwelveChainModel", "leastBy", "(II)J"⟩, 28), (⟨"TwelveChainModel", "bridgeable", "()I"⟩, 28), (⟨"TwelveChainModel", "costsOf", "(I)I"⟩, 28)]
theorem lw_r5 : ∀ q ∈ lw_privs_5, lw_okq q := List.forall_mem_cons.mpr ⟨lw_p64, List.forall_mem_cons.mpr ⟨lw_p65, List.forall_mem_cons.mpr ⟨lw_p66, List.forall_mem_cons.mpr ⟨lw_p67, List.forall_mem_cons.mpr ⟨lw_p68, List.forall_mem_cons.mpr ⟨lw_p69, List.forall_mem_cons.mpr ⟨lw_p70, List.forall_mem_cons.mpr ⟨lw_p71, List.forall_mem_cons.mpr ⟨lw_p72, List.forall_mem_cons.mpr ⟨lw_p73, List.forall_mem_cons.mpr ⟨lw_p74, List.forall_mem_cons.mpr ⟨lw_p75, List.forall_mem_cons.mpr ⟨lw_p76, List.forall_mem_cons.mpr ⟨lw_p77, List.forall_mem_cons.mpr ⟨lw_p78, List.forall_mem_cons.mpr ⟨lw_p79, fun _ h => absurd h List.not_mem_nil⟩⟩⟩⟩⟩⟩⟩⟩⟩⟩⟩⟩⟩⟩⟩⟩
theorem lw_p80 : lw_okq (⟨"TwelveChainModel", "givenBy", "(I)I"⟩, 28) := ⟨lw_nh2, (pz_ti69 _ (List.mem_of_getElem? (i := 11) rfl)), (pz_ti104 _ (List.mem_of_getElem? (i := 14) rfl)), (pz_ti104 _ (List.mem_of_getElem? (i := 15) rfl))⟩
theorem lw_p81 : lw_okq (⟨"TwelveChainModel", "isGiving", "(I)Z"⟩, 28) := ⟨lw_nh2, (pz_ti69 _ (List.mem_of_getElem? (i := 11) rfl)), (pz_ti105 _ (List.mem_of_getElem? (i := 2) rfl)), (pz_ti105 _ (List.mem_of_getElem? (i := 3) rfl))⟩
theorem lw_p82 : lw_okq (⟨"TwelveChainModel", "isRunning", "(I)Z"⟩, 28) := ⟨lw_nh2, (pz_ti69 _ (List.mem_of_getElem? (i := 11) rfl)), (pz_ti106 _ (List.mem_of_getElem? (i := 13) rfl)), (pz_ti106 _ (List.mem_of_getElem? (i := 14) rfl))⟩
theorem lw_p83 : lw_okq (⟨"TwelveChainModel", "laysSigns", "(II)V"⟩, 28) := ⟨lw_nh2, (pz_ti69 _ (List.mem_of_getElem? (i := 11) rfl)), (pz_ti107 _ (List.mem_of_getElem? (i := 5) rfl)), (pz_ti107 _ (List.mem_of_getElem? (i := 6) rfl))⟩
theorem lw_p84 : lw_okq (⟨"TwelveChainModel", "mostSigned", "()I"⟩, 28) := ⟨lw_nh2, (pz_ti69 _ (List.mem_of_getElem? (i := 11) rfl)), (pz_ti107 _ (List.mem_of_getElem? (i := 10) rfl)), (pz_ti107 _ (List.mem_of_getElem? (i := 11) rfl))⟩
theorem lw_p85 : lw_okq (⟨"TwelveChainModel", "signsNext", "(III)I"⟩, 28) := ⟨lw_nh2, (pz_ti69 _ (List.mem_of_getElem? (i := 11) rfl)), (pz_ti107 _ (List.mem_of_getElem? (i := 14) rfl)), (pz_ti107 _ (List.mem_of_getElem? (i := 15) rfl))⟩
theorem lw_p86 : lw_okq (⟨"TwelveChainModel", "greaterBy", "(I)I"⟩, 28) := ⟨lw_nh2, (pz_ti69 _ (List.mem_of_getElem? (i := 11) rfl)), (pz_ti108 _ (List.mem_of_getElem? (i := 14) rfl)), (pz_ti108 _ (List.mem_of_getElem? (i := 15) rfl))⟩
theorem lw_p87 : lw_okq (⟨"TwelveChainModel", "heapOf", "(I)I"⟩, 28) := ⟨lw_nh2, (pz_ti69 _ (List.mem_of_getElem? (i := 11) rfl)), (pz_ti109 _ (List.mem_of_getElem? (i := 10) rfl)), (pz_ti109 _ (List.mem_of_getElem? (i := 11) rfl))⟩
def lw_privs_6 : List (MethodName × Nat) := [(⟨"TwelveChainModel", "givenBy", "(I)I"⟩, 28), (⟨"TwelveChainModel", "isGiving", "(I)Z"⟩, 28), (⟨"TwelveChainModel", "isRunning", "(I)Z"⟩, 28), (⟨"TwelveChainModel", "laysSigns", "(II)V"⟩, 28), (⟨"TwelveChainModel", "mostSigned", "()I"⟩, 28), (⟨"TwelveChainModel", "signsNext", "(III)I"⟩, 28), (⟨"TwelveChainModel", "greaterBy", "(I)I"⟩, 28), (⟨"TwelveChainModel", "heapOf", "(I)I"⟩, 28)]
theorem lw_r6 : ∀ q ∈ lw_privs_6, lw_okq q := List.forall_mem_cons.mpr ⟨lw_p80, List.forall_mem_cons.mpr ⟨lw_p81, List.forall_mem_cons.mpr ⟨lw_p82, List.forall_mem_cons.mpr ⟨lw_p83, List.forall_mem_cons.mpr ⟨lw_p84, List.forall_mem_cons.mpr ⟨lw_p85, List.forall_mem_cons.mpr ⟨lw_p86, List.forall_mem_cons.mpr ⟨lw_p87, fun _ h => absurd h List.not_mem_nil⟩⟩⟩⟩⟩⟩⟩⟩
def lw_privs : List (MethodName × Nat) := lw_privs_1 ++ (lw_privs_2 ++ (lw_privs_3 ++ (lw_privs_4 ++ (lw_privs_5 ++ (lw_privs_6)))))
def lw_tbl : List Cond := k2_sels lw_privs ++ tables_1
theorem lw_privs_ok : ∀ q ∈ lw_privs, lw_okq q := by
  show ∀ q ∈ lw_privs_1 ++ (lw_privs_2 ++ (lw_privs_3 ++ (lw_privs_4 ++ (lw_privs_5 ++ (lw_privs_6))))), lw_okq q
  exact List.forall_mem_append.mpr ⟨lw_r1, List.forall_mem_append.mpr ⟨lw_r2, List.forall_mem_append.mpr ⟨lw_r3, List.forall_mem_append.mpr ⟨lw_r4, List.forall_mem_append.mpr ⟨lw_r5, lw_r6⟩⟩⟩⟩⟩

def RX0 : String := "TwelveChain$Chain"
def TX0 : u_T := fun k => match k with
  | 0 => ("TwelveChain$Chain", "thought", "Z", true)
  | 1 => ("TwelveChain$Chain", "links", "[LTwelveChain$Link;", true)
  | 2 => ("TwelveChain$Chain", "nobody", "LTwelveChain$Link;", true)
  | 3 => ("TwelveChain$Chain", "count", "I", false)
  | 4 => ("TwelveChain$Chain", "day", "I", false)
  | 5 => ("TwelveChain$Chain", "falls", "I", false)
  | 6 => ("TwelveChain$Chain", "state", "I", false)
  | _ => ("TwelveChain$Chain", "written", "I", false)
def tyX0 : Nat → FieldType := fun k => match k with
  | 0 => .boolean
  | 1 => .array (.object "TwelveChain$Link")
  | 2 => .object "TwelveChain$Link"
  | 3 => .int
  | 4 => .int
  | 5 => .int
  | 6 => .int
  | _ => .int
theorem nmX0 : ∀ a, a < 8 → ∀ b, b < 8 → a ≠ b → (TX0 a).2.1 ≠ (TX0 b).2.1 := by decide +kernel
theorem tyX0_ok : ∀ k, k < 8 → parseFieldDescriptor (TX0 k).2.2.1 = some (tyX0 k) := by decide +kernel
abbrev cX0_init : ByteArray := prog_2_method_1_code
def yX0_init : MethodName := ⟨RX0, "<init>", "(Z)V"⟩
abbrev cX0_take : ByteArray := prog_2_method_2_code
def yX0_take : MethodName := ⟨RX0, "take", "(LTwelveChain$Chain;)V"⟩
abbrev cX0_has : ByteArray := prog_2_method_3_code
def yX0_has : MethodName := ⟨RX0, "has", "(I)Z"⟩
abbrev cX0_at : ByteArray := prog_2_method_4_code
def yX0_at : MethodName := ⟨RX0, "at", "(I)LTwelveChain$Link;"⟩
abbrev cX0_all : ByteArray := prog_2_method_5_code
def yX0_all : MethodName := ⟨RX0, "all", "()I"⟩
abbrev cX0_happens : ByteArray := prog_2_method_6_code
def yX0_happens : MethodName := ⟨RX0, "happens", "(I)Z"⟩
abbrev cX0_lackOfMoney : ByteArray := prog_2_method_7_code
def yX0_lackOfMoney : MethodName := ⟨RX0, "lackOfMoney", "(I)I"⟩
abbrev cX0_canPay : ByteArray := prog_2_method_8_code
def yX0_canPay : MethodName := ⟨RX0, "canPay", "(I)Z"⟩
abbrev cX0_canBridge : ByteArray := prog_2_method_9_code
def yX0_canBridge : MethodName := ⟨RX0, "canBridge", "(I)Z"⟩
abbrev cX0_partEnd : ByteArray := prog_2_method_10_code
def yX0_partEnd : MethodName := ⟨RX0, "partEnd", "(I)I"⟩
abbrev cX0_lacks : ByteArray := prog_2_method_11_code
def yX0_lacks : MethodName := ⟨RX0, "lacks", "(I)I"⟩
abbrev cX0_parts : ByteArray := prog_2_method_12_code
def yX0_parts : MethodName := ⟨RX0, "parts", "()I"⟩
abbrev cX0_movedOnes : ByteArray := prog_2_method_13_code
def yX0_movedOnes : MethodName := ⟨RX0, "movedOnes", "()I"⟩
abbrev cX0_bridgedOnes : ByteArray := prog_2_method_14_code
def yX0_bridgedOnes : MethodName := ⟨RX0, "bridgedOnes", "()I"⟩
abbrev cX0_bridgeableOnes : ByteArray := prog_2_method_15_code
def yX0_bridgeableOnes : MethodName := ⟨RX0, "bridgeableOnes", "()I"⟩
abbrev cX0_latestMove : ByteArray := prog_2_method_16_code
def yX0_latestMove : MethodName := ⟨RX0, "latestMove", "()I"⟩
abbrev cX0_canGive : ByteArray := prog_2_method_17_code
def yX0_canGive : MethodName := ⟨RX0, "canGive", "(I)I"⟩
abbrev cX0_givenTo : ByteArray := prog_2_method_18_code
def yX0_givenTo : MethodName := ⟨RX0, "givenTo", "(I)I"⟩
abbrev cX0_named : ByteArray := prog_2_method_19_code
def yX0_named : MethodName := ⟨RX0, "named", "(II)I"⟩
def RX1 : String := "TwelveChain$Deeds"
def TX1 : u_T := fun k => match k with
  | 0 => ("TwelveChain$Deeds", "texts", "LTwelveChain$Texts;", true)
  | _ => ("TwelveChain$Deeds", "pages", "[I", true)
def tyX1 : Nat → FieldType := fun k => match k with
  | 0 => .object "TwelveChain$Texts"
  | _ => .array .int
theorem nmX1 : ∀ a, a < 2 → ∀ b, b < 2 → a ≠ b → (TX1 a).2.1 ≠ (TX1 b).2.1 := by decide +kernel
theorem tyX1_ok : ∀ k, k < 2 → parseFieldDescriptor (TX1 k).2.2.1 = some (tyX1 k) := by decide +kernel
abbrev cX1_init : ByteArray := prog_3_method_1_code
def yX1_init : MethodName := ⟨RX1, "<init>", "(LTwelveChain$Texts;[I)V"⟩
abbrev cX1_write : ByteArray := prog_3_method_2_code
def yX1_write : MethodName := ⟨RX1, "write", "(LTwelveChain$Chain;III)V"⟩
abbrev cX1_canAsk : ByteArray := prog_3_method_3_code
def yX1_canAsk : MethodName := ⟨RX1, "canAsk", "(LTwelveChain$Chain;II)Z"⟩
abbrev cX1_askFor : ByteArray := prog_3_method_4_code
def yX1_askFor : MethodName := ⟨RX1, "askFor", "(LTwelveChain$Chain;II)I"⟩
abbrev cX1_putBridge : ByteArray := prog_3_method_5_code
def yX1_putBridge : MethodName := ⟨RX1, "putBridge", "(LTwelveChain$Chain;I)V"⟩
abbrev cX1_canHandOver : ByteArray := prog_3_method_6_code
def yX1_canHandOver : MethodName := ⟨RX1, "canHandOver", "(LTwelveChain$Chain;III)Z"⟩
abbrev cX1_handOver : ByteArray := prog_3_method_7_code
def yX1_handOver : MethodName := ⟨RX1, "handOver", "(LTwelveChain$Chain;III)V"⟩
abbrev cX1_canGetReady : ByteArray := prog_3_method_8_code
def yX1_canGetReady : MethodName := ⟨RX1, "canGetReady", "(LTwelveChain$Chain;I)Z"⟩
abbrev cX1_getReady : ByteArray := prog_3_method_9_code
def yX1_getReady : MethodName := ⟨RX1, "getReady", "(LTwelveChain$Chain;I)V"⟩
abbrev cX1_comeIn : ByteArray := prog_3_method_10_code
def yX1_comeIn : MethodName := ⟨RX1, "comeIn", "(LTwelveChain$Chain;I)V"⟩
abbrev cX1_oneDay : ByteArray := prog_3_method_11_code
def yX1_oneDay : MethodName := ⟨RX1, "oneDay", "(LTwelveChain$Chain;)I"⟩
abbrev cX1_doPlanned : ByteArray := prog_3_method_12_code
def yX1_doPlanned : MethodName := ⟨RX1, "doPlanned", "(LTwelveChain$Chain;I)V"⟩
abbrev cX1_mayLeave : ByteArray := prog_3_method_13_code
def yX1_mayLeave : MethodName := ⟨RX1, "mayLeave", "(LTwelveChain$Chain;I)V"⟩
abbrev cX1_moveParts : ByteArray := prog_3_method_14_code
def yX1_moveParts : MethodName := ⟨RX1, "moveParts", "(LTwelveChain$Chain;)I"⟩
abbrev cX1_canMove : ByteArray := prog_3_method_15_code
def yX1_canMove : MethodName := ⟨RX1, "canMove", "(LTwelveChain$Chain;II)Z"⟩
abbrev cX1_movePart : ByteArray := prog_3_method_16_code
def yX1_movePart : MethodName := ⟨RX1, "movePart", "(LTwelveChain$Chain;II)I"⟩
abbrev cX1_payForBridges : ByteArray := prog_3_method_17_code
def yX1_payForBridges : MethodName := ⟨RX1, "payForBridges", "(LTwelveChain$Chain;)V"⟩
def RX2 : String := "TwelveChain$Kept"
def TX2 : u_T := fun k => match k with
  | 0 => ("TwelveChain$Kept", "before", "[LTwelveChain$Chain;", true)
  | 1 => ("TwelveChain$Kept", "next", "I", false)
  | _ => ("TwelveChain$Kept", "count", "I", false)
def tyX2 : Nat → FieldType := fun k => match k with
  | 0 => .array (.object "TwelveChain$Chain")
  | 1 => .int
  | _ => .int
theorem nmX2 : ∀ a, a < 3 → ∀ b, b < 3 → a ≠ b → (TX2 a).2.1 ≠ (TX2 b).2.1 := by decide +kernel
theorem tyX2_ok : ∀ k, k < 3 → parseFieldDescriptor (TX2 k).2.2.1 = some (tyX2 k) := by decide +kernel
abbrev cX2_init : ByteArray := prog_4_method_1_code
def yX2_init : MethodName := ⟨RX2, "<init>", "()V"⟩
abbrev cX2_forgetAll : ByteArray := prog_4_method_2_code
def yX2_forgetAll : MethodName := ⟨RX2, "forgetAll", "()V"⟩
abbrev cX2_keep : ByteArray := prog_4_method_3_code
def yX2_keep : MethodName := ⟨RX2, "keep", "(LTwelveChain$Chain;)V"⟩
abbrev cX2_goBack : ByteArray := prog_4_method_4_code
def yX2_goBack : MethodName := ⟨RX2, "goBack", "(LTwelveChain$Chain;)Z"⟩
def RX3 : String := "TwelveChain$Law"
def TX3 : u_T := fun k => match k with
  | 0 => ("TwelveChain$Law", "lines", "I", false)
  | 1 => ("TwelveChain$Law", "size", "I", false)
  | 2 => ("TwelveChain$Law", "words", "[I", true)
  | 3 => ("TwelveChain$Law", "starts", "[I", true)
  | 4 => ("TwelveChain$Law", "middles", "[I", true)
  | 5 => ("TwelveChain$Law", "ends", "[I", true)
  | 6 => ("TwelveChain$Law", "code", "[I", true)
  | _ => ("TwelveChain$Law", "stack", "[I", true)
def tyX3 : Nat → FieldType := fun k => match k with
  | 0 => .int
  | 1 => .int
  | 2 => .array .int
  | 3 => .array .int
  | 4 => .array .int
  | 5 => .array .int
  | 6 => .array .int
  | _ => .array .int
theorem nmX3 : ∀ a, a < 8 → ∀ b, b < 8 → a ≠ b → (TX3 a).2.1 ≠ (TX3 b).2.1 := by decide +kernel
theorem tyX3_ok : ∀ k, k < 8 → parseFieldDescriptor (TX3 k).2.2.1 = some (tyX3 k) := by decide +kernel
abbrev cX3_init : ByteArray := prog_5_method_1_code
def yX3_init : MethodName := ⟨RX3, "<init>", "()V"⟩
abbrev cX3_clear : ByteArray := prog_5_method_2_code
def yX3_clear : MethodName := ⟨RX3, "clear", "()V"⟩
abbrev cX3_take : ByteArray := prog_5_method_3_code
def yX3_take : MethodName := ⟨RX3, "take", "(LTwelveChain$Law;)V"⟩
abbrev cX3_put : ByteArray := prog_5_method_4_code
def yX3_put : MethodName := ⟨RX3, "put", "(I)V"⟩
abbrev cX3_addLine : ByteArray := prog_5_method_5_code
def yX3_addLine : MethodName := ⟨RX3, "addLine", "(III)V"⟩
abbrev cX3_tells : ByteArray := prog_5_method_6_code
def yX3_tells : MethodName := ⟨RX3, "tells", "(ILTwelveChain$Chain;I)I"⟩
abbrev cX3_untold : ByteArray := prog_5_method_7_code
def yX3_untold : MethodName := ⟨RX3, "untold", "(ILTwelveChain$Link;)I"⟩
abbrev cX3_held : ByteArray := prog_5_method_8_code
def yX3_held : MethodName := ⟨RX3, "held", "(II)I"⟩
abbrev cX3_worked : ByteArray := prog_5_method_9_code
def yX3_worked : MethodName := ⟨RX3, "worked", "(IILTwelveChain$Chain;I)I"⟩
abbrev cX3_joined : ByteArray := prog_5_method_10_code
def yX3_joined : MethodName := ⟨RX3, "joined", "(III)I"⟩
def RX4 : String := "TwelveChain$Likely"
def TX4 : u_T := fun k => match k with
  | 0 => ("TwelveChain$Likely", "law", "LTwelveChain$Law;", true)
  | 1 => ("TwelveChain$Likely", "left", "[I", true)
  | 2 => ("TwelveChain$Likely", "ready", "[I", true)
  | 3 => ("TwelveChain$Likely", "costs", "[I", true)
  | _ => ("TwelveChain$Likely", "spans", "[I", true)
def tyX4 : Nat → FieldType := fun k => match k with
  | 0 => .object "TwelveChain$Law"
  | 1 => .array .int
  | 2 => .array .int
  | 3 => .array .int
  | _ => .array .int
theorem nmX4 : ∀ a, a < 5 → ∀ b, b < 5 → a ≠ b → (TX4 a).2.1 ≠ (TX4 b).2.1 := by decide +kernel
theorem tyX4_ok : ∀ k, k < 5 → parseFieldDescriptor (TX4 k).2.2.1 = some (tyX4 k) := by decide +kernel
abbrev cX4_init : ByteArray := prog_6_method_1_code
def yX4_init : MethodName := ⟨RX4, "<init>", "(LTwelveChain$Law;)V"⟩
abbrev cX4_leftNext : ByteArray := prog_6_method_2_code
def yX4_leftNext : MethodName := ⟨RX4, "leftNext", "(II)I"⟩
abbrev cX4_leftAfter : ByteArray := prog_6_method_3_code
def yX4_leftAfter : MethodName := ⟨RX4, "leftAfter", "(II)I"⟩
abbrev cX4_chance : ByteArray := prog_6_method_4_code
def yX4_chance : MethodName := ⟨RX4, "chance", "(II)I"⟩
abbrev cX4_times : ByteArray := prog_6_method_5_code
def yX4_times : MethodName := ⟨RX4, "times", "(II)I"⟩
abbrev cX4_reckon : ByteArray := prog_6_method_6_code
def yX4_reckon : MethodName := ⟨RX4, "reckon", "(LTwelveChain$Chain;I)V"⟩
abbrev cX4_oneDayMore : ByteArray := prog_6_method_7_code
def yX4_oneDayMore : MethodName := ⟨RX4, "oneDayMore", "(LTwelveChain$Chain;)V"⟩
abbrev cX4_chanceOf : ByteArray := prog_6_method_8_code
def yX4_chanceOf : MethodName := ⟨RX4, "chanceOf", "(I)I"⟩
abbrev cX4_oddsWith : ByteArray := prog_6_method_9_code
def yX4_oddsWith : MethodName := ⟨RX4, "oddsWith", "(LTwelveChain$Chain;II)I"⟩
abbrev cX4_oddsOf : ByteArray := prog_6_method_10_code
def yX4_oddsOf : MethodName := ⟨RX4, "oddsOf", "(LTwelveChain$Chain;II)I"⟩
abbrev cX4_holder : ByteArray := prog_6_method_11_code
def yX4_holder : MethodName := ⟨RX4, "holder", "(LTwelveChain$Chain;)I"⟩
abbrev cX4_oddsHurried : ByteArray := prog_6_method_12_code
def yX4_oddsHurried : MethodName := ⟨RX4, "oddsHurried", "(LTwelveChain$Chain;II)I"⟩
abbrev cX4_reckonSpans : ByteArray := prog_6_method_13_code
def yX4_reckonSpans : MethodName := ⟨RX4, "reckonSpans", "(LTwelveChain$Chain;)V"⟩
abbrev cX4_leastOdds : ByteArray := prog_6_method_14_code
def yX4_leastOdds : MethodName := ⟨RX4, "leastOdds", "(LTwelveChain$Chain;I)I"⟩
abbrev cX4_cheapestBridges : ByteArray := prog_6_method_15_code
def yX4_cheapestBridges : MethodName := ⟨RX4, "cheapestBridges", "(LTwelveChain$Chain;I)I"⟩
abbrev cX4_costOf : ByteArray := prog_6_method_16_code
def yX4_costOf : MethodName := ⟨RX4, "costOf", "(LTwelveChain$Chain;I)I"⟩
def RX5 : String := "TwelveChain$Link"
def TX5 : u_T := fun k => match k with
  | 0 => ("TwelveChain$Link", "price", "I", false)
  | 1 => ("TwelveChain$Link", "purse", "I", false)
  | 2 => ("TwelveChain$Link", "worth", "I", false)
  | 3 => ("TwelveChain$Link", "slow", "I", false)
  | 4 => ("TwelveChain$Link", "ready", "I", false)
  | 5 => ("TwelveChain$Link", "out", "I", false)
  | 6 => ("TwelveChain$Link", "bridged", "I", false)
  | _ => ("TwelveChain$Link", "moved", "I", false)
def tyX5 : Nat → FieldType := fun k => match k with
  | 0 => .int
  | 1 => .int
  | 2 => .int
  | 3 => .int
  | 4 => .int
  | 5 => .int
  | 6 => .int
  | _ => .int
theorem nmX5 : ∀ a, a < 8 → ∀ b, b < 8 → a ≠ b → (TX5 a).2.1 ≠ (TX5 b).2.1 := by decide +kernel
theorem tyX5_ok : ∀ k, k < 8 → parseFieldDescriptor (TX5 k).2.2.1 = some (tyX5 k) := by decide +kernel
abbrev cX5_init : ByteArray := prog_7_method_1_code
def yX5_init : MethodName := ⟨RX5, "<init>", "()V"⟩
abbrev cX5_makeNew : ByteArray := prog_7_method_2_code
def yX5_makeNew : MethodName := ⟨RX5, "makeNew", "(IIII)V"⟩
abbrev cX5_take : ByteArray := prog_7_method_3_code
def yX5_take : MethodName := ⟨RX5, "take", "(LTwelveChain$Link;)V"⟩
abbrev cX5_isIn : ByteArray := prog_7_method_4_code
def yX5_isIn : MethodName := ⟨RX5, "isIn", "()Z"⟩
def RX6 : String := "TwelveChain$Rows"
def TX6 : u_T := fun k => match k with
  | 0 => ("TwelveChain$Rows", "count", "I", false)
  | _ => ("TwelveChain$Rows", "cells", "[I", true)
def tyX6 : Nat → FieldType := fun k => match k with
  | 0 => .int
  | _ => .array .int
theorem nmX6 : ∀ a, a < 2 → ∀ b, b < 2 → a ≠ b → (TX6 a).2.1 ≠ (TX6 b).2.1 := by decide +kernel
theorem tyX6_ok : ∀ k, k < 2 → parseFieldDescriptor (TX6 k).2.2.1 = some (tyX6 k) := by decide +kernel
abbrev cX6_init : ByteArray := prog_8_method_1_code
def yX6_init : MethodName := ⟨RX6, "<init>", "()V"⟩
abbrev cX6_take : ByteArray := prog_8_method_2_code
def yX6_take : MethodName := ⟨RX6, "take", "(LTwelveChain$Rows;)V"⟩
abbrev cX6_add : ByteArray := prog_8_method_3_code
def yX6_add : MethodName := ⟨RX6, "add", "(IIIII)V"⟩
abbrev cX6_cell : ByteArray := prog_8_method_4_code
def yX6_cell : MethodName := ⟨RX6, "cell", "(II)I"⟩
def RX7 : String := "TwelveChain$Tape"
def TX7 : u_T := fun k => match k with
  | 0 => ("TwelveChain$Tape", "bytes", "[B", true)
  | 1 => ("TwelveChain$Tape", "length", "I", false)
  | 2 => ("TwelveChain$Tape", "tokens", "[I", true)
  | 3 => ("TwelveChain$Tape", "numbers", "[I", true)
  | _ => ("TwelveChain$Tape", "places", "[I", true)
def tyX7 : Nat → FieldType := fun k => match k with
  | 0 => .array .byte
  | 1 => .int
  | 2 => .array .int
  | 3 => .array .int
  | _ => .array .int
theorem nmX7 : ∀ a, a < 5 → ∀ b, b < 5 → a ≠ b → (TX7 a).2.1 ≠ (TX7 b).2.1 := by decide +kernel
theorem tyX7_ok : ∀ k, k < 5 → parseFieldDescriptor (TX7 k).2.2.1 = some (tyX7 k) := by decide +kernel
abbrev cX7_init : ByteArray := prog_9_method_1_code
def yX7_init : MethodName := ⟨RX7, "<init>", "()V"⟩
abbrev cX7_put : ByteArray := prog_9_method_2_code
def yX7_put : MethodName := ⟨RX7, "put", "(I)V"⟩
abbrev cX7_scan : ByteArray := prog_9_method_3_code
def yX7_scan : MethodName := ⟨RX7, "scan", "()V"⟩
abbrev cX7_isLetter : ByteArray := prog_9_method_4_code
def yX7_isLetter : MethodName := ⟨RX7, "isLetter", "(I)Z"⟩
abbrev cX7_isDigit : ByteArray := prog_9_method_5_code
def yX7_isDigit : MethodName := ⟨RX7, "isDigit", "(I)Z"⟩
abbrev cX7_isSign : ByteArray := prog_9_method_6_code
def yX7_isSign : MethodName := ⟨RX7, "isSign", "(I)Z"⟩
abbrev cX7_takeWord : ByteArray := prog_9_method_7_code
def yX7_takeWord : MethodName := ⟨RX7, "takeWord", "(II)I"⟩
abbrev cX7_takeNumber : ByteArray := prog_9_method_8_code
def yX7_takeNumber : MethodName := ⟨RX7, "takeNumber", "(II)I"⟩
abbrev cX7_takeSign : ByteArray := prog_9_method_9_code
def yX7_takeSign : MethodName := ⟨RX7, "takeSign", "(II)I"⟩
abbrev cX7_wordOf : ByteArray := prog_9_method_10_code
def yX7_wordOf : MethodName := ⟨RX7, "wordOf", "(II)I"⟩
def RX8 : String := "TwelveChain$Telephone"
def TX8 : u_T := fun k => match k with
  | 0 => ("TwelveChain$Telephone", "known", "Z", false)
  | 1 => ("TwelveChain$Telephone", "earliest", "I", false)
  | 2 => ("TwelveChain$Telephone", "most", "I", false)
  | 3 => ("TwelveChain$Telephone", "count", "I", false)
  | 4 => ("TwelveChain$Telephone", "from", "[I", true)
  | 5 => ("TwelveChain$Telephone", "to", "[I", true)
  | 6 => ("TwelveChain$Telephone", "order", "[I", true)
  | _ => ("TwelveChain$Telephone", "minutes", "[I", true)
def tyX8 : Nat → FieldType := fun k => match k with
  | 0 => .boolean
  | 1 => .int
  | 2 => .int
  | 3 => .int
  | 4 => .array .int
  | 5 => .array .int
  | 6 => .array .int
  | _ => .array .int
theorem nmX8 : ∀ a, a < 8 → ∀ b, b < 8 → a ≠ b → (TX8 a).2.1 ≠ (TX8 b).2.1 := by decide +kernel
theorem tyX8_ok : ∀ k, k < 8 → parseFieldDescriptor (TX8 k).2.2.1 = some (tyX8 k) := by decide +kernel
abbrev cX8_init : ByteArray := prog_10_method_1_code
def yX8_init : MethodName := ⟨RX8, "<init>", "()V"⟩
abbrev cX8_forgetAll : ByteArray := prog_10_method_2_code
def yX8_forgetAll : MethodName := ⟨RX8, "forgetAll", "()V"⟩
abbrev cX8_plan : ByteArray := prog_10_method_3_code
def yX8_plan : MethodName := ⟨RX8, "plan", "(ILTwelveChain$Texts;)V"⟩
abbrev cX8_signer : ByteArray := prog_10_method_4_code
def yX8_signer : MethodName := ⟨RX8, "signer", "(I)I"⟩
abbrev cX8_findEarliest : ByteArray := prog_10_method_5_code
def yX8_findEarliest : MethodName := ⟨RX8, "findEarliest", "()V"⟩
abbrev cX8_findLatest : ByteArray := prog_10_method_6_code
def yX8_findLatest : MethodName := ⟨RX8, "findLatest", "()V"⟩
abbrev cX8_findOrder : ByteArray := prog_10_method_7_code
def yX8_findOrder : MethodName := ⟨RX8, "findOrder", "()V"⟩
def RX9 : String := "TwelveChain$Teller"
def TX9 : u_T := fun k => match k with
  | 0 => ("TwelveChain$Teller", "tape", "LTwelveChain$Tape;", true)
  | 1 => ("TwelveChain$Teller", "law", "LTwelveChain$Law;", true)
  | 2 => ("TwelveChain$Teller", "rows", "LTwelveChain$Rows;", true)
  | 3 => ("TwelveChain$Teller", "fault", "I", false)
  | 4 => ("TwelveChain$Teller", "place", "I", false)
  | 5 => ("TwelveChain$Teller", "at", "I", false)
  | 6 => ("TwelveChain$Teller", "token", "I", false)
  | 7 => ("TwelveChain$Teller", "number", "I", false)
  | 8 => ("TwelveChain$Teller", "links", "I", false)
  | _ => ("TwelveChain$Teller", "open", "I", false)
def tyX9 : Nat → FieldType := fun k => match k with
  | 0 => .object "TwelveChain$Tape"
  | 1 => .object "TwelveChain$Law"
  | 2 => .object "TwelveChain$Rows"
  | 3 => .int
  | 4 => .int
  | 5 => .int
  | 6 => .int
  | 7 => .int
  | 8 => .int
  | _ => .int
theorem nmX9 : ∀ a, a < 10 → ∀ b, b < 10 → a ≠ b → (TX9 a).2.1 ≠ (TX9 b).2.1 := by decide +kernel
theorem tyX9_ok : ∀ k, k < 10 → parseFieldDescriptor (TX9 k).2.2.1 = some (tyX9 k) := by decide +kernel
abbrev cX9_init : ByteArray := prog_11_method_1_code
def yX9_init : MethodName := ⟨RX9, "<init>", "(LTwelveChain$Tape;)V"⟩
abbrev cX9_tell : ByteArray := prog_11_method_2_code
def yX9_tell : MethodName := ⟨RX9, "tell", "(ILTwelveChain$Texts;I)I"⟩
abbrev cX9_lookAt : ByteArray := prog_11_method_3_code
def yX9_lookAt : MethodName := ⟨RX9, "lookAt", "(I)V"⟩
abbrev cX9_wrong : ByteArray := prog_11_method_4_code
def yX9_wrong : MethodName := ⟨RX9, "wrong", "(I)Z"⟩
abbrev cX9_accept : ByteArray := prog_11_method_5_code
def yX9_accept : MethodName := ⟨RX9, "accept", "(I)Z"⟩
abbrev cX9_numeral : ByteArray := prog_11_method_6_code
def yX9_numeral : MethodName := ⟨RX9, "numeral", "(II)I"⟩
abbrev cX9_lawLines : ByteArray := prog_11_method_7_code
def yX9_lawLines : MethodName := ⟨RX9, "lawLines", "()Z"⟩
abbrev cX9_conditions : ByteArray := prog_11_method_8_code
def yX9_conditions : MethodName := ⟨RX9, "conditions", "()Z"⟩
abbrev cX9_condition : ByteArray := prog_11_method_9_code
def yX9_condition : MethodName := ⟨RX9, "condition", "()Z"⟩
abbrev cX9_sum : ByteArray := prog_11_method_10_code
def yX9_sum : MethodName := ⟨RX9, "sum", "()Z"⟩
abbrev cX9_unit : ByteArray := prog_11_method_11_code
def yX9_unit : MethodName := ⟨RX9, "unit", "()Z"⟩
abbrev cX9_rowLines : ByteArray := prog_11_method_12_code
def yX9_rowLines : MethodName := ⟨RX9, "rowLines", "(I)Z"⟩
abbrev cX9_planLine : ByteArray := prog_11_method_13_code
def yX9_planLine : MethodName := ⟨RX9, "planLine", "()Z"⟩
abbrev cX9_otherLink : ByteArray := prog_11_method_14_code
def yX9_otherLink : MethodName := ⟨RX9, "otherLink", "(I)I"⟩
abbrev cX9_phoneLine : ByteArray := prog_11_method_15_code
def yX9_phoneLine : MethodName := ⟨RX9, "phoneLine", "()Z"⟩
abbrev cX9_recordLine : ByteArray := prog_11_method_16_code
def yX9_recordLine : MethodName := ⟨RX9, "recordLine", "()Z"⟩
def RX10 : String := "TwelveChain$Texts"
def TX10 : u_T := fun k => match k with
  | 0 => ("TwelveChain$Texts", "law", "LTwelveChain$Law;", true)
  | 1 => ("TwelveChain$Texts", "plan", "LTwelveChain$Rows;", true)
  | 2 => ("TwelveChain$Texts", "phones", "LTwelveChain$Rows;", true)
  | _ => ("TwelveChain$Texts", "records", "LTwelveChain$Rows;", true)
def tyX10 : Nat → FieldType := fun k => match k with
  | 0 => .object "TwelveChain$Law"
  | 1 => .object "TwelveChain$Rows"
  | 2 => .object "TwelveChain$Rows"
  | _ => .object "TwelveChain$Rows"
theorem nmX10 : ∀ a, a < 4 → ∀ b, b < 4 → a ≠ b → (TX10 a).2.1 ≠ (TX10 b).2.1 := by decide +kernel
theorem tyX10_ok : ∀ k, k < 4 → parseFieldDescriptor (TX10 k).2.2.1 = some (tyX10 k) := by decide +kernel
abbrev cX10_init : ByteArray := prog_12_method_1_code
def yX10_init : MethodName := ⟨RX10, "<init>", "()V"⟩
abbrev cX10_take : ByteArray := prog_12_method_2_code
def yX10_take : MethodName := ⟨RX10, "take", "(LTwelveChain$Texts;)V"⟩
abbrev cX10_rows : ByteArray := prog_12_method_3_code
def yX10_rows : MethodName := ⟨RX10, "rows", "(I)LTwelveChain$Rows;"⟩
abbrev cX10_phoneLine : ByteArray := prog_12_method_4_code
def yX10_phoneLine : MethodName := ⟨RX10, "phoneLine", "(I)I"⟩
abbrev cX10_phoneFrom : ByteArray := prog_12_method_5_code
def yX10_phoneFrom : MethodName := ⟨RX10, "phoneFrom", "(I)I"⟩
abbrev cX10_phoneTo : ByteArray := prog_12_method_6_code
def yX10_phoneTo : MethodName := ⟨RX10, "phoneTo", "(I)I"⟩
abbrev cX10_recordsOf : ByteArray := prog_12_method_7_code
def yX10_recordsOf : MethodName := ⟨RX10, "recordsOf", "(I)I"⟩
abbrev cX10_writers : ByteArray := prog_12_method_8_code
def yX10_writers : MethodName := ⟨RX10, "writers", "(II)I"⟩
def RX11 : String := "TwelveChain"
def TX11 : u_T := fun k => match k with
  | 0 => ("TwelveChain", "chain", "LTwelveChain$Chain;", true)
  | 1 => ("TwelveChain", "thought", "LTwelveChain$Chain;", true)
  | 2 => ("TwelveChain", "texts", "LTwelveChain$Texts;", true)
  | 3 => ("TwelveChain", "pages", "[I", true)
  | 4 => ("TwelveChain", "deeds", "LTwelveChain$Deeds;", true)
  | 5 => ("TwelveChain", "kept", "LTwelveChain$Kept;", true)
  | 6 => ("TwelveChain", "tape", "LTwelveChain$Tape;", true)
  | 7 => ("TwelveChain", "teller", "LTwelveChain$Teller;", true)
  | 8 => ("TwelveChain", "likely", "LTwelveChain$Likely;", true)
  | 9 => ("TwelveChain", "telephone", "LTwelveChain$Telephone;", true)
  | 10 => ("TwelveChain", "takenChain", "LTwelveChain$Chain;", true)
  | 11 => ("TwelveChain", "takenTexts", "LTwelveChain$Texts;", true)
  | 12 => ("TwelveChain", "takenPages", "[I", true)
  | _ => ("TwelveChain", "hasImage", "Z", false)
def tyX11 : Nat → FieldType := fun k => match k with
  | 0 => .object "TwelveChain$Chain"
  | 1 => .object "TwelveChain$Chain"
  | 2 => .object "TwelveChain$Texts"
  | 3 => .array .int
  | 4 => .object "TwelveChain$Deeds"
  | 5 => .object "TwelveChain$Kept"
  | 6 => .object "TwelveChain$Tape"
  | 7 => .object "TwelveChain$Teller"
  | 8 => .object "TwelveChain$Likely"
  | 9 => .object "TwelveChain$Telephone"
  | 10 => .object "TwelveChain$Chain"
  | 11 => .object "TwelveChain$Texts"
  | 12 => .array .int
  | _ => .boolean
theorem nmX11 : ∀ a, a < 14 → ∀ b, b < 14 → a ≠ b → (TX11 a).2.1 ≠ (TX11 b).2.1 := by decide +kernel
theorem tyX11_ok : ∀ k, k < 14 → parseFieldDescriptor (TX11 k).2.2.1 = some (tyX11 k) := by decide +kernel
abbrev cX11_init : ByteArray := prog_1_method_1_code
def yX11_init : MethodName := ⟨RX11, "<init>", "()V"⟩
abbrev cX11_state : ByteArray := prog_1_method_2_code
def yX11_state : MethodName := ⟨RX11, "state", "(I)I"⟩
abbrev cX11_link : ByteArray := prog_1_method_3_code
def yX11_link : MethodName := ⟨RX11, "link", "(IIII)I"⟩
abbrev cX11_set : ByteArray := prog_1_method_4_code
def yX11_set : MethodName := ⟨RX11, "set", "(III)Z"⟩
abbrev cX11_canHave : ByteArray := prog_1_method_5_code
def yX11_canHave : MethodName := ⟨RX11, "canHave", "(II)Z"⟩
abbrev cX11_within : ByteArray := prog_1_method_6_code
def yX11_within : MethodName := ⟨RX11, "within", "(III)Z"⟩
abbrev cX11_ask : ByteArray := prog_1_method_7_code
def yX11_ask : MethodName := ⟨RX11, "ask", "(II)I"⟩
abbrev cX11_bridge : ByteArray := prog_1_method_8_code
def yX11_bridge : MethodName := ⟨RX11, "bridge", "(I)Z"⟩
abbrev cX11_pay : ByteArray := prog_1_method_9_code
def yX11_pay : MethodName := ⟨RX11, "pay", "(III)Z"⟩
abbrev cX11_paper : ByteArray := prog_1_method_10_code
def yX11_paper : MethodName := ⟨RX11, "paper", "(I)Z"⟩
abbrev cX11_join : ByteArray := prog_1_method_11_code
def yX11_join : MethodName := ⟨RX11, "join", "(I)Z"⟩
abbrev cX11_days : ByteArray := prog_1_method_12_code
def yX11_days : MethodName := ⟨RX11, "days", "(I)I"⟩
abbrev cX11_feed : ByteArray := prog_1_method_13_code
def yX11_feed : MethodName := ⟨RX11, "feed", "(IIIII)I"⟩
abbrev cX11_end : ByteArray := prog_1_method_14_code
def yX11_end : MethodName := ⟨RX11, "end", "(I)Z"⟩
abbrev cX11_text : ByteArray := prog_1_method_15_code
def yX11_text : MethodName := ⟨RX11, "text", "(I)I"⟩
abbrev cX11_fault : ByteArray := prog_1_method_16_code
def yX11_fault : MethodName := ⟨RX11, "fault", "(I)I"⟩
abbrev cX11_of : ByteArray := prog_1_method_17_code
def yX11_of : MethodName := ⟨RX11, "of", "(II)I"⟩
abbrev cX11_phone : ByteArray := prog_1_method_18_code
def yX11_phone : MethodName := ⟨RX11, "phone", "(II)I"⟩
abbrev cX11_book : ByteArray := prog_1_method_19_code
def yX11_book : MethodName := ⟨RX11, "book", "(II)I"⟩
abbrev cX11_goes : ByteArray := prog_1_method_20_code
def yX11_goes : MethodName := ⟨RX11, "goes", "(II)I"⟩
abbrev cX11_odds : ByteArray := prog_1_method_21_code
def yX11_odds : MethodName := ⟨RX11, "odds", "(I)I"⟩
abbrev cX11_holds : ByteArray := prog_1_method_22_code
def yX11_holds : MethodName := ⟨RX11, "holds", "(II)I"⟩
abbrev cX11_many : ByteArray := prog_1_method_23_code
def yX11_many : MethodName := ⟨RX11, "many", "(II)I"⟩
abbrev cX11_bridges : ByteArray := prog_1_method_24_code
def yX11_bridges : MethodName := ⟨RX11, "bridges", "(III)I"⟩
abbrev cX11_share : ByteArray := prog_1_method_25_code
def yX11_share : MethodName := ⟨RX11, "share", "(II)I"⟩
abbrev cX11_highestLevel : ByteArray := prog_1_method_26_code
def yX11_highestLevel : MethodName := ⟨RX11, "highestLevel", "(I)I"⟩
abbrev cX11_along : ByteArray := prog_1_method_27_code
def yX11_along : MethodName := ⟨RX11, "along", "(III)I"⟩
abbrev cX11_choice : ByteArray := prog_1_method_28_code
def yX11_choice : MethodName := ⟨RX11, "choice", "(IIII)I"⟩
abbrev cX11_bluff : ByteArray := prog_1_method_29_code
def yX11_bluff : MethodName := ⟨RX11, "bluff", "(III)I"⟩
abbrev cX11_signs : ByteArray := prog_1_method_30_code
def yX11_signs : MethodName := ⟨RX11, "signs", "(I)I"⟩
abbrev cX11_money : ByteArray := prog_1_method_31_code
def yX11_money : MethodName := ⟨RX11, "money", "(II)I"⟩
abbrev cX11_ill : ByteArray := prog_1_method_32_code
def yX11_ill : MethodName := ⟨RX11, "ill", "(II)I"⟩
abbrev cX11_wrote : ByteArray := prog_1_method_33_code
def yX11_wrote : MethodName := ⟨RX11, "wrote", "()I"⟩
abbrev cX11_slowest : ByteArray := prog_1_method_34_code
def yX11_slowest : MethodName := ⟨RX11, "slowest", "()I"⟩
abbrev cX11_game : ByteArray := prog_1_method_35_code
def yX11_game : MethodName := ⟨RX11, "game", "(I)I"⟩
abbrev cX11_heap : ByteArray := prog_1_method_36_code
def yX11_heap : MethodName := ⟨RX11, "heap", "(I)I"⟩
abbrev cX11_soon : ByteArray := prog_1_method_37_code
def yX11_soon : MethodName := ⟨RX11, "soon", "(I)I"⟩
abbrev cX11_hurry : ByteArray := prog_1_method_38_code
def yX11_hurry : MethodName := ⟨RX11, "hurry", "(II)I"⟩
abbrev cX11_split : ByteArray := prog_1_method_39_code
def yX11_split : MethodName := ⟨RX11, "split", "(II)I"⟩
abbrev cX11_gap : ByteArray := prog_1_method_40_code
def yX11_gap : MethodName := ⟨RX11, "gap", "(I)I"⟩
abbrev cX11_runs : ByteArray := prog_1_method_41_code
def yX11_runs : MethodName := ⟨RX11, "runs", "(I)I"⟩
abbrev cX11_undo : ByteArray := prog_1_method_42_code
def yX11_undo : MethodName := ⟨RX11, "undo", "()Z"⟩
abbrev cX11_image : ByteArray := prog_1_method_43_code
def yX11_image : MethodName := ⟨RX11, "image", "(Z)Z"⟩
abbrev cX11_look : ByteArray := prog_1_method_44_code
def yX11_look : MethodName := ⟨RX11, "look", "(I)I"⟩
def RX12 : String := "TwelveChainModel"
def TX12 : u_T := fun k => match k with
  | 0 => ("TwelveChainModel", "w", "[I", true)
  | 1 => ("TwelveChainModel", "kept", "[I", true)
  | 2 => ("TwelveChainModel", "back", "[I", true)
  | 3 => ("TwelveChainModel", "lying", "[I", true)
  | 4 => ("TwelveChainModel", "backMany", "I", false)
  | 5 => ("TwelveChainModel", "hasImage", "Z", false)
  | 6 => ("TwelveChainModel", "freshLine", "[I", true)
  | 7 => ("TwelveChainModel", "freshStep", "[I", true)
  | 8 => ("TwelveChainModel", "freshRow", "[I", true)
  | 9 => ("TwelveChainModel", "tape", "[I", true)
  | 10 => ("TwelveChainModel", "pile", "[I", true)
  | 11 => ("TwelveChainModel", "facts", "[I", true)
  | 12 => ("TwelveChainModel", "reading", "I", false)
  | 13 => ("TwelveChainModel", "lines", "I", false)
  | 14 => ("TwelveChainModel", "steps", "I", false)
  | 15 => ("TwelveChainModel", "rows", "I", false)
  | 16 => ("TwelveChainModel", "taped", "I", false)
  | 17 => ("TwelveChainModel", "at", "I", false)
  | 18 => ("TwelveChainModel", "token", "I", false)
  | 19 => ("TwelveChainModel", "tokenAt", "I", false)
  | 20 => ("TwelveChainModel", "value", "I", false)
  | 21 => ("TwelveChainModel", "wrong", "I", false)
  | 22 => ("TwelveChainModel", "wrongAt", "I", false)
  | 23 => ("TwelveChainModel", "faultKind", "I", false)
  | 24 => ("TwelveChainModel", "depth", "I", false)
  | 25 => ("TwelveChainModel", "faultPlace", "I", false)
  | 26 => ("TwelveChainModel", "isTrue", "Z", false)
  | _ => ("TwelveChainModel", "done", "[I", true)
def tyX12 : Nat → FieldType := fun k => match k with
  | 0 => .array .int
  | 1 => .array .int
  | 2 => .array .int
  | 3 => .array .int
  | 4 => .int
  | 5 => .boolean
  | 6 => .array .int
  | 7 => .array .int
  | 8 => .array .int
  | 9 => .array .int
  | 10 => .array .int
  | 11 => .array .int
  | 12 => .int
  | 13 => .int
  | 14 => .int
  | 15 => .int
  | 16 => .int
  | 17 => .int
  | 18 => .int
  | 19 => .int
  | 20 => .int
  | 21 => .int
  | 22 => .int
  | 23 => .int
  | 24 => .int
  | 25 => .int
  | 26 => .boolean
  | _ => .array .int
theorem nmX12 : ∀ a, a < 28 → ∀ b, b < 28 → a ≠ b → (TX12 a).2.1 ≠ (TX12 b).2.1 := by decide +kernel
theorem tyX12_ok : ∀ k, k < 28 → parseFieldDescriptor (TX12 k).2.2.1 = some (tyX12 k) := by decide +kernel
abbrev cX12_init : ByteArray := prog_14_method_1_code
def yX12_init : MethodName := ⟨RX12, "<init>", "()V"⟩
abbrev cX12_isIn : ByteArray := prog_14_method_2_code
def yX12_isIn : MethodName := ⟨RX12, "isIn", "(III)Z"⟩
abbrev cX12_lesser : ByteArray := prog_14_method_3_code
def yX12_lesser : MethodName := ⟨RX12, "lesser", "(II)I"⟩
abbrev cX12_greater : ByteArray := prog_14_method_4_code
def yX12_greater : MethodName := ⟨RX12, "greater", "(II)I"⟩
abbrev cX12_held : ByteArray := prog_14_method_5_code
def yX12_held : MethodName := ⟨RX12, "held", "(III)I"⟩
abbrev cX12_isLink : ByteArray := prog_14_method_6_code
def yX12_isLink : MethodName := ⟨RX12, "isLink", "(I)Z"⟩
abbrev cX12_isReady : ByteArray := prog_14_method_7_code
def yX12_isReady : MethodName := ⟨RX12, "isReady", "(I)Z"⟩
abbrev cX12_isOut : ByteArray := prog_14_method_8_code
def yX12_isOut : MethodName := ⟨RX12, "isOut", "(I)Z"⟩
abbrev cX12_isBridged : ByteArray := prog_14_method_9_code
def yX12_isBridged : MethodName := ⟨RX12, "isBridged", "(I)Z"⟩
abbrev cX12_hasMoved : ByteArray := prog_14_method_10_code
def yX12_hasMoved : MethodName := ⟨RX12, "hasMoved", "(I)Z"⟩
abbrev cX12_isThere : ByteArray := prog_14_method_11_code
def yX12_isThere : MethodName := ⟨RX12, "isThere", "(I)Z"⟩
abbrev cX12_count : ByteArray := prog_14_method_12_code
def yX12_count : MethodName := ⟨RX12, "count", "(I)I"⟩
abbrev cX12_forgets : ByteArray := prog_14_method_13_code
def yX12_forgets : MethodName := ⟨RX12, "forgets", "()V"⟩
abbrev cX12_state : ByteArray := prog_14_method_14_code
def yX12_state : MethodName := ⟨RX12, "state", "(I)I"⟩
abbrev cX12_draw : ByteArray := prog_14_method_15_code
def yX12_draw : MethodName := ⟨RX12, "draw", "(I)I"⟩
abbrev cX12_link : ByteArray := prog_14_method_16_code
def yX12_link : MethodName := ⟨RX12, "link", "(IIII)I"⟩
abbrev cX12_canBe : ByteArray := prog_14_method_17_code
def yX12_canBe : MethodName := ⟨RX12, "canBe", "(II)Z"⟩
abbrev cX12_set : ByteArray := prog_14_method_18_code
def yX12_set : MethodName := ⟨RX12, "set", "(III)Z"⟩
abbrev cX12_feed : ByteArray := prog_14_method_19_code
def yX12_feed : MethodName := ⟨RX12, "feed", "(IIIII)I"⟩
abbrev cX12_end : ByteArray := prog_14_method_20_code
def yX12_end : MethodName := ⟨RX12, "end", "(I)Z"⟩
abbrev cX12_see : ByteArray := prog_14_method_21_code
def yX12_see : MethodName := ⟨RX12, "see", "(I)I"⟩
abbrev cX12_isLetter : ByteArray := prog_14_method_22_code
def yX12_isLetter : MethodName := ⟨RX12, "isLetter", "(I)Z"⟩
abbrev cX12_isDigit : ByteArray := prog_14_method_23_code
def yX12_isDigit : MethodName := ⟨RX12, "isDigit", "(I)Z"⟩
abbrev cX12_is : ByteArray := prog_14_method_24_code
def yX12_is : MethodName := ⟨RX12, "is", "(Ljava/lang/String;)Z"⟩
abbrev cX12_asked : ByteArray := prog_14_method_25_code
def yX12_asked : MethodName := ⟨RX12, "asked", "()I"⟩
abbrev cX12_lawWord : ByteArray := prog_14_method_26_code
def yX12_lawWord : MethodName := ⟨RX12, "lawWord", "()I"⟩
abbrev cX12_planWord : ByteArray := prog_14_method_27_code
def yX12_planWord : MethodName := ⟨RX12, "planWord", "()I"⟩
abbrev cX12_word : ByteArray := prog_14_method_28_code
def yX12_word : MethodName := ⟨RX12, "word", "()I"⟩
abbrev cX12_next0 : ByteArray := prog_14_method_29_code
def yX12_next0 : MethodName := ⟨RX12, "next0", "()V"⟩
abbrev cX12_bad : ByteArray := prog_14_method_30_code
def yX12_bad : MethodName := ⟨RX12, "bad", "(I)Z"⟩
abbrev cX12_need : ByteArray := prog_14_method_31_code
def yX12_need : MethodName := ⟨RX12, "need", "(I)Z"⟩
abbrev cX12_lay : ByteArray := prog_14_method_32_code
def yX12_lay : MethodName := ⟨RX12, "lay", "(II)V"⟩
abbrev cX12_opens : ByteArray := prog_14_method_33_code
def yX12_opens : MethodName := ⟨RX12, "opens", "()Z"⟩
abbrev cX12_sumUp : ByteArray := prog_14_method_34_code
def yX12_sumUp : MethodName := ⟨RX12, "sumUp", "()Z"⟩
abbrev cX12_product : ByteArray := prog_14_method_35_code
def yX12_product : MethodName := ⟨RX12, "product", "()Z"⟩
abbrev cX12_unit : ByteArray := prog_14_method_36_code
def yX12_unit : MethodName := ⟨RX12, "unit", "()Z"⟩
abbrev cX12_any : ByteArray := prog_14_method_37_code
def yX12_any : MethodName := ⟨RX12, "any", "()Z"⟩
abbrev cX12_every : ByteArray := prog_14_method_38_code
def yX12_every : MethodName := ⟨RX12, "every", "()Z"⟩
abbrev cX12_oneTest : ByteArray := prog_14_method_39_code
def yX12_oneTest : MethodName := ⟨RX12, "oneTest", "()Z"⟩
abbrev cX12_aLine : ByteArray := prog_14_method_40_code
def yX12_aLine : MethodName := ⟨RX12, "aLine", "()Z"⟩
abbrev cX12_readsLaw : ByteArray := prog_14_method_41_code
def yX12_readsLaw : MethodName := ⟨RX12, "readsLaw", "()Z"⟩
abbrev cX12_number : ByteArray := prog_14_method_42_code
def yX12_number : MethodName := ⟨RX12, "number", "(III)Z"⟩
abbrev cX12_told : ByteArray := prog_14_method_43_code
def yX12_told : MethodName := ⟨RX12, "told", "(IIII)Z"⟩
abbrev cX12_aLink : ByteArray := prog_14_method_44_code
def yX12_aLink : MethodName := ⟨RX12, "aLink", "(I)Z"⟩
abbrev cX12_aPlan : ByteArray := prog_14_method_45_code
def yX12_aPlan : MethodName := ⟨RX12, "aPlan", "()Z"⟩
abbrev cX12_aPhone : ByteArray := prog_14_method_46_code
def yX12_aPhone : MethodName := ⟨RX12, "aPhone", "()Z"⟩
abbrev cX12_aRecord : ByteArray := prog_14_method_47_code
def yX12_aRecord : MethodName := ⟨RX12, "aRecord", "()Z"⟩
abbrev cX12_aRow : ByteArray := prog_14_method_48_code
def yX12_aRow : MethodName := ⟨RX12, "aRow", "()Z"⟩
abbrev cX12_readsRows : ByteArray := prog_14_method_49_code
def yX12_readsRows : MethodName := ⟨RX12, "readsRows", "()Z"⟩
abbrev cX12_putsLaw : ByteArray := prog_14_method_50_code
def yX12_putsLaw : MethodName := ⟨RX12, "putsLaw", "()I"⟩
abbrev cX12_puts : ByteArray := prog_14_method_51_code
def yX12_puts : MethodName := ⟨RX12, "puts", "(III)I"⟩
abbrev cX12_putsPhones : ByteArray := prog_14_method_52_code
def yX12_putsPhones : MethodName := ⟨RX12, "putsPhones", "()I"⟩
abbrev cX12_putsText : ByteArray := prog_14_method_53_code
def yX12_putsText : MethodName := ⟨RX12, "putsText", "(I)I"⟩
abbrev cX12_text : ByteArray := prog_14_method_54_code
def yX12_text : MethodName := ⟨RX12, "text", "(I)I"⟩
abbrev cX12_fault : ByteArray := prog_14_method_55_code
def yX12_fault : MethodName := ⟨RX12, "fault", "(I)I"⟩
abbrev cX12_both : ByteArray := prog_14_method_56_code
def yX12_both : MethodName := ⟨RX12, "both", "(III)I"⟩
abbrev cX12_comesTo : ByteArray := prog_14_method_57_code
def yX12_comesTo : MethodName := ⟨RX12, "comesTo", "(III)I"⟩
abbrev cX12_isSo : ByteArray := prog_14_method_58_code
def yX12_isSo : MethodName := ⟨RX12, "isSo", "(I)Z"⟩
abbrev cX12_endOf : ByteArray := prog_14_method_59_code
def yX12_endOf : MethodName := ⟨RX12, "endOf", "(II)I"⟩
abbrev cX12_bridgedOnes : ByteArray := prog_14_method_60_code
def yX12_bridgedOnes : MethodName := ⟨RX12, "bridgedOnes", "()I"⟩
abbrev cX12_lacksOf : ByteArray := prog_14_method_61_code
def yX12_lacksOf : MethodName := ⟨RX12, "lacksOf", "(I)I"⟩
abbrev cX12_says : ByteArray := prog_14_method_62_code
def yX12_says : MethodName := ⟨RX12, "says", "(IIII)I"⟩
abbrev cX12_readyOf : ByteArray := prog_14_method_63_code
def yX12_readyOf : MethodName := ⟨RX12, "readyOf", "(I)I"⟩
abbrev cX12_leaveOf : ByteArray := prog_14_method_64_code
def yX12_leaveOf : MethodName := ⟨RX12, "leaveOf", "(I)I"⟩
abbrev cX12_giveOf : ByteArray := prog_14_method_65_code
def yX12_giveOf : MethodName := ⟨RX12, "giveOf", "(I)I"⟩
abbrev cX12_costOf : ByteArray := prog_14_method_66_code
def yX12_costOf : MethodName := ⟨RX12, "costOf", "(I)I"⟩
abbrev cX12_canPay : ByteArray := prog_14_method_67_code
def yX12_canPay : MethodName := ⟨RX12, "canPay", "(I)Z"⟩
abbrev cX12_keeps : ByteArray := prog_14_method_68_code
def yX12_keeps : MethodName := ⟨RX12, "keeps", "()V"⟩
abbrev cX12_undo : ByteArray := prog_14_method_69_code
def yX12_undo : MethodName := ⟨RX12, "undo", "()Z"⟩
abbrev cX12_notes : ByteArray := prog_14_method_70_code
def yX12_notes : MethodName := ⟨RX12, "notes", "(III)V"⟩
abbrev cX12_canAsk : ByteArray := prog_14_method_71_code
def yX12_canAsk : MethodName := ⟨RX12, "canAsk", "(I)Z"⟩
abbrev cX12_asks : ByteArray := prog_14_method_72_code
def yX12_asks : MethodName := ⟨RX12, "asks", "(II)I"⟩
abbrev cX12_canBridge : ByteArray := prog_14_method_73_code
def yX12_canBridge : MethodName := ⟨RX12, "canBridge", "(I)Z"⟩
abbrev cX12_bridges0 : ByteArray := prog_14_method_74_code
def yX12_bridges0 : MethodName := ⟨RX12, "bridges0", "(I)V"⟩
abbrev cX12_canPay0 : ByteArray := prog_14_method_75_code
def yX12_canPay0 : MethodName := ⟨RX12, "canPay0", "(III)Z"⟩
abbrev cX12_pays : ByteArray := prog_14_method_76_code
def yX12_pays : MethodName := ⟨RX12, "pays", "(III)V"⟩
abbrev cX12_canPaper : ByteArray := prog_14_method_77_code
def yX12_canPaper : MethodName := ⟨RX12, "canPaper", "(I)Z"⟩
abbrev cX12_getsReady : ByteArray := prog_14_method_78_code
def yX12_getsReady : MethodName := ⟨RX12, "getsReady", "(I)V"⟩
abbrev cX12_ask : ByteArray := prog_14_method_79_code
def yX12_ask : MethodName := ⟨RX12, "ask", "(II)I"⟩
abbrev cX12_bridge : ByteArray := prog_14_method_80_code
def yX12_bridge : MethodName := ⟨RX12, "bridge", "(I)Z"⟩
abbrev cX12_pay : ByteArray := prog_14_method_81_code
def yX12_pay : MethodName := ⟨RX12, "pay", "(III)Z"⟩
abbrev cX12_paper : ByteArray := prog_14_method_82_code
def yX12_paper : MethodName := ⟨RX12, "paper", "(I)Z"⟩
abbrev cX12_join : ByteArray := prog_14_method_83_code
def yX12_join : MethodName := ⟨RX12, "join", "(I)Z"⟩
abbrev cX12_does : ByteArray := prog_14_method_84_code
def yX12_does : MethodName := ⟨RX12, "does", "(I)V"⟩
abbrev cX12_falls : ByteArray := prog_14_method_85_code
def yX12_falls : MethodName := ⟨RX12, "falls", "(I)Z"⟩
abbrev cX12_unreadies : ByteArray := prog_14_method_86_code
def yX12_unreadies : MethodName := ⟨RX12, "unreadies", "(I)V"⟩
abbrev cX12_leaves : ByteArray := prog_14_method_87_code
def yX12_leaves : MethodName := ⟨RX12, "leaves", "(I)V"⟩
abbrev cX12_canMove : ByteArray := prog_14_method_88_code
def yX12_canMove : MethodName := ⟨RX12, "canMove", "(II)Z"⟩
abbrev cX12_moves : ByteArray := prog_14_method_89_code
def yX12_moves : MethodName := ⟨RX12, "moves", "()I"⟩
abbrev cX12_aDay : ByteArray := prog_14_method_90_code
def yX12_aDay : MethodName := ⟨RX12, "aDay", "()I"⟩
abbrev cX12_days : ByteArray := prog_14_method_91_code
def yX12_days : MethodName := ⟨RX12, "days", "(I)I"⟩
abbrev cX12_of : ByteArray := prog_14_method_92_code
def yX12_of : MethodName := ⟨RX12, "of", "(II)I"⟩
abbrev cX12_recordsOf : ByteArray := prog_14_method_93_code
def yX12_recordsOf : MethodName := ⟨RX12, "recordsOf", "(III)I"⟩
abbrev cX12_phone : ByteArray := prog_14_method_94_code
def yX12_phone : MethodName := ⟨RX12, "phone", "(II)I"⟩
abbrev cX12_book : ByteArray := prog_14_method_95_code
def yX12_book : MethodName := ⟨RX12, "book", "(II)I"⟩
abbrev cX12_movedOnes : ByteArray := prog_14_method_96_code
def yX12_movedOnes : MethodName := ⟨RX12, "movedOnes", "()I"⟩
abbrev cX12_latestMoved : ByteArray := prog_14_method_97_code
def yX12_latestMoved : MethodName := ⟨RX12, "latestMoved", "()I"⟩
abbrev cX12_goes : ByteArray := prog_14_method_98_code
def yX12_goes : MethodName := ⟨RX12, "goes", "(II)I"⟩
abbrev cX12_sureBy : ByteArray := prog_14_method_99_code
def yX12_sureBy : MethodName := ⟨RX12, "sureBy", "(II)J"⟩
abbrev cX12_readyBy : ByteArray := prog_14_method_100_code
def yX12_readyBy : MethodName := ⟨RX12, "readyBy", "(II)J"⟩
abbrev cX12_allBy : ByteArray := prog_14_method_101_code
def yX12_allBy : MethodName := ⟨RX12, "allBy", "(III)J"⟩
abbrev cX12_odds : ByteArray := prog_14_method_102_code
def yX12_odds : MethodName := ⟨RX12, "odds", "(I)I"⟩
abbrev cX12_holds : ByteArray := prog_14_method_103_code
def yX12_holds : MethodName := ⟨RX12, "holds", "(II)I"⟩
abbrev cX12_many : ByteArray := prog_14_method_104_code
def yX12_many : MethodName := ⟨RX12, "many", "(II)I"⟩
abbrev cX12_leastBy : ByteArray := prog_14_method_105_code
def yX12_leastBy : MethodName := ⟨RX12, "leastBy", "(II)J"⟩
abbrev cX12_soon : ByteArray := prog_14_method_106_code
def yX12_soon : MethodName := ⟨RX12, "soon", "(I)I"⟩
abbrev cX12_hurriedBy : ByteArray := prog_14_method_107_code
def yX12_hurriedBy : MethodName := ⟨RX12, "hurriedBy", "(II)J"⟩
abbrev cX12_hurry : ByteArray := prog_14_method_108_code
def yX12_hurry : MethodName := ⟨RX12, "hurry", "(II)I"⟩
abbrev cX12_split : ByteArray := prog_14_method_109_code
def yX12_split : MethodName := ⟨RX12, "split", "(II)I"⟩
abbrev cX12_costsOf : ByteArray := prog_14_method_110_code
def yX12_costsOf : MethodName := ⟨RX12, "costsOf", "(I)I"⟩
abbrev cX12_bridgeable : ByteArray := prog_14_method_111_code
def yX12_bridgeable : MethodName := ⟨RX12, "bridgeable", "()I"⟩
abbrev cX12_bridges : ByteArray := prog_14_method_112_code
def yX12_bridges : MethodName := ⟨RX12, "bridges", "(III)I"⟩
abbrev cX12_isGiving : ByteArray := prog_14_method_113_code
def yX12_isGiving : MethodName := ⟨RX12, "isGiving", "(I)Z"⟩
abbrev cX12_givenBy : ByteArray := prog_14_method_114_code
def yX12_givenBy : MethodName := ⟨RX12, "givenBy", "(I)I"⟩
abbrev cX12_share : ByteArray := prog_14_method_115_code
def yX12_share : MethodName := ⟨RX12, "share", "(II)I"⟩
abbrev cX12_along : ByteArray := prog_14_method_116_code
def yX12_along : MethodName := ⟨RX12, "along", "(III)I"⟩
abbrev cX12_downwards : ByteArray := prog_14_method_117_code
def yX12_downwards : MethodName := ⟨RX12, "downwards", "(II)I"⟩
abbrev cX12_choice : ByteArray := prog_14_method_118_code
def yX12_choice : MethodName := ⟨RX12, "choice", "(IIII)I"⟩
abbrev cX12_bluff : ByteArray := prog_14_method_119_code
def yX12_bluff : MethodName := ⟨RX12, "bluff", "(III)I"⟩
abbrev cX12_gap : ByteArray := prog_14_method_120_code
def yX12_gap : MethodName := ⟨RX12, "gap", "(I)I"⟩
abbrev cX12_isRunning : ByteArray := prog_14_method_121_code
def yX12_isRunning : MethodName := ⟨RX12, "isRunning", "(I)Z"⟩
abbrev cX12_runs : ByteArray := prog_14_method_122_code
def yX12_runs : MethodName := ⟨RX12, "runs", "(I)I"⟩
abbrev cX12_laysSigns : ByteArray := prog_14_method_123_code
def yX12_laysSigns : MethodName := ⟨RX12, "laysSigns", "(II)V"⟩
abbrev cX12_mostSigned : ByteArray := prog_14_method_124_code
def yX12_mostSigned : MethodName := ⟨RX12, "mostSigned", "()I"⟩
abbrev cX12_signsNext : ByteArray := prog_14_method_125_code
def yX12_signsNext : MethodName := ⟨RX12, "signsNext", "(III)I"⟩
abbrev cX12_signs : ByteArray := prog_14_method_126_code
def yX12_signs : MethodName := ⟨RX12, "signs", "(I)I"⟩
abbrev cX12_money : ByteArray := prog_14_method_127_code
def yX12_money : MethodName := ⟨RX12, "money", "(II)I"⟩
abbrev cX12_ill : ByteArray := prog_14_method_128_code
def yX12_ill : MethodName := ⟨RX12, "ill", "(II)I"⟩
abbrev cX12_greaterBy : ByteArray := prog_14_method_129_code
def yX12_greaterBy : MethodName := ⟨RX12, "greaterBy", "(I)I"⟩
abbrev cX12_wrote : ByteArray := prog_14_method_130_code
def yX12_wrote : MethodName := ⟨RX12, "wrote", "()I"⟩
abbrev cX12_slowest : ByteArray := prog_14_method_131_code
def yX12_slowest : MethodName := ⟨RX12, "slowest", "()I"⟩
abbrev cX12_heapOf : ByteArray := prog_14_method_132_code
def yX12_heapOf : MethodName := ⟨RX12, "heapOf", "(I)I"⟩
abbrev cX12_game : ByteArray := prog_14_method_133_code
def yX12_game : MethodName := ⟨RX12, "game", "(I)I"⟩
abbrev cX12_image : ByteArray := prog_14_method_134_code
def yX12_image : MethodName := ⟨RX12, "image", "(Z)Z"⟩
abbrev cX12_look : ByteArray := prog_14_method_135_code
def yX12_look : MethodName := ⟨RX12, "look", "(I)I"⟩
def RJ6 : String := "java/lang/Integer"
abbrev cJ6_bitCount_0f7a4 : ByteArray := prog_15_method_49_code
def yJ6_bitCount_0f7a4 : MethodName := ⟨RJ6, "bitCount", "(I)I"⟩
def RJ9 : String := "java/lang/Math"
abbrev cJ9_floorDiv_7cf53 : ByteArray := prog_16_method_47_code
def yJ9_floorDiv_7cf53 : MethodName := ⟨RJ9, "floorDiv", "(II)I"⟩
abbrev cJ9_max_7cf53 : ByteArray := prog_16_method_65_code
def yJ9_max_7cf53 : MethodName := ⟨RJ9, "max", "(II)I"⟩
abbrev cJ9_min_7cf53 : ByteArray := prog_16_method_69_code
def yJ9_min_7cf53 : MethodName := ⟨RJ9, "min", "(II)I"⟩
def RJ0 : String := "java/lang/String"
abbrev cJ0_length_8abf5 : ByteArray := prog_17_method_54_code
def yJ0_length_8abf5 : MethodName := ⟨RJ0, "length", "()I"⟩
abbrev cJ0_charAt_5068e : ByteArray := prog_17_method_56_code
def yJ0_charAt_5068e : MethodName := ⟨RJ0, "charAt", "(I)C"⟩
abbrev cJ0_coder_7d493 : ByteArray := prog_17_method_152_code
def yJ0_coder_7d493 : MethodName := ⟨RJ0, "coder", "()B"⟩
abbrev cJ0_isLatin1_aae02 : ByteArray := prog_17_method_154_code
def yJ0_isLatin1_aae02 : MethodName := ⟨RJ0, "isLatin1", "()Z"⟩
abbrev cJ0_checkIndex_df160 : ByteArray := prog_17_method_155_code
def yJ0_checkIndex_df160 : MethodName := ⟨RJ0, "checkIndex", "(II)V"⟩
def RJ1 : String := "java/lang/StringLatin1"
abbrev cJ1_charAt_3b067 : ByteArray := prog_18_method_2_code
def yJ1_charAt_3b067 : MethodName := ⟨RJ1, "charAt", "([BI)C"⟩
def RJ2 : String := "java/lang/StringUTF16"
abbrev cJ2_getChar_3b067 : ByteArray := prog_19_method_5_code
def yJ2_getChar_3b067 : MethodName := ⟨RJ2, "getChar", "([BI)C"⟩
abbrev cJ2_length_9d52b : ByteArray := prog_19_method_6_code
def yJ2_length_9d52b : MethodName := ⟨RJ2, "length", "([B)I"⟩
abbrev cJ2_charAt_3b067 : ByteArray := prog_19_method_83_code
def yJ2_charAt_3b067 : MethodName := ⟨RJ2, "charAt", "([BI)C"⟩
abbrev cJ2_checkIndex_2214a : ByteArray := prog_19_method_91_code
def yJ2_checkIndex_2214a : MethodName := ⟨RJ2, "checkIndex", "(I[B)V"⟩
def RJ10 : String := "java/lang/System"
def RJ3 : String := "jdk/internal/util/Preconditions"
abbrev cJ3_checkIndex_8e157 : ByteArray := prog_21_method_11_code
def yJ3_checkIndex_8e157 : MethodName := ⟨RJ3, "checkIndex", "(IILjava/util/function/BiFunction;)I"⟩
def RL : String := "TwelveChainLaw"
abbrev cL_law : ByteArray := code
def yL_law : MethodName := ⟨RL, "law", "([I)Z"⟩
abbrev vwCl : List vw_C := [(RX0, TX0, 8), (RX1, TX1, 2), (RX2, TX2, 3), (RX3, TX3, 8), (RX4, TX4, 5), (RX5, TX5, 8), (RX6, TX6, 2), (RX7, TX7, 5), (RX8, TX8, 8), (RX9, TX9, 10), (RX10, TX10, 4), (RX11, TX11, 14), (RX12, TX12, 28)]
end
section
/-! A PURE MACHINE: ints, longs, references by (kind, id); a memory of whole numbers by id and place; one instruction as a proposition -/
abbrev pz_V : Type := Int ⊕ (Int ⊕ (Nat × Nat))
abbrev pz_M : Type := Nat → Nat → Int
abbrev pz_L : Type := List (Option pz_V)
abbrev pz_F : Type := Nat → pz_L → List pz_V → pz_M → Prop
abbrev pz_E : Type := Nat × Instr × Nat × Nat × List Nat
abbrev pz_C : Type := Nat × Nat × (List pz_V → pz_M → Prop) × (List pz_V → pz_M → Option pz_V → pz_M → Prop)
/-- how long an instruction is -/
def pz_len : Instr → Nat
  | .iconst _ => 1 | .bipush _ => 2 | .sipush _ => 3 | .lconst _ => 1 | .ldc _ => 2 | .ldc_w _ => 3 | .ldc2_w _ => 3
  | .iload _ => 2 | .iload_n _ => 1 | .lload _ => 2 | .lload_n _ => 1 | .aload _ => 2 | .aload_n _ => 1
  | .istore _ => 2 | .istore_n _ => 1 | .lstore _ => 2 | .lstore_n _ => 1 | .astore _ => 2 | .astore_n _ => 1
  | .iinc _ _ => 3 | .goto _ => 3 | .ifCond _ _ => 3 | .if_icmp _ _ => 3 | .getfield _ => 3 | .putfield _ => 3 | .invokevirtual _ => 3 | .invokestatic _ => 3
  | _ => 1
def pz_tok (pc : Nat) : Instr → List Nat → Bool
  | .goto o, [t] => decide ((pc : Int) + o = (t : Int))
  | .ifCond _ o, [t] => decide ((pc : Int) + o = (t : Int))
  | .if_icmp _ o, [t] => decide ((pc : Int) + o = (t : Int))
  | .tableswitch d low high os, ts => decide ((d :: os.toList).map (fun o => (pc : Int) + o) = ts.map Int.ofNat) && decide (high - low + 1 = (os.toList.length : Int))
  | .lookupswitch d ps, ts => decide ((d :: ps.toList.map (·.2)).map (fun o => (pc : Int) + o) = ts.map Int.ofNat) && (ps.toList.zip (ps.toList.drop 1)).all (fun q => decide (q.1.1 < q.2.1))
  | .goto _, _ => false
  | .ifCond _ _, _ => false
  | .if_icmp _ _, _ => false
  | _, _ => true
def pz_imm : Instr → Bool
  | .iconst v => decide (-1 ≤ v) && decide (v ≤ 5)
  | .bipush v => decide (-128 ≤ v) && decide (v ≤ 127)
  | .sipush v => decide (-32768 ≤ v) && decide (v ≤ 32767)
  | .iinc _ v => decide (-128 ≤ v) && decide (v ≤ 127)
  | _ => true
def pz_sl : Instr → Nat → Nat → Bool
  | .tableswitch .., _, _ => true
  | .lookupswitch .., _, _ => true
  | I, n, _ => decide (n = pz_len I)
/-- a row of a method's table says what its bytes say -/
def pz_wf (cc : ByteArray) (q : pz_E) : Bool := decide (decode cc q.1 = .ok (q.2.1, q.2.2.1)) && (decide (q.2.2.2.1 = q.1 + q.2.2.1) && (pz_sl q.2.1 q.2.2.1 0 && (pz_tok q.1 q.2.1 q.2.2.2.2 && pz_imm q.2.1)))
def pz_at (tb : List pz_E) (pc : Nat) : Option pz_E := tb.find? (fun q => Nat.beq q.1 pc)
end
section
/-! a method's table, read along its bytes -/
theorem pz_bg {α β : Type} {x : Decoder β} {f : β → Decoder α} {cc : ByteArray} {pc pc' : Nat} {v : β} (h : x cc pc = .ok (v, pc')) : (x >>= f : Decoder α) cc pc = f v cc pc' := by
  have key : ∀ y : Except DecodeError (β × Nat), x cc pc = y → (x >>= f : Decoder α) cc pc = Except.bind y (fun q => f q.1 cc q.2) := by
    intro y hy
    subst hy
    rfl
  exact key _ h
theorem pz_bm {α β : Type} {x : Decoder β} {g : β → α} {cc : ByteArray} {pc pc' : Nat} {v : β} (h : x cc pc = .ok (v, pc')) : (g <$> x : Decoder α) cc pc = .ok (g v, pc') := by
  have key : ∀ y : Except DecodeError (β × Nat), x cc pc = y → (g <$> x : Decoder α) cc pc = Except.bind y (fun q => .ok (g q.1, q.2)) := by
    intro y hy
    subst hy
    rfl
  exact key _ h
theorem pz_fr1 (C : ByteArray) (i : Nat) (hs : i < C.size) : (Reader.u1 : Decoder Nat) C i = .ok ((C[i]'hs).toNat, i + 1) := by
  show (if hq : i < C.size then (do MonadStateOf.set (i + 1); Pure.pure (C[i]'hq).toNat) else MonadExcept.throw (HasTruncated.truncated i) : Decoder Nat) C i = _
  rw [dif_pos hs]
  rfl
theorem pz_fr0 {cc : ByteArray} {pc : Nat} {b : UInt8} {r : List UInt8} (h : cc.data.toList.drop pc = b :: r) : (Reader.u1 : Decoder Nat) cc pc = .ok (b.toNat, pc + 1) ∧ cc.data.toList.drop (pc + 1) = r := by
  obtain ⟨⟨L⟩⟩ := cc
  have h : L.drop pc = b :: r := h
  have hl : pc < L.length := by
    apply Nat.lt_of_not_le
    intro g
    rw [List.drop_eq_nil_of_le g] at h
    cases h
  have h2 := List.drop_eq_getElem_cons hl
  rw [h] at h2
  have h3 := (List.cons.inj h2).1
  have h4 := (List.cons.inj h2).2
  subst h3
  exact ⟨pz_fr1 (ByteArray.mk (Array.mk L)) pc hl, h4.symm⟩
theorem pz_fr2 {cc : ByteArray} {pc : Nat} {a b : UInt8} {r : List UInt8} (h : cc.data.toList.drop pc = a :: b :: r) : (Reader.u2 : Decoder Nat) cc pc = .ok (a.toNat * 256 + b.toNat, pc + 1 + 1) := by
  obtain ⟨h1, h2⟩ := pz_fr0 h
  show (Reader.u1 >>= fun hi => Reader.u1 >>= fun lo => (pure (hi * 256 + lo) : Decoder Nat)) cc pc = _
  refine (pz_bg h1).trans ?_
  show (Reader.u1 >>= fun lo => (pure (a.toNat * 256 + lo) : Decoder Nat)) cc (pc + 1) = _
  exact (pz_bg (pz_fr0 h2).1).trans rfl
theorem pz_fs1 {cc : ByteArray} {pc : Nat} {a : UInt8} {r : List UInt8} (h : cc.data.toList.drop pc = a :: r) : (Reader.s1 : Decoder Int) cc pc = .ok (Reader.signed 8 a.toNat, pc + 1) := by
  show (Reader.signed 8 <$> (Reader.u1 : Decoder Nat) : Decoder Int) cc pc = _
  exact pz_bm (pz_fr0 h).1
theorem pz_fs2 {cc : ByteArray} {pc : Nat} {a b : UInt8} {r : List UInt8} (h : cc.data.toList.drop pc = a :: b :: r) : (Reader.s2 : Decoder Int) cc pc = .ok (Reader.signed 16 (a.toNat * 256 + b.toNat), pc + 1 + 1) := by
  show (Reader.signed 16 <$> (Reader.u2 : Decoder Nat) : Decoder Int) cc pc = _
  exact pz_bm (pz_fr2 h)
/-- what is read behind an opcode: nothing, a byte, two, a byte with its sign, two, a byte and one with its sign -/
abbrev pz_K : Type := Instr ⊕ (Nat → Instr) ⊕ (Nat → Instr) ⊕ (Int → Instr) ⊕ (Int → Instr) ⊕ (Nat → Int → Instr)
noncomputable def pz_Kd : pz_K → Decoder Instr
  | .inl I => pure I
  | .inr (.inl f) => Reader.u1 >>= fun a => pure (f a)
  | .inr (.inr (.inl f)) => Reader.u2 >>= fun a => pure (f a)
  | .inr (.inr (.inr (.inl f))) => Reader.s1 >>= fun a => pure (f a)
  | .inr (.inr (.inr (.inr (.inl f)))) => Reader.s2 >>= fun a => pure (f a)
  | .inr (.inr (.inr (.inr (.inr f)))) => Reader.u1 >>= fun a => Reader.s1 >>= fun b => pure (f a b)
def pz_r1 (g : UInt8 → Instr × Nat) : List UInt8 → Option (Instr × Nat)
  | [] => none
  | a :: _ => some (g a)
def pz_r2 (g : UInt8 → UInt8 → Instr × Nat) : List UInt8 → Option (Instr × Nat)
  | [] => none
  | a :: r => pz_r1 (g a) r
def pz_Kr : pz_K → List UInt8 → Option (Instr × Nat)
  | .inl I, _ => some (I, 1)
  | .inr (.inl f), l => pz_r1 (fun a => (f a.toNat, 2)) l
  | .inr (.inr (.inl f)), l => pz_r2 (fun a b => (f (a.toNat * 256 + b.toNat), 3)) l
  | .inr (.inr (.inr (.inl f))), l => pz_r1 (fun a => (f (Reader.signed 8 a.toNat), 2)) l
  | .inr (.inr (.inr (.inr (.inl f)))), l => pz_r2 (fun a b => (f (Reader.signed 16 (a.toNat * 256 + b.toNat)), 3)) l
  | .inr (.inr (.inr (.inr (.inr f)))), l => pz_r2 (fun a b => (f a.toNat (Reader.signed 8 b.toNat), 3)) l
theorem pz_r1s {g : UInt8 → Instr × Nat} {l : List UInt8} {q : Instr × Nat} (h : pz_r1 g l = some q) : ∃ a r, l = a :: r ∧ q = g a := by
  cases l with
  | nil => cases (show (none : Option (Instr × Nat)) = some q from h)
  | cons a r => exact ⟨a, r, rfl, (Option.some.inj (show some (g a) = some q from h)).symm⟩
theorem pz_r2s {g : UInt8 → UInt8 → Instr × Nat} {l : List UInt8} {q : Instr × Nat} (h : pz_r2 g l = some q) : ∃ a b r, l = a :: b :: r ∧ q = g a b := by
  cases l with
  | nil => cases (show (none : Option (Instr × Nat)) = some q from h)
  | cons a r =>
    obtain ⟨b, r', e, e2⟩ := pz_r1s (show pz_r1 (g a) r = some q from h)
    exact ⟨a, b, r', by rw [e], e2⟩
theorem pz_Krs {k : pz_K} {cc : ByteArray} {pc : Nat} {r : List UInt8} {q : Instr × Nat} (h : cc.data.toList.drop (pc + 1) = r) (hk : pz_Kr k r = some q) : pz_Kd k cc (pc + 1) = .ok (q.1, pc + q.2) := by
  rcases k with J | f | f | f | f | f
  · have e := Option.some.inj (show some (J, 1) = some q from hk)
    rw [← e]
    rfl
  · obtain ⟨a, r', e, e2⟩ := pz_r1s (show pz_r1 (fun a => (f a.toNat, 2)) r = some q from hk)
    rw [e] at h
    rw [e2]
    show (Reader.u1 >>= fun a => (pure (f a) : Decoder Instr)) cc (pc + 1) = .ok (f a.toNat, pc + 2)
    exact (pz_bg (pz_fr0 h).1).trans rfl
  · obtain ⟨a, b, r', e, e2⟩ := pz_r2s (show pz_r2 (fun a b => (f (a.toNat * 256 + b.toNat), 3)) r = some q from hk)
    rw [e] at h
    rw [e2]
    show (Reader.u2 >>= fun a => (pure (f a) : Decoder Instr)) cc (pc + 1) = .ok (f (a.toNat * 256 + b.toNat), pc + 3)
    exact (pz_bg (pz_fr2 h)).trans rfl
  · obtain ⟨a, r', e, e2⟩ := pz_r1s (show pz_r1 (fun a => (f (Reader.signed 8 a.toNat), 2)) r = some q from hk)
    rw [e] at h
    rw [e2]
    show (Reader.s1 >>= fun a => (pure (f a) : Decoder Instr)) cc (pc + 1) = .ok (f (Reader.signed 8 a.toNat), pc + 2)
    exact (pz_bg (pz_fs1 h)).trans rfl
  · obtain ⟨a, b, r', e, e2⟩ := pz_r2s (show pz_r2 (fun a b => (f (Reader.signed 16 (a.toNat * 256 + b.toNat)), 3)) r = some q from hk)
    rw [e] at h
    rw [e2]
    show (Reader.s2 >>= fun a => (pure (f a) : Decoder Instr)) cc (pc + 1) = .ok (f (Reader.signed 16 (a.toNat * 256 + b.toNat)), pc + 3)
    exact (pz_bg (pz_fs2 h)).trans rfl
  · obtain ⟨a, b, r', e, e2⟩ := pz_r2s (show pz_r2 (fun a b => (f a.toNat (Reader.signed 8 b.toNat), 3)) r = some q from hk)
    rw [e] at h
    rw [e2]
    show (Reader.u1 >>= fun a => Reader.s1 >>= fun b => (pure (f a b) : Decoder Instr)) cc (pc + 1) = .ok (f a.toNat (Reader.signed 8 b.toNat), pc + 3)
    refine (pz_bg (pz_fr0 h).1).trans ?_
    show (Reader.s1 >>= fun b => (pure (f a.toNat b) : Decoder Instr)) cc (pc + 1 + 1) = _
    exact (pz_bg (pz_fs1 (pz_fr0 h).2)).trans rfl
noncomputable def pz_FS : {F : Nat → Nat → Decoder Instr // ∀ pc, Decoder.instr pc = Reader.u1 >>= F pc} := ⟨_, fun pc => rfl⟩
theorem pz_ra {r : Decoder Instr} {cc : ByteArray} {pc : Nat} {y : Except DecodeError (Instr × Nat)} (hy : r cc pc = y) : (do let (i, x) ← Reader.runAt r cc pc; pure (i, x - pc) : Except DecodeError (Instr × Nat)) = Except.bind y (fun q => .ok (q.1, q.2 - pc)) := by
  subst hy
  rfl
theorem pz_dcd {cc : ByteArray} {pc : Nat} {q : Instr × Nat} {k : pz_K} {b : UInt8} {r : List UInt8} (h : cc.data.toList.drop pc = b :: r) (hk : ∀ pc, pz_FS.1 pc b.toNat = pz_Kd k) (hr : pz_Kr k r = some q) : decode cc pc = .ok q := by
  obtain ⟨h1, h2⟩ := pz_fr0 h
  have h3 := pz_Krs h2 hr
  have h5 : Decoder.instr pc cc pc = .ok (q.1, pc + q.2) := by
    rw [pz_FS.2 pc]
    refine (pz_bg h1).trans ?_
    rw [hk pc]
    exact h3
  have h6 : decode cc pc = Except.bind (.ok (q.1, pc + q.2)) (fun q => .ok (q.1, q.2 - pc)) := by
    unfold Jvm.ClassFile.decode
    exact pz_ra h5
  have e : pc + q.2 - pc = q.2 := Nat.add_sub_cancel_left _ _
  exact h6.trans (congrArg (fun n => (Except.ok (q.1, n) : Except DecodeError (Instr × Nat))) e)
set_option maxRecDepth 100000 in
theorem pz_fo2 : ∀ pc, pz_FS.1 pc 2 = pz_Kd (.inl (.iconst (-1))) := fun pc => rfl
set_option maxRecDepth 100000 in
theorem pz_fo3 : ∀ pc, pz_FS.1 pc 3 = pz_Kd (.inl (.iconst (0))) := fun pc => rfl
set_option maxRecDepth 100000 in
theorem pz_fo4 : ∀ pc, pz_FS.1 pc 4 = pz_Kd (.inl (.iconst (1))) := fun pc => rfl
set_option maxRecDepth 100000 in
theorem pz_fo5 : ∀ pc, pz_FS.1 pc 5 = pz_Kd (.inl (.iconst (2))) := fun pc => rfl
set_option maxRecDepth 100000 in
theorem pz_fo6 : ∀ pc, pz_FS.1 pc 6 = pz_Kd (.inl (.iconst (3))) := fun pc => rfl
set_option maxRecDepth 100000 in
theorem pz_fo7 : ∀ pc, pz_FS.1 pc 7 = pz_Kd (.inl (.iconst (4))) := fun pc => rfl
set_option maxRecDepth 100000 in
theorem pz_fo8 : ∀ pc, pz_FS.1 pc 8 = pz_Kd (.inl (.iconst (5))) := fun pc => rfl
set_option maxRecDepth 100000 in
theorem pz_fo16 : ∀ pc, pz_FS.1 pc 16 = pz_Kd (.inr (.inr (.inr (.inl (Instr.bipush))))) := fun pc => rfl
set_option maxRecDepth 100000 in
theorem pz_fo17 : ∀ pc, pz_FS.1 pc 17 = pz_Kd (.inr (.inr (.inr (.inr (.inl (Instr.sipush)))))) := fun pc => rfl
set_option maxRecDepth 100000 in
theorem pz_fo18 : ∀ pc, pz_FS.1 pc 18 = pz_Kd (.inr (.inl (Instr.ldc))) := fun pc => rfl
set_option maxRecDepth 100000 in
theorem pz_fo19 : ∀ pc, pz_FS.1 pc 19 = pz_Kd (.inr (.inr (.inl (Instr.ldc_w)))) := fun pc => rfl
set_option maxRecDepth 100000 in
theorem pz_fo20 : ∀ pc, pz_FS.1 pc 20 = pz_Kd (.inr (.inr (.inl (Instr.ldc2_w)))) := fun pc => rfl
set_option maxRecDepth 100000 in
theorem pz_fo21 : ∀ pc, pz_FS.1 pc 21 = pz_Kd (.inr (.inl (Instr.iload))) := fun pc => rfl
set_option maxRecDepth 100000 in
theorem pz_fo22 : ∀ pc, pz_FS.1 pc 22 = pz_Kd (.inr (.inl (Instr.lload))) := fun pc => rfl
set_option maxRecDepth 100000 in
theorem pz_fo25 : ∀ pc, pz_FS.1 pc 25 = pz_Kd (.inr (.inl (Instr.aload))) := fun pc => rfl
set_option maxRecDepth 100000 in
theorem pz_fo26 : ∀ pc, pz_FS.1 pc 26 = pz_Kd (.inl (.iload_n 0)) := fun pc => rfl
set_option maxRecDepth 100000 in
theorem pz_fo27 : ∀ pc, pz_FS.1 pc 27 = pz_Kd (.inl (.iload_n 1)) := fun pc => rfl
set_option maxRecDepth 100000 in
theorem pz_fo28 : ∀ pc, pz_FS.1 pc 28 = pz_Kd (.inl (.iload_n 2)) := fun pc => rfl
set_option maxRecDepth 100000 in
theorem pz_fo29 : ∀ pc, pz_FS.1 pc 29 = pz_Kd (.inl (.iload_n 3)) := fun pc => rfl
set_option maxRecDepth 100000 in
theorem pz_fo42 : ∀ pc, pz_FS.1 pc 42 = pz_Kd (.inl (.aload_n 0)) := fun pc => rfl
set_option maxRecDepth 100000 in
theorem pz_fo43 : ∀ pc, pz_FS.1 pc 43 = pz_Kd (.inl (.aload_n 1)) := fun pc => rfl
set_option maxRecDepth 100000 in
theorem pz_fo44 : ∀ pc, pz_FS.1 pc 44 = pz_Kd (.inl (.aload_n 2)) := fun pc => rfl
set_option maxRecDepth 100000 in
theorem pz_fo45 : ∀ pc, pz_FS.1 pc 45 = pz_Kd (.inl (.aload_n 3)) := fun pc => rfl
set_option maxRecDepth 100000 in
theorem pz_fo46 : ∀ pc, pz_FS.1 pc 46 = pz_Kd (.inl (.iaload)) := fun pc => rfl
set_option maxRecDepth 100000 in
theorem pz_fo50 : ∀ pc, pz_FS.1 pc 50 = pz_Kd (.inl (.aaload)) := fun pc => rfl
set_option maxRecDepth 100000 in
theorem pz_fo51 : ∀ pc, pz_FS.1 pc 51 = pz_Kd (.inl (.baload)) := fun pc => rfl
set_option maxRecDepth 100000 in
theorem pz_fo54 : ∀ pc, pz_FS.1 pc 54 = pz_Kd (.inr (.inl (Instr.istore))) := fun pc => rfl
set_option maxRecDepth 100000 in
theorem pz_fo55 : ∀ pc, pz_FS.1 pc 55 = pz_Kd (.inr (.inl (Instr.lstore))) := fun pc => rfl
set_option maxRecDepth 100000 in
theorem pz_fo58 : ∀ pc, pz_FS.1 pc 58 = pz_Kd (.inr (.inl (Instr.astore))) := fun pc => rfl
set_option maxRecDepth 100000 in
theorem pz_fo60 : ∀ pc, pz_FS.1 pc 60 = pz_Kd (.inl (.istore_n 1)) := fun pc => rfl
set_option maxRecDepth 100000 in
theorem pz_fo61 : ∀ pc, pz_FS.1 pc 61 = pz_Kd (.inl (.istore_n 2)) := fun pc => rfl
set_option maxRecDepth 100000 in
theorem pz_fo62 : ∀ pc, pz_FS.1 pc 62 = pz_Kd (.inl (.istore_n 3)) := fun pc => rfl
set_option maxRecDepth 100000 in
theorem pz_fo79 : ∀ pc, pz_FS.1 pc 79 = pz_Kd (.inl (.iastore)) := fun pc => rfl
set_option maxRecDepth 100000 in
theorem pz_fo87 : ∀ pc, pz_FS.1 pc 87 = pz_Kd (.inl (.pop)) := fun pc => rfl
set_option maxRecDepth 100000 in
theorem pz_fo89 : ∀ pc, pz_FS.1 pc 89 = pz_Kd (.inl (.dup)) := fun pc => rfl
set_option maxRecDepth 100000 in
theorem pz_fo92 : ∀ pc, pz_FS.1 pc 92 = pz_Kd (.inl (.dup2)) := fun pc => rfl
set_option maxRecDepth 100000 in
theorem pz_fo96 : ∀ pc, pz_FS.1 pc 96 = pz_Kd (.inl (.iadd)) := fun pc => rfl
set_option maxRecDepth 100000 in
theorem pz_fo100 : ∀ pc, pz_FS.1 pc 100 = pz_Kd (.inl (.isub)) := fun pc => rfl
set_option maxRecDepth 100000 in
theorem pz_fo104 : ∀ pc, pz_FS.1 pc 104 = pz_Kd (.inl (.imul)) := fun pc => rfl
set_option maxRecDepth 100000 in
theorem pz_fo105 : ∀ pc, pz_FS.1 pc 105 = pz_Kd (.inl (.lmul)) := fun pc => rfl
set_option maxRecDepth 100000 in
theorem pz_fo108 : ∀ pc, pz_FS.1 pc 108 = pz_Kd (.inl (.idiv)) := fun pc => rfl
set_option maxRecDepth 100000 in
theorem pz_fo109 : ∀ pc, pz_FS.1 pc 109 = pz_Kd (.inl (.ldiv)) := fun pc => rfl
set_option maxRecDepth 100000 in
theorem pz_fo112 : ∀ pc, pz_FS.1 pc 112 = pz_Kd (.inl (.irem)) := fun pc => rfl
set_option maxRecDepth 100000 in
theorem pz_fo120 : ∀ pc, pz_FS.1 pc 120 = pz_Kd (.inl (.ishl)) := fun pc => rfl
set_option maxRecDepth 100000 in
theorem pz_fo122 : ∀ pc, pz_FS.1 pc 122 = pz_Kd (.inl (.ishr)) := fun pc => rfl
set_option maxRecDepth 100000 in
theorem pz_fo124 : ∀ pc, pz_FS.1 pc 124 = pz_Kd (.inl (.iushr)) := fun pc => rfl
set_option maxRecDepth 100000 in
theorem pz_fo126 : ∀ pc, pz_FS.1 pc 126 = pz_Kd (.inl (.iand)) := fun pc => rfl
set_option maxRecDepth 100000 in
theorem pz_fo128 : ∀ pc, pz_FS.1 pc 128 = pz_Kd (.inl (.ior)) := fun pc => rfl
set_option maxRecDepth 100000 in
theorem pz_fo130 : ∀ pc, pz_FS.1 pc 130 = pz_Kd (.inl (.ixor)) := fun pc => rfl
set_option maxRecDepth 100000 in
theorem pz_fo132 : ∀ pc, pz_FS.1 pc 132 = pz_Kd (.inr (.inr (.inr (.inr (.inr (Instr.iinc)))))) := fun pc => rfl
set_option maxRecDepth 100000 in
theorem pz_fo133 : ∀ pc, pz_FS.1 pc 133 = pz_Kd (.inl (.i2l)) := fun pc => rfl
set_option maxRecDepth 100000 in
theorem pz_fo136 : ∀ pc, pz_FS.1 pc 136 = pz_Kd (.inl (.l2i)) := fun pc => rfl
set_option maxRecDepth 100000 in
theorem pz_fo148 : ∀ pc, pz_FS.1 pc 148 = pz_Kd (.inl (.lcmp)) := fun pc => rfl
set_option maxRecDepth 100000 in
theorem pz_fo153 : ∀ pc, pz_FS.1 pc 153 = pz_Kd (.inr (.inr (.inr (.inr (.inl (Instr.ifCond .eq)))))) := fun pc => rfl
set_option maxRecDepth 100000 in
theorem pz_fo154 : ∀ pc, pz_FS.1 pc 154 = pz_Kd (.inr (.inr (.inr (.inr (.inl (Instr.ifCond .ne)))))) := fun pc => rfl
set_option maxRecDepth 100000 in
theorem pz_fo155 : ∀ pc, pz_FS.1 pc 155 = pz_Kd (.inr (.inr (.inr (.inr (.inl (Instr.ifCond .lt)))))) := fun pc => rfl
set_option maxRecDepth 100000 in
theorem pz_fo156 : ∀ pc, pz_FS.1 pc 156 = pz_Kd (.inr (.inr (.inr (.inr (.inl (Instr.ifCond .ge)))))) := fun pc => rfl
set_option maxRecDepth 100000 in
theorem pz_fo158 : ∀ pc, pz_FS.1 pc 158 = pz_Kd (.inr (.inr (.inr (.inr (.inl (Instr.ifCond .le)))))) := fun pc => rfl
set_option maxRecDepth 100000 in
theorem pz_fo159 : ∀ pc, pz_FS.1 pc 159 = pz_Kd (.inr (.inr (.inr (.inr (.inl (Instr.if_icmp .eq)))))) := fun pc => rfl
set_option maxRecDepth 100000 in
theorem pz_fo160 : ∀ pc, pz_FS.1 pc 160 = pz_Kd (.inr (.inr (.inr (.inr (.inl (Instr.if_icmp .ne)))))) := fun pc => rfl
set_option maxRecDepth 100000 in
theorem pz_fo161 : ∀ pc, pz_FS.1 pc 161 = pz_Kd (.inr (.inr (.inr (.inr (.inl (Instr.if_icmp .lt)))))) := fun pc => rfl
set_option maxRecDepth 100000 in
theorem pz_fo162 : ∀ pc, pz_FS.1 pc 162 = pz_Kd (.inr (.inr (.inr (.inr (.inl (Instr.if_icmp .ge)))))) := fun pc => rfl
set_option maxRecDepth 100000 in
theorem pz_fo163 : ∀ pc, pz_FS.1 pc 163 = pz_Kd (.inr (.inr (.inr (.inr (.inl (Instr.if_icmp .gt)))))) := fun pc => rfl
set_option maxRecDepth 100000 in
theorem pz_fo164 : ∀ pc, pz_FS.1 pc 164 = pz_Kd (.inr (.inr (.inr (.inr (.inl (Instr.if_icmp .le)))))) := fun pc => rfl
set_option maxRecDepth 100000 in
theorem pz_fo167 : ∀ pc, pz_FS.1 pc 167 = pz_Kd (.inr (.inr (.inr (.inr (.inl (Instr.goto)))))) := fun pc => rfl
set_option maxRecDepth 100000 in
theorem pz_fo172 : ∀ pc, pz_FS.1 pc 172 = pz_Kd (.inl (.ireturn)) := fun pc => rfl
set_option maxRecDepth 100000 in
theorem pz_fo177 : ∀ pc, pz_FS.1 pc 177 = pz_Kd (.inl (.return_)) := fun pc => rfl
set_option maxRecDepth 100000 in
theorem pz_fo180 : ∀ pc, pz_FS.1 pc 180 = pz_Kd (.inr (.inr (.inl (Instr.getfield)))) := fun pc => rfl
set_option maxRecDepth 100000 in
theorem pz_fo181 : ∀ pc, pz_FS.1 pc 181 = pz_Kd (.inr (.inr (.inl (Instr.putfield)))) := fun pc => rfl
set_option maxRecDepth 100000 in
theorem pz_fo182 : ∀ pc, pz_FS.1 pc 182 = pz_Kd (.inr (.inr (.inl (Instr.invokevirtual)))) := fun pc => rfl
set_option maxRecDepth 100000 in
theorem pz_fo183 : ∀ pc, pz_FS.1 pc 183 = pz_Kd (.inr (.inr (.inl (Instr.invokespecial)))) := fun pc => rfl
set_option maxRecDepth 100000 in
theorem pz_fo184 : ∀ pc, pz_FS.1 pc 184 = pz_Kd (.inr (.inr (.inl (Instr.invokestatic)))) := fun pc => rfl
set_option maxRecDepth 100000 in
theorem pz_fo187 : ∀ pc, pz_FS.1 pc 187 = pz_Kd (.inr (.inr (.inl (Instr.new)))) := fun pc => rfl
set_option maxRecDepth 100000 in
theorem pz_fo190 : ∀ pc, pz_FS.1 pc 190 = pz_Kd (.inl (.arraylength)) := fun pc => rfl
noncomputable def pz_ol : List (Nat × pz_K) := [(42, .inl (.aload_n 0)), (180, .inr (.inr (.inl (Instr.getfield)))), (182, .inr (.inr (.inl (Instr.invokevirtual)))), (27, .inl (.iload_n 1)), (172, .inl (.ireturn)), (3, .inl (.iconst (0))), (4, .inl (.iconst (1))), (21, .inr (.inl (Instr.iload))), (16, .inr (.inr (.inr (.inl (Instr.bipush))))), (167, .inr (.inr (.inr (.inr (.inl (Instr.goto)))))), (28, .inl (.iload_n 2)), (29, .inl (.iload_n 3)), (96, .inl (.iadd)), (46, .inl (.iaload)), (153, .inr (.inr (.inr (.inr (.inl (Instr.ifCond .eq)))))), (184, .inr (.inr (.inl (Instr.invokestatic)))), (54, .inr (.inl (Instr.istore))), (181, .inr (.inr (.inl (Instr.putfield)))), (162, .inr (.inr (.inr (.inr (.inl (Instr.if_icmp .ge)))))), (43, .inl (.aload_n 1)), (17, .inr (.inr (.inr (.inr (.inl (Instr.sipush)))))), (2, .inl (.iconst (-1))), (154, .inr (.inr (.inr (.inr (.inl (Instr.ifCond .ne)))))), (132, .inr (.inr (.inr (.inr (.inr (Instr.iinc)))))), (100, .inl (.isub)), (79, .inl (.iastore)), (5, .inl (.iconst (2))), (160, .inr (.inr (.inr (.inr (.inl (Instr.if_icmp .ne)))))), (61, .inl (.istore_n 2)), (62, .inl (.istore_n 3)), (87, .inl (.pop)), (159, .inr (.inr (.inr (.inr (.inl (Instr.if_icmp .eq)))))), (104, .inl (.imul)), (6, .inl (.iconst (3))), (60, .inl (.istore_n 1)), (26, .inl (.iload_n 0)), (177, .inl (.return_)), (7, .inl (.iconst (4))), (89, .inl (.dup)), (44, .inl (.aload_n 2)), (18, .inr (.inl (Instr.ldc))), (163, .inr (.inr (.inr (.inr (.inl (Instr.if_icmp .gt)))))), (183, .inr (.inr (.inl (Instr.invokespecial)))), (126, .inl (.iand)), (120, .inl (.ishl)), (161, .inr (.inr (.inr (.inr (.inl (Instr.if_icmp .lt)))))), (164, .inr (.inr (.inr (.inr (.inl (Instr.if_icmp .le)))))), (187, .inr (.inr (.inl (Instr.new)))), (25, .inr (.inl (Instr.aload))), (155, .inr (.inr (.inr (.inr (.inl (Instr.ifCond .lt)))))), (128, .inl (.ior)), (130, .inl (.ixor)), (158, .inr (.inr (.inr (.inr (.inl (Instr.ifCond .le)))))), (8, .inl (.iconst (5))), (19, .inr (.inr (.inl (Instr.ldc_w)))), (20, .inr (.inr (.inl (Instr.ldc2_w)))), (122, .inl (.ishr)), (22, .inr (.inl (Instr.lload))), (45, .inl (.aload_n 3)), (190, .inl (.arraylength)), (133, .inl (.i2l)), (50, .inl (.aaload)), (51, .inl (.baload)), (55, .inr (.inl (Instr.lstore))), (105, .inl (.lmul)), (112, .inl (.irem)), (156, .inr (.inr (.inr (.inr (.inl (Instr.ifCond .ge)))))), (58, .inr (.inl (Instr.astore))), (92, .inl (.dup2)), (108, .inl (.idiv)), (148, .inl (.lcmp)), (109, .inl (.ldiv)), (124, .inl (.iushr)), (136, .inl (.l2i))]
theorem pz_olk : ∀ q ∈ pz_ol, ∀ pc, pz_FS.1 pc q.1 = pz_Kd q.2 := List.forall_mem_cons.mpr ⟨pz_fo42, List.forall_mem_cons.mpr ⟨pz_fo180, List.forall_mem_cons.mpr ⟨pz_fo182, List.forall_mem_cons.mpr ⟨pz_fo27, List.forall_mem_cons.mpr ⟨pz_fo172, List.forall_mem_cons.mpr ⟨pz_fo3, List.forall_mem_cons.mpr ⟨pz_fo4, List.forall_mem_cons.mpr ⟨pz_fo21, List.forall_mem_cons.mpr ⟨pz_fo16, List.forall_mem_cons.mpr ⟨pz_fo167, List.forall_mem_cons.mpr ⟨pz_fo28, List.forall_mem_cons.mpr ⟨pz_fo29, List.forall_mem_cons.mpr ⟨pz_fo96, List.forall_mem_cons.mpr ⟨pz_fo46, List.forall_mem_cons.mpr ⟨pz_fo153, List.forall_mem_cons.mpr ⟨pz_fo184, List.forall_mem_cons.mpr ⟨pz_fo54, List.forall_mem_cons.mpr ⟨pz_fo181, List.forall_mem_cons.mpr ⟨pz_fo162, List.forall_mem_cons.mpr ⟨pz_fo43, List.forall_mem_cons.mpr ⟨pz_fo17, List.forall_mem_cons.mpr ⟨pz_fo2, List.forall_mem_cons.mpr ⟨pz_fo154, List.forall_mem_cons.mpr ⟨pz_fo132, List.forall_mem_cons.mpr ⟨pz_fo100, List.forall_mem_cons.mpr ⟨pz_fo79, List.forall_mem_cons.mpr ⟨pz_fo5, List.forall_mem_cons.mpr ⟨pz_fo160, List.forall_mem_cons.mpr ⟨pz_fo61, List.forall_mem_cons.mpr ⟨pz_fo62, List.forall_mem_cons.mpr ⟨pz_fo87, List.forall_mem_cons.mpr ⟨pz_fo159, List.forall_mem_cons.mpr ⟨pz_fo104, List.forall_mem_cons.mpr ⟨pz_fo6, List.forall_mem_cons.mpr ⟨pz_fo60, List.forall_mem_cons.mpr ⟨pz_fo26, List.forall_mem_cons.mpr ⟨pz_fo177, List.forall_mem_cons.mpr ⟨pz_fo7, List.forall_mem_cons.mpr ⟨pz_fo89, List.forall_mem_cons.mpr ⟨pz_fo44, List.forall_mem_cons.mpr ⟨pz_fo18, List.forall_mem_cons.mpr ⟨pz_fo163, List.forall_mem_cons.mpr ⟨pz_fo183, List.forall_mem_cons.mpr ⟨pz_fo126, List.forall_mem_cons.mpr ⟨pz_fo120, List.forall_mem_cons.mpr ⟨pz_fo161, List.forall_mem_cons.mpr ⟨pz_fo164, List.forall_mem_cons.mpr ⟨pz_fo187, List.forall_mem_cons.mpr ⟨pz_fo25, List.forall_mem_cons.mpr ⟨pz_fo155, List.forall_mem_cons.mpr ⟨pz_fo128, List.forall_mem_cons.mpr ⟨pz_fo130, List.forall_mem_cons.mpr ⟨pz_fo158, List.forall_mem_cons.mpr ⟨pz_fo8, List.forall_mem_cons.mpr ⟨pz_fo19, List.forall_mem_cons.mpr ⟨pz_fo20, List.forall_mem_cons.mpr ⟨pz_fo122, List.forall_mem_cons.mpr ⟨pz_fo22, List.forall_mem_cons.mpr ⟨pz_fo45, List.forall_mem_cons.mpr ⟨pz_fo190, List.forall_mem_cons.mpr ⟨pz_fo133, List.forall_mem_cons.mpr ⟨pz_fo50, List.forall_mem_cons.mpr ⟨pz_fo51, List.forall_mem_cons.mpr ⟨pz_fo55, List.forall_mem_cons.mpr ⟨pz_fo105, List.forall_mem_cons.mpr ⟨pz_fo112, List.forall_mem_cons.mpr ⟨pz_fo156, List.forall_mem_cons.mpr ⟨pz_fo58, List.forall_mem_cons.mpr ⟨pz_fo92, List.forall_mem_cons.mpr ⟨pz_fo108, List.forall_mem_cons.mpr ⟨pz_fo148, List.forall_mem_cons.mpr ⟨pz_fo109, List.forall_mem_cons.mpr ⟨pz_fo124, List.forall_mem_cons.mpr ⟨pz_fo136, List.forall_mem_nil _⟩⟩⟩⟩⟩⟩⟩⟩⟩⟩⟩⟩⟩⟩⟩⟩⟩⟩⟩⟩⟩⟩⟩⟩⟩⟩⟩⟩⟩⟩⟩⟩⟩⟩⟩⟩⟩⟩⟩⟩⟩⟩⟩⟩⟩⟩⟩⟩⟩⟩⟩⟩⟩⟩⟩⟩⟩⟩⟩⟩⟩⟩⟩⟩⟩⟩⟩⟩⟩⟩⟩⟩⟩⟩
noncomputable def pz_fok (b : UInt8) (r : List UInt8) (q : Instr × Nat) : Bool := match pz_ol.find? (fun q => Nat.beq q.1 b.toNat) with
  | some k => decide (pz_Kr k.2 r = some q)
  | none => false
theorem pz_fok_s {cc : ByteArray} {pc : Nat} {b : UInt8} {r : List UInt8} {q : Instr × Nat} (h : cc.data.toList.drop pc = b :: r) (hf : pz_fok b r q = true) : decode cc pc = .ok q := by
  unfold pz_fok at hf
  cases hq : pz_ol.find? (fun q => Nat.beq q.1 b.toNat) with
  | none => rw [hq] at hf; cases hf
  | some k =>
    rw [hq] at hf
    have hf : decide (pz_Kr k.2 r = some q) = true := hf
    have h1 := pz_olk k (List.mem_of_find?_eq_some hq)
    have h2 := List.find?_some hq
    have h2 := Nat.eq_of_beq_eq_true (n := k.1) (m := b.toNat) h2
    rw [h2] at h1
    exact pz_dcd h h1 (of_decide_eq_true hf)
noncomputable def pz_one (cc : ByteArray) (q : pz_E) (l : List UInt8) (pc : Nat) : Bool := match l with
  | [] => false
  | b :: r => Nat.beq q.1 pc && ((pz_fok b r (q.2.1, q.2.2.1) || decide (decode cc q.1 = .ok (q.2.1, q.2.2.1))) && (decide (q.2.2.2.1 = q.1 + q.2.2.1) && (pz_sl q.2.1 q.2.2.1 0 && (pz_tok q.1 q.2.1 q.2.2.2.2 && pz_imm q.2.1))))
theorem pz_one_s {cc : ByteArray} {q : pz_E} {l : List UInt8} {pc : Nat} (h : cc.data.toList.drop pc = l) (h1 : pz_one cc q l pc = true) : pz_wf cc q = true := by
  cases l with
  | nil => exact absurd (show false = true from h1) (by decide)
  | cons b r =>
    have h1 : (Nat.beq q.1 pc && ((pz_fok b r (q.2.1, q.2.2.1) || decide (decode cc q.1 = .ok (q.2.1, q.2.2.1))) && (decide (q.2.2.2.1 = q.1 + q.2.2.1) && (pz_sl q.2.1 q.2.2.1 0 && (pz_tok q.1 q.2.1 q.2.2.2.2 && pz_imm q.2.1))))) = true := h1
    rw [Bool.and_eq_true, Bool.and_eq_true] at h1
    obtain ⟨h2, h3, h4⟩ := h1
    have h2 := Nat.eq_of_beq_eq_true (n := q.1) (m := pc) h2
    have h5 : decode cc q.1 = .ok (q.2.1, q.2.2.1) := by
      rw [Bool.or_eq_true] at h3
      rcases h3 with h3 | h3
      · rw [h2]
        exact pz_fok_s h h3
      · exact of_decide_eq_true h3
    unfold pz_wf
    rw [Bool.and_eq_true]
    exact ⟨decide_eq_true h5, h4⟩
noncomputable def pz_scan (cc : ByteArray) : List pz_E → List UInt8 → Nat → Bool
  | [], _, _ => true
  | q :: t, l, pc => pz_one cc q l pc && pz_scan cc t (l.drop q.2.2.1) (pc + q.2.2.1)
theorem pz_scan_s {cc : ByteArray} : ∀ (t : List pz_E) (l : List UInt8) (pc : Nat), pz_scan cc t l pc = true → cc.data.toList.drop pc = l → ∀ q ∈ t, pz_wf cc q = true
  | [], _, _, _, _ => fun _ h => absurd h List.not_mem_nil
  | q :: t, l, pc, h, hl => by
    have h : (pz_one cc q l pc && pz_scan cc t (l.drop q.2.2.1) (pc + q.2.2.1)) = true := h
    rw [Bool.and_eq_true] at h
    refine List.forall_mem_cons.mpr ⟨pz_one_s hl h.1, pz_scan_s t _ _ h.2 ?_⟩
    rw [← hl, List.drop_drop]
theorem pz_scan_ok {cc : ByteArray} {t : List pz_E} (h : pz_scan cc t cc.data.toList 0 = true) : t.all (fun q => pz_wf cc q) = true :=
  List.all_eq_true.mpr (fun q hq => pz_scan_s t _ 0 h List.drop_zero q hq)
end
