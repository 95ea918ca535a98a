/-! the texts and statics at the start -/
def pz_tm (i : Nat) : Term := Term.string (pz_ss.getD i ("", 0, "")).1 (pz_ss.getD i ("", 0, "")).2.1
theorem pz_fqL {a b w : Jvm.Cond} (h : w ∈ flatC a) : w ∈ flatC (Jvm.Cond.and a b) := by
  show w ∈ flatC a ++ flatC b
  exact List.mem_append_left _ h
theorem pz_fqR {a b w : Jvm.Cond} (h : w ∈ flatC b) : w ∈ flatC (Jvm.Cond.and a b) := by
  show w ∈ flatC a ++ flatC b
  exact List.mem_append_right _ h
theorem pz_fqe {t : Term} {c : String} : Jvm.Cond.exactly t c ∈ flatC (Jvm.Cond.exactly t c) := by
  show _ ∈ [Jvm.Cond.exactly t c]
  exact List.mem_singleton.mpr rfl
theorem pz_fqq {t u : Term} : Jvm.Cond.eq t u ∈ flatC (Jvm.Cond.eq t u) := by
  show _ ∈ [Jvm.Cond.eq t u]
  exact List.mem_singleton.mpr rfl
theorem pz_fqn {c : Jvm.Cond} : Jvm.Cond.not c ∈ flatC (Jvm.Cond.not c) := by
  show _ ∈ [Jvm.Cond.not c]
  exact List.mem_singleton.mpr rfl
theorem pz_fqa {t : Term} {k : Jvm.ClassFile.FieldType} : Jvm.Cond.arrayOf t k ∈ flatC (Jvm.Cond.arrayOf t k) := by
  show _ ∈ [Jvm.Cond.arrayOf t k]
  exact List.mem_singleton.mpr rfl
noncomputable def pz_fb1 : Jvm.Cond := (Jvm.Cond.and (Jvm.Cond.and (Jvm.Cond.and (Jvm.Cond.and (Jvm.Cond.not (Jvm.Cond.castable "TwelveChain" "TwelveChain$Chain")) (Jvm.Cond.not (Jvm.Cond.castable "TwelveChain$Link" "TwelveChain$Chain"))) (Jvm.Cond.and (Jvm.Cond.not (Jvm.Cond.castable "TwelveChain$Texts" "TwelveChain$Chain")) (Jvm.Cond.and (Jvm.Cond.not (Jvm.Cond.castable "TwelveChain$Law" "TwelveChain$Chain")) (Jvm.Cond.not (Jvm.Cond.castable "TwelveChain$Rows" "TwelveChain$Chain"))))) (Jvm.Cond.and (Jvm.Cond.and (Jvm.Cond.not (Jvm.Cond.castable "TwelveChain$Deeds" "TwelveChain$Chain")) (Jvm.Cond.not (Jvm.Cond.castable "TwelveChain$Kept" "TwelveChain$Chain"))) (Jvm.Cond.and (Jvm.Cond.not (Jvm.Cond.castable "TwelveChain$Tape" "TwelveChain$Chain")) (Jvm.Cond.and (Jvm.Cond.not (Jvm.Cond.castable "TwelveChain$Teller" "TwelveChain$Chain")) (Jvm.Cond.not (Jvm.Cond.castable "TwelveChain$Likely" "TwelveChain$Chain")))))) (Jvm.Cond.and (Jvm.Cond.and (Jvm.Cond.and (Jvm.Cond.not (Jvm.Cond.castable "TwelveChain$Telephone" "TwelveChain$Chain")) (Jvm.Cond.not (Jvm.Cond.castable "TwelveChainModel" "TwelveChain$Chain"))) (Jvm.Cond.and (Jvm.Cond.not (Jvm.Cond.castable "java/lang/String" "TwelveChain$Chain")) (Jvm.Cond.and (Jvm.Cond.exactly (Jvm.Term.string "TwelveChain$Tape" (52 : Nat)) "java/lang/String") (Jvm.Cond.eq (Jvm.Term.field (Jvm.Term.string "TwelveChain$Tape" (52 : Nat)) "java/lang/String" "coder" "B") (Jvm.Term.int (0 : Int32)))))) (Jvm.Cond.and (Jvm.Cond.and (Jvm.Cond.arrayOf (Jvm.Term.field (Jvm.Term.string "TwelveChain$Tape" (52 : Nat)) "java/lang/String" "value" "[B") Jvm.ClassFile.FieldType.byte) (Jvm.Cond.eq (Jvm.Term.length (Jvm.Term.field (Jvm.Term.string "TwelveChain$Tape" (52 : Nat)) "java/lang/String" "value" "[B")) (Jvm.Term.int (122 : Int32)))) (Jvm.Cond.and (Jvm.Cond.eq (Jvm.Term.elem (Jvm.Term.field (Jvm.Term.string "TwelveChain$Tape" (52 : Nat)) "java/lang/String" "value" "[B") (Jvm.Term.int (0 : Int32))) (Jvm.Term.int (114 : Int32))) (Jvm.Cond.and (Jvm.Cond.eq (Jvm.Term.elem (Jvm.Term.field (Jvm.Term.string "TwelveChain$Tape" (52 : Nat)) "java/lang/String" "value" "[B") (Jvm.Term.int (1 : Int32))) (Jvm.Term.int (101 : Int32))) (Jvm.Cond.eq (Jvm.Term.elem (Jvm.Term.field (Jvm.Term.string "TwelveChain$Tape" (52 : Nat)) "java/lang/String" "value" "[B") (Jvm.Term.int (2 : Int32))) (Jvm.Term.int (97 : Int32))))))))
theorem pz_fi1 : ∀ w, w ∈ flatC pz_fb1 → w ∈ flatC (Jvm.Cond.and given_1 narrow_1) := fun w h => (pz_fqR (pz_fqL (pz_fqL (pz_fqL (pz_fqL (pz_fqR h))))))
noncomputable def pz_fb2 : Jvm.Cond := (Jvm.Cond.and (Jvm.Cond.and (Jvm.Cond.and (Jvm.Cond.and (Jvm.Cond.eq (Jvm.Term.elem (Jvm.Term.field (Jvm.Term.string "TwelveChain$Tape" (52 : Nat)) "java/lang/String" "value" "[B") (Jvm.Term.int (3 : Int32))) (Jvm.Term.int (100 : Int32))) (Jvm.Cond.eq (Jvm.Term.elem (Jvm.Term.field (Jvm.Term.string "TwelveChain$Tape" (52 : Nat)) "java/lang/String" "value" "[B") (Jvm.Term.int (4 : Int32))) (Jvm.Term.int (121 : Int32)))) (Jvm.Cond.and (Jvm.Cond.eq (Jvm.Term.elem (Jvm.Term.field (Jvm.Term.string "TwelveChain$Tape" (52 : Nat)) "java/lang/String" "value" "[B") (Jvm.Term.int (5 : Int32))) (Jvm.Term.int (32 : Int32))) (Jvm.Cond.and (Jvm.Cond.eq (Jvm.Term.elem (Jvm.Term.field (Jvm.Term.string "TwelveChain$Tape" (52 : Nat)) "java/lang/String" "value" "[B") (Jvm.Term.int (6 : Int32))) (Jvm.Term.int (108 : Int32))) (Jvm.Cond.eq (Jvm.Term.elem (Jvm.Term.field (Jvm.Term.string "TwelveChain$Tape" (52 : Nat)) "java/lang/String" "value" "[B") (Jvm.Term.int (7 : Int32))) (Jvm.Term.int (101 : Int32)))))) (Jvm.Cond.and (Jvm.Cond.and (Jvm.Cond.eq (Jvm.Term.elem (Jvm.Term.field (Jvm.Term.string "TwelveChain$Tape" (52 : Nat)) "java/lang/String" "value" "[B") (Jvm.Term.int (8 : Int32))) (Jvm.Term.int (97 : Int32))) (Jvm.Cond.eq (Jvm.Term.elem (Jvm.Term.field (Jvm.Term.string "TwelveChain$Tape" (52 : Nat)) "java/lang/String" "value" "[B") (Jvm.Term.int (9 : Int32))) (Jvm.Term.int (118 : Int32)))) (Jvm.Cond.and (Jvm.Cond.eq (Jvm.Term.elem (Jvm.Term.field (Jvm.Term.string "TwelveChain$Tape" (52 : Nat)) "java/lang/String" "value" "[B") (Jvm.Term.int (10 : Int32))) (Jvm.Term.int (101 : Int32))) (Jvm.Cond.and (Jvm.Cond.eq (Jvm.Term.elem (Jvm.Term.field (Jvm.Term.string "TwelveChain$Tape" (52 : Nat)) "java/lang/String" "value" "[B") (Jvm.Term.int (11 : Int32))) (Jvm.Term.int (32 : Int32))) (Jvm.Cond.eq (Jvm.Term.elem (Jvm.Term.field (Jvm.Term.string "TwelveChain$Tape" (52 : Nat)) "java/lang/String" "value" "[B") (Jvm.Term.int (12 : Int32))) (Jvm.Term.int (103 : Int32))))))) (Jvm.Cond.and (Jvm.Cond.and (Jvm.Cond.and (Jvm.Cond.eq (Jvm.Term.elem (Jvm.Term.field (Jvm.Term.string "TwelveChain$Tape" (52 : Nat)) "java/lang/String" "value" "[B") (Jvm.Term.int (13 : Int32))) (Jvm.Term.int (105 : Int32))) (Jvm.Cond.eq (Jvm.Term.elem (Jvm.Term.field (Jvm.Term.string "TwelveChain$Tape" (52 : Nat)) "java/lang/String" "value" "[B") (Jvm.Term.int (14 : Int32))) (Jvm.Term.int (118 : Int32)))) (Jvm.Cond.and (Jvm.Cond.eq (Jvm.Term.elem (Jvm.Term.field (Jvm.Term.string "TwelveChain$Tape" (52 : Nat)) "java/lang/String" "value" "[B") (Jvm.Term.int (15 : Int32))) (Jvm.Term.int (101 : Int32))) (Jvm.Cond.and (Jvm.Cond.eq (Jvm.Term.elem (Jvm.Term.field (Jvm.Term.string "TwelveChain$Tape" (52 : Nat)) "java/lang/String" "value" "[B") (Jvm.Term.int (16 : Int32))) (Jvm.Term.int (32 : Int32))) (Jvm.Cond.eq (Jvm.Term.elem (Jvm.Term.field (Jvm.Term.string "TwelveChain$Tape" (52 : Nat)) "java/lang/String" "value" "[B") (Jvm.Term.int (17 : Int32))) (Jvm.Term.int (99 : Int32)))))) (Jvm.Cond.and (Jvm.Cond.and (Jvm.Cond.eq (Jvm.Term.elem (Jvm.Term.field (Jvm.Term.string "TwelveChain$Tape" (52 : Nat)) "java/lang/String" "value" "[B") (Jvm.Term.int (18 : Int32))) (Jvm.Term.int (111 : Int32))) (Jvm.Cond.eq (Jvm.Term.elem (Jvm.Term.field (Jvm.Term.string "TwelveChain$Tape" (52 : Nat)) "java/lang/String" "value" "[B") (Jvm.Term.int (19 : Int32))) (Jvm.Term.int (115 : Int32)))) (Jvm.Cond.and (Jvm.Cond.eq (Jvm.Term.elem (Jvm.Term.field (Jvm.Term.string "TwelveChain$Tape" (52 : Nat)) "java/lang/String" "value" "[B") (Jvm.Term.int (20 : Int32))) (Jvm.Term.int (116 : Int32))) (Jvm.Cond.and (Jvm.Cond.eq (Jvm.Term.elem (Jvm.Term.field (Jvm.Term.string "TwelveChain$Tape" (52 : Nat)) "java/lang/String" "value" "[B") (Jvm.Term.int (21 : Int32))) (Jvm.Term.int (32 : Int32))) (Jvm.Cond.eq (Jvm.Term.elem (Jvm.Term.field (Jvm.Term.string "TwelveChain$Tape" (52 : Nat)) "java/lang/String" "value" "[B") (Jvm.Term.int (22 : Int32))) (Jvm.Term.int (119 : Int32))))))))
theorem pz_fi2 : ∀ w, w ∈ flatC pz_fb2 → w ∈ flatC (Jvm.Cond.and given_1 narrow_1) := fun w h => (pz_fqR (pz_fqL (pz_fqL (pz_fqL (pz_fqR (pz_fqL h))))))
noncomputable def pz_fb3 : Jvm.Cond := (Jvm.Cond.and (Jvm.Cond.and (Jvm.Cond.and (Jvm.Cond.and (Jvm.Cond.eq (Jvm.Term.elem (Jvm.Term.field (Jvm.Term.string "TwelveChain$Tape" (52 : Nat)) "java/lang/String" "value" "[B") (Jvm.Term.int (23 : Int32))) (Jvm.Term.int (104 : Int32))) (Jvm.Cond.eq (Jvm.Term.elem (Jvm.Term.field (Jvm.Term.string "TwelveChain$Tape" (52 : Nat)) "java/lang/String" "value" "[B") (Jvm.Term.int (24 : Int32))) (Jvm.Term.int (101 : Int32)))) (Jvm.Cond.and (Jvm.Cond.eq (Jvm.Term.elem (Jvm.Term.field (Jvm.Term.string "TwelveChain$Tape" (52 : Nat)) "java/lang/String" "value" "[B") (Jvm.Term.int (25 : Int32))) (Jvm.Term.int (110 : Int32))) (Jvm.Cond.and (Jvm.Cond.eq (Jvm.Term.elem (Jvm.Term.field (Jvm.Term.string "TwelveChain$Tape" (52 : Nat)) "java/lang/String" "value" "[B") (Jvm.Term.int (26 : Int32))) (Jvm.Term.int (32 : Int32))) (Jvm.Cond.eq (Jvm.Term.elem (Jvm.Term.field (Jvm.Term.string "TwelveChain$Tape" (52 : Nat)) "java/lang/String" "value" "[B") (Jvm.Term.int (27 : Int32))) (Jvm.Term.int (111 : Int32)))))) (Jvm.Cond.and (Jvm.Cond.and (Jvm.Cond.eq (Jvm.Term.elem (Jvm.Term.field (Jvm.Term.string "TwelveChain$Tape" (52 : Nat)) "java/lang/String" "value" "[B") (Jvm.Term.int (28 : Int32))) (Jvm.Term.int (114 : Int32))) (Jvm.Cond.eq (Jvm.Term.elem (Jvm.Term.field (Jvm.Term.string "TwelveChain$Tape" (52 : Nat)) "java/lang/String" "value" "[B") (Jvm.Term.int (29 : Int32))) (Jvm.Term.int (32 : Int32)))) (Jvm.Cond.and (Jvm.Cond.eq (Jvm.Term.elem (Jvm.Term.field (Jvm.Term.string "TwelveChain$Tape" (52 : Nat)) "java/lang/String" "value" "[B") (Jvm.Term.int (30 : Int32))) (Jvm.Term.int (97 : Int32))) (Jvm.Cond.and (Jvm.Cond.eq (Jvm.Term.elem (Jvm.Term.field (Jvm.Term.string "TwelveChain$Tape" (52 : Nat)) "java/lang/String" "value" "[B") (Jvm.Term.int (31 : Int32))) (Jvm.Term.int (110 : Int32))) (Jvm.Cond.eq (Jvm.Term.elem (Jvm.Term.field (Jvm.Term.string "TwelveChain$Tape" (52 : Nat)) "java/lang/String" "value" "[B") (Jvm.Term.int (32 : Int32))) (Jvm.Term.int (100 : Int32))))))) (Jvm.Cond.and (Jvm.Cond.and (Jvm.Cond.and (Jvm.Cond.eq (Jvm.Term.elem (Jvm.Term.field (Jvm.Term.string "TwelveChain$Tape" (52 : Nat)) "java/lang/String" "value" "[B") (Jvm.Term.int (33 : Int32))) (Jvm.Term.int (32 : Int32))) (Jvm.Cond.eq (Jvm.Term.elem (Jvm.Term.field (Jvm.Term.string "TwelveChain$Tape" (52 : Nat)) "java/lang/String" "value" "[B") (Jvm.Term.int (34 : Int32))) (Jvm.Term.int (110 : Int32)))) (Jvm.Cond.and (Jvm.Cond.eq (Jvm.Term.elem (Jvm.Term.field (Jvm.Term.string "TwelveChain$Tape" (52 : Nat)) "java/lang/String" "value" "[B") (Jvm.Term.int (35 : Int32))) (Jvm.Term.int (111 : Int32))) (Jvm.Cond.and (Jvm.Cond.eq (Jvm.Term.elem (Jvm.Term.field (Jvm.Term.string "TwelveChain$Tape" (52 : Nat)) "java/lang/String" "value" "[B") (Jvm.Term.int (36 : Int32))) (Jvm.Term.int (116 : Int32))) (Jvm.Cond.eq (Jvm.Term.elem (Jvm.Term.field (Jvm.Term.string "TwelveChain$Tape" (52 : Nat)) "java/lang/String" "value" "[B") (Jvm.Term.int (37 : Int32))) (Jvm.Term.int (32 : Int32)))))) (Jvm.Cond.and (Jvm.Cond.and (Jvm.Cond.eq (Jvm.Term.elem (Jvm.Term.field (Jvm.Term.string "TwelveChain$Tape" (52 : Nat)) "java/lang/String" "value" "[B") (Jvm.Term.int (38 : Int32))) (Jvm.Term.int (108 : Int32))) (Jvm.Cond.and (Jvm.Cond.eq (Jvm.Term.elem (Jvm.Term.field (Jvm.Term.string "TwelveChain$Tape" (52 : Nat)) "java/lang/String" "value" "[B") (Jvm.Term.int (39 : Int32))) (Jvm.Term.int (105 : Int32))) (Jvm.Cond.eq (Jvm.Term.elem (Jvm.Term.field (Jvm.Term.string "TwelveChain$Tape" (52 : Nat)) "java/lang/String" "value" "[B") (Jvm.Term.int (40 : Int32))) (Jvm.Term.int (110 : Int32))))) (Jvm.Cond.and (Jvm.Cond.eq (Jvm.Term.elem (Jvm.Term.field (Jvm.Term.string "TwelveChain$Tape" (52 : Nat)) "java/lang/String" "value" "[B") (Jvm.Term.int (41 : Int32))) (Jvm.Term.int (107 : Int32))) (Jvm.Cond.and (Jvm.Cond.eq (Jvm.Term.elem (Jvm.Term.field (Jvm.Term.string "TwelveChain$Tape" (52 : Nat)) "java/lang/String" "value" "[B") (Jvm.Term.int (42 : Int32))) (Jvm.Term.int (32 : Int32))) (Jvm.Cond.eq (Jvm.Term.elem (Jvm.Term.field (Jvm.Term.string "TwelveChain$Tape" (52 : Nat)) "java/lang/String" "value" "[B") (Jvm.Term.int (43 : Int32))) (Jvm.Term.int (112 : Int32))))))))
theorem pz_fi3 : ∀ w, w ∈ flatC pz_fb3 → w ∈ flatC (Jvm.Cond.and given_1 narrow_1) := fun w h => (pz_fqR (pz_fqL (pz_fqL (pz_fqL (pz_fqR (pz_fqR h))))))
noncomputable def pz_fb4 : Jvm.Cond := (Jvm.Cond.and (Jvm.Cond.and (Jvm.Cond.and (Jvm.Cond.and (Jvm.Cond.eq (Jvm.Term.elem (Jvm.Term.field (Jvm.Term.string "TwelveChain$Tape" (52 : Nat)) "java/lang/String" "value" "[B") (Jvm.Term.int (44 : Int32))) (Jvm.Term.int (114 : Int32))) (Jvm.Cond.eq (Jvm.Term.elem (Jvm.Term.field (Jvm.Term.string "TwelveChain$Tape" (52 : Nat)) "java/lang/String" "value" "[B") (Jvm.Term.int (45 : Int32))) (Jvm.Term.int (105 : Int32)))) (Jvm.Cond.and (Jvm.Cond.eq (Jvm.Term.elem (Jvm.Term.field (Jvm.Term.string "TwelveChain$Tape" (52 : Nat)) "java/lang/String" "value" "[B") (Jvm.Term.int (46 : Int32))) (Jvm.Term.int (99 : Int32))) (Jvm.Cond.and (Jvm.Cond.eq (Jvm.Term.elem (Jvm.Term.field (Jvm.Term.string "TwelveChain$Tape" (52 : Nat)) "java/lang/String" "value" "[B") (Jvm.Term.int (47 : Int32))) (Jvm.Term.int (101 : Int32))) (Jvm.Cond.eq (Jvm.Term.elem (Jvm.Term.field (Jvm.Term.string "TwelveChain$Tape" (52 : Nat)) "java/lang/String" "value" "[B") (Jvm.Term.int (48 : Int32))) (Jvm.Term.int (32 : Int32)))))) (Jvm.Cond.and (Jvm.Cond.and (Jvm.Cond.eq (Jvm.Term.elem (Jvm.Term.field (Jvm.Term.string "TwelveChain$Tape" (52 : Nat)) "java/lang/String" "value" "[B") (Jvm.Term.int (49 : Int32))) (Jvm.Term.int (112 : Int32))) (Jvm.Cond.eq (Jvm.Term.elem (Jvm.Term.field (Jvm.Term.string "TwelveChain$Tape" (52 : Nat)) "java/lang/String" "value" "[B") (Jvm.Term.int (50 : Int32))) (Jvm.Term.int (117 : Int32)))) (Jvm.Cond.and (Jvm.Cond.eq (Jvm.Term.elem (Jvm.Term.field (Jvm.Term.string "TwelveChain$Tape" (52 : Nat)) "java/lang/String" "value" "[B") (Jvm.Term.int (51 : Int32))) (Jvm.Term.int (114 : Int32))) (Jvm.Cond.and (Jvm.Cond.eq (Jvm.Term.elem (Jvm.Term.field (Jvm.Term.string "TwelveChain$Tape" (52 : Nat)) "java/lang/String" "value" "[B") (Jvm.Term.int (52 : Int32))) (Jvm.Term.int (115 : Int32))) (Jvm.Cond.eq (Jvm.Term.elem (Jvm.Term.field (Jvm.Term.string "TwelveChain$Tape" (52 : Nat)) "java/lang/String" "value" "[B") (Jvm.Term.int (53 : Int32))) (Jvm.Term.int (101 : Int32))))))) (Jvm.Cond.and (Jvm.Cond.and (Jvm.Cond.and (Jvm.Cond.eq (Jvm.Term.elem (Jvm.Term.field (Jvm.Term.string "TwelveChain$Tape" (52 : Nat)) "java/lang/String" "value" "[B") (Jvm.Term.int (54 : Int32))) (Jvm.Term.int (32 : Int32))) (Jvm.Cond.eq (Jvm.Term.elem (Jvm.Term.field (Jvm.Term.string "TwelveChain$Tape" (52 : Nat)) "java/lang/String" "value" "[B") (Jvm.Term.int (55 : Int32))) (Jvm.Term.int (119 : Int32)))) (Jvm.Cond.and (Jvm.Cond.eq (Jvm.Term.elem (Jvm.Term.field (Jvm.Term.string "TwelveChain$Tape" (52 : Nat)) "java/lang/String" "value" "[B") (Jvm.Term.int (56 : Int32))) (Jvm.Term.int (111 : Int32))) (Jvm.Cond.and (Jvm.Cond.eq (Jvm.Term.elem (Jvm.Term.field (Jvm.Term.string "TwelveChain$Tape" (52 : Nat)) "java/lang/String" "value" "[B") (Jvm.Term.int (57 : Int32))) (Jvm.Term.int (114 : Int32))) (Jvm.Cond.eq (Jvm.Term.elem (Jvm.Term.field (Jvm.Term.string "TwelveChain$Tape" (52 : Nat)) "java/lang/String" "value" "[B") (Jvm.Term.int (58 : Int32))) (Jvm.Term.int (116 : Int32)))))) (Jvm.Cond.and (Jvm.Cond.and (Jvm.Cond.eq (Jvm.Term.elem (Jvm.Term.field (Jvm.Term.string "TwelveChain$Tape" (52 : Nat)) "java/lang/String" "value" "[B") (Jvm.Term.int (59 : Int32))) (Jvm.Term.int (104 : Int32))) (Jvm.Cond.eq (Jvm.Term.elem (Jvm.Term.field (Jvm.Term.string "TwelveChain$Tape" (52 : Nat)) "java/lang/String" "value" "[B") (Jvm.Term.int (60 : Int32))) (Jvm.Term.int (32 : Int32)))) (Jvm.Cond.and (Jvm.Cond.eq (Jvm.Term.elem (Jvm.Term.field (Jvm.Term.string "TwelveChain$Tape" (52 : Nat)) "java/lang/String" "value" "[B") (Jvm.Term.int (61 : Int32))) (Jvm.Term.int (115 : Int32))) (Jvm.Cond.and (Jvm.Cond.eq (Jvm.Term.elem (Jvm.Term.field (Jvm.Term.string "TwelveChain$Tape" (52 : Nat)) "java/lang/String" "value" "[B") (Jvm.Term.int (62 : Int32))) (Jvm.Term.int (108 : Int32))) (Jvm.Cond.eq (Jvm.Term.elem (Jvm.Term.field (Jvm.Term.string "TwelveChain$Tape" (52 : Nat)) "java/lang/String" "value" "[B") (Jvm.Term.int (63 : Int32))) (Jvm.Term.int (111 : Int32))))))))
theorem pz_fi4 : ∀ w, w ∈ flatC pz_fb4 → w ∈ flatC (Jvm.Cond.and given_1 narrow_1) := fun w h => (pz_fqR (pz_fqL (pz_fqL (pz_fqR (pz_fqL (pz_fqL h))))))
noncomputable def pz_fb5 : Jvm.Cond := (Jvm.Cond.and (Jvm.Cond.and (Jvm.Cond.and (Jvm.Cond.and (Jvm.Cond.eq (Jvm.Term.elem (Jvm.Term.field (Jvm.Term.string "TwelveChain$Tape" (52 : Nat)) "java/lang/String" "value" "[B") (Jvm.Term.int (64 : Int32))) (Jvm.Term.int (119 : Int32))) (Jvm.Cond.eq (Jvm.Term.elem (Jvm.Term.field (Jvm.Term.string "TwelveChain$Tape" (52 : Nat)) "java/lang/String" "value" "[B") (Jvm.Term.int (65 : Int32))) (Jvm.Term.int (32 : Int32)))) (Jvm.Cond.and (Jvm.Cond.eq (Jvm.Term.elem (Jvm.Term.field (Jvm.Term.string "TwelveChain$Tape" (52 : Nat)) "java/lang/String" "value" "[B") (Jvm.Term.int (66 : Int32))) (Jvm.Term.int (100 : Int32))) (Jvm.Cond.and (Jvm.Cond.eq (Jvm.Term.elem (Jvm.Term.field (Jvm.Term.string "TwelveChain$Tape" (52 : Nat)) "java/lang/String" "value" "[B") (Jvm.Term.int (67 : Int32))) (Jvm.Term.int (97 : Int32))) (Jvm.Cond.eq (Jvm.Term.elem (Jvm.Term.field (Jvm.Term.string "TwelveChain$Tape" (52 : Nat)) "java/lang/String" "value" "[B") (Jvm.Term.int (68 : Int32))) (Jvm.Term.int (121 : Int32)))))) (Jvm.Cond.and (Jvm.Cond.and (Jvm.Cond.eq (Jvm.Term.elem (Jvm.Term.field (Jvm.Term.string "TwelveChain$Tape" (52 : Nat)) "java/lang/String" "value" "[B") (Jvm.Term.int (69 : Int32))) (Jvm.Term.int (32 : Int32))) (Jvm.Cond.eq (Jvm.Term.elem (Jvm.Term.field (Jvm.Term.string "TwelveChain$Tape" (52 : Nat)) "java/lang/String" "value" "[B") (Jvm.Term.int (70 : Int32))) (Jvm.Term.int (108 : Int32)))) (Jvm.Cond.and (Jvm.Cond.eq (Jvm.Term.elem (Jvm.Term.field (Jvm.Term.string "TwelveChain$Tape" (52 : Nat)) "java/lang/String" "value" "[B") (Jvm.Term.int (71 : Int32))) (Jvm.Term.int (105 : Int32))) (Jvm.Cond.and (Jvm.Cond.eq (Jvm.Term.elem (Jvm.Term.field (Jvm.Term.string "TwelveChain$Tape" (52 : Nat)) "java/lang/String" "value" "[B") (Jvm.Term.int (72 : Int32))) (Jvm.Term.int (110 : Int32))) (Jvm.Cond.eq (Jvm.Term.elem (Jvm.Term.field (Jvm.Term.string "TwelveChain$Tape" (52 : Nat)) "java/lang/String" "value" "[B") (Jvm.Term.int (73 : Int32))) (Jvm.Term.int (107 : Int32))))))) (Jvm.Cond.and (Jvm.Cond.and (Jvm.Cond.and (Jvm.Cond.eq (Jvm.Term.elem (Jvm.Term.field (Jvm.Term.string "TwelveChain$Tape" (52 : Nat)) "java/lang/String" "value" "[B") (Jvm.Term.int (74 : Int32))) (Jvm.Term.int (115 : Int32))) (Jvm.Cond.eq (Jvm.Term.elem (Jvm.Term.field (Jvm.Term.string "TwelveChain$Tape" (52 : Nat)) "java/lang/String" "value" "[B") (Jvm.Term.int (75 : Int32))) (Jvm.Term.int (32 : Int32)))) (Jvm.Cond.and (Jvm.Cond.eq (Jvm.Term.elem (Jvm.Term.field (Jvm.Term.string "TwelveChain$Tape" (52 : Nat)) "java/lang/String" "value" "[B") (Jvm.Term.int (76 : Int32))) (Jvm.Term.int (98 : Int32))) (Jvm.Cond.and (Jvm.Cond.eq (Jvm.Term.elem (Jvm.Term.field (Jvm.Term.string "TwelveChain$Tape" (52 : Nat)) "java/lang/String" "value" "[B") (Jvm.Term.int (77 : Int32))) (Jvm.Term.int (114 : Int32))) (Jvm.Cond.eq (Jvm.Term.elem (Jvm.Term.field (Jvm.Term.string "TwelveChain$Tape" (52 : Nat)) "java/lang/String" "value" "[B") (Jvm.Term.int (78 : Int32))) (Jvm.Term.int (105 : Int32)))))) (Jvm.Cond.and (Jvm.Cond.and (Jvm.Cond.eq (Jvm.Term.elem (Jvm.Term.field (Jvm.Term.string "TwelveChain$Tape" (52 : Nat)) "java/lang/String" "value" "[B") (Jvm.Term.int (79 : Int32))) (Jvm.Term.int (100 : Int32))) (Jvm.Cond.and (Jvm.Cond.eq (Jvm.Term.elem (Jvm.Term.field (Jvm.Term.string "TwelveChain$Tape" (52 : Nat)) "java/lang/String" "value" "[B") (Jvm.Term.int (80 : Int32))) (Jvm.Term.int (103 : Int32))) (Jvm.Cond.eq (Jvm.Term.elem (Jvm.Term.field (Jvm.Term.string "TwelveChain$Tape" (52 : Nat)) "java/lang/String" "value" "[B") (Jvm.Term.int (81 : Int32))) (Jvm.Term.int (101 : Int32))))) (Jvm.Cond.and (Jvm.Cond.eq (Jvm.Term.elem (Jvm.Term.field (Jvm.Term.string "TwelveChain$Tape" (52 : Nat)) "java/lang/String" "value" "[B") (Jvm.Term.int (82 : Int32))) (Jvm.Term.int (100 : Int32))) (Jvm.Cond.and (Jvm.Cond.eq (Jvm.Term.elem (Jvm.Term.field (Jvm.Term.string "TwelveChain$Tape" (52 : Nat)) "java/lang/String" "value" "[B") (Jvm.Term.int (83 : Int32))) (Jvm.Term.int (32 : Int32))) (Jvm.Cond.eq (Jvm.Term.elem (Jvm.Term.field (Jvm.Term.string "TwelveChain$Tape" (52 : Nat)) "java/lang/String" "value" "[B") (Jvm.Term.int (84 : Int32))) (Jvm.Term.int (108 : Int32))))))))
theorem pz_fi5 : ∀ w, w ∈ flatC pz_fb5 → w ∈ flatC (Jvm.Cond.and given_1 narrow_1) := fun w h => (pz_fqR (pz_fqL (pz_fqL (pz_fqR (pz_fqL (pz_fqR h))))))
noncomputable def pz_fb6 : Jvm.Cond := (Jvm.Cond.and (Jvm.Cond.and (Jvm.Cond.and (Jvm.Cond.and (Jvm.Cond.eq (Jvm.Term.elem (Jvm.Term.field (Jvm.Term.string "TwelveChain$Tape" (52 : Nat)) "java/lang/String" "value" "[B") (Jvm.Term.int (85 : Int32))) (Jvm.Term.int (97 : Int32))) (Jvm.Cond.eq (Jvm.Term.elem (Jvm.Term.field (Jvm.Term.string "TwelveChain$Tape" (52 : Nat)) "java/lang/String" "value" "[B") (Jvm.Term.int (86 : Int32))) (Jvm.Term.int (99 : Int32)))) (Jvm.Cond.and (Jvm.Cond.eq (Jvm.Term.elem (Jvm.Term.field (Jvm.Term.string "TwelveChain$Tape" (52 : Nat)) "java/lang/String" "value" "[B") (Jvm.Term.int (87 : Int32))) (Jvm.Term.int (107 : Int32))) (Jvm.Cond.and (Jvm.Cond.eq (Jvm.Term.elem (Jvm.Term.field (Jvm.Term.string "TwelveChain$Tape" (52 : Nat)) "java/lang/String" "value" "[B") (Jvm.Term.int (88 : Int32))) (Jvm.Term.int (115 : Int32))) (Jvm.Cond.eq (Jvm.Term.elem (Jvm.Term.field (Jvm.Term.string "TwelveChain$Tape" (52 : Nat)) "java/lang/String" "value" "[B") (Jvm.Term.int (89 : Int32))) (Jvm.Term.int (32 : Int32)))))) (Jvm.Cond.and (Jvm.Cond.and (Jvm.Cond.eq (Jvm.Term.elem (Jvm.Term.field (Jvm.Term.string "TwelveChain$Tape" (52 : Nat)) "java/lang/String" "value" "[B") (Jvm.Term.int (90 : Int32))) (Jvm.Term.int (111 : Int32))) (Jvm.Cond.eq (Jvm.Term.elem (Jvm.Term.field (Jvm.Term.string "TwelveChain$Tape" (52 : Nat)) "java/lang/String" "value" "[B") (Jvm.Term.int (91 : Int32))) (Jvm.Term.int (110 : Int32)))) (Jvm.Cond.and (Jvm.Cond.eq (Jvm.Term.elem (Jvm.Term.field (Jvm.Term.string "TwelveChain$Tape" (52 : Nat)) "java/lang/String" "value" "[B") (Jvm.Term.int (92 : Int32))) (Jvm.Term.int (32 : Int32))) (Jvm.Cond.and (Jvm.Cond.eq (Jvm.Term.elem (Jvm.Term.field (Jvm.Term.string "TwelveChain$Tape" (52 : Nat)) "java/lang/String" "value" "[B") (Jvm.Term.int (93 : Int32))) (Jvm.Term.int (97 : Int32))) (Jvm.Cond.eq (Jvm.Term.elem (Jvm.Term.field (Jvm.Term.string "TwelveChain$Tape" (52 : Nat)) "java/lang/String" "value" "[B") (Jvm.Term.int (94 : Int32))) (Jvm.Term.int (115 : Int32))))))) (Jvm.Cond.and (Jvm.Cond.and (Jvm.Cond.and (Jvm.Cond.eq (Jvm.Term.elem (Jvm.Term.field (Jvm.Term.string "TwelveChain$Tape" (52 : Nat)) "java/lang/String" "value" "[B") (Jvm.Term.int (95 : Int32))) (Jvm.Term.int (107 : Int32))) (Jvm.Cond.eq (Jvm.Term.elem (Jvm.Term.field (Jvm.Term.string "TwelveChain$Tape" (52 : Nat)) "java/lang/String" "value" "[B") (Jvm.Term.int (96 : Int32))) (Jvm.Term.int (32 : Int32)))) (Jvm.Cond.and (Jvm.Cond.eq (Jvm.Term.elem (Jvm.Term.field (Jvm.Term.string "TwelveChain$Tape" (52 : Nat)) "java/lang/String" "value" "[B") (Jvm.Term.int (97 : Int32))) (Jvm.Term.int (98 : Int32))) (Jvm.Cond.and (Jvm.Cond.eq (Jvm.Term.elem (Jvm.Term.field (Jvm.Term.string "TwelveChain$Tape" (52 : Nat)) "java/lang/String" "value" "[B") (Jvm.Term.int (98 : Int32))) (Jvm.Term.int (114 : Int32))) (Jvm.Cond.eq (Jvm.Term.elem (Jvm.Term.field (Jvm.Term.string "TwelveChain$Tape" (52 : Nat)) "java/lang/String" "value" "[B") (Jvm.Term.int (99 : Int32))) (Jvm.Term.int (105 : Int32)))))) (Jvm.Cond.and (Jvm.Cond.and (Jvm.Cond.eq (Jvm.Term.elem (Jvm.Term.field (Jvm.Term.string "TwelveChain$Tape" (52 : Nat)) "java/lang/String" "value" "[B") (Jvm.Term.int (100 : Int32))) (Jvm.Term.int (100 : Int32))) (Jvm.Cond.eq (Jvm.Term.elem (Jvm.Term.field (Jvm.Term.string "TwelveChain$Tape" (52 : Nat)) "java/lang/String" "value" "[B") (Jvm.Term.int (101 : Int32))) (Jvm.Term.int (103 : Int32)))) (Jvm.Cond.and (Jvm.Cond.eq (Jvm.Term.elem (Jvm.Term.field (Jvm.Term.string "TwelveChain$Tape" (52 : Nat)) "java/lang/String" "value" "[B") (Jvm.Term.int (102 : Int32))) (Jvm.Term.int (101 : Int32))) (Jvm.Cond.and (Jvm.Cond.eq (Jvm.Term.elem (Jvm.Term.field (Jvm.Term.string "TwelveChain$Tape" (52 : Nat)) "java/lang/String" "value" "[B") (Jvm.Term.int (103 : Int32))) (Jvm.Term.int (32 : Int32))) (Jvm.Cond.eq (Jvm.Term.elem (Jvm.Term.field (Jvm.Term.string "TwelveChain$Tape" (52 : Nat)) "java/lang/String" "value" "[B") (Jvm.Term.int (104 : Int32))) (Jvm.Term.int (112 : Int32))))))))
theorem pz_fi6 : ∀ w, w ∈ flatC pz_fb6 → w ∈ flatC (Jvm.Cond.and given_1 narrow_1) := fun w h => (pz_fqR (pz_fqL (pz_fqL (pz_fqR (pz_fqR (pz_fqL h))))))
noncomputable def pz_fb7 : Jvm.Cond := (Jvm.Cond.and (Jvm.Cond.and (Jvm.Cond.and (Jvm.Cond.and (Jvm.Cond.eq (Jvm.Term.elem (Jvm.Term.field (Jvm.Term.string "TwelveChain$Tape" (52 : Nat)) "java/lang/String" "value" "[B") (Jvm.Term.int (105 : Int32))) (Jvm.Term.int (97 : Int32))) (Jvm.Cond.eq (Jvm.Term.elem (Jvm.Term.field (Jvm.Term.string "TwelveChain$Tape" (52 : Nat)) "java/lang/String" "value" "[B") (Jvm.Term.int (106 : Int32))) (Jvm.Term.int (121 : Int32)))) (Jvm.Cond.and (Jvm.Cond.eq (Jvm.Term.elem (Jvm.Term.field (Jvm.Term.string "TwelveChain$Tape" (52 : Nat)) "java/lang/String" "value" "[B") (Jvm.Term.int (107 : Int32))) (Jvm.Term.int (32 : Int32))) (Jvm.Cond.and (Jvm.Cond.eq (Jvm.Term.elem (Jvm.Term.field (Jvm.Term.string "TwelveChain$Tape" (52 : Nat)) "java/lang/String" "value" "[B") (Jvm.Term.int (108 : Int32))) (Jvm.Term.int (112 : Int32))) (Jvm.Cond.eq (Jvm.Term.elem (Jvm.Term.field (Jvm.Term.string "TwelveChain$Tape" (52 : Nat)) "java/lang/String" "value" "[B") (Jvm.Term.int (109 : Int32))) (Jvm.Term.int (97 : Int32)))))) (Jvm.Cond.and (Jvm.Cond.and (Jvm.Cond.eq (Jvm.Term.elem (Jvm.Term.field (Jvm.Term.string "TwelveChain$Tape" (52 : Nat)) "java/lang/String" "value" "[B") (Jvm.Term.int (110 : Int32))) (Jvm.Term.int (112 : Int32))) (Jvm.Cond.eq (Jvm.Term.elem (Jvm.Term.field (Jvm.Term.string "TwelveChain$Tape" (52 : Nat)) "java/lang/String" "value" "[B") (Jvm.Term.int (111 : Int32))) (Jvm.Term.int (101 : Int32)))) (Jvm.Cond.and (Jvm.Cond.eq (Jvm.Term.elem (Jvm.Term.field (Jvm.Term.string "TwelveChain$Tape" (52 : Nat)) "java/lang/String" "value" "[B") (Jvm.Term.int (112 : Int32))) (Jvm.Term.int (114 : Int32))) (Jvm.Cond.and (Jvm.Cond.eq (Jvm.Term.elem (Jvm.Term.field (Jvm.Term.string "TwelveChain$Tape" (52 : Nat)) "java/lang/String" "value" "[B") (Jvm.Term.int (113 : Int32))) (Jvm.Term.int (32 : Int32))) (Jvm.Cond.eq (Jvm.Term.elem (Jvm.Term.field (Jvm.Term.string "TwelveChain$Tape" (52 : Nat)) "java/lang/String" "value" "[B") (Jvm.Term.int (114 : Int32))) (Jvm.Term.int (102 : Int32))))))) (Jvm.Cond.and (Jvm.Cond.and (Jvm.Cond.and (Jvm.Cond.eq (Jvm.Term.elem (Jvm.Term.field (Jvm.Term.string "TwelveChain$Tape" (52 : Nat)) "java/lang/String" "value" "[B") (Jvm.Term.int (115 : Int32))) (Jvm.Term.int (114 : Int32))) (Jvm.Cond.eq (Jvm.Term.elem (Jvm.Term.field (Jvm.Term.string "TwelveChain$Tape" (52 : Nat)) "java/lang/String" "value" "[B") (Jvm.Term.int (116 : Int32))) (Jvm.Term.int (111 : Int32)))) (Jvm.Cond.and (Jvm.Cond.eq (Jvm.Term.elem (Jvm.Term.field (Jvm.Term.string "TwelveChain$Tape" (52 : Nat)) "java/lang/String" "value" "[B") (Jvm.Term.int (117 : Int32))) (Jvm.Term.int (109 : Int32))) (Jvm.Cond.and (Jvm.Cond.eq (Jvm.Term.elem (Jvm.Term.field (Jvm.Term.string "TwelveChain$Tape" (52 : Nat)) "java/lang/String" "value" "[B") (Jvm.Term.int (118 : Int32))) (Jvm.Term.int (32 : Int32))) (Jvm.Cond.eq (Jvm.Term.elem (Jvm.Term.field (Jvm.Term.string "TwelveChain$Tape" (52 : Nat)) "java/lang/String" "value" "[B") (Jvm.Term.int (119 : Int32))) (Jvm.Term.int (116 : Int32)))))) (Jvm.Cond.and (Jvm.Cond.and (Jvm.Cond.eq (Jvm.Term.elem (Jvm.Term.field (Jvm.Term.string "TwelveChain$Tape" (52 : Nat)) "java/lang/String" "value" "[B") (Jvm.Term.int (120 : Int32))) (Jvm.Term.int (111 : Int32))) (Jvm.Cond.and (Jvm.Cond.eq (Jvm.Term.elem (Jvm.Term.field (Jvm.Term.string "TwelveChain$Tape" (52 : Nat)) "java/lang/String" "value" "[B") (Jvm.Term.int (121 : Int32))) (Jvm.Term.int (32 : Int32))) (Jvm.Cond.exactly (Jvm.Term.string "TwelveChainModel" (121 : Nat)) "java/lang/String"))) (Jvm.Cond.and (Jvm.Cond.eq (Jvm.Term.field (Jvm.Term.string "TwelveChainModel" (121 : Nat)) "java/lang/String" "coder" "B") (Jvm.Term.int (0 : Int32))) (Jvm.Cond.and (Jvm.Cond.arrayOf (Jvm.Term.field (Jvm.Term.string "TwelveChainModel" (121 : Nat)) "java/lang/String" "value" "[B") Jvm.ClassFile.FieldType.byte) (Jvm.Cond.eq (Jvm.Term.length (Jvm.Term.field (Jvm.Term.string "TwelveChainModel" (121 : Nat)) "java/lang/String" "value" "[B")) (Jvm.Term.int (4 : Int32))))))))
theorem pz_fi7 : ∀ w, w ∈ flatC pz_fb7 → w ∈ flatC (Jvm.Cond.and given_1 narrow_1) := fun w h => (pz_fqR (pz_fqL (pz_fqL (pz_fqR (pz_fqR (pz_fqR h))))))
noncomputable def pz_fb8 : Jvm.Cond := (Jvm.Cond.and (Jvm.Cond.and (Jvm.Cond.and (Jvm.Cond.and (Jvm.Cond.eq (Jvm.Term.elem (Jvm.Term.field (Jvm.Term.string "TwelveChainModel" (121 : Nat)) "java/lang/String" "value" "[B") (Jvm.Term.int (0 : Int32))) (Jvm.Term.int (119 : Int32))) (Jvm.Cond.eq (Jvm.Term.elem (Jvm.Term.field (Jvm.Term.string "TwelveChainModel" (121 : Nat)) "java/lang/String" "value" "[B") (Jvm.Term.int (1 : Int32))) (Jvm.Term.int (104 : Int32)))) (Jvm.Cond.and (Jvm.Cond.eq (Jvm.Term.elem (Jvm.Term.field (Jvm.Term.string "TwelveChainModel" (121 : Nat)) "java/lang/String" "value" "[B") (Jvm.Term.int (2 : Int32))) (Jvm.Term.int (101 : Int32))) (Jvm.Cond.and (Jvm.Cond.eq (Jvm.Term.elem (Jvm.Term.field (Jvm.Term.string "TwelveChainModel" (121 : Nat)) "java/lang/String" "value" "[B") (Jvm.Term.int (3 : Int32))) (Jvm.Term.int (110 : Int32))) (Jvm.Cond.not (Jvm.Cond.eq (Jvm.Term.string "TwelveChain$Tape" (52 : Nat)) (Jvm.Term.string "TwelveChainModel" (121 : Nat))))))) (Jvm.Cond.and (Jvm.Cond.and (Jvm.Cond.exactly (Jvm.Term.string "TwelveChainModel" (123 : Nat)) "java/lang/String") (Jvm.Cond.eq (Jvm.Term.field (Jvm.Term.string "TwelveChainModel" (123 : Nat)) "java/lang/String" "coder" "B") (Jvm.Term.int (0 : Int32)))) (Jvm.Cond.and (Jvm.Cond.arrayOf (Jvm.Term.field (Jvm.Term.string "TwelveChainModel" (123 : Nat)) "java/lang/String" "value" "[B") Jvm.ClassFile.FieldType.byte) (Jvm.Cond.and (Jvm.Cond.eq (Jvm.Term.length (Jvm.Term.field (Jvm.Term.string "TwelveChainModel" (123 : Nat)) "java/lang/String" "value" "[B")) (Jvm.Term.int (2 : Int32))) (Jvm.Cond.eq (Jvm.Term.elem (Jvm.Term.field (Jvm.Term.string "TwelveChainModel" (123 : Nat)) "java/lang/String" "value" "[B") (Jvm.Term.int (0 : Int32))) (Jvm.Term.int (111 : Int32))))))) (Jvm.Cond.and (Jvm.Cond.and (Jvm.Cond.and (Jvm.Cond.eq (Jvm.Term.elem (Jvm.Term.field (Jvm.Term.string "TwelveChainModel" (123 : Nat)) "java/lang/String" "value" "[B") (Jvm.Term.int (1 : Int32))) (Jvm.Term.int (114 : Int32))) (Jvm.Cond.not (Jvm.Cond.eq (Jvm.Term.string "TwelveChain$Tape" (52 : Nat)) (Jvm.Term.string "TwelveChainModel" (123 : Nat))))) (Jvm.Cond.and (Jvm.Cond.not (Jvm.Cond.eq (Jvm.Term.string "TwelveChainModel" (121 : Nat)) (Jvm.Term.string "TwelveChainModel" (123 : Nat)))) (Jvm.Cond.and (Jvm.Cond.exactly (Jvm.Term.string "TwelveChainModel" (125 : Nat)) "java/lang/String") (Jvm.Cond.eq (Jvm.Term.field (Jvm.Term.string "TwelveChainModel" (125 : Nat)) "java/lang/String" "coder" "B") (Jvm.Term.int (0 : Int32)))))) (Jvm.Cond.and (Jvm.Cond.and (Jvm.Cond.arrayOf (Jvm.Term.field (Jvm.Term.string "TwelveChainModel" (125 : Nat)) "java/lang/String" "value" "[B") Jvm.ClassFile.FieldType.byte) (Jvm.Cond.eq (Jvm.Term.length (Jvm.Term.field (Jvm.Term.string "TwelveChainModel" (125 : Nat)) "java/lang/String" "value" "[B")) (Jvm.Term.int (3 : Int32)))) (Jvm.Cond.and (Jvm.Cond.eq (Jvm.Term.elem (Jvm.Term.field (Jvm.Term.string "TwelveChainModel" (125 : Nat)) "java/lang/String" "value" "[B") (Jvm.Term.int (0 : Int32))) (Jvm.Term.int (97 : Int32))) (Jvm.Cond.and (Jvm.Cond.eq (Jvm.Term.elem (Jvm.Term.field (Jvm.Term.string "TwelveChainModel" (125 : Nat)) "java/lang/String" "value" "[B") (Jvm.Term.int (1 : Int32))) (Jvm.Term.int (110 : Int32))) (Jvm.Cond.eq (Jvm.Term.elem (Jvm.Term.field (Jvm.Term.string "TwelveChainModel" (125 : Nat)) "java/lang/String" "value" "[B") (Jvm.Term.int (2 : Int32))) (Jvm.Term.int (100 : Int32))))))))
theorem pz_fi8 : ∀ w, w ∈ flatC pz_fb8 → w ∈ flatC (Jvm.Cond.and given_1 narrow_1) := fun w h => (pz_fqR (pz_fqL (pz_fqR (pz_fqL (pz_fqL (pz_fqL h))))))
noncomputable def pz_fb9 : Jvm.Cond := (Jvm.Cond.and (Jvm.Cond.and (Jvm.Cond.and (Jvm.Cond.and (Jvm.Cond.not (Jvm.Cond.eq (Jvm.Term.string "TwelveChain$Tape" (52 : Nat)) (Jvm.Term.string "TwelveChainModel" (125 : Nat)))) (Jvm.Cond.not (Jvm.Cond.eq (Jvm.Term.string "TwelveChainModel" (121 : Nat)) (Jvm.Term.string "TwelveChainModel" (125 : Nat))))) (Jvm.Cond.and (Jvm.Cond.not (Jvm.Cond.eq (Jvm.Term.string "TwelveChainModel" (123 : Nat)) (Jvm.Term.string "TwelveChainModel" (125 : Nat)))) (Jvm.Cond.and (Jvm.Cond.exactly (Jvm.Term.string "TwelveChainModel" (127 : Nat)) "java/lang/String") (Jvm.Cond.eq (Jvm.Term.field (Jvm.Term.string "TwelveChainModel" (127 : Nat)) "java/lang/String" "coder" "B") (Jvm.Term.int (0 : Int32)))))) (Jvm.Cond.and (Jvm.Cond.and (Jvm.Cond.arrayOf (Jvm.Term.field (Jvm.Term.string "TwelveChainModel" (127 : Nat)) "java/lang/String" "value" "[B") Jvm.ClassFile.FieldType.byte) (Jvm.Cond.eq (Jvm.Term.length (Jvm.Term.field (Jvm.Term.string "TwelveChainModel" (127 : Nat)) "java/lang/String" "value" "[B")) (Jvm.Term.int (3 : Int32)))) (Jvm.Cond.and (Jvm.Cond.eq (Jvm.Term.elem (Jvm.Term.field (Jvm.Term.string "TwelveChainModel" (127 : Nat)) "java/lang/String" "value" "[B") (Jvm.Term.int (0 : Int32))) (Jvm.Term.int (110 : Int32))) (Jvm.Cond.and (Jvm.Cond.eq (Jvm.Term.elem (Jvm.Term.field (Jvm.Term.string "TwelveChainModel" (127 : Nat)) "java/lang/String" "value" "[B") (Jvm.Term.int (1 : Int32))) (Jvm.Term.int (111 : Int32))) (Jvm.Cond.eq (Jvm.Term.elem (Jvm.Term.field (Jvm.Term.string "TwelveChainModel" (127 : Nat)) "java/lang/String" "value" "[B") (Jvm.Term.int (2 : Int32))) (Jvm.Term.int (116 : Int32))))))) (Jvm.Cond.and (Jvm.Cond.and (Jvm.Cond.and (Jvm.Cond.not (Jvm.Cond.eq (Jvm.Term.string "TwelveChain$Tape" (52 : Nat)) (Jvm.Term.string "TwelveChainModel" (127 : Nat)))) (Jvm.Cond.not (Jvm.Cond.eq (Jvm.Term.string "TwelveChainModel" (121 : Nat)) (Jvm.Term.string "TwelveChainModel" (127 : Nat))))) (Jvm.Cond.and (Jvm.Cond.not (Jvm.Cond.eq (Jvm.Term.string "TwelveChainModel" (123 : Nat)) (Jvm.Term.string "TwelveChainModel" (127 : Nat)))) (Jvm.Cond.and (Jvm.Cond.not (Jvm.Cond.eq (Jvm.Term.string "TwelveChainModel" (125 : Nat)) (Jvm.Term.string "TwelveChainModel" (127 : Nat)))) (Jvm.Cond.exactly (Jvm.Term.string "TwelveChainModel" (129 : Nat)) "java/lang/String")))) (Jvm.Cond.and (Jvm.Cond.and (Jvm.Cond.eq (Jvm.Term.field (Jvm.Term.string "TwelveChainModel" (129 : Nat)) "java/lang/String" "coder" "B") (Jvm.Term.int (0 : Int32))) (Jvm.Cond.arrayOf (Jvm.Term.field (Jvm.Term.string "TwelveChainModel" (129 : Nat)) "java/lang/String" "value" "[B") Jvm.ClassFile.FieldType.byte)) (Jvm.Cond.and (Jvm.Cond.eq (Jvm.Term.length (Jvm.Term.field (Jvm.Term.string "TwelveChainModel" (129 : Nat)) "java/lang/String" "value" "[B")) (Jvm.Term.int (5 : Int32))) (Jvm.Cond.and (Jvm.Cond.eq (Jvm.Term.elem (Jvm.Term.field (Jvm.Term.string "TwelveChainModel" (129 : Nat)) "java/lang/String" "value" "[B") (Jvm.Term.int (0 : Int32))) (Jvm.Term.int (114 : Int32))) (Jvm.Cond.eq (Jvm.Term.elem (Jvm.Term.field (Jvm.Term.string "TwelveChainModel" (129 : Nat)) "java/lang/String" "value" "[B") (Jvm.Term.int (1 : Int32))) (Jvm.Term.int (101 : Int32))))))))
theorem pz_fi9 : ∀ w, w ∈ flatC pz_fb9 → w ∈ flatC (Jvm.Cond.and given_1 narrow_1) := fun w h => (pz_fqR (pz_fqL (pz_fqR (pz_fqL (pz_fqL (pz_fqR h))))))
noncomputable def pz_fb10 : Jvm.Cond := (Jvm.Cond.and (Jvm.Cond.and (Jvm.Cond.and (Jvm.Cond.and (Jvm.Cond.eq (Jvm.Term.elem (Jvm.Term.field (Jvm.Term.string "TwelveChainModel" (129 : Nat)) "java/lang/String" "value" "[B") (Jvm.Term.int (2 : Int32))) (Jvm.Term.int (97 : Int32))) (Jvm.Cond.eq (Jvm.Term.elem (Jvm.Term.field (Jvm.Term.string "TwelveChainModel" (129 : Nat)) "java/lang/String" "value" "[B") (Jvm.Term.int (3 : Int32))) (Jvm.Term.int (100 : Int32)))) (Jvm.Cond.and (Jvm.Cond.eq (Jvm.Term.elem (Jvm.Term.field (Jvm.Term.string "TwelveChainModel" (129 : Nat)) "java/lang/String" "value" "[B") (Jvm.Term.int (4 : Int32))) (Jvm.Term.int (121 : Int32))) (Jvm.Cond.and (Jvm.Cond.not (Jvm.Cond.eq (Jvm.Term.string "TwelveChain$Tape" (52 : Nat)) (Jvm.Term.string "TwelveChainModel" (129 : Nat)))) (Jvm.Cond.not (Jvm.Cond.eq (Jvm.Term.string "TwelveChainModel" (121 : Nat)) (Jvm.Term.string "TwelveChainModel" (129 : Nat))))))) (Jvm.Cond.and (Jvm.Cond.and (Jvm.Cond.not (Jvm.Cond.eq (Jvm.Term.string "TwelveChainModel" (123 : Nat)) (Jvm.Term.string "TwelveChainModel" (129 : Nat)))) (Jvm.Cond.not (Jvm.Cond.eq (Jvm.Term.string "TwelveChainModel" (125 : Nat)) (Jvm.Term.string "TwelveChainModel" (129 : Nat))))) (Jvm.Cond.and (Jvm.Cond.not (Jvm.Cond.eq (Jvm.Term.string "TwelveChainModel" (127 : Nat)) (Jvm.Term.string "TwelveChainModel" (129 : Nat)))) (Jvm.Cond.and (Jvm.Cond.exactly (Jvm.Term.string "TwelveChainModel" (131 : Nat)) "java/lang/String") (Jvm.Cond.eq (Jvm.Term.field (Jvm.Term.string "TwelveChainModel" (131 : Nat)) "java/lang/String" "coder" "B") (Jvm.Term.int (0 : Int32))))))) (Jvm.Cond.and (Jvm.Cond.and (Jvm.Cond.and (Jvm.Cond.arrayOf (Jvm.Term.field (Jvm.Term.string "TwelveChainModel" (131 : Nat)) "java/lang/String" "value" "[B") Jvm.ClassFile.FieldType.byte) (Jvm.Cond.eq (Jvm.Term.length (Jvm.Term.field (Jvm.Term.string "TwelveChainModel" (131 : Nat)) "java/lang/String" "value" "[B")) (Jvm.Term.int (5 : Int32)))) (Jvm.Cond.and (Jvm.Cond.eq (Jvm.Term.elem (Jvm.Term.field (Jvm.Term.string "TwelveChainModel" (131 : Nat)) "java/lang/String" "value" "[B") (Jvm.Term.int (0 : Int32))) (Jvm.Term.int (108 : Int32))) (Jvm.Cond.and (Jvm.Cond.eq (Jvm.Term.elem (Jvm.Term.field (Jvm.Term.string "TwelveChainModel" (131 : Nat)) "java/lang/String" "value" "[B") (Jvm.Term.int (1 : Int32))) (Jvm.Term.int (101 : Int32))) (Jvm.Cond.eq (Jvm.Term.elem (Jvm.Term.field (Jvm.Term.string "TwelveChainModel" (131 : Nat)) "java/lang/String" "value" "[B") (Jvm.Term.int (2 : Int32))) (Jvm.Term.int (97 : Int32)))))) (Jvm.Cond.and (Jvm.Cond.and (Jvm.Cond.eq (Jvm.Term.elem (Jvm.Term.field (Jvm.Term.string "TwelveChainModel" (131 : Nat)) "java/lang/String" "value" "[B") (Jvm.Term.int (3 : Int32))) (Jvm.Term.int (118 : Int32))) (Jvm.Cond.eq (Jvm.Term.elem (Jvm.Term.field (Jvm.Term.string "TwelveChainModel" (131 : Nat)) "java/lang/String" "value" "[B") (Jvm.Term.int (4 : Int32))) (Jvm.Term.int (101 : Int32)))) (Jvm.Cond.and (Jvm.Cond.not (Jvm.Cond.eq (Jvm.Term.string "TwelveChain$Tape" (52 : Nat)) (Jvm.Term.string "TwelveChainModel" (131 : Nat)))) (Jvm.Cond.and (Jvm.Cond.not (Jvm.Cond.eq (Jvm.Term.string "TwelveChainModel" (121 : Nat)) (Jvm.Term.string "TwelveChainModel" (131 : Nat)))) (Jvm.Cond.not (Jvm.Cond.eq (Jvm.Term.string "TwelveChainModel" (123 : Nat)) (Jvm.Term.string "TwelveChainModel" (131 : Nat)))))))))
theorem pz_fi10 : ∀ w, w ∈ flatC pz_fb10 → w ∈ flatC (Jvm.Cond.and given_1 narrow_1) := fun w h => (pz_fqR (pz_fqL (pz_fqR (pz_fqL (pz_fqR (pz_fqL h))))))
noncomputable def pz_fb11 : Jvm.Cond := (Jvm.Cond.and (Jvm.Cond.and (Jvm.Cond.and (Jvm.Cond.and (Jvm.Cond.not (Jvm.Cond.eq (Jvm.Term.string "TwelveChainModel" (125 : Nat)) (Jvm.Term.string "TwelveChainModel" (131 : Nat)))) (Jvm.Cond.not (Jvm.Cond.eq (Jvm.Term.string "TwelveChainModel" (127 : Nat)) (Jvm.Term.string "TwelveChainModel" (131 : Nat))))) (Jvm.Cond.and (Jvm.Cond.not (Jvm.Cond.eq (Jvm.Term.string "TwelveChainModel" (129 : Nat)) (Jvm.Term.string "TwelveChainModel" (131 : Nat)))) (Jvm.Cond.and (Jvm.Cond.exactly (Jvm.Term.string "TwelveChainModel" (133 : Nat)) "java/lang/String") (Jvm.Cond.eq (Jvm.Term.field (Jvm.Term.string "TwelveChainModel" (133 : Nat)) "java/lang/String" "coder" "B") (Jvm.Term.int (0 : Int32)))))) (Jvm.Cond.and (Jvm.Cond.and (Jvm.Cond.arrayOf (Jvm.Term.field (Jvm.Term.string "TwelveChainModel" (133 : Nat)) "java/lang/String" "value" "[B") Jvm.ClassFile.FieldType.byte) (Jvm.Cond.eq (Jvm.Term.length (Jvm.Term.field (Jvm.Term.string "TwelveChainModel" (133 : Nat)) "java/lang/String" "value" "[B")) (Jvm.Term.int (4 : Int32)))) (Jvm.Cond.and (Jvm.Cond.eq (Jvm.Term.elem (Jvm.Term.field (Jvm.Term.string "TwelveChainModel" (133 : Nat)) "java/lang/String" "value" "[B") (Jvm.Term.int (0 : Int32))) (Jvm.Term.int (103 : Int32))) (Jvm.Cond.and (Jvm.Cond.eq (Jvm.Term.elem (Jvm.Term.field (Jvm.Term.string "TwelveChainModel" (133 : Nat)) "java/lang/String" "value" "[B") (Jvm.Term.int (1 : Int32))) (Jvm.Term.int (105 : Int32))) (Jvm.Cond.eq (Jvm.Term.elem (Jvm.Term.field (Jvm.Term.string "TwelveChainModel" (133 : Nat)) "java/lang/String" "value" "[B") (Jvm.Term.int (2 : Int32))) (Jvm.Term.int (118 : Int32))))))) (Jvm.Cond.and (Jvm.Cond.and (Jvm.Cond.and (Jvm.Cond.eq (Jvm.Term.elem (Jvm.Term.field (Jvm.Term.string "TwelveChainModel" (133 : Nat)) "java/lang/String" "value" "[B") (Jvm.Term.int (3 : Int32))) (Jvm.Term.int (101 : Int32))) (Jvm.Cond.not (Jvm.Cond.eq (Jvm.Term.string "TwelveChain$Tape" (52 : Nat)) (Jvm.Term.string "TwelveChainModel" (133 : Nat))))) (Jvm.Cond.and (Jvm.Cond.not (Jvm.Cond.eq (Jvm.Term.string "TwelveChainModel" (121 : Nat)) (Jvm.Term.string "TwelveChainModel" (133 : Nat)))) (Jvm.Cond.and (Jvm.Cond.not (Jvm.Cond.eq (Jvm.Term.string "TwelveChainModel" (123 : Nat)) (Jvm.Term.string "TwelveChainModel" (133 : Nat)))) (Jvm.Cond.not (Jvm.Cond.eq (Jvm.Term.string "TwelveChainModel" (125 : Nat)) (Jvm.Term.string "TwelveChainModel" (133 : Nat))))))) (Jvm.Cond.and (Jvm.Cond.and (Jvm.Cond.not (Jvm.Cond.eq (Jvm.Term.string "TwelveChainModel" (127 : Nat)) (Jvm.Term.string "TwelveChainModel" (133 : Nat)))) (Jvm.Cond.and (Jvm.Cond.not (Jvm.Cond.eq (Jvm.Term.string "TwelveChainModel" (129 : Nat)) (Jvm.Term.string "TwelveChainModel" (133 : Nat)))) (Jvm.Cond.not (Jvm.Cond.eq (Jvm.Term.string "TwelveChainModel" (131 : Nat)) (Jvm.Term.string "TwelveChainModel" (133 : Nat)))))) (Jvm.Cond.and (Jvm.Cond.exactly (Jvm.Term.string "TwelveChainModel" (135 : Nat)) "java/lang/String") (Jvm.Cond.and (Jvm.Cond.eq (Jvm.Term.field (Jvm.Term.string "TwelveChainModel" (135 : Nat)) "java/lang/String" "coder" "B") (Jvm.Term.int (0 : Int32))) (Jvm.Cond.arrayOf (Jvm.Term.field (Jvm.Term.string "TwelveChainModel" (135 : Nat)) "java/lang/String" "value" "[B") Jvm.ClassFile.FieldType.byte))))))
theorem pz_fi11 : ∀ w, w ∈ flatC pz_fb11 → w ∈ flatC (Jvm.Cond.and given_1 narrow_1) := fun w h => (pz_fqR (pz_fqL (pz_fqR (pz_fqL (pz_fqR (pz_fqR h))))))
noncomputable def pz_fb12 : Jvm.Cond := (Jvm.Cond.and (Jvm.Cond.and (Jvm.Cond.and (Jvm.Cond.and (Jvm.Cond.eq (Jvm.Term.length (Jvm.Term.field (Jvm.Term.string "TwelveChainModel" (135 : Nat)) "java/lang/String" "value" "[B")) (Jvm.Term.int (4 : Int32))) (Jvm.Cond.eq (Jvm.Term.elem (Jvm.Term.field (Jvm.Term.string "TwelveChainModel" (135 : Nat)) "java/lang/String" "value" "[B") (Jvm.Term.int (0 : Int32))) (Jvm.Term.int (99 : Int32)))) (Jvm.Cond.and (Jvm.Cond.eq (Jvm.Term.elem (Jvm.Term.field (Jvm.Term.string "TwelveChainModel" (135 : Nat)) "java/lang/String" "value" "[B") (Jvm.Term.int (1 : Int32))) (Jvm.Term.int (111 : Int32))) (Jvm.Cond.and (Jvm.Cond.eq (Jvm.Term.elem (Jvm.Term.field (Jvm.Term.string "TwelveChainModel" (135 : Nat)) "java/lang/String" "value" "[B") (Jvm.Term.int (2 : Int32))) (Jvm.Term.int (115 : Int32))) (Jvm.Cond.eq (Jvm.Term.elem (Jvm.Term.field (Jvm.Term.string "TwelveChainModel" (135 : Nat)) "java/lang/String" "value" "[B") (Jvm.Term.int (3 : Int32))) (Jvm.Term.int (116 : Int32)))))) (Jvm.Cond.and (Jvm.Cond.and (Jvm.Cond.not (Jvm.Cond.eq (Jvm.Term.string "TwelveChain$Tape" (52 : Nat)) (Jvm.Term.string "TwelveChainModel" (135 : Nat)))) (Jvm.Cond.not (Jvm.Cond.eq (Jvm.Term.string "TwelveChainModel" (121 : Nat)) (Jvm.Term.string "TwelveChainModel" (135 : Nat))))) (Jvm.Cond.and (Jvm.Cond.not (Jvm.Cond.eq (Jvm.Term.string "TwelveChainModel" (123 : Nat)) (Jvm.Term.string "TwelveChainModel" (135 : Nat)))) (Jvm.Cond.and (Jvm.Cond.not (Jvm.Cond.eq (Jvm.Term.string "TwelveChainModel" (125 : Nat)) (Jvm.Term.string "TwelveChainModel" (135 : Nat)))) (Jvm.Cond.not (Jvm.Cond.eq (Jvm.Term.string "TwelveChainModel" (127 : Nat)) (Jvm.Term.string "TwelveChainModel" (135 : Nat)))))))) (Jvm.Cond.and (Jvm.Cond.and (Jvm.Cond.and (Jvm.Cond.not (Jvm.Cond.eq (Jvm.Term.string "TwelveChainModel" (129 : Nat)) (Jvm.Term.string "TwelveChainModel" (135 : Nat)))) (Jvm.Cond.not (Jvm.Cond.eq (Jvm.Term.string "TwelveChainModel" (131 : Nat)) (Jvm.Term.string "TwelveChainModel" (135 : Nat))))) (Jvm.Cond.and (Jvm.Cond.not (Jvm.Cond.eq (Jvm.Term.string "TwelveChainModel" (133 : Nat)) (Jvm.Term.string "TwelveChainModel" (135 : Nat)))) (Jvm.Cond.and (Jvm.Cond.exactly (Jvm.Term.string "TwelveChainModel" (99 : Nat)) "java/lang/String") (Jvm.Cond.eq (Jvm.Term.field (Jvm.Term.string "TwelveChainModel" (99 : Nat)) "java/lang/String" "coder" "B") (Jvm.Term.int (0 : Int32)))))) (Jvm.Cond.and (Jvm.Cond.and (Jvm.Cond.arrayOf (Jvm.Term.field (Jvm.Term.string "TwelveChainModel" (99 : Nat)) "java/lang/String" "value" "[B") Jvm.ClassFile.FieldType.byte) (Jvm.Cond.eq (Jvm.Term.length (Jvm.Term.field (Jvm.Term.string "TwelveChainModel" (99 : Nat)) "java/lang/String" "value" "[B")) (Jvm.Term.int (4 : Int32)))) (Jvm.Cond.and (Jvm.Cond.eq (Jvm.Term.elem (Jvm.Term.field (Jvm.Term.string "TwelveChainModel" (99 : Nat)) "java/lang/String" "value" "[B") (Jvm.Term.int (0 : Int32))) (Jvm.Term.int (108 : Int32))) (Jvm.Cond.and (Jvm.Cond.eq (Jvm.Term.elem (Jvm.Term.field (Jvm.Term.string "TwelveChainModel" (99 : Nat)) "java/lang/String" "value" "[B") (Jvm.Term.int (1 : Int32))) (Jvm.Term.int (105 : Int32))) (Jvm.Cond.eq (Jvm.Term.elem (Jvm.Term.field (Jvm.Term.string "TwelveChainModel" (99 : Nat)) "java/lang/String" "value" "[B") (Jvm.Term.int (2 : Int32))) (Jvm.Term.int (110 : Int32))))))))
theorem pz_fi12 : ∀ w, w ∈ flatC pz_fb12 → w ∈ flatC (Jvm.Cond.and given_1 narrow_1) := fun w h => (pz_fqR (pz_fqL (pz_fqR (pz_fqR (pz_fqL (pz_fqL h))))))
noncomputable def pz_fb13 : Jvm.Cond := (Jvm.Cond.and (Jvm.Cond.and (Jvm.Cond.and (Jvm.Cond.and (Jvm.Cond.eq (Jvm.Term.elem (Jvm.Term.field (Jvm.Term.string "TwelveChainModel" (99 : Nat)) "java/lang/String" "value" "[B") (Jvm.Term.int (3 : Int32))) (Jvm.Term.int (107 : Int32))) (Jvm.Cond.not (Jvm.Cond.eq (Jvm.Term.string "TwelveChain$Tape" (52 : Nat)) (Jvm.Term.string "TwelveChainModel" (99 : Nat))))) (Jvm.Cond.and (Jvm.Cond.not (Jvm.Cond.eq (Jvm.Term.string "TwelveChainModel" (121 : Nat)) (Jvm.Term.string "TwelveChainModel" (99 : Nat)))) (Jvm.Cond.and (Jvm.Cond.not (Jvm.Cond.eq (Jvm.Term.string "TwelveChainModel" (123 : Nat)) (Jvm.Term.string "TwelveChainModel" (99 : Nat)))) (Jvm.Cond.not (Jvm.Cond.eq (Jvm.Term.string "TwelveChainModel" (125 : Nat)) (Jvm.Term.string "TwelveChainModel" (99 : Nat))))))) (Jvm.Cond.and (Jvm.Cond.and (Jvm.Cond.not (Jvm.Cond.eq (Jvm.Term.string "TwelveChainModel" (127 : Nat)) (Jvm.Term.string "TwelveChainModel" (99 : Nat)))) (Jvm.Cond.not (Jvm.Cond.eq (Jvm.Term.string "TwelveChainModel" (129 : Nat)) (Jvm.Term.string "TwelveChainModel" (99 : Nat))))) (Jvm.Cond.and (Jvm.Cond.not (Jvm.Cond.eq (Jvm.Term.string "TwelveChainModel" (131 : Nat)) (Jvm.Term.string "TwelveChainModel" (99 : Nat)))) (Jvm.Cond.and (Jvm.Cond.not (Jvm.Cond.eq (Jvm.Term.string "TwelveChainModel" (133 : Nat)) (Jvm.Term.string "TwelveChainModel" (99 : Nat)))) (Jvm.Cond.not (Jvm.Cond.eq (Jvm.Term.string "TwelveChainModel" (135 : Nat)) (Jvm.Term.string "TwelveChainModel" (99 : Nat)))))))) (Jvm.Cond.and (Jvm.Cond.and (Jvm.Cond.and (Jvm.Cond.exactly (Jvm.Term.string "TwelveChainModel" (105 : Nat)) "java/lang/String") (Jvm.Cond.eq (Jvm.Term.field (Jvm.Term.string "TwelveChainModel" (105 : Nat)) "java/lang/String" "coder" "B") (Jvm.Term.int (0 : Int32)))) (Jvm.Cond.and (Jvm.Cond.arrayOf (Jvm.Term.field (Jvm.Term.string "TwelveChainModel" (105 : Nat)) "java/lang/String" "value" "[B") Jvm.ClassFile.FieldType.byte) (Jvm.Cond.and (Jvm.Cond.eq (Jvm.Term.length (Jvm.Term.field (Jvm.Term.string "TwelveChainModel" (105 : Nat)) "java/lang/String" "value" "[B")) (Jvm.Term.int (5 : Int32))) (Jvm.Cond.eq (Jvm.Term.elem (Jvm.Term.field (Jvm.Term.string "TwelveChainModel" (105 : Nat)) "java/lang/String" "value" "[B") (Jvm.Term.int (0 : Int32))) (Jvm.Term.int (112 : Int32)))))) (Jvm.Cond.and (Jvm.Cond.and (Jvm.Cond.eq (Jvm.Term.elem (Jvm.Term.field (Jvm.Term.string "TwelveChainModel" (105 : Nat)) "java/lang/String" "value" "[B") (Jvm.Term.int (1 : Int32))) (Jvm.Term.int (114 : Int32))) (Jvm.Cond.and (Jvm.Cond.eq (Jvm.Term.elem (Jvm.Term.field (Jvm.Term.string "TwelveChainModel" (105 : Nat)) "java/lang/String" "value" "[B") (Jvm.Term.int (2 : Int32))) (Jvm.Term.int (105 : Int32))) (Jvm.Cond.eq (Jvm.Term.elem (Jvm.Term.field (Jvm.Term.string "TwelveChainModel" (105 : Nat)) "java/lang/String" "value" "[B") (Jvm.Term.int (3 : Int32))) (Jvm.Term.int (99 : Int32))))) (Jvm.Cond.and (Jvm.Cond.eq (Jvm.Term.elem (Jvm.Term.field (Jvm.Term.string "TwelveChainModel" (105 : Nat)) "java/lang/String" "value" "[B") (Jvm.Term.int (4 : Int32))) (Jvm.Term.int (101 : Int32))) (Jvm.Cond.and (Jvm.Cond.not (Jvm.Cond.eq (Jvm.Term.string "TwelveChain$Tape" (52 : Nat)) (Jvm.Term.string "TwelveChainModel" (105 : Nat)))) (Jvm.Cond.not (Jvm.Cond.eq (Jvm.Term.string "TwelveChainModel" (121 : Nat)) (Jvm.Term.string "TwelveChainModel" (105 : Nat)))))))))
theorem pz_fi13 : ∀ w, w ∈ flatC pz_fb13 → w ∈ flatC (Jvm.Cond.and given_1 narrow_1) := fun w h => (pz_fqR (pz_fqL (pz_fqR (pz_fqR (pz_fqL (pz_fqR h))))))
noncomputable def pz_fb14 : Jvm.Cond := (Jvm.Cond.and (Jvm.Cond.and (Jvm.Cond.and (Jvm.Cond.and (Jvm.Cond.not (Jvm.Cond.eq (Jvm.Term.string "TwelveChainModel" (123 : Nat)) (Jvm.Term.string "TwelveChainModel" (105 : Nat)))) (Jvm.Cond.not (Jvm.Cond.eq (Jvm.Term.string "TwelveChainModel" (125 : Nat)) (Jvm.Term.string "TwelveChainModel" (105 : Nat))))) (Jvm.Cond.and (Jvm.Cond.not (Jvm.Cond.eq (Jvm.Term.string "TwelveChainModel" (127 : Nat)) (Jvm.Term.string "TwelveChainModel" (105 : Nat)))) (Jvm.Cond.and (Jvm.Cond.not (Jvm.Cond.eq (Jvm.Term.string "TwelveChainModel" (129 : Nat)) (Jvm.Term.string "TwelveChainModel" (105 : Nat)))) (Jvm.Cond.not (Jvm.Cond.eq (Jvm.Term.string "TwelveChainModel" (131 : Nat)) (Jvm.Term.string "TwelveChainModel" (105 : Nat))))))) (Jvm.Cond.and (Jvm.Cond.and (Jvm.Cond.not (Jvm.Cond.eq (Jvm.Term.string "TwelveChainModel" (133 : Nat)) (Jvm.Term.string "TwelveChainModel" (105 : Nat)))) (Jvm.Cond.not (Jvm.Cond.eq (Jvm.Term.string "TwelveChainModel" (135 : Nat)) (Jvm.Term.string "TwelveChainModel" (105 : Nat))))) (Jvm.Cond.and (Jvm.Cond.not (Jvm.Cond.eq (Jvm.Term.string "TwelveChainModel" (99 : Nat)) (Jvm.Term.string "TwelveChainModel" (105 : Nat)))) (Jvm.Cond.and (Jvm.Cond.exactly (Jvm.Term.string "TwelveChainModel" (107 : Nat)) "java/lang/String") (Jvm.Cond.eq (Jvm.Term.field (Jvm.Term.string "TwelveChainModel" (107 : Nat)) "java/lang/String" "coder" "B") (Jvm.Term.int (0 : Int32))))))) (Jvm.Cond.and (Jvm.Cond.and (Jvm.Cond.and (Jvm.Cond.arrayOf (Jvm.Term.field (Jvm.Term.string "TwelveChainModel" (107 : Nat)) "java/lang/String" "value" "[B") Jvm.ClassFile.FieldType.byte) (Jvm.Cond.eq (Jvm.Term.length (Jvm.Term.field (Jvm.Term.string "TwelveChainModel" (107 : Nat)) "java/lang/String" "value" "[B")) (Jvm.Term.int (5 : Int32)))) (Jvm.Cond.and (Jvm.Cond.eq (Jvm.Term.elem (Jvm.Term.field (Jvm.Term.string "TwelveChainModel" (107 : Nat)) "java/lang/String" "value" "[B") (Jvm.Term.int (0 : Int32))) (Jvm.Term.int (112 : Int32))) (Jvm.Cond.and (Jvm.Cond.eq (Jvm.Term.elem (Jvm.Term.field (Jvm.Term.string "TwelveChainModel" (107 : Nat)) "java/lang/String" "value" "[B") (Jvm.Term.int (1 : Int32))) (Jvm.Term.int (117 : Int32))) (Jvm.Cond.eq (Jvm.Term.elem (Jvm.Term.field (Jvm.Term.string "TwelveChainModel" (107 : Nat)) "java/lang/String" "value" "[B") (Jvm.Term.int (2 : Int32))) (Jvm.Term.int (114 : Int32)))))) (Jvm.Cond.and (Jvm.Cond.and (Jvm.Cond.eq (Jvm.Term.elem (Jvm.Term.field (Jvm.Term.string "TwelveChainModel" (107 : Nat)) "java/lang/String" "value" "[B") (Jvm.Term.int (3 : Int32))) (Jvm.Term.int (115 : Int32))) (Jvm.Cond.eq (Jvm.Term.elem (Jvm.Term.field (Jvm.Term.string "TwelveChainModel" (107 : Nat)) "java/lang/String" "value" "[B") (Jvm.Term.int (4 : Int32))) (Jvm.Term.int (101 : Int32)))) (Jvm.Cond.and (Jvm.Cond.not (Jvm.Cond.eq (Jvm.Term.string "TwelveChain$Tape" (52 : Nat)) (Jvm.Term.string "TwelveChainModel" (107 : Nat)))) (Jvm.Cond.and (Jvm.Cond.not (Jvm.Cond.eq (Jvm.Term.string "TwelveChainModel" (121 : Nat)) (Jvm.Term.string "TwelveChainModel" (107 : Nat)))) (Jvm.Cond.not (Jvm.Cond.eq (Jvm.Term.string "TwelveChainModel" (123 : Nat)) (Jvm.Term.string "TwelveChainModel" (107 : Nat)))))))))
theorem pz_fi14 : ∀ w, w ∈ flatC pz_fb14 → w ∈ flatC (Jvm.Cond.and given_1 narrow_1) := fun w h => (pz_fqR (pz_fqL (pz_fqR (pz_fqR (pz_fqR (pz_fqL h))))))
noncomputable def pz_fb15 : Jvm.Cond := (Jvm.Cond.and (Jvm.Cond.and (Jvm.Cond.and (Jvm.Cond.and (Jvm.Cond.not (Jvm.Cond.eq (Jvm.Term.string "TwelveChainModel" (125 : Nat)) (Jvm.Term.string "TwelveChainModel" (107 : Nat)))) (Jvm.Cond.not (Jvm.Cond.eq (Jvm.Term.string "TwelveChainModel" (127 : Nat)) (Jvm.Term.string "TwelveChainModel" (107 : Nat))))) (Jvm.Cond.and (Jvm.Cond.not (Jvm.Cond.eq (Jvm.Term.string "TwelveChainModel" (129 : Nat)) (Jvm.Term.string "TwelveChainModel" (107 : Nat)))) (Jvm.Cond.and (Jvm.Cond.not (Jvm.Cond.eq (Jvm.Term.string "TwelveChainModel" (131 : Nat)) (Jvm.Term.string "TwelveChainModel" (107 : Nat)))) (Jvm.Cond.not (Jvm.Cond.eq (Jvm.Term.string "TwelveChainModel" (133 : Nat)) (Jvm.Term.string "TwelveChainModel" (107 : Nat))))))) (Jvm.Cond.and (Jvm.Cond.and (Jvm.Cond.not (Jvm.Cond.eq (Jvm.Term.string "TwelveChainModel" (135 : Nat)) (Jvm.Term.string "TwelveChainModel" (107 : Nat)))) (Jvm.Cond.not (Jvm.Cond.eq (Jvm.Term.string "TwelveChainModel" (99 : Nat)) (Jvm.Term.string "TwelveChainModel" (107 : Nat))))) (Jvm.Cond.and (Jvm.Cond.not (Jvm.Cond.eq (Jvm.Term.string "TwelveChainModel" (105 : Nat)) (Jvm.Term.string "TwelveChainModel" (107 : Nat)))) (Jvm.Cond.and (Jvm.Cond.exactly (Jvm.Term.string "TwelveChainModel" (109 : Nat)) "java/lang/String") (Jvm.Cond.eq (Jvm.Term.field (Jvm.Term.string "TwelveChainModel" (109 : Nat)) "java/lang/String" "coder" "B") (Jvm.Term.int (0 : Int32))))))) (Jvm.Cond.and (Jvm.Cond.and (Jvm.Cond.and (Jvm.Cond.arrayOf (Jvm.Term.field (Jvm.Term.string "TwelveChainModel" (109 : Nat)) "java/lang/String" "value" "[B") Jvm.ClassFile.FieldType.byte) (Jvm.Cond.eq (Jvm.Term.length (Jvm.Term.field (Jvm.Term.string "TwelveChainModel" (109 : Nat)) "java/lang/String" "value" "[B")) (Jvm.Term.int (5 : Int32)))) (Jvm.Cond.and (Jvm.Cond.eq (Jvm.Term.elem (Jvm.Term.field (Jvm.Term.string "TwelveChainModel" (109 : Nat)) "java/lang/String" "value" "[B") (Jvm.Term.int (0 : Int32))) (Jvm.Term.int (119 : Int32))) (Jvm.Cond.and (Jvm.Cond.eq (Jvm.Term.elem (Jvm.Term.field (Jvm.Term.string "TwelveChainModel" (109 : Nat)) "java/lang/String" "value" "[B") (Jvm.Term.int (1 : Int32))) (Jvm.Term.int (111 : Int32))) (Jvm.Cond.eq (Jvm.Term.elem (Jvm.Term.field (Jvm.Term.string "TwelveChainModel" (109 : Nat)) "java/lang/String" "value" "[B") (Jvm.Term.int (2 : Int32))) (Jvm.Term.int (114 : Int32)))))) (Jvm.Cond.and (Jvm.Cond.and (Jvm.Cond.eq (Jvm.Term.elem (Jvm.Term.field (Jvm.Term.string "TwelveChainModel" (109 : Nat)) "java/lang/String" "value" "[B") (Jvm.Term.int (3 : Int32))) (Jvm.Term.int (116 : Int32))) (Jvm.Cond.and (Jvm.Cond.eq (Jvm.Term.elem (Jvm.Term.field (Jvm.Term.string "TwelveChainModel" (109 : Nat)) "java/lang/String" "value" "[B") (Jvm.Term.int (4 : Int32))) (Jvm.Term.int (104 : Int32))) (Jvm.Cond.not (Jvm.Cond.eq (Jvm.Term.string "TwelveChain$Tape" (52 : Nat)) (Jvm.Term.string "TwelveChainModel" (109 : Nat)))))) (Jvm.Cond.and (Jvm.Cond.not (Jvm.Cond.eq (Jvm.Term.string "TwelveChainModel" (121 : Nat)) (Jvm.Term.string "TwelveChainModel" (109 : Nat)))) (Jvm.Cond.and (Jvm.Cond.not (Jvm.Cond.eq (Jvm.Term.string "TwelveChainModel" (123 : Nat)) (Jvm.Term.string "TwelveChainModel" (109 : Nat)))) (Jvm.Cond.not (Jvm.Cond.eq (Jvm.Term.string "TwelveChainModel" (125 : Nat)) (Jvm.Term.string "TwelveChainModel" (109 : Nat)))))))))
theorem pz_fi15 : ∀ w, w ∈ flatC pz_fb15 → w ∈ flatC (Jvm.Cond.and given_1 narrow_1) := fun w h => (pz_fqR (pz_fqL (pz_fqR (pz_fqR (pz_fqR (pz_fqR h))))))
noncomputable def pz_fb16 : Jvm.Cond := (Jvm.Cond.and (Jvm.Cond.and (Jvm.Cond.and (Jvm.Cond.and (Jvm.Cond.not (Jvm.Cond.eq (Jvm.Term.string "TwelveChainModel" (127 : Nat)) (Jvm.Term.string "TwelveChainModel" (109 : Nat)))) (Jvm.Cond.not (Jvm.Cond.eq (Jvm.Term.string "TwelveChainModel" (129 : Nat)) (Jvm.Term.string "TwelveChainModel" (109 : Nat))))) (Jvm.Cond.and (Jvm.Cond.not (Jvm.Cond.eq (Jvm.Term.string "TwelveChainModel" (131 : Nat)) (Jvm.Term.string "TwelveChainModel" (109 : Nat)))) (Jvm.Cond.and (Jvm.Cond.not (Jvm.Cond.eq (Jvm.Term.string "TwelveChainModel" (133 : Nat)) (Jvm.Term.string "TwelveChainModel" (109 : Nat)))) (Jvm.Cond.not (Jvm.Cond.eq (Jvm.Term.string "TwelveChainModel" (135 : Nat)) (Jvm.Term.string "TwelveChainModel" (109 : Nat))))))) (Jvm.Cond.and (Jvm.Cond.and (Jvm.Cond.not (Jvm.Cond.eq (Jvm.Term.string "TwelveChainModel" (99 : Nat)) (Jvm.Term.string "TwelveChainModel" (109 : Nat)))) (Jvm.Cond.not (Jvm.Cond.eq (Jvm.Term.string "TwelveChainModel" (105 : Nat)) (Jvm.Term.string "TwelveChainModel" (109 : Nat))))) (Jvm.Cond.and (Jvm.Cond.not (Jvm.Cond.eq (Jvm.Term.string "TwelveChainModel" (107 : Nat)) (Jvm.Term.string "TwelveChainModel" (109 : Nat)))) (Jvm.Cond.and (Jvm.Cond.exactly (Jvm.Term.string "TwelveChainModel" (111 : Nat)) "java/lang/String") (Jvm.Cond.eq (Jvm.Term.field (Jvm.Term.string "TwelveChainModel" (111 : Nat)) "java/lang/String" "coder" "B") (Jvm.Term.int (0 : Int32))))))) (Jvm.Cond.and (Jvm.Cond.and (Jvm.Cond.and (Jvm.Cond.arrayOf (Jvm.Term.field (Jvm.Term.string "TwelveChainModel" (111 : Nat)) "java/lang/String" "value" "[B") Jvm.ClassFile.FieldType.byte) (Jvm.Cond.eq (Jvm.Term.length (Jvm.Term.field (Jvm.Term.string "TwelveChainModel" (111 : Nat)) "java/lang/String" "value" "[B")) (Jvm.Term.int (4 : Int32)))) (Jvm.Cond.and (Jvm.Cond.eq (Jvm.Term.elem (Jvm.Term.field (Jvm.Term.string "TwelveChainModel" (111 : Nat)) "java/lang/String" "value" "[B") (Jvm.Term.int (0 : Int32))) (Jvm.Term.int (115 : Int32))) (Jvm.Cond.and (Jvm.Cond.eq (Jvm.Term.elem (Jvm.Term.field (Jvm.Term.string "TwelveChainModel" (111 : Nat)) "java/lang/String" "value" "[B") (Jvm.Term.int (1 : Int32))) (Jvm.Term.int (108 : Int32))) (Jvm.Cond.eq (Jvm.Term.elem (Jvm.Term.field (Jvm.Term.string "TwelveChainModel" (111 : Nat)) "java/lang/String" "value" "[B") (Jvm.Term.int (2 : Int32))) (Jvm.Term.int (111 : Int32)))))) (Jvm.Cond.and (Jvm.Cond.and (Jvm.Cond.eq (Jvm.Term.elem (Jvm.Term.field (Jvm.Term.string "TwelveChainModel" (111 : Nat)) "java/lang/String" "value" "[B") (Jvm.Term.int (3 : Int32))) (Jvm.Term.int (119 : Int32))) (Jvm.Cond.not (Jvm.Cond.eq (Jvm.Term.string "TwelveChain$Tape" (52 : Nat)) (Jvm.Term.string "TwelveChainModel" (111 : Nat))))) (Jvm.Cond.and (Jvm.Cond.not (Jvm.Cond.eq (Jvm.Term.string "TwelveChainModel" (121 : Nat)) (Jvm.Term.string "TwelveChainModel" (111 : Nat)))) (Jvm.Cond.and (Jvm.Cond.not (Jvm.Cond.eq (Jvm.Term.string "TwelveChainModel" (123 : Nat)) (Jvm.Term.string "TwelveChainModel" (111 : Nat)))) (Jvm.Cond.not (Jvm.Cond.eq (Jvm.Term.string "TwelveChainModel" (125 : Nat)) (Jvm.Term.string "TwelveChainModel" (111 : Nat)))))))))
theorem pz_fi16 : ∀ w, w ∈ flatC pz_fb16 → w ∈ flatC (Jvm.Cond.and given_1 narrow_1) := fun w h => (pz_fqR (pz_fqR (pz_fqL (pz_fqL (pz_fqL (pz_fqL h))))))
noncomputable def pz_fb17 : Jvm.Cond := (Jvm.Cond.and (Jvm.Cond.and (Jvm.Cond.and (Jvm.Cond.and (Jvm.Cond.not (Jvm.Cond.eq (Jvm.Term.string "TwelveChainModel" (127 : Nat)) (Jvm.Term.string "TwelveChainModel" (111 : Nat)))) (Jvm.Cond.not (Jvm.Cond.eq (Jvm.Term.string "TwelveChainModel" (129 : Nat)) (Jvm.Term.string "TwelveChainModel" (111 : Nat))))) (Jvm.Cond.and (Jvm.Cond.not (Jvm.Cond.eq (Jvm.Term.string "TwelveChainModel" (131 : Nat)) (Jvm.Term.string "TwelveChainModel" (111 : Nat)))) (Jvm.Cond.and (Jvm.Cond.not (Jvm.Cond.eq (Jvm.Term.string "TwelveChainModel" (133 : Nat)) (Jvm.Term.string "TwelveChainModel" (111 : Nat)))) (Jvm.Cond.not (Jvm.Cond.eq (Jvm.Term.string "TwelveChainModel" (135 : Nat)) (Jvm.Term.string "TwelveChainModel" (111 : Nat))))))) (Jvm.Cond.and (Jvm.Cond.and (Jvm.Cond.not (Jvm.Cond.eq (Jvm.Term.string "TwelveChainModel" (99 : Nat)) (Jvm.Term.string "TwelveChainModel" (111 : Nat)))) (Jvm.Cond.not (Jvm.Cond.eq (Jvm.Term.string "TwelveChainModel" (105 : Nat)) (Jvm.Term.string "TwelveChainModel" (111 : Nat))))) (Jvm.Cond.and (Jvm.Cond.not (Jvm.Cond.eq (Jvm.Term.string "TwelveChainModel" (107 : Nat)) (Jvm.Term.string "TwelveChainModel" (111 : Nat)))) (Jvm.Cond.and (Jvm.Cond.not (Jvm.Cond.eq (Jvm.Term.string "TwelveChainModel" (109 : Nat)) (Jvm.Term.string "TwelveChainModel" (111 : Nat)))) (Jvm.Cond.exactly (Jvm.Term.string "TwelveChainModel" (113 : Nat)) "java/lang/String"))))) (Jvm.Cond.and (Jvm.Cond.and (Jvm.Cond.and (Jvm.Cond.eq (Jvm.Term.field (Jvm.Term.string "TwelveChainModel" (113 : Nat)) "java/lang/String" "coder" "B") (Jvm.Term.int (0 : Int32))) (Jvm.Cond.arrayOf (Jvm.Term.field (Jvm.Term.string "TwelveChainModel" (113 : Nat)) "java/lang/String" "value" "[B") Jvm.ClassFile.FieldType.byte)) (Jvm.Cond.and (Jvm.Cond.eq (Jvm.Term.length (Jvm.Term.field (Jvm.Term.string "TwelveChainModel" (113 : Nat)) "java/lang/String" "value" "[B")) (Jvm.Term.int (3 : Int32))) (Jvm.Cond.and (Jvm.Cond.eq (Jvm.Term.elem (Jvm.Term.field (Jvm.Term.string "TwelveChainModel" (113 : Nat)) "java/lang/String" "value" "[B") (Jvm.Term.int (0 : Int32))) (Jvm.Term.int (100 : Int32))) (Jvm.Cond.eq (Jvm.Term.elem (Jvm.Term.field (Jvm.Term.string "TwelveChainModel" (113 : Nat)) "java/lang/String" "value" "[B") (Jvm.Term.int (1 : Int32))) (Jvm.Term.int (97 : Int32)))))) (Jvm.Cond.and (Jvm.Cond.and (Jvm.Cond.eq (Jvm.Term.elem (Jvm.Term.field (Jvm.Term.string "TwelveChainModel" (113 : Nat)) "java/lang/String" "value" "[B") (Jvm.Term.int (2 : Int32))) (Jvm.Term.int (121 : Int32))) (Jvm.Cond.not (Jvm.Cond.eq (Jvm.Term.string "TwelveChain$Tape" (52 : Nat)) (Jvm.Term.string "TwelveChainModel" (113 : Nat))))) (Jvm.Cond.and (Jvm.Cond.not (Jvm.Cond.eq (Jvm.Term.string "TwelveChainModel" (121 : Nat)) (Jvm.Term.string "TwelveChainModel" (113 : Nat)))) (Jvm.Cond.and (Jvm.Cond.not (Jvm.Cond.eq (Jvm.Term.string "TwelveChainModel" (123 : Nat)) (Jvm.Term.string "TwelveChainModel" (113 : Nat)))) (Jvm.Cond.not (Jvm.Cond.eq (Jvm.Term.string "TwelveChainModel" (125 : Nat)) (Jvm.Term.string "TwelveChainModel" (113 : Nat)))))))))
theorem pz_fi17 : ∀ w, w ∈ flatC pz_fb17 → w ∈ flatC (Jvm.Cond.and given_1 narrow_1) := fun w h => (pz_fqR (pz_fqR (pz_fqL (pz_fqL (pz_fqL (pz_fqR h))))))
noncomputable def pz_fb18 : Jvm.Cond := (Jvm.Cond.and (Jvm.Cond.and (Jvm.Cond.and (Jvm.Cond.and (Jvm.Cond.not (Jvm.Cond.eq (Jvm.Term.string "TwelveChainModel" (127 : Nat)) (Jvm.Term.string "TwelveChainModel" (113 : Nat)))) (Jvm.Cond.not (Jvm.Cond.eq (Jvm.Term.string "TwelveChainModel" (129 : Nat)) (Jvm.Term.string "TwelveChainModel" (113 : Nat))))) (Jvm.Cond.and (Jvm.Cond.not (Jvm.Cond.eq (Jvm.Term.string "TwelveChainModel" (131 : Nat)) (Jvm.Term.string "TwelveChainModel" (113 : Nat)))) (Jvm.Cond.and (Jvm.Cond.not (Jvm.Cond.eq (Jvm.Term.string "TwelveChainModel" (133 : Nat)) (Jvm.Term.string "TwelveChainModel" (113 : Nat)))) (Jvm.Cond.not (Jvm.Cond.eq (Jvm.Term.string "TwelveChainModel" (135 : Nat)) (Jvm.Term.string "TwelveChainModel" (113 : Nat))))))) (Jvm.Cond.and (Jvm.Cond.and (Jvm.Cond.not (Jvm.Cond.eq (Jvm.Term.string "TwelveChainModel" (99 : Nat)) (Jvm.Term.string "TwelveChainModel" (113 : Nat)))) (Jvm.Cond.not (Jvm.Cond.eq (Jvm.Term.string "TwelveChainModel" (105 : Nat)) (Jvm.Term.string "TwelveChainModel" (113 : Nat))))) (Jvm.Cond.and (Jvm.Cond.not (Jvm.Cond.eq (Jvm.Term.string "TwelveChainModel" (107 : Nat)) (Jvm.Term.string "TwelveChainModel" (113 : Nat)))) (Jvm.Cond.and (Jvm.Cond.not (Jvm.Cond.eq (Jvm.Term.string "TwelveChainModel" (109 : Nat)) (Jvm.Term.string "TwelveChainModel" (113 : Nat)))) (Jvm.Cond.not (Jvm.Cond.eq (Jvm.Term.string "TwelveChainModel" (111 : Nat)) (Jvm.Term.string "TwelveChainModel" (113 : Nat)))))))) (Jvm.Cond.and (Jvm.Cond.and (Jvm.Cond.and (Jvm.Cond.exactly (Jvm.Term.string "TwelveChainModel" (115 : Nat)) "java/lang/String") (Jvm.Cond.eq (Jvm.Term.field (Jvm.Term.string "TwelveChainModel" (115 : Nat)) "java/lang/String" "coder" "B") (Jvm.Term.int (0 : Int32)))) (Jvm.Cond.and (Jvm.Cond.arrayOf (Jvm.Term.field (Jvm.Term.string "TwelveChainModel" (115 : Nat)) "java/lang/String" "value" "[B") Jvm.ClassFile.FieldType.byte) (Jvm.Cond.and (Jvm.Cond.eq (Jvm.Term.length (Jvm.Term.field (Jvm.Term.string "TwelveChainModel" (115 : Nat)) "java/lang/String" "value" "[B")) (Jvm.Term.int (5 : Int32))) (Jvm.Cond.eq (Jvm.Term.elem (Jvm.Term.field (Jvm.Term.string "TwelveChainModel" (115 : Nat)) "java/lang/String" "value" "[B") (Jvm.Term.int (0 : Int32))) (Jvm.Term.int (108 : Int32)))))) (Jvm.Cond.and (Jvm.Cond.and (Jvm.Cond.eq (Jvm.Term.elem (Jvm.Term.field (Jvm.Term.string "TwelveChainModel" (115 : Nat)) "java/lang/String" "value" "[B") (Jvm.Term.int (1 : Int32))) (Jvm.Term.int (105 : Int32))) (Jvm.Cond.eq (Jvm.Term.elem (Jvm.Term.field (Jvm.Term.string "TwelveChainModel" (115 : Nat)) "java/lang/String" "value" "[B") (Jvm.Term.int (2 : Int32))) (Jvm.Term.int (110 : Int32)))) (Jvm.Cond.and (Jvm.Cond.eq (Jvm.Term.elem (Jvm.Term.field (Jvm.Term.string "TwelveChainModel" (115 : Nat)) "java/lang/String" "value" "[B") (Jvm.Term.int (3 : Int32))) (Jvm.Term.int (107 : Int32))) (Jvm.Cond.and (Jvm.Cond.eq (Jvm.Term.elem (Jvm.Term.field (Jvm.Term.string "TwelveChainModel" (115 : Nat)) "java/lang/String" "value" "[B") (Jvm.Term.int (4 : Int32))) (Jvm.Term.int (115 : Int32))) (Jvm.Cond.not (Jvm.Cond.eq (Jvm.Term.string "TwelveChain$Tape" (52 : Nat)) (Jvm.Term.string "TwelveChainModel" (115 : Nat)))))))))
theorem pz_fi18 : ∀ w, w ∈ flatC pz_fb18 → w ∈ flatC (Jvm.Cond.and given_1 narrow_1) := fun w h => (pz_fqR (pz_fqR (pz_fqL (pz_fqL (pz_fqR (pz_fqL h))))))
noncomputable def pz_fb19 : Jvm.Cond := (Jvm.Cond.and (Jvm.Cond.and (Jvm.Cond.and (Jvm.Cond.and (Jvm.Cond.not (Jvm.Cond.eq (Jvm.Term.string "TwelveChainModel" (121 : Nat)) (Jvm.Term.string "TwelveChainModel" (115 : Nat)))) (Jvm.Cond.not (Jvm.Cond.eq (Jvm.Term.string "TwelveChainModel" (123 : Nat)) (Jvm.Term.string "TwelveChainModel" (115 : Nat))))) (Jvm.Cond.and (Jvm.Cond.not (Jvm.Cond.eq (Jvm.Term.string "TwelveChainModel" (125 : Nat)) (Jvm.Term.string "TwelveChainModel" (115 : Nat)))) (Jvm.Cond.and (Jvm.Cond.not (Jvm.Cond.eq (Jvm.Term.string "TwelveChainModel" (127 : Nat)) (Jvm.Term.string "TwelveChainModel" (115 : Nat)))) (Jvm.Cond.not (Jvm.Cond.eq (Jvm.Term.string "TwelveChainModel" (129 : Nat)) (Jvm.Term.string "TwelveChainModel" (115 : Nat))))))) (Jvm.Cond.and (Jvm.Cond.and (Jvm.Cond.not (Jvm.Cond.eq (Jvm.Term.string "TwelveChainModel" (131 : Nat)) (Jvm.Term.string "TwelveChainModel" (115 : Nat)))) (Jvm.Cond.not (Jvm.Cond.eq (Jvm.Term.string "TwelveChainModel" (133 : Nat)) (Jvm.Term.string "TwelveChainModel" (115 : Nat))))) (Jvm.Cond.and (Jvm.Cond.not (Jvm.Cond.eq (Jvm.Term.string "TwelveChainModel" (135 : Nat)) (Jvm.Term.string "TwelveChainModel" (115 : Nat)))) (Jvm.Cond.and (Jvm.Cond.not (Jvm.Cond.eq (Jvm.Term.string "TwelveChainModel" (99 : Nat)) (Jvm.Term.string "TwelveChainModel" (115 : Nat)))) (Jvm.Cond.not (Jvm.Cond.eq (Jvm.Term.string "TwelveChainModel" (105 : Nat)) (Jvm.Term.string "TwelveChainModel" (115 : Nat)))))))) (Jvm.Cond.and (Jvm.Cond.and (Jvm.Cond.and (Jvm.Cond.not (Jvm.Cond.eq (Jvm.Term.string "TwelveChainModel" (107 : Nat)) (Jvm.Term.string "TwelveChainModel" (115 : Nat)))) (Jvm.Cond.not (Jvm.Cond.eq (Jvm.Term.string "TwelveChainModel" (109 : Nat)) (Jvm.Term.string "TwelveChainModel" (115 : Nat))))) (Jvm.Cond.and (Jvm.Cond.not (Jvm.Cond.eq (Jvm.Term.string "TwelveChainModel" (111 : Nat)) (Jvm.Term.string "TwelveChainModel" (115 : Nat)))) (Jvm.Cond.and (Jvm.Cond.not (Jvm.Cond.eq (Jvm.Term.string "TwelveChainModel" (113 : Nat)) (Jvm.Term.string "TwelveChainModel" (115 : Nat)))) (Jvm.Cond.exactly (Jvm.Term.string "TwelveChainModel" (117 : Nat)) "java/lang/String")))) (Jvm.Cond.and (Jvm.Cond.and (Jvm.Cond.eq (Jvm.Term.field (Jvm.Term.string "TwelveChainModel" (117 : Nat)) "java/lang/String" "coder" "B") (Jvm.Term.int (0 : Int32))) (Jvm.Cond.and (Jvm.Cond.arrayOf (Jvm.Term.field (Jvm.Term.string "TwelveChainModel" (117 : Nat)) "java/lang/String" "value" "[B") Jvm.ClassFile.FieldType.byte) (Jvm.Cond.eq (Jvm.Term.length (Jvm.Term.field (Jvm.Term.string "TwelveChainModel" (117 : Nat)) "java/lang/String" "value" "[B")) (Jvm.Term.int (7 : Int32))))) (Jvm.Cond.and (Jvm.Cond.eq (Jvm.Term.elem (Jvm.Term.field (Jvm.Term.string "TwelveChainModel" (117 : Nat)) "java/lang/String" "value" "[B") (Jvm.Term.int (0 : Int32))) (Jvm.Term.int (98 : Int32))) (Jvm.Cond.and (Jvm.Cond.eq (Jvm.Term.elem (Jvm.Term.field (Jvm.Term.string "TwelveChainModel" (117 : Nat)) "java/lang/String" "value" "[B") (Jvm.Term.int (1 : Int32))) (Jvm.Term.int (114 : Int32))) (Jvm.Cond.eq (Jvm.Term.elem (Jvm.Term.field (Jvm.Term.string "TwelveChainModel" (117 : Nat)) "java/lang/String" "value" "[B") (Jvm.Term.int (2 : Int32))) (Jvm.Term.int (105 : Int32))))))))
theorem pz_fi19 : ∀ w, w ∈ flatC pz_fb19 → w ∈ flatC (Jvm.Cond.and given_1 narrow_1) := fun w h => (pz_fqR (pz_fqR (pz_fqL (pz_fqL (pz_fqR (pz_fqR h))))))
noncomputable def pz_fb20 : Jvm.Cond := (Jvm.Cond.and (Jvm.Cond.and (Jvm.Cond.and (Jvm.Cond.and (Jvm.Cond.eq (Jvm.Term.elem (Jvm.Term.field (Jvm.Term.string "TwelveChainModel" (117 : Nat)) "java/lang/String" "value" "[B") (Jvm.Term.int (3 : Int32))) (Jvm.Term.int (100 : Int32))) (Jvm.Cond.eq (Jvm.Term.elem (Jvm.Term.field (Jvm.Term.string "TwelveChainModel" (117 : Nat)) "java/lang/String" "value" "[B") (Jvm.Term.int (4 : Int32))) (Jvm.Term.int (103 : Int32)))) (Jvm.Cond.and (Jvm.Cond.eq (Jvm.Term.elem (Jvm.Term.field (Jvm.Term.string "TwelveChainModel" (117 : Nat)) "java/lang/String" "value" "[B") (Jvm.Term.int (5 : Int32))) (Jvm.Term.int (101 : Int32))) (Jvm.Cond.and (Jvm.Cond.eq (Jvm.Term.elem (Jvm.Term.field (Jvm.Term.string "TwelveChainModel" (117 : Nat)) "java/lang/String" "value" "[B") (Jvm.Term.int (6 : Int32))) (Jvm.Term.int (100 : Int32))) (Jvm.Cond.not (Jvm.Cond.eq (Jvm.Term.string "TwelveChain$Tape" (52 : Nat)) (Jvm.Term.string "TwelveChainModel" (117 : Nat))))))) (Jvm.Cond.and (Jvm.Cond.and (Jvm.Cond.not (Jvm.Cond.eq (Jvm.Term.string "TwelveChainModel" (121 : Nat)) (Jvm.Term.string "TwelveChainModel" (117 : Nat)))) (Jvm.Cond.not (Jvm.Cond.eq (Jvm.Term.string "TwelveChainModel" (123 : Nat)) (Jvm.Term.string "TwelveChainModel" (117 : Nat))))) (Jvm.Cond.and (Jvm.Cond.not (Jvm.Cond.eq (Jvm.Term.string "TwelveChainModel" (125 : Nat)) (Jvm.Term.string "TwelveChainModel" (117 : Nat)))) (Jvm.Cond.and (Jvm.Cond.not (Jvm.Cond.eq (Jvm.Term.string "TwelveChainModel" (127 : Nat)) (Jvm.Term.string "TwelveChainModel" (117 : Nat)))) (Jvm.Cond.not (Jvm.Cond.eq (Jvm.Term.string "TwelveChainModel" (129 : Nat)) (Jvm.Term.string "TwelveChainModel" (117 : Nat)))))))) (Jvm.Cond.and (Jvm.Cond.and (Jvm.Cond.and (Jvm.Cond.not (Jvm.Cond.eq (Jvm.Term.string "TwelveChainModel" (131 : Nat)) (Jvm.Term.string "TwelveChainModel" (117 : Nat)))) (Jvm.Cond.not (Jvm.Cond.eq (Jvm.Term.string "TwelveChainModel" (133 : Nat)) (Jvm.Term.string "TwelveChainModel" (117 : Nat))))) (Jvm.Cond.and (Jvm.Cond.not (Jvm.Cond.eq (Jvm.Term.string "TwelveChainModel" (135 : Nat)) (Jvm.Term.string "TwelveChainModel" (117 : Nat)))) (Jvm.Cond.and (Jvm.Cond.not (Jvm.Cond.eq (Jvm.Term.string "TwelveChainModel" (99 : Nat)) (Jvm.Term.string "TwelveChainModel" (117 : Nat)))) (Jvm.Cond.not (Jvm.Cond.eq (Jvm.Term.string "TwelveChainModel" (105 : Nat)) (Jvm.Term.string "TwelveChainModel" (117 : Nat))))))) (Jvm.Cond.and (Jvm.Cond.and (Jvm.Cond.not (Jvm.Cond.eq (Jvm.Term.string "TwelveChainModel" (107 : Nat)) (Jvm.Term.string "TwelveChainModel" (117 : Nat)))) (Jvm.Cond.not (Jvm.Cond.eq (Jvm.Term.string "TwelveChainModel" (109 : Nat)) (Jvm.Term.string "TwelveChainModel" (117 : Nat))))) (Jvm.Cond.and (Jvm.Cond.not (Jvm.Cond.eq (Jvm.Term.string "TwelveChainModel" (111 : Nat)) (Jvm.Term.string "TwelveChainModel" (117 : Nat)))) (Jvm.Cond.and (Jvm.Cond.not (Jvm.Cond.eq (Jvm.Term.string "TwelveChainModel" (113 : Nat)) (Jvm.Term.string "TwelveChainModel" (117 : Nat)))) (Jvm.Cond.not (Jvm.Cond.eq (Jvm.Term.string "TwelveChainModel" (115 : Nat)) (Jvm.Term.string "TwelveChainModel" (117 : Nat)))))))))
theorem pz_fi20 : ∀ w, w ∈ flatC pz_fb20 → w ∈ flatC (Jvm.Cond.and given_1 narrow_1) := fun w h => (pz_fqR (pz_fqR (pz_fqL (pz_fqR (pz_fqL (pz_fqL h))))))
noncomputable def pz_fb21 : Jvm.Cond := (Jvm.Cond.and (Jvm.Cond.and (Jvm.Cond.and (Jvm.Cond.and (Jvm.Cond.exactly (Jvm.Term.string "TwelveChainModel" (119 : Nat)) "java/lang/String") (Jvm.Cond.eq (Jvm.Term.field (Jvm.Term.string "TwelveChainModel" (119 : Nat)) "java/lang/String" "coder" "B") (Jvm.Term.int (0 : Int32)))) (Jvm.Cond.and (Jvm.Cond.arrayOf (Jvm.Term.field (Jvm.Term.string "TwelveChainModel" (119 : Nat)) "java/lang/String" "value" "[B") Jvm.ClassFile.FieldType.byte) (Jvm.Cond.and (Jvm.Cond.eq (Jvm.Term.length (Jvm.Term.field (Jvm.Term.string "TwelveChainModel" (119 : Nat)) "java/lang/String" "value" "[B")) (Jvm.Term.int (5 : Int32))) (Jvm.Cond.eq (Jvm.Term.elem (Jvm.Term.field (Jvm.Term.string "TwelveChainModel" (119 : Nat)) "java/lang/String" "value" "[B") (Jvm.Term.int (0 : Int32))) (Jvm.Term.int (108 : Int32)))))) (Jvm.Cond.and (Jvm.Cond.and (Jvm.Cond.eq (Jvm.Term.elem (Jvm.Term.field (Jvm.Term.string "TwelveChainModel" (119 : Nat)) "java/lang/String" "value" "[B") (Jvm.Term.int (1 : Int32))) (Jvm.Term.int (97 : Int32))) (Jvm.Cond.eq (Jvm.Term.elem (Jvm.Term.field (Jvm.Term.string "TwelveChainModel" (119 : Nat)) "java/lang/String" "value" "[B") (Jvm.Term.int (2 : Int32))) (Jvm.Term.int (99 : Int32)))) (Jvm.Cond.and (Jvm.Cond.eq (Jvm.Term.elem (Jvm.Term.field (Jvm.Term.string "TwelveChainModel" (119 : Nat)) "java/lang/String" "value" "[B") (Jvm.Term.int (3 : Int32))) (Jvm.Term.int (107 : Int32))) (Jvm.Cond.and (Jvm.Cond.eq (Jvm.Term.elem (Jvm.Term.field (Jvm.Term.string "TwelveChainModel" (119 : Nat)) "java/lang/String" "value" "[B") (Jvm.Term.int (4 : Int32))) (Jvm.Term.int (115 : Int32))) (Jvm.Cond.not (Jvm.Cond.eq (Jvm.Term.string "TwelveChain$Tape" (52 : Nat)) (Jvm.Term.string "TwelveChainModel" (119 : Nat)))))))) (Jvm.Cond.and (Jvm.Cond.and (Jvm.Cond.and (Jvm.Cond.not (Jvm.Cond.eq (Jvm.Term.string "TwelveChainModel" (121 : Nat)) (Jvm.Term.string "TwelveChainModel" (119 : Nat)))) (Jvm.Cond.not (Jvm.Cond.eq (Jvm.Term.string "TwelveChainModel" (123 : Nat)) (Jvm.Term.string "TwelveChainModel" (119 : Nat))))) (Jvm.Cond.and (Jvm.Cond.not (Jvm.Cond.eq (Jvm.Term.string "TwelveChainModel" (125 : Nat)) (Jvm.Term.string "TwelveChainModel" (119 : Nat)))) (Jvm.Cond.and (Jvm.Cond.not (Jvm.Cond.eq (Jvm.Term.string "TwelveChainModel" (127 : Nat)) (Jvm.Term.string "TwelveChainModel" (119 : Nat)))) (Jvm.Cond.not (Jvm.Cond.eq (Jvm.Term.string "TwelveChainModel" (129 : Nat)) (Jvm.Term.string "TwelveChainModel" (119 : Nat))))))) (Jvm.Cond.and (Jvm.Cond.and (Jvm.Cond.not (Jvm.Cond.eq (Jvm.Term.string "TwelveChainModel" (131 : Nat)) (Jvm.Term.string "TwelveChainModel" (119 : Nat)))) (Jvm.Cond.and (Jvm.Cond.not (Jvm.Cond.eq (Jvm.Term.string "TwelveChainModel" (133 : Nat)) (Jvm.Term.string "TwelveChainModel" (119 : Nat)))) (Jvm.Cond.not (Jvm.Cond.eq (Jvm.Term.string "TwelveChainModel" (135 : Nat)) (Jvm.Term.string "TwelveChainModel" (119 : Nat)))))) (Jvm.Cond.and (Jvm.Cond.not (Jvm.Cond.eq (Jvm.Term.string "TwelveChainModel" (99 : Nat)) (Jvm.Term.string "TwelveChainModel" (119 : Nat)))) (Jvm.Cond.and (Jvm.Cond.not (Jvm.Cond.eq (Jvm.Term.string "TwelveChainModel" (105 : Nat)) (Jvm.Term.string "TwelveChainModel" (119 : Nat)))) (Jvm.Cond.not (Jvm.Cond.eq (Jvm.Term.string "TwelveChainModel" (107 : Nat)) (Jvm.Term.string "TwelveChainModel" (119 : Nat)))))))))
theorem pz_fi21 : ∀ w, w ∈ flatC pz_fb21 → w ∈ flatC (Jvm.Cond.and given_1 narrow_1) := fun w h => (pz_fqR (pz_fqR (pz_fqL (pz_fqR (pz_fqL (pz_fqR h))))))
noncomputable def pz_fb22 : Jvm.Cond := (Jvm.Cond.and (Jvm.Cond.and (Jvm.Cond.and (Jvm.Cond.and (Jvm.Cond.not (Jvm.Cond.eq (Jvm.Term.string "TwelveChainModel" (109 : Nat)) (Jvm.Term.string "TwelveChainModel" (119 : Nat)))) (Jvm.Cond.not (Jvm.Cond.eq (Jvm.Term.string "TwelveChainModel" (111 : Nat)) (Jvm.Term.string "TwelveChainModel" (119 : Nat))))) (Jvm.Cond.and (Jvm.Cond.not (Jvm.Cond.eq (Jvm.Term.string "TwelveChainModel" (113 : Nat)) (Jvm.Term.string "TwelveChainModel" (119 : Nat)))) (Jvm.Cond.and (Jvm.Cond.not (Jvm.Cond.eq (Jvm.Term.string "TwelveChainModel" (115 : Nat)) (Jvm.Term.string "TwelveChainModel" (119 : Nat)))) (Jvm.Cond.not (Jvm.Cond.eq (Jvm.Term.string "TwelveChainModel" (117 : Nat)) (Jvm.Term.string "TwelveChainModel" (119 : Nat))))))) (Jvm.Cond.and (Jvm.Cond.and (Jvm.Cond.exactly (Jvm.Term.string "TwelveChainModel" (140 : Nat)) "java/lang/String") (Jvm.Cond.eq (Jvm.Term.field (Jvm.Term.string "TwelveChainModel" (140 : Nat)) "java/lang/String" "coder" "B") (Jvm.Term.int (0 : Int32)))) (Jvm.Cond.and (Jvm.Cond.arrayOf (Jvm.Term.field (Jvm.Term.string "TwelveChainModel" (140 : Nat)) "java/lang/String" "value" "[B") Jvm.ClassFile.FieldType.byte) (Jvm.Cond.and (Jvm.Cond.eq (Jvm.Term.length (Jvm.Term.field (Jvm.Term.string "TwelveChainModel" (140 : Nat)) "java/lang/String" "value" "[B")) (Jvm.Term.int (2 : Int32))) (Jvm.Cond.eq (Jvm.Term.elem (Jvm.Term.field (Jvm.Term.string "TwelveChainModel" (140 : Nat)) "java/lang/String" "value" "[B") (Jvm.Term.int (0 : Int32))) (Jvm.Term.int (111 : Int32))))))) (Jvm.Cond.and (Jvm.Cond.and (Jvm.Cond.and (Jvm.Cond.eq (Jvm.Term.elem (Jvm.Term.field (Jvm.Term.string "TwelveChainModel" (140 : Nat)) "java/lang/String" "value" "[B") (Jvm.Term.int (1 : Int32))) (Jvm.Term.int (110 : Int32))) (Jvm.Cond.not (Jvm.Cond.eq (Jvm.Term.string "TwelveChain$Tape" (52 : Nat)) (Jvm.Term.string "TwelveChainModel" (140 : Nat))))) (Jvm.Cond.and (Jvm.Cond.not (Jvm.Cond.eq (Jvm.Term.string "TwelveChainModel" (121 : Nat)) (Jvm.Term.string "TwelveChainModel" (140 : Nat)))) (Jvm.Cond.and (Jvm.Cond.not (Jvm.Cond.eq (Jvm.Term.string "TwelveChainModel" (123 : Nat)) (Jvm.Term.string "TwelveChainModel" (140 : Nat)))) (Jvm.Cond.not (Jvm.Cond.eq (Jvm.Term.string "TwelveChainModel" (125 : Nat)) (Jvm.Term.string "TwelveChainModel" (140 : Nat))))))) (Jvm.Cond.and (Jvm.Cond.and (Jvm.Cond.not (Jvm.Cond.eq (Jvm.Term.string "TwelveChainModel" (127 : Nat)) (Jvm.Term.string "TwelveChainModel" (140 : Nat)))) (Jvm.Cond.not (Jvm.Cond.eq (Jvm.Term.string "TwelveChainModel" (129 : Nat)) (Jvm.Term.string "TwelveChainModel" (140 : Nat))))) (Jvm.Cond.and (Jvm.Cond.not (Jvm.Cond.eq (Jvm.Term.string "TwelveChainModel" (131 : Nat)) (Jvm.Term.string "TwelveChainModel" (140 : Nat)))) (Jvm.Cond.and (Jvm.Cond.not (Jvm.Cond.eq (Jvm.Term.string "TwelveChainModel" (133 : Nat)) (Jvm.Term.string "TwelveChainModel" (140 : Nat)))) (Jvm.Cond.not (Jvm.Cond.eq (Jvm.Term.string "TwelveChainModel" (135 : Nat)) (Jvm.Term.string "TwelveChainModel" (140 : Nat)))))))))
theorem pz_fi22 : ∀ w, w ∈ flatC pz_fb22 → w ∈ flatC (Jvm.Cond.and given_1 narrow_1) := fun w h => (pz_fqR (pz_fqR (pz_fqL (pz_fqR (pz_fqR (pz_fqL h))))))
noncomputable def pz_fb23 : Jvm.Cond := (Jvm.Cond.and (Jvm.Cond.and (Jvm.Cond.and (Jvm.Cond.and (Jvm.Cond.not (Jvm.Cond.eq (Jvm.Term.string "TwelveChainModel" (99 : Nat)) (Jvm.Term.string "TwelveChainModel" (140 : Nat)))) (Jvm.Cond.not (Jvm.Cond.eq (Jvm.Term.string "TwelveChainModel" (105 : Nat)) (Jvm.Term.string "TwelveChainModel" (140 : Nat))))) (Jvm.Cond.and (Jvm.Cond.not (Jvm.Cond.eq (Jvm.Term.string "TwelveChainModel" (107 : Nat)) (Jvm.Term.string "TwelveChainModel" (140 : Nat)))) (Jvm.Cond.and (Jvm.Cond.not (Jvm.Cond.eq (Jvm.Term.string "TwelveChainModel" (109 : Nat)) (Jvm.Term.string "TwelveChainModel" (140 : Nat)))) (Jvm.Cond.not (Jvm.Cond.eq (Jvm.Term.string "TwelveChainModel" (111 : Nat)) (Jvm.Term.string "TwelveChainModel" (140 : Nat))))))) (Jvm.Cond.and (Jvm.Cond.and (Jvm.Cond.not (Jvm.Cond.eq (Jvm.Term.string "TwelveChainModel" (113 : Nat)) (Jvm.Term.string "TwelveChainModel" (140 : Nat)))) (Jvm.Cond.not (Jvm.Cond.eq (Jvm.Term.string "TwelveChainModel" (115 : Nat)) (Jvm.Term.string "TwelveChainModel" (140 : Nat))))) (Jvm.Cond.and (Jvm.Cond.not (Jvm.Cond.eq (Jvm.Term.string "TwelveChainModel" (117 : Nat)) (Jvm.Term.string "TwelveChainModel" (140 : Nat)))) (Jvm.Cond.and (Jvm.Cond.not (Jvm.Cond.eq (Jvm.Term.string "TwelveChainModel" (119 : Nat)) (Jvm.Term.string "TwelveChainModel" (140 : Nat)))) (Jvm.Cond.exactly (Jvm.Term.string "TwelveChainModel" (142 : Nat)) "java/lang/String"))))) (Jvm.Cond.and (Jvm.Cond.and (Jvm.Cond.and (Jvm.Cond.eq (Jvm.Term.field (Jvm.Term.string "TwelveChainModel" (142 : Nat)) "java/lang/String" "coder" "B") (Jvm.Term.int (0 : Int32))) (Jvm.Cond.arrayOf (Jvm.Term.field (Jvm.Term.string "TwelveChainModel" (142 : Nat)) "java/lang/String" "value" "[B") Jvm.ClassFile.FieldType.byte)) (Jvm.Cond.and (Jvm.Cond.eq (Jvm.Term.length (Jvm.Term.field (Jvm.Term.string "TwelveChainModel" (142 : Nat)) "java/lang/String" "value" "[B")) (Jvm.Term.int (3 : Int32))) (Jvm.Cond.and (Jvm.Cond.eq (Jvm.Term.elem (Jvm.Term.field (Jvm.Term.string "TwelveChainModel" (142 : Nat)) "java/lang/String" "value" "[B") (Jvm.Term.int (0 : Int32))) (Jvm.Term.int (97 : Int32))) (Jvm.Cond.eq (Jvm.Term.elem (Jvm.Term.field (Jvm.Term.string "TwelveChainModel" (142 : Nat)) "java/lang/String" "value" "[B") (Jvm.Term.int (1 : Int32))) (Jvm.Term.int (115 : Int32)))))) (Jvm.Cond.and (Jvm.Cond.and (Jvm.Cond.eq (Jvm.Term.elem (Jvm.Term.field (Jvm.Term.string "TwelveChainModel" (142 : Nat)) "java/lang/String" "value" "[B") (Jvm.Term.int (2 : Int32))) (Jvm.Term.int (107 : Int32))) (Jvm.Cond.and (Jvm.Cond.not (Jvm.Cond.eq (Jvm.Term.string "TwelveChain$Tape" (52 : Nat)) (Jvm.Term.string "TwelveChainModel" (142 : Nat)))) (Jvm.Cond.not (Jvm.Cond.eq (Jvm.Term.string "TwelveChainModel" (121 : Nat)) (Jvm.Term.string "TwelveChainModel" (142 : Nat)))))) (Jvm.Cond.and (Jvm.Cond.not (Jvm.Cond.eq (Jvm.Term.string "TwelveChainModel" (123 : Nat)) (Jvm.Term.string "TwelveChainModel" (142 : Nat)))) (Jvm.Cond.and (Jvm.Cond.not (Jvm.Cond.eq (Jvm.Term.string "TwelveChainModel" (125 : Nat)) (Jvm.Term.string "TwelveChainModel" (142 : Nat)))) (Jvm.Cond.not (Jvm.Cond.eq (Jvm.Term.string "TwelveChainModel" (127 : Nat)) (Jvm.Term.string "TwelveChainModel" (142 : Nat)))))))))
theorem pz_fi23 : ∀ w, w ∈ flatC pz_fb23 → w ∈ flatC (Jvm.Cond.and given_1 narrow_1) := fun w h => (pz_fqR (pz_fqR (pz_fqL (pz_fqR (pz_fqR (pz_fqR h))))))
noncomputable def pz_fb24 : Jvm.Cond := (Jvm.Cond.and (Jvm.Cond.and (Jvm.Cond.and (Jvm.Cond.and (Jvm.Cond.not (Jvm.Cond.eq (Jvm.Term.string "TwelveChainModel" (129 : Nat)) (Jvm.Term.string "TwelveChainModel" (142 : Nat)))) (Jvm.Cond.not (Jvm.Cond.eq (Jvm.Term.string "TwelveChainModel" (131 : Nat)) (Jvm.Term.string "TwelveChainModel" (142 : Nat))))) (Jvm.Cond.and (Jvm.Cond.not (Jvm.Cond.eq (Jvm.Term.string "TwelveChainModel" (133 : Nat)) (Jvm.Term.string "TwelveChainModel" (142 : Nat)))) (Jvm.Cond.and (Jvm.Cond.not (Jvm.Cond.eq (Jvm.Term.string "TwelveChainModel" (135 : Nat)) (Jvm.Term.string "TwelveChainModel" (142 : Nat)))) (Jvm.Cond.not (Jvm.Cond.eq (Jvm.Term.string "TwelveChainModel" (99 : Nat)) (Jvm.Term.string "TwelveChainModel" (142 : Nat))))))) (Jvm.Cond.and (Jvm.Cond.and (Jvm.Cond.not (Jvm.Cond.eq (Jvm.Term.string "TwelveChainModel" (105 : Nat)) (Jvm.Term.string "TwelveChainModel" (142 : Nat)))) (Jvm.Cond.not (Jvm.Cond.eq (Jvm.Term.string "TwelveChainModel" (107 : Nat)) (Jvm.Term.string "TwelveChainModel" (142 : Nat))))) (Jvm.Cond.and (Jvm.Cond.not (Jvm.Cond.eq (Jvm.Term.string "TwelveChainModel" (109 : Nat)) (Jvm.Term.string "TwelveChainModel" (142 : Nat)))) (Jvm.Cond.and (Jvm.Cond.not (Jvm.Cond.eq (Jvm.Term.string "TwelveChainModel" (111 : Nat)) (Jvm.Term.string "TwelveChainModel" (142 : Nat)))) (Jvm.Cond.not (Jvm.Cond.eq (Jvm.Term.string "TwelveChainModel" (113 : Nat)) (Jvm.Term.string "TwelveChainModel" (142 : Nat)))))))) (Jvm.Cond.and (Jvm.Cond.and (Jvm.Cond.and (Jvm.Cond.not (Jvm.Cond.eq (Jvm.Term.string "TwelveChainModel" (115 : Nat)) (Jvm.Term.string "TwelveChainModel" (142 : Nat)))) (Jvm.Cond.not (Jvm.Cond.eq (Jvm.Term.string "TwelveChainModel" (117 : Nat)) (Jvm.Term.string "TwelveChainModel" (142 : Nat))))) (Jvm.Cond.and (Jvm.Cond.not (Jvm.Cond.eq (Jvm.Term.string "TwelveChainModel" (119 : Nat)) (Jvm.Term.string "TwelveChainModel" (142 : Nat)))) (Jvm.Cond.and (Jvm.Cond.not (Jvm.Cond.eq (Jvm.Term.string "TwelveChainModel" (140 : Nat)) (Jvm.Term.string "TwelveChainModel" (142 : Nat)))) (Jvm.Cond.exactly (Jvm.Term.string "TwelveChainModel" (144 : Nat)) "java/lang/String")))) (Jvm.Cond.and (Jvm.Cond.and (Jvm.Cond.eq (Jvm.Term.field (Jvm.Term.string "TwelveChainModel" (144 : Nat)) "java/lang/String" "coder" "B") (Jvm.Term.int (0 : Int32))) (Jvm.Cond.arrayOf (Jvm.Term.field (Jvm.Term.string "TwelveChainModel" (144 : Nat)) "java/lang/String" "value" "[B") Jvm.ClassFile.FieldType.byte)) (Jvm.Cond.and (Jvm.Cond.eq (Jvm.Term.length (Jvm.Term.field (Jvm.Term.string "TwelveChainModel" (144 : Nat)) "java/lang/String" "value" "[B")) (Jvm.Term.int (6 : Int32))) (Jvm.Cond.and (Jvm.Cond.eq (Jvm.Term.elem (Jvm.Term.field (Jvm.Term.string "TwelveChainModel" (144 : Nat)) "java/lang/String" "value" "[B") (Jvm.Term.int (0 : Int32))) (Jvm.Term.int (98 : Int32))) (Jvm.Cond.eq (Jvm.Term.elem (Jvm.Term.field (Jvm.Term.string "TwelveChainModel" (144 : Nat)) "java/lang/String" "value" "[B") (Jvm.Term.int (1 : Int32))) (Jvm.Term.int (114 : Int32))))))))
theorem pz_fi24 : ∀ w, w ∈ flatC pz_fb24 → w ∈ flatC (Jvm.Cond.and given_1 narrow_1) := fun w h => (pz_fqR (pz_fqR (pz_fqR (pz_fqL (pz_fqL (pz_fqL h))))))
noncomputable def pz_fb25 : Jvm.Cond := (Jvm.Cond.and (Jvm.Cond.and (Jvm.Cond.and (Jvm.Cond.and (Jvm.Cond.eq (Jvm.Term.elem (Jvm.Term.field (Jvm.Term.string "TwelveChainModel" (144 : Nat)) "java/lang/String" "value" "[B") (Jvm.Term.int (2 : Int32))) (Jvm.Term.int (105 : Int32))) (Jvm.Cond.eq (Jvm.Term.elem (Jvm.Term.field (Jvm.Term.string "TwelveChainModel" (144 : Nat)) "java/lang/String" "value" "[B") (Jvm.Term.int (3 : Int32))) (Jvm.Term.int (100 : Int32)))) (Jvm.Cond.and (Jvm.Cond.eq (Jvm.Term.elem (Jvm.Term.field (Jvm.Term.string "TwelveChainModel" (144 : Nat)) "java/lang/String" "value" "[B") (Jvm.Term.int (4 : Int32))) (Jvm.Term.int (103 : Int32))) (Jvm.Cond.and (Jvm.Cond.eq (Jvm.Term.elem (Jvm.Term.field (Jvm.Term.string "TwelveChainModel" (144 : Nat)) "java/lang/String" "value" "[B") (Jvm.Term.int (5 : Int32))) (Jvm.Term.int (101 : Int32))) (Jvm.Cond.not (Jvm.Cond.eq (Jvm.Term.string "TwelveChain$Tape" (52 : Nat)) (Jvm.Term.string "TwelveChainModel" (144 : Nat))))))) (Jvm.Cond.and (Jvm.Cond.and (Jvm.Cond.not (Jvm.Cond.eq (Jvm.Term.string "TwelveChainModel" (121 : Nat)) (Jvm.Term.string "TwelveChainModel" (144 : Nat)))) (Jvm.Cond.not (Jvm.Cond.eq (Jvm.Term.string "TwelveChainModel" (123 : Nat)) (Jvm.Term.string "TwelveChainModel" (144 : Nat))))) (Jvm.Cond.and (Jvm.Cond.not (Jvm.Cond.eq (Jvm.Term.string "TwelveChainModel" (125 : Nat)) (Jvm.Term.string "TwelveChainModel" (144 : Nat)))) (Jvm.Cond.and (Jvm.Cond.not (Jvm.Cond.eq (Jvm.Term.string "TwelveChainModel" (127 : Nat)) (Jvm.Term.string "TwelveChainModel" (144 : Nat)))) (Jvm.Cond.not (Jvm.Cond.eq (Jvm.Term.string "TwelveChainModel" (129 : Nat)) (Jvm.Term.string "TwelveChainModel" (144 : Nat)))))))) (Jvm.Cond.and (Jvm.Cond.and (Jvm.Cond.and (Jvm.Cond.not (Jvm.Cond.eq (Jvm.Term.string "TwelveChainModel" (131 : Nat)) (Jvm.Term.string "TwelveChainModel" (144 : Nat)))) (Jvm.Cond.not (Jvm.Cond.eq (Jvm.Term.string "TwelveChainModel" (133 : Nat)) (Jvm.Term.string "TwelveChainModel" (144 : Nat))))) (Jvm.Cond.and (Jvm.Cond.not (Jvm.Cond.eq (Jvm.Term.string "TwelveChainModel" (135 : Nat)) (Jvm.Term.string "TwelveChainModel" (144 : Nat)))) (Jvm.Cond.and (Jvm.Cond.not (Jvm.Cond.eq (Jvm.Term.string "TwelveChainModel" (99 : Nat)) (Jvm.Term.string "TwelveChainModel" (144 : Nat)))) (Jvm.Cond.not (Jvm.Cond.eq (Jvm.Term.string "TwelveChainModel" (105 : Nat)) (Jvm.Term.string "TwelveChainModel" (144 : Nat))))))) (Jvm.Cond.and (Jvm.Cond.and (Jvm.Cond.not (Jvm.Cond.eq (Jvm.Term.string "TwelveChainModel" (107 : Nat)) (Jvm.Term.string "TwelveChainModel" (144 : Nat)))) (Jvm.Cond.and (Jvm.Cond.not (Jvm.Cond.eq (Jvm.Term.string "TwelveChainModel" (109 : Nat)) (Jvm.Term.string "TwelveChainModel" (144 : Nat)))) (Jvm.Cond.not (Jvm.Cond.eq (Jvm.Term.string "TwelveChainModel" (111 : Nat)) (Jvm.Term.string "TwelveChainModel" (144 : Nat)))))) (Jvm.Cond.and (Jvm.Cond.not (Jvm.Cond.eq (Jvm.Term.string "TwelveChainModel" (113 : Nat)) (Jvm.Term.string "TwelveChainModel" (144 : Nat)))) (Jvm.Cond.and (Jvm.Cond.not (Jvm.Cond.eq (Jvm.Term.string "TwelveChainModel" (115 : Nat)) (Jvm.Term.string "TwelveChainModel" (144 : Nat)))) (Jvm.Cond.not (Jvm.Cond.eq (Jvm.Term.string "TwelveChainModel" (117 : Nat)) (Jvm.Term.string "TwelveChainModel" (144 : Nat)))))))))
theorem pz_fi25 : ∀ w, w ∈ flatC pz_fb25 → w ∈ flatC (Jvm.Cond.and given_1 narrow_1) := fun w h => (pz_fqR (pz_fqR (pz_fqR (pz_fqL (pz_fqL (pz_fqR h))))))
noncomputable def pz_fb26 : Jvm.Cond := (Jvm.Cond.and (Jvm.Cond.and (Jvm.Cond.and (Jvm.Cond.and (Jvm.Cond.not (Jvm.Cond.eq (Jvm.Term.string "TwelveChainModel" (119 : Nat)) (Jvm.Term.string "TwelveChainModel" (144 : Nat)))) (Jvm.Cond.not (Jvm.Cond.eq (Jvm.Term.string "TwelveChainModel" (140 : Nat)) (Jvm.Term.string "TwelveChainModel" (144 : Nat))))) (Jvm.Cond.and (Jvm.Cond.not (Jvm.Cond.eq (Jvm.Term.string "TwelveChainModel" (142 : Nat)) (Jvm.Term.string "TwelveChainModel" (144 : Nat)))) (Jvm.Cond.and (Jvm.Cond.exactly (Jvm.Term.string "TwelveChainModel" (146 : Nat)) "java/lang/String") (Jvm.Cond.eq (Jvm.Term.field (Jvm.Term.string "TwelveChainModel" (146 : Nat)) "java/lang/String" "coder" "B") (Jvm.Term.int (0 : Int32)))))) (Jvm.Cond.and (Jvm.Cond.and (Jvm.Cond.arrayOf (Jvm.Term.field (Jvm.Term.string "TwelveChainModel" (146 : Nat)) "java/lang/String" "value" "[B") Jvm.ClassFile.FieldType.byte) (Jvm.Cond.eq (Jvm.Term.length (Jvm.Term.field (Jvm.Term.string "TwelveChainModel" (146 : Nat)) "java/lang/String" "value" "[B")) (Jvm.Term.int (3 : Int32)))) (Jvm.Cond.and (Jvm.Cond.eq (Jvm.Term.elem (Jvm.Term.field (Jvm.Term.string "TwelveChainModel" (146 : Nat)) "java/lang/String" "value" "[B") (Jvm.Term.int (0 : Int32))) (Jvm.Term.int (112 : Int32))) (Jvm.Cond.and (Jvm.Cond.eq (Jvm.Term.elem (Jvm.Term.field (Jvm.Term.string "TwelveChainModel" (146 : Nat)) "java/lang/String" "value" "[B") (Jvm.Term.int (1 : Int32))) (Jvm.Term.int (97 : Int32))) (Jvm.Cond.eq (Jvm.Term.elem (Jvm.Term.field (Jvm.Term.string "TwelveChainModel" (146 : Nat)) "java/lang/String" "value" "[B") (Jvm.Term.int (2 : Int32))) (Jvm.Term.int (121 : Int32))))))) (Jvm.Cond.and (Jvm.Cond.and (Jvm.Cond.and (Jvm.Cond.not (Jvm.Cond.eq (Jvm.Term.string "TwelveChain$Tape" (52 : Nat)) (Jvm.Term.string "TwelveChainModel" (146 : Nat)))) (Jvm.Cond.not (Jvm.Cond.eq (Jvm.Term.string "TwelveChainModel" (121 : Nat)) (Jvm.Term.string "TwelveChainModel" (146 : Nat))))) (Jvm.Cond.and (Jvm.Cond.not (Jvm.Cond.eq (Jvm.Term.string "TwelveChainModel" (123 : Nat)) (Jvm.Term.string "TwelveChainModel" (146 : Nat)))) (Jvm.Cond.and (Jvm.Cond.not (Jvm.Cond.eq (Jvm.Term.string "TwelveChainModel" (125 : Nat)) (Jvm.Term.string "TwelveChainModel" (146 : Nat)))) (Jvm.Cond.not (Jvm.Cond.eq (Jvm.Term.string "TwelveChainModel" (127 : Nat)) (Jvm.Term.string "TwelveChainModel" (146 : Nat))))))) (Jvm.Cond.and (Jvm.Cond.and (Jvm.Cond.not (Jvm.Cond.eq (Jvm.Term.string "TwelveChainModel" (129 : Nat)) (Jvm.Term.string "TwelveChainModel" (146 : Nat)))) (Jvm.Cond.not (Jvm.Cond.eq (Jvm.Term.string "TwelveChainModel" (131 : Nat)) (Jvm.Term.string "TwelveChainModel" (146 : Nat))))) (Jvm.Cond.and (Jvm.Cond.not (Jvm.Cond.eq (Jvm.Term.string "TwelveChainModel" (133 : Nat)) (Jvm.Term.string "TwelveChainModel" (146 : Nat)))) (Jvm.Cond.and (Jvm.Cond.not (Jvm.Cond.eq (Jvm.Term.string "TwelveChainModel" (135 : Nat)) (Jvm.Term.string "TwelveChainModel" (146 : Nat)))) (Jvm.Cond.not (Jvm.Cond.eq (Jvm.Term.string "TwelveChainModel" (99 : Nat)) (Jvm.Term.string "TwelveChainModel" (146 : Nat)))))))))
theorem pz_fi26 : ∀ w, w ∈ flatC pz_fb26 → w ∈ flatC (Jvm.Cond.and given_1 narrow_1) := fun w h => (pz_fqR (pz_fqR (pz_fqR (pz_fqL (pz_fqR (pz_fqL h))))))
noncomputable def pz_fb27 : Jvm.Cond := (Jvm.Cond.and (Jvm.Cond.and (Jvm.Cond.and (Jvm.Cond.and (Jvm.Cond.not (Jvm.Cond.eq (Jvm.Term.string "TwelveChainModel" (105 : Nat)) (Jvm.Term.string "TwelveChainModel" (146 : Nat)))) (Jvm.Cond.not (Jvm.Cond.eq (Jvm.Term.string "TwelveChainModel" (107 : Nat)) (Jvm.Term.string "TwelveChainModel" (146 : Nat))))) (Jvm.Cond.and (Jvm.Cond.not (Jvm.Cond.eq (Jvm.Term.string "TwelveChainModel" (109 : Nat)) (Jvm.Term.string "TwelveChainModel" (146 : Nat)))) (Jvm.Cond.and (Jvm.Cond.not (Jvm.Cond.eq (Jvm.Term.string "TwelveChainModel" (111 : Nat)) (Jvm.Term.string "TwelveChainModel" (146 : Nat)))) (Jvm.Cond.not (Jvm.Cond.eq (Jvm.Term.string "TwelveChainModel" (113 : Nat)) (Jvm.Term.string "TwelveChainModel" (146 : Nat))))))) (Jvm.Cond.and (Jvm.Cond.and (Jvm.Cond.not (Jvm.Cond.eq (Jvm.Term.string "TwelveChainModel" (115 : Nat)) (Jvm.Term.string "TwelveChainModel" (146 : Nat)))) (Jvm.Cond.not (Jvm.Cond.eq (Jvm.Term.string "TwelveChainModel" (117 : Nat)) (Jvm.Term.string "TwelveChainModel" (146 : Nat))))) (Jvm.Cond.and (Jvm.Cond.not (Jvm.Cond.eq (Jvm.Term.string "TwelveChainModel" (119 : Nat)) (Jvm.Term.string "TwelveChainModel" (146 : Nat)))) (Jvm.Cond.and (Jvm.Cond.not (Jvm.Cond.eq (Jvm.Term.string "TwelveChainModel" (140 : Nat)) (Jvm.Term.string "TwelveChainModel" (146 : Nat)))) (Jvm.Cond.not (Jvm.Cond.eq (Jvm.Term.string "TwelveChainModel" (142 : Nat)) (Jvm.Term.string "TwelveChainModel" (146 : Nat)))))))) (Jvm.Cond.and (Jvm.Cond.and (Jvm.Cond.and (Jvm.Cond.not (Jvm.Cond.eq (Jvm.Term.string "TwelveChainModel" (144 : Nat)) (Jvm.Term.string "TwelveChainModel" (146 : Nat)))) (Jvm.Cond.exactly (Jvm.Term.string "TwelveChainModel" (148 : Nat)) "java/lang/String")) (Jvm.Cond.and (Jvm.Cond.eq (Jvm.Term.field (Jvm.Term.string "TwelveChainModel" (148 : Nat)) "java/lang/String" "coder" "B") (Jvm.Term.int (0 : Int32))) (Jvm.Cond.and (Jvm.Cond.arrayOf (Jvm.Term.field (Jvm.Term.string "TwelveChainModel" (148 : Nat)) "java/lang/String" "value" "[B") Jvm.ClassFile.FieldType.byte) (Jvm.Cond.eq (Jvm.Term.length (Jvm.Term.field (Jvm.Term.string "TwelveChainModel" (148 : Nat)) "java/lang/String" "value" "[B")) (Jvm.Term.int (5 : Int32)))))) (Jvm.Cond.and (Jvm.Cond.and (Jvm.Cond.eq (Jvm.Term.elem (Jvm.Term.field (Jvm.Term.string "TwelveChainModel" (148 : Nat)) "java/lang/String" "value" "[B") (Jvm.Term.int (0 : Int32))) (Jvm.Term.int (112 : Int32))) (Jvm.Cond.and (Jvm.Cond.eq (Jvm.Term.elem (Jvm.Term.field (Jvm.Term.string "TwelveChainModel" (148 : Nat)) "java/lang/String" "value" "[B") (Jvm.Term.int (1 : Int32))) (Jvm.Term.int (97 : Int32))) (Jvm.Cond.eq (Jvm.Term.elem (Jvm.Term.field (Jvm.Term.string "TwelveChainModel" (148 : Nat)) "java/lang/String" "value" "[B") (Jvm.Term.int (2 : Int32))) (Jvm.Term.int (112 : Int32))))) (Jvm.Cond.and (Jvm.Cond.eq (Jvm.Term.elem (Jvm.Term.field (Jvm.Term.string "TwelveChainModel" (148 : Nat)) "java/lang/String" "value" "[B") (Jvm.Term.int (3 : Int32))) (Jvm.Term.int (101 : Int32))) (Jvm.Cond.and (Jvm.Cond.eq (Jvm.Term.elem (Jvm.Term.field (Jvm.Term.string "TwelveChainModel" (148 : Nat)) "java/lang/String" "value" "[B") (Jvm.Term.int (4 : Int32))) (Jvm.Term.int (114 : Int32))) (Jvm.Cond.not (Jvm.Cond.eq (Jvm.Term.string "TwelveChain$Tape" (52 : Nat)) (Jvm.Term.string "TwelveChainModel" (148 : Nat)))))))))
theorem pz_fi27 : ∀ w, w ∈ flatC pz_fb27 → w ∈ flatC (Jvm.Cond.and given_1 narrow_1) := fun w h => (pz_fqR (pz_fqR (pz_fqR (pz_fqL (pz_fqR (pz_fqR h))))))
noncomputable def pz_fb28 : Jvm.Cond := (Jvm.Cond.and (Jvm.Cond.and (Jvm.Cond.and (Jvm.Cond.and (Jvm.Cond.not (Jvm.Cond.eq (Jvm.Term.string "TwelveChainModel" (121 : Nat)) (Jvm.Term.string "TwelveChainModel" (148 : Nat)))) (Jvm.Cond.not (Jvm.Cond.eq (Jvm.Term.string "TwelveChainModel" (123 : Nat)) (Jvm.Term.string "TwelveChainModel" (148 : Nat))))) (Jvm.Cond.and (Jvm.Cond.not (Jvm.Cond.eq (Jvm.Term.string "TwelveChainModel" (125 : Nat)) (Jvm.Term.string "TwelveChainModel" (148 : Nat)))) (Jvm.Cond.and (Jvm.Cond.not (Jvm.Cond.eq (Jvm.Term.string "TwelveChainModel" (127 : Nat)) (Jvm.Term.string "TwelveChainModel" (148 : Nat)))) (Jvm.Cond.not (Jvm.Cond.eq (Jvm.Term.string "TwelveChainModel" (129 : Nat)) (Jvm.Term.string "TwelveChainModel" (148 : Nat))))))) (Jvm.Cond.and (Jvm.Cond.and (Jvm.Cond.not (Jvm.Cond.eq (Jvm.Term.string "TwelveChainModel" (131 : Nat)) (Jvm.Term.string "TwelveChainModel" (148 : Nat)))) (Jvm.Cond.not (Jvm.Cond.eq (Jvm.Term.string "TwelveChainModel" (133 : Nat)) (Jvm.Term.string "TwelveChainModel" (148 : Nat))))) (Jvm.Cond.and (Jvm.Cond.not (Jvm.Cond.eq (Jvm.Term.string "TwelveChainModel" (135 : Nat)) (Jvm.Term.string "TwelveChainModel" (148 : Nat)))) (Jvm.Cond.and (Jvm.Cond.not (Jvm.Cond.eq (Jvm.Term.string "TwelveChainModel" (99 : Nat)) (Jvm.Term.string "TwelveChainModel" (148 : Nat)))) (Jvm.Cond.not (Jvm.Cond.eq (Jvm.Term.string "TwelveChainModel" (105 : Nat)) (Jvm.Term.string "TwelveChainModel" (148 : Nat)))))))) (Jvm.Cond.and (Jvm.Cond.and (Jvm.Cond.and (Jvm.Cond.not (Jvm.Cond.eq (Jvm.Term.string "TwelveChainModel" (107 : Nat)) (Jvm.Term.string "TwelveChainModel" (148 : Nat)))) (Jvm.Cond.not (Jvm.Cond.eq (Jvm.Term.string "TwelveChainModel" (109 : Nat)) (Jvm.Term.string "TwelveChainModel" (148 : Nat))))) (Jvm.Cond.and (Jvm.Cond.not (Jvm.Cond.eq (Jvm.Term.string "TwelveChainModel" (111 : Nat)) (Jvm.Term.string "TwelveChainModel" (148 : Nat)))) (Jvm.Cond.and (Jvm.Cond.not (Jvm.Cond.eq (Jvm.Term.string "TwelveChainModel" (113 : Nat)) (Jvm.Term.string "TwelveChainModel" (148 : Nat)))) (Jvm.Cond.not (Jvm.Cond.eq (Jvm.Term.string "TwelveChainModel" (115 : Nat)) (Jvm.Term.string "TwelveChainModel" (148 : Nat))))))) (Jvm.Cond.and (Jvm.Cond.and (Jvm.Cond.not (Jvm.Cond.eq (Jvm.Term.string "TwelveChainModel" (117 : Nat)) (Jvm.Term.string "TwelveChainModel" (148 : Nat)))) (Jvm.Cond.not (Jvm.Cond.eq (Jvm.Term.string "TwelveChainModel" (119 : Nat)) (Jvm.Term.string "TwelveChainModel" (148 : Nat))))) (Jvm.Cond.and (Jvm.Cond.not (Jvm.Cond.eq (Jvm.Term.string "TwelveChainModel" (140 : Nat)) (Jvm.Term.string "TwelveChainModel" (148 : Nat)))) (Jvm.Cond.and (Jvm.Cond.not (Jvm.Cond.eq (Jvm.Term.string "TwelveChainModel" (142 : Nat)) (Jvm.Term.string "TwelveChainModel" (148 : Nat)))) (Jvm.Cond.not (Jvm.Cond.eq (Jvm.Term.string "TwelveChainModel" (144 : Nat)) (Jvm.Term.string "TwelveChainModel" (148 : Nat)))))))))
theorem pz_fi28 : ∀ w, w ∈ flatC pz_fb28 → w ∈ flatC (Jvm.Cond.and given_1 narrow_1) := fun w h => (pz_fqR (pz_fqR (pz_fqR (pz_fqR (pz_fqL (pz_fqL h))))))
noncomputable def pz_fb29 : Jvm.Cond := (Jvm.Cond.and (Jvm.Cond.and (Jvm.Cond.and (Jvm.Cond.and (Jvm.Cond.not (Jvm.Cond.eq (Jvm.Term.string "TwelveChainModel" (146 : Nat)) (Jvm.Term.string "TwelveChainModel" (148 : Nat)))) (Jvm.Cond.exactly (Jvm.Term.string "TwelveChainModel" (159 : Nat)) "java/lang/String")) (Jvm.Cond.and (Jvm.Cond.eq (Jvm.Term.field (Jvm.Term.string "TwelveChainModel" (159 : Nat)) "java/lang/String" "coder" "B") (Jvm.Term.int (0 : Int32))) (Jvm.Cond.and (Jvm.Cond.arrayOf (Jvm.Term.field (Jvm.Term.string "TwelveChainModel" (159 : Nat)) "java/lang/String" "value" "[B") Jvm.ClassFile.FieldType.byte) (Jvm.Cond.eq (Jvm.Term.length (Jvm.Term.field (Jvm.Term.string "TwelveChainModel" (159 : Nat)) "java/lang/String" "value" "[B")) (Jvm.Term.int (4 : Int32)))))) (Jvm.Cond.and (Jvm.Cond.and (Jvm.Cond.eq (Jvm.Term.elem (Jvm.Term.field (Jvm.Term.string "TwelveChainModel" (159 : Nat)) "java/lang/String" "value" "[B") (Jvm.Term.int (0 : Int32))) (Jvm.Term.int (102 : Int32))) (Jvm.Cond.eq (Jvm.Term.elem (Jvm.Term.field (Jvm.Term.string "TwelveChainModel" (159 : Nat)) "java/lang/String" "value" "[B") (Jvm.Term.int (1 : Int32))) (Jvm.Term.int (114 : Int32)))) (Jvm.Cond.and (Jvm.Cond.eq (Jvm.Term.elem (Jvm.Term.field (Jvm.Term.string "TwelveChainModel" (159 : Nat)) "java/lang/String" "value" "[B") (Jvm.Term.int (2 : Int32))) (Jvm.Term.int (111 : Int32))) (Jvm.Cond.and (Jvm.Cond.eq (Jvm.Term.elem (Jvm.Term.field (Jvm.Term.string "TwelveChainModel" (159 : Nat)) "java/lang/String" "value" "[B") (Jvm.Term.int (3 : Int32))) (Jvm.Term.int (109 : Int32))) (Jvm.Cond.not (Jvm.Cond.eq (Jvm.Term.string "TwelveChain$Tape" (52 : Nat)) (Jvm.Term.string "TwelveChainModel" (159 : Nat)))))))) (Jvm.Cond.and (Jvm.Cond.and (Jvm.Cond.and (Jvm.Cond.not (Jvm.Cond.eq (Jvm.Term.string "TwelveChainModel" (121 : Nat)) (Jvm.Term.string "TwelveChainModel" (159 : Nat)))) (Jvm.Cond.not (Jvm.Cond.eq (Jvm.Term.string "TwelveChainModel" (123 : Nat)) (Jvm.Term.string "TwelveChainModel" (159 : Nat))))) (Jvm.Cond.and (Jvm.Cond.not (Jvm.Cond.eq (Jvm.Term.string "TwelveChainModel" (125 : Nat)) (Jvm.Term.string "TwelveChainModel" (159 : Nat)))) (Jvm.Cond.and (Jvm.Cond.not (Jvm.Cond.eq (Jvm.Term.string "TwelveChainModel" (127 : Nat)) (Jvm.Term.string "TwelveChainModel" (159 : Nat)))) (Jvm.Cond.not (Jvm.Cond.eq (Jvm.Term.string "TwelveChainModel" (129 : Nat)) (Jvm.Term.string "TwelveChainModel" (159 : Nat))))))) (Jvm.Cond.and (Jvm.Cond.and (Jvm.Cond.not (Jvm.Cond.eq (Jvm.Term.string "TwelveChainModel" (131 : Nat)) (Jvm.Term.string "TwelveChainModel" (159 : Nat)))) (Jvm.Cond.and (Jvm.Cond.not (Jvm.Cond.eq (Jvm.Term.string "TwelveChainModel" (133 : Nat)) (Jvm.Term.string "TwelveChainModel" (159 : Nat)))) (Jvm.Cond.not (Jvm.Cond.eq (Jvm.Term.string "TwelveChainModel" (135 : Nat)) (Jvm.Term.string "TwelveChainModel" (159 : Nat)))))) (Jvm.Cond.and (Jvm.Cond.not (Jvm.Cond.eq (Jvm.Term.string "TwelveChainModel" (99 : Nat)) (Jvm.Term.string "TwelveChainModel" (159 : Nat)))) (Jvm.Cond.and (Jvm.Cond.not (Jvm.Cond.eq (Jvm.Term.string "TwelveChainModel" (105 : Nat)) (Jvm.Term.string "TwelveChainModel" (159 : Nat)))) (Jvm.Cond.not (Jvm.Cond.eq (Jvm.Term.string "TwelveChainModel" (107 : Nat)) (Jvm.Term.string "TwelveChainModel" (159 : Nat)))))))))
theorem pz_fi29 : ∀ w, w ∈ flatC pz_fb29 → w ∈ flatC (Jvm.Cond.and given_1 narrow_1) := fun w h => (pz_fqR (pz_fqR (pz_fqR (pz_fqR (pz_fqL (pz_fqR h))))))
noncomputable def pz_fb30 : Jvm.Cond := (Jvm.Cond.and (Jvm.Cond.and (Jvm.Cond.and (Jvm.Cond.and (Jvm.Cond.not (Jvm.Cond.eq (Jvm.Term.string "TwelveChainModel" (109 : Nat)) (Jvm.Term.string "TwelveChainModel" (159 : Nat)))) (Jvm.Cond.not (Jvm.Cond.eq (Jvm.Term.string "TwelveChainModel" (111 : Nat)) (Jvm.Term.string "TwelveChainModel" (159 : Nat))))) (Jvm.Cond.and (Jvm.Cond.not (Jvm.Cond.eq (Jvm.Term.string "TwelveChainModel" (113 : Nat)) (Jvm.Term.string "TwelveChainModel" (159 : Nat)))) (Jvm.Cond.and (Jvm.Cond.not (Jvm.Cond.eq (Jvm.Term.string "TwelveChainModel" (115 : Nat)) (Jvm.Term.string "TwelveChainModel" (159 : Nat)))) (Jvm.Cond.not (Jvm.Cond.eq (Jvm.Term.string "TwelveChainModel" (117 : Nat)) (Jvm.Term.string "TwelveChainModel" (159 : Nat))))))) (Jvm.Cond.and (Jvm.Cond.and (Jvm.Cond.not (Jvm.Cond.eq (Jvm.Term.string "TwelveChainModel" (119 : Nat)) (Jvm.Term.string "TwelveChainModel" (159 : Nat)))) (Jvm.Cond.not (Jvm.Cond.eq (Jvm.Term.string "TwelveChainModel" (140 : Nat)) (Jvm.Term.string "TwelveChainModel" (159 : Nat))))) (Jvm.Cond.and (Jvm.Cond.not (Jvm.Cond.eq (Jvm.Term.string "TwelveChainModel" (142 : Nat)) (Jvm.Term.string "TwelveChainModel" (159 : Nat)))) (Jvm.Cond.and (Jvm.Cond.not (Jvm.Cond.eq (Jvm.Term.string "TwelveChainModel" (144 : Nat)) (Jvm.Term.string "TwelveChainModel" (159 : Nat)))) (Jvm.Cond.not (Jvm.Cond.eq (Jvm.Term.string "TwelveChainModel" (146 : Nat)) (Jvm.Term.string "TwelveChainModel" (159 : Nat)))))))) (Jvm.Cond.and (Jvm.Cond.and (Jvm.Cond.and (Jvm.Cond.not (Jvm.Cond.eq (Jvm.Term.string "TwelveChainModel" (148 : Nat)) (Jvm.Term.string "TwelveChainModel" (159 : Nat)))) (Jvm.Cond.exactly (Jvm.Term.string "TwelveChainModel" (161 : Nat)) "java/lang/String")) (Jvm.Cond.and (Jvm.Cond.eq (Jvm.Term.field (Jvm.Term.string "TwelveChainModel" (161 : Nat)) "java/lang/String" "coder" "B") (Jvm.Term.int (0 : Int32))) (Jvm.Cond.and (Jvm.Cond.arrayOf (Jvm.Term.field (Jvm.Term.string "TwelveChainModel" (161 : Nat)) "java/lang/String" "value" "[B") Jvm.ClassFile.FieldType.byte) (Jvm.Cond.eq (Jvm.Term.length (Jvm.Term.field (Jvm.Term.string "TwelveChainModel" (161 : Nat)) "java/lang/String" "value" "[B")) (Jvm.Term.int (2 : Int32)))))) (Jvm.Cond.and (Jvm.Cond.and (Jvm.Cond.eq (Jvm.Term.elem (Jvm.Term.field (Jvm.Term.string "TwelveChainModel" (161 : Nat)) "java/lang/String" "value" "[B") (Jvm.Term.int (0 : Int32))) (Jvm.Term.int (116 : Int32))) (Jvm.Cond.eq (Jvm.Term.elem (Jvm.Term.field (Jvm.Term.string "TwelveChainModel" (161 : Nat)) "java/lang/String" "value" "[B") (Jvm.Term.int (1 : Int32))) (Jvm.Term.int (111 : Int32)))) (Jvm.Cond.and (Jvm.Cond.not (Jvm.Cond.eq (Jvm.Term.string "TwelveChain$Tape" (52 : Nat)) (Jvm.Term.string "TwelveChainModel" (161 : Nat)))) (Jvm.Cond.and (Jvm.Cond.not (Jvm.Cond.eq (Jvm.Term.string "TwelveChainModel" (121 : Nat)) (Jvm.Term.string "TwelveChainModel" (161 : Nat)))) (Jvm.Cond.not (Jvm.Cond.eq (Jvm.Term.string "TwelveChainModel" (123 : Nat)) (Jvm.Term.string "TwelveChainModel" (161 : Nat)))))))))
theorem pz_fi30 : ∀ w, w ∈ flatC pz_fb30 → w ∈ flatC (Jvm.Cond.and given_1 narrow_1) := fun w h => (pz_fqR (pz_fqR (pz_fqR (pz_fqR (pz_fqR (pz_fqL h))))))
noncomputable def pz_fb31 : Jvm.Cond := (Jvm.Cond.and (Jvm.Cond.and (Jvm.Cond.and (Jvm.Cond.and (Jvm.Cond.not (Jvm.Cond.eq (Jvm.Term.string "TwelveChainModel" (125 : Nat)) (Jvm.Term.string "TwelveChainModel" (161 : Nat)))) (Jvm.Cond.not (Jvm.Cond.eq (Jvm.Term.string "TwelveChainModel" (127 : Nat)) (Jvm.Term.string "TwelveChainModel" (161 : Nat))))) (Jvm.Cond.and (Jvm.Cond.not (Jvm.Cond.eq (Jvm.Term.string "TwelveChainModel" (129 : Nat)) (Jvm.Term.string "TwelveChainModel" (161 : Nat)))) (Jvm.Cond.and (Jvm.Cond.not (Jvm.Cond.eq (Jvm.Term.string "TwelveChainModel" (131 : Nat)) (Jvm.Term.string "TwelveChainModel" (161 : Nat)))) (Jvm.Cond.not (Jvm.Cond.eq (Jvm.Term.string "TwelveChainModel" (133 : Nat)) (Jvm.Term.string "TwelveChainModel" (161 : Nat))))))) (Jvm.Cond.and (Jvm.Cond.and (Jvm.Cond.not (Jvm.Cond.eq (Jvm.Term.string "TwelveChainModel" (135 : Nat)) (Jvm.Term.string "TwelveChainModel" (161 : Nat)))) (Jvm.Cond.not (Jvm.Cond.eq (Jvm.Term.string "TwelveChainModel" (99 : Nat)) (Jvm.Term.string "TwelveChainModel" (161 : Nat))))) (Jvm.Cond.and (Jvm.Cond.not (Jvm.Cond.eq (Jvm.Term.string "TwelveChainModel" (105 : Nat)) (Jvm.Term.string "TwelveChainModel" (161 : Nat)))) (Jvm.Cond.and (Jvm.Cond.not (Jvm.Cond.eq (Jvm.Term.string "TwelveChainModel" (107 : Nat)) (Jvm.Term.string "TwelveChainModel" (161 : Nat)))) (Jvm.Cond.not (Jvm.Cond.eq (Jvm.Term.string "TwelveChainModel" (109 : Nat)) (Jvm.Term.string "TwelveChainModel" (161 : Nat)))))))) (Jvm.Cond.and (Jvm.Cond.and (Jvm.Cond.and (Jvm.Cond.not (Jvm.Cond.eq (Jvm.Term.string "TwelveChainModel" (111 : Nat)) (Jvm.Term.string "TwelveChainModel" (161 : Nat)))) (Jvm.Cond.not (Jvm.Cond.eq (Jvm.Term.string "TwelveChainModel" (113 : Nat)) (Jvm.Term.string "TwelveChainModel" (161 : Nat))))) (Jvm.Cond.and (Jvm.Cond.not (Jvm.Cond.eq (Jvm.Term.string "TwelveChainModel" (115 : Nat)) (Jvm.Term.string "TwelveChainModel" (161 : Nat)))) (Jvm.Cond.and (Jvm.Cond.not (Jvm.Cond.eq (Jvm.Term.string "TwelveChainModel" (117 : Nat)) (Jvm.Term.string "TwelveChainModel" (161 : Nat)))) (Jvm.Cond.not (Jvm.Cond.eq (Jvm.Term.string "TwelveChainModel" (119 : Nat)) (Jvm.Term.string "TwelveChainModel" (161 : Nat))))))) (Jvm.Cond.and (Jvm.Cond.and (Jvm.Cond.not (Jvm.Cond.eq (Jvm.Term.string "TwelveChainModel" (140 : Nat)) (Jvm.Term.string "TwelveChainModel" (161 : Nat)))) (Jvm.Cond.and (Jvm.Cond.not (Jvm.Cond.eq (Jvm.Term.string "TwelveChainModel" (142 : Nat)) (Jvm.Term.string "TwelveChainModel" (161 : Nat)))) (Jvm.Cond.not (Jvm.Cond.eq (Jvm.Term.string "TwelveChainModel" (144 : Nat)) (Jvm.Term.string "TwelveChainModel" (161 : Nat)))))) (Jvm.Cond.and (Jvm.Cond.not (Jvm.Cond.eq (Jvm.Term.string "TwelveChainModel" (146 : Nat)) (Jvm.Term.string "TwelveChainModel" (161 : Nat)))) (Jvm.Cond.and (Jvm.Cond.not (Jvm.Cond.eq (Jvm.Term.string "TwelveChainModel" (148 : Nat)) (Jvm.Term.string "TwelveChainModel" (161 : Nat)))) (Jvm.Cond.not (Jvm.Cond.eq (Jvm.Term.string "TwelveChainModel" (159 : Nat)) (Jvm.Term.string "TwelveChainModel" (161 : Nat)))))))))
theorem pz_fi31 : ∀ w, w ∈ flatC pz_fb31 → w ∈ flatC (Jvm.Cond.and given_1 narrow_1) := fun w h => (pz_fqR (pz_fqR (pz_fqR (pz_fqR (pz_fqR (pz_fqR h))))))
theorem pz_hg1_0 : Cond.exactly (pz_tm 0) "java/lang/String" ∈ flatC (Jvm.Cond.and given_1 narrow_1) := pz_fi1 _ (pz_fqR (pz_fqL (pz_fqR (pz_fqR (pz_fqL pz_fqe)))))
theorem pz_hg1_1 : Cond.exactly (pz_tm 1) "java/lang/String" ∈ flatC (Jvm.Cond.and given_1 narrow_1) := pz_fi7 _ (pz_fqR (pz_fqR (pz_fqL (pz_fqR (pz_fqR pz_fqe)))))
theorem pz_hg1_2 : Cond.exactly (pz_tm 2) "java/lang/String" ∈ flatC (Jvm.Cond.and given_1 narrow_1) := pz_fi8 _ (pz_fqL (pz_fqR (pz_fqL (pz_fqL pz_fqe))))
theorem pz_hg1_3 : Cond.exactly (pz_tm 3) "java/lang/String" ∈ flatC (Jvm.Cond.and given_1 narrow_1) := pz_fi8 _ (pz_fqR (pz_fqL (pz_fqR (pz_fqR (pz_fqL pz_fqe)))))
theorem pz_hg1_4 : Cond.exactly (pz_tm 4) "java/lang/String" ∈ flatC (Jvm.Cond.and given_1 narrow_1) := pz_fi9 _ (pz_fqL (pz_fqL (pz_fqR (pz_fqR (pz_fqL pz_fqe)))))
theorem pz_hg1_5 : Cond.exactly (pz_tm 5) "java/lang/String" ∈ flatC (Jvm.Cond.and given_1 narrow_1) := pz_fi9 _ (pz_fqR (pz_fqL (pz_fqR (pz_fqR (pz_fqR pz_fqe)))))
theorem pz_hg1_6 : Cond.exactly (pz_tm 6) "java/lang/String" ∈ flatC (Jvm.Cond.and given_1 narrow_1) := pz_fi10 _ (pz_fqL (pz_fqR (pz_fqR (pz_fqR (pz_fqL pz_fqe)))))
theorem pz_hg1_7 : Cond.exactly (pz_tm 7) "java/lang/String" ∈ flatC (Jvm.Cond.and given_1 narrow_1) := pz_fi11 _ (pz_fqL (pz_fqL (pz_fqR (pz_fqR (pz_fqL pz_fqe)))))
theorem pz_hg1_8 : Cond.exactly (pz_tm 8) "java/lang/String" ∈ flatC (Jvm.Cond.and given_1 narrow_1) := pz_fi11 _ (pz_fqR (pz_fqR (pz_fqR (pz_fqL pz_fqe))))
theorem pz_hg1_9 : Cond.exactly (pz_tm 9) "java/lang/String" ∈ flatC (Jvm.Cond.and given_1 narrow_1) := pz_fi12 _ (pz_fqR (pz_fqL (pz_fqR (pz_fqR (pz_fqL pz_fqe)))))
theorem pz_hg1_10 : Cond.exactly (pz_tm 10) "java/lang/String" ∈ flatC (Jvm.Cond.and given_1 narrow_1) := pz_fi13 _ (pz_fqR (pz_fqL (pz_fqL (pz_fqL pz_fqe))))
theorem pz_hg1_11 : Cond.exactly (pz_tm 11) "java/lang/String" ∈ flatC (Jvm.Cond.and given_1 narrow_1) := pz_fi14 _ (pz_fqL (pz_fqR (pz_fqR (pz_fqR (pz_fqL pz_fqe)))))
theorem pz_hg1_12 : Cond.exactly (pz_tm 12) "java/lang/String" ∈ flatC (Jvm.Cond.and given_1 narrow_1) := pz_fi15 _ (pz_fqL (pz_fqR (pz_fqR (pz_fqR (pz_fqL pz_fqe)))))
theorem pz_hg1_13 : Cond.exactly (pz_tm 13) "java/lang/String" ∈ flatC (Jvm.Cond.and given_1 narrow_1) := pz_fi16 _ (pz_fqL (pz_fqR (pz_fqR (pz_fqR (pz_fqL pz_fqe)))))
theorem pz_hg1_14 : Cond.exactly (pz_tm 14) "java/lang/String" ∈ flatC (Jvm.Cond.and given_1 narrow_1) := pz_fi17 _ (pz_fqL (pz_fqR (pz_fqR (pz_fqR (pz_fqR pz_fqe)))))
theorem pz_hg1_15 : Cond.exactly (pz_tm 15) "java/lang/String" ∈ flatC (Jvm.Cond.and given_1 narrow_1) := pz_fi18 _ (pz_fqR (pz_fqL (pz_fqL (pz_fqL pz_fqe))))
theorem pz_hg1_16 : Cond.exactly (pz_tm 16) "java/lang/String" ∈ flatC (Jvm.Cond.and given_1 narrow_1) := pz_fi19 _ (pz_fqR (pz_fqL (pz_fqR (pz_fqR (pz_fqR pz_fqe)))))
theorem pz_hg1_17 : Cond.exactly (pz_tm 17) "java/lang/String" ∈ flatC (Jvm.Cond.and given_1 narrow_1) := pz_fi21 _ (pz_fqL (pz_fqL (pz_fqL (pz_fqL pz_fqe))))
theorem pz_hg1_18 : Cond.exactly (pz_tm 18) "java/lang/String" ∈ flatC (Jvm.Cond.and given_1 narrow_1) := pz_fi22 _ (pz_fqL (pz_fqR (pz_fqL (pz_fqL pz_fqe))))
theorem pz_hg1_19 : Cond.exactly (pz_tm 19) "java/lang/String" ∈ flatC (Jvm.Cond.and given_1 narrow_1) := pz_fi23 _ (pz_fqL (pz_fqR (pz_fqR (pz_fqR (pz_fqR pz_fqe)))))
theorem pz_hg1_20 : Cond.exactly (pz_tm 20) "java/lang/String" ∈ flatC (Jvm.Cond.and given_1 narrow_1) := pz_fi24 _ (pz_fqR (pz_fqL (pz_fqR (pz_fqR (pz_fqR pz_fqe)))))
theorem pz_hg1_21 : Cond.exactly (pz_tm 21) "java/lang/String" ∈ flatC (Jvm.Cond.and given_1 narrow_1) := pz_fi26 _ (pz_fqL (pz_fqL (pz_fqR (pz_fqR (pz_fqL pz_fqe)))))
theorem pz_hg1_22 : Cond.exactly (pz_tm 22) "java/lang/String" ∈ flatC (Jvm.Cond.and given_1 narrow_1) := pz_fi27 _ (pz_fqR (pz_fqL (pz_fqL (pz_fqR pz_fqe))))
theorem pz_hg1_23 : Cond.exactly (pz_tm 23) "java/lang/String" ∈ flatC (Jvm.Cond.and given_1 narrow_1) := pz_fi29 _ (pz_fqL (pz_fqL (pz_fqL (pz_fqR pz_fqe))))
theorem pz_hg1_24 : Cond.exactly (pz_tm 24) "java/lang/String" ∈ flatC (Jvm.Cond.and given_1 narrow_1) := pz_fi30 _ (pz_fqR (pz_fqL (pz_fqL (pz_fqR pz_fqe))))
theorem pz_hg1 : ∀ i, i < 25 → Cond.exactly (pz_tm i) "java/lang/String" ∈ flatC (Jvm.Cond.and given_1 narrow_1) := by
  have k0 : ∀ m, m < 0 → (fun i : Nat => Cond.exactly (pz_tm i) "java/lang/String" ∈ flatC (Jvm.Cond.and given_1 narrow_1)) m := pz_f0
  have k1 := pz_fs k0 pz_hg1_0
  have k2 := pz_fs k1 pz_hg1_1
  have k3 := pz_fs k2 pz_hg1_2
  have k4 := pz_fs k3 pz_hg1_3
  have k5 := pz_fs k4 pz_hg1_4
  have k6 := pz_fs k5 pz_hg1_5
  have k7 := pz_fs k6 pz_hg1_6
  have k8 := pz_fs k7 pz_hg1_7
  have k9 := pz_fs k8 pz_hg1_8
  have k10 := pz_fs k9 pz_hg1_9
  have k11 := pz_fs k10 pz_hg1_10
  have k12 := pz_fs k11 pz_hg1_11
  have k13 := pz_fs k12 pz_hg1_12
  have k14 := pz_fs k13 pz_hg1_13
  have k15 := pz_fs k14 pz_hg1_14
  have k16 := pz_fs k15 pz_hg1_15
  have k17 := pz_fs k16 pz_hg1_16
  have k18 := pz_fs k17 pz_hg1_17
  have k19 := pz_fs k18 pz_hg1_18
  have k20 := pz_fs k19 pz_hg1_19
  have k21 := pz_fs k20 pz_hg1_20
  have k22 := pz_fs k21 pz_hg1_21
  have k23 := pz_fs k22 pz_hg1_22
  have k24 := pz_fs k23 pz_hg1_23
  have k25 := pz_fs k24 pz_hg1_24
  exact k25
theorem pz_hg2_0 : Cond.eq (.field (pz_tm 0) "java/lang/String" "coder" "B") (.int 0) ∈ flatC (Jvm.Cond.and given_1 narrow_1) := pz_fi1 _ (pz_fqR (pz_fqL (pz_fqR (pz_fqR (pz_fqR pz_fqq)))))
theorem pz_hg2_1 : Cond.eq (.field (pz_tm 1) "java/lang/String" "coder" "B") (.int 0) ∈ flatC (Jvm.Cond.and given_1 narrow_1) := pz_fi7 _ (pz_fqR (pz_fqR (pz_fqR (pz_fqL pz_fqq))))
theorem pz_hg2_2 : Cond.eq (.field (pz_tm 2) "java/lang/String" "coder" "B") (.int 0) ∈ flatC (Jvm.Cond.and given_1 narrow_1) := pz_fi8 _ (pz_fqL (pz_fqR (pz_fqL (pz_fqR pz_fqq))))
theorem pz_hg2_3 : Cond.eq (.field (pz_tm 3) "java/lang/String" "coder" "B") (.int 0) ∈ flatC (Jvm.Cond.and given_1 narrow_1) := pz_fi8 _ (pz_fqR (pz_fqL (pz_fqR (pz_fqR (pz_fqR pz_fqq)))))
theorem pz_hg2_4 : Cond.eq (.field (pz_tm 4) "java/lang/String" "coder" "B") (.int 0) ∈ flatC (Jvm.Cond.and given_1 narrow_1) := pz_fi9 _ (pz_fqL (pz_fqL (pz_fqR (pz_fqR (pz_fqR pz_fqq)))))
theorem pz_hg2_5 : Cond.eq (.field (pz_tm 5) "java/lang/String" "coder" "B") (.int 0) ∈ flatC (Jvm.Cond.and given_1 narrow_1) := pz_fi9 _ (pz_fqR (pz_fqR (pz_fqL (pz_fqL pz_fqq))))
theorem pz_hg2_6 : Cond.eq (.field (pz_tm 6) "java/lang/String" "coder" "B") (.int 0) ∈ flatC (Jvm.Cond.and given_1 narrow_1) := pz_fi10 _ (pz_fqL (pz_fqR (pz_fqR (pz_fqR (pz_fqR pz_fqq)))))
theorem pz_hg2_7 : Cond.eq (.field (pz_tm 7) "java/lang/String" "coder" "B") (.int 0) ∈ flatC (Jvm.Cond.and given_1 narrow_1) := pz_fi11 _ (pz_fqL (pz_fqL (pz_fqR (pz_fqR (pz_fqR pz_fqq)))))
theorem pz_hg2_8 : Cond.eq (.field (pz_tm 8) "java/lang/String" "coder" "B") (.int 0) ∈ flatC (Jvm.Cond.and given_1 narrow_1) := pz_fi11 _ (pz_fqR (pz_fqR (pz_fqR (pz_fqR (pz_fqL pz_fqq)))))
theorem pz_hg2_9 : Cond.eq (.field (pz_tm 9) "java/lang/String" "coder" "B") (.int 0) ∈ flatC (Jvm.Cond.and given_1 narrow_1) := pz_fi12 _ (pz_fqR (pz_fqL (pz_fqR (pz_fqR (pz_fqR pz_fqq)))))
theorem pz_hg2_10 : Cond.eq (.field (pz_tm 10) "java/lang/String" "coder" "B") (.int 0) ∈ flatC (Jvm.Cond.and given_1 narrow_1) := pz_fi13 _ (pz_fqR (pz_fqL (pz_fqL (pz_fqR pz_fqq))))
theorem pz_hg2_11 : Cond.eq (.field (pz_tm 11) "java/lang/String" "coder" "B") (.int 0) ∈ flatC (Jvm.Cond.and given_1 narrow_1) := pz_fi14 _ (pz_fqL (pz_fqR (pz_fqR (pz_fqR (pz_fqR pz_fqq)))))
theorem pz_hg2_12 : Cond.eq (.field (pz_tm 12) "java/lang/String" "coder" "B") (.int 0) ∈ flatC (Jvm.Cond.and given_1 narrow_1) := pz_fi15 _ (pz_fqL (pz_fqR (pz_fqR (pz_fqR (pz_fqR pz_fqq)))))
theorem pz_hg2_13 : Cond.eq (.field (pz_tm 13) "java/lang/String" "coder" "B") (.int 0) ∈ flatC (Jvm.Cond.and given_1 narrow_1) := pz_fi16 _ (pz_fqL (pz_fqR (pz_fqR (pz_fqR (pz_fqR pz_fqq)))))
theorem pz_hg2_14 : Cond.eq (.field (pz_tm 14) "java/lang/String" "coder" "B") (.int 0) ∈ flatC (Jvm.Cond.and given_1 narrow_1) := pz_fi17 _ (pz_fqR (pz_fqL (pz_fqL (pz_fqL pz_fqq))))
theorem pz_hg2_15 : Cond.eq (.field (pz_tm 15) "java/lang/String" "coder" "B") (.int 0) ∈ flatC (Jvm.Cond.and given_1 narrow_1) := pz_fi18 _ (pz_fqR (pz_fqL (pz_fqL (pz_fqR pz_fqq))))
theorem pz_hg2_16 : Cond.eq (.field (pz_tm 16) "java/lang/String" "coder" "B") (.int 0) ∈ flatC (Jvm.Cond.and given_1 narrow_1) := pz_fi19 _ (pz_fqR (pz_fqR (pz_fqL (pz_fqL pz_fqq))))
theorem pz_hg2_17 : Cond.eq (.field (pz_tm 17) "java/lang/String" "coder" "B") (.int 0) ∈ flatC (Jvm.Cond.and given_1 narrow_1) := pz_fi21 _ (pz_fqL (pz_fqL (pz_fqL (pz_fqR pz_fqq))))
theorem pz_hg2_18 : Cond.eq (.field (pz_tm 18) "java/lang/String" "coder" "B") (.int 0) ∈ flatC (Jvm.Cond.and given_1 narrow_1) := pz_fi22 _ (pz_fqL (pz_fqR (pz_fqL (pz_fqR pz_fqq))))
theorem pz_hg2_19 : Cond.eq (.field (pz_tm 19) "java/lang/String" "coder" "B") (.int 0) ∈ flatC (Jvm.Cond.and given_1 narrow_1) := pz_fi23 _ (pz_fqR (pz_fqL (pz_fqL (pz_fqL pz_fqq))))
theorem pz_hg2_20 : Cond.eq (.field (pz_tm 20) "java/lang/String" "coder" "B") (.int 0) ∈ flatC (Jvm.Cond.and given_1 narrow_1) := pz_fi24 _ (pz_fqR (pz_fqR (pz_fqL (pz_fqL pz_fqq))))
theorem pz_hg2_21 : Cond.eq (.field (pz_tm 21) "java/lang/String" "coder" "B") (.int 0) ∈ flatC (Jvm.Cond.and given_1 narrow_1) := pz_fi26 _ (pz_fqL (pz_fqL (pz_fqR (pz_fqR (pz_fqR pz_fqq)))))
theorem pz_hg2_22 : Cond.eq (.field (pz_tm 22) "java/lang/String" "coder" "B") (.int 0) ∈ flatC (Jvm.Cond.and given_1 narrow_1) := pz_fi27 _ (pz_fqR (pz_fqL (pz_fqR (pz_fqL pz_fqq))))
theorem pz_hg2_23 : Cond.eq (.field (pz_tm 23) "java/lang/String" "coder" "B") (.int 0) ∈ flatC (Jvm.Cond.and given_1 narrow_1) := pz_fi29 _ (pz_fqL (pz_fqL (pz_fqR (pz_fqL pz_fqq))))
theorem pz_hg2_24 : Cond.eq (.field (pz_tm 24) "java/lang/String" "coder" "B") (.int 0) ∈ flatC (Jvm.Cond.and given_1 narrow_1) := pz_fi30 _ (pz_fqR (pz_fqL (pz_fqR (pz_fqL pz_fqq))))
theorem pz_hg2 : ∀ i, i < 25 → Cond.eq (.field (pz_tm i) "java/lang/String" "coder" "B") (.int 0) ∈ flatC (Jvm.Cond.and given_1 narrow_1) := by
  have k0 : ∀ m, m < 0 → (fun i : Nat => Cond.eq (.field (pz_tm i) "java/lang/String" "coder" "B") (.int 0) ∈ flatC (Jvm.Cond.and given_1 narrow_1)) m := pz_f0
  have k1 := pz_fs k0 pz_hg2_0
  have k2 := pz_fs k1 pz_hg2_1
  have k3 := pz_fs k2 pz_hg2_2
  have k4 := pz_fs k3 pz_hg2_3
  have k5 := pz_fs k4 pz_hg2_4
  have k6 := pz_fs k5 pz_hg2_5
  have k7 := pz_fs k6 pz_hg2_6
  have k8 := pz_fs k7 pz_hg2_7
  have k9 := pz_fs k8 pz_hg2_8
  have k10 := pz_fs k9 pz_hg2_9
  have k11 := pz_fs k10 pz_hg2_10
  have k12 := pz_fs k11 pz_hg2_11
  have k13 := pz_fs k12 pz_hg2_12
  have k14 := pz_fs k13 pz_hg2_13
  have k15 := pz_fs k14 pz_hg2_14
  have k16 := pz_fs k15 pz_hg2_15
  have k17 := pz_fs k16 pz_hg2_16
  have k18 := pz_fs k17 pz_hg2_17
  have k19 := pz_fs k18 pz_hg2_18
  have k20 := pz_fs k19 pz_hg2_19
  have k21 := pz_fs k20 pz_hg2_20
  have k22 := pz_fs k21 pz_hg2_21
  have k23 := pz_fs k22 pz_hg2_22
  have k24 := pz_fs k23 pz_hg2_23
  have k25 := pz_fs k24 pz_hg2_24
  exact k25
theorem pz_hg3_0 : Cond.arrayOf (.field (pz_tm 0) "java/lang/String" "value" "[B") .byte ∈ flatC (Jvm.Cond.and given_1 narrow_1) := pz_fi1 _ (pz_fqR (pz_fqR (pz_fqL (pz_fqL pz_fqa))))
theorem pz_hg3_1 : Cond.arrayOf (.field (pz_tm 1) "java/lang/String" "value" "[B") .byte ∈ flatC (Jvm.Cond.and given_1 narrow_1) := pz_fi7 _ (pz_fqR (pz_fqR (pz_fqR (pz_fqR (pz_fqL pz_fqa)))))
theorem pz_hg3_2 : Cond.arrayOf (.field (pz_tm 2) "java/lang/String" "value" "[B") .byte ∈ flatC (Jvm.Cond.and given_1 narrow_1) := pz_fi8 _ (pz_fqL (pz_fqR (pz_fqR (pz_fqL pz_fqa))))
theorem pz_hg3_3 : Cond.arrayOf (.field (pz_tm 3) "java/lang/String" "value" "[B") .byte ∈ flatC (Jvm.Cond.and given_1 narrow_1) := pz_fi8 _ (pz_fqR (pz_fqR (pz_fqL (pz_fqL pz_fqa))))
theorem pz_hg3_4 : Cond.arrayOf (.field (pz_tm 4) "java/lang/String" "value" "[B") .byte ∈ flatC (Jvm.Cond.and given_1 narrow_1) := pz_fi9 _ (pz_fqL (pz_fqR (pz_fqL (pz_fqL pz_fqa))))
theorem pz_hg3_5 : Cond.arrayOf (.field (pz_tm 5) "java/lang/String" "value" "[B") .byte ∈ flatC (Jvm.Cond.and given_1 narrow_1) := pz_fi9 _ (pz_fqR (pz_fqR (pz_fqL (pz_fqR pz_fqa))))
theorem pz_hg3_6 : Cond.arrayOf (.field (pz_tm 6) "java/lang/String" "value" "[B") .byte ∈ flatC (Jvm.Cond.and given_1 narrow_1) := pz_fi10 _ (pz_fqR (pz_fqL (pz_fqL (pz_fqL pz_fqa))))
theorem pz_hg3_7 : Cond.arrayOf (.field (pz_tm 7) "java/lang/String" "value" "[B") .byte ∈ flatC (Jvm.Cond.and given_1 narrow_1) := pz_fi11 _ (pz_fqL (pz_fqR (pz_fqL (pz_fqL pz_fqa))))
theorem pz_hg3_8 : Cond.arrayOf (.field (pz_tm 8) "java/lang/String" "value" "[B") .byte ∈ flatC (Jvm.Cond.and given_1 narrow_1) := pz_fi11 _ (pz_fqR (pz_fqR (pz_fqR (pz_fqR (pz_fqR pz_fqa)))))
theorem pz_hg3_9 : Cond.arrayOf (.field (pz_tm 9) "java/lang/String" "value" "[B") .byte ∈ flatC (Jvm.Cond.and given_1 narrow_1) := pz_fi12 _ (pz_fqR (pz_fqR (pz_fqL (pz_fqL pz_fqa))))
theorem pz_hg3_10 : Cond.arrayOf (.field (pz_tm 10) "java/lang/String" "value" "[B") .byte ∈ flatC (Jvm.Cond.and given_1 narrow_1) := pz_fi13 _ (pz_fqR (pz_fqL (pz_fqR (pz_fqL pz_fqa))))
theorem pz_hg3_11 : Cond.arrayOf (.field (pz_tm 11) "java/lang/String" "value" "[B") .byte ∈ flatC (Jvm.Cond.and given_1 narrow_1) := pz_fi14 _ (pz_fqR (pz_fqL (pz_fqL (pz_fqL pz_fqa))))
theorem pz_hg3_12 : Cond.arrayOf (.field (pz_tm 12) "java/lang/String" "value" "[B") .byte ∈ flatC (Jvm.Cond.and given_1 narrow_1) := pz_fi15 _ (pz_fqR (pz_fqL (pz_fqL (pz_fqL pz_fqa))))
theorem pz_hg3_13 : Cond.arrayOf (.field (pz_tm 13) "java/lang/String" "value" "[B") .byte ∈ flatC (Jvm.Cond.and given_1 narrow_1) := pz_fi16 _ (pz_fqR (pz_fqL (pz_fqL (pz_fqL pz_fqa))))
theorem pz_hg3_14 : Cond.arrayOf (.field (pz_tm 14) "java/lang/String" "value" "[B") .byte ∈ flatC (Jvm.Cond.and given_1 narrow_1) := pz_fi17 _ (pz_fqR (pz_fqL (pz_fqL (pz_fqR pz_fqa))))
theorem pz_hg3_15 : Cond.arrayOf (.field (pz_tm 15) "java/lang/String" "value" "[B") .byte ∈ flatC (Jvm.Cond.and given_1 narrow_1) := pz_fi18 _ (pz_fqR (pz_fqL (pz_fqR (pz_fqL pz_fqa))))
theorem pz_hg3_16 : Cond.arrayOf (.field (pz_tm 16) "java/lang/String" "value" "[B") .byte ∈ flatC (Jvm.Cond.and given_1 narrow_1) := pz_fi19 _ (pz_fqR (pz_fqR (pz_fqL (pz_fqR (pz_fqL pz_fqa)))))
theorem pz_hg3_17 : Cond.arrayOf (.field (pz_tm 17) "java/lang/String" "value" "[B") .byte ∈ flatC (Jvm.Cond.and given_1 narrow_1) := pz_fi21 _ (pz_fqL (pz_fqL (pz_fqR (pz_fqL pz_fqa))))
theorem pz_hg3_18 : Cond.arrayOf (.field (pz_tm 18) "java/lang/String" "value" "[B") .byte ∈ flatC (Jvm.Cond.and given_1 narrow_1) := pz_fi22 _ (pz_fqL (pz_fqR (pz_fqR (pz_fqL pz_fqa))))
theorem pz_hg3_19 : Cond.arrayOf (.field (pz_tm 19) "java/lang/String" "value" "[B") .byte ∈ flatC (Jvm.Cond.and given_1 narrow_1) := pz_fi23 _ (pz_fqR (pz_fqL (pz_fqL (pz_fqR pz_fqa))))
theorem pz_hg3_20 : Cond.arrayOf (.field (pz_tm 20) "java/lang/String" "value" "[B") .byte ∈ flatC (Jvm.Cond.and given_1 narrow_1) := pz_fi24 _ (pz_fqR (pz_fqR (pz_fqL (pz_fqR pz_fqa))))
theorem pz_hg3_21 : Cond.arrayOf (.field (pz_tm 21) "java/lang/String" "value" "[B") .byte ∈ flatC (Jvm.Cond.and given_1 narrow_1) := pz_fi26 _ (pz_fqL (pz_fqR (pz_fqL (pz_fqL pz_fqa))))
theorem pz_hg3_22 : Cond.arrayOf (.field (pz_tm 22) "java/lang/String" "value" "[B") .byte ∈ flatC (Jvm.Cond.and given_1 narrow_1) := pz_fi27 _ (pz_fqR (pz_fqL (pz_fqR (pz_fqR (pz_fqL pz_fqa)))))
theorem pz_hg3_23 : Cond.arrayOf (.field (pz_tm 23) "java/lang/String" "value" "[B") .byte ∈ flatC (Jvm.Cond.and given_1 narrow_1) := pz_fi29 _ (pz_fqL (pz_fqL (pz_fqR (pz_fqR (pz_fqL pz_fqa)))))
theorem pz_hg3_24 : Cond.arrayOf (.field (pz_tm 24) "java/lang/String" "value" "[B") .byte ∈ flatC (Jvm.Cond.and given_1 narrow_1) := pz_fi30 _ (pz_fqR (pz_fqL (pz_fqR (pz_fqR (pz_fqL pz_fqa)))))
theorem pz_hg3 : ∀ i, i < 25 → Cond.arrayOf (.field (pz_tm i) "java/lang/String" "value" "[B") .byte ∈ flatC (Jvm.Cond.and given_1 narrow_1) := by
  have k0 : ∀ m, m < 0 → (fun i : Nat => Cond.arrayOf (.field (pz_tm i) "java/lang/String" "value" "[B") .byte ∈ flatC (Jvm.Cond.and given_1 narrow_1)) m := pz_f0
  have k1 := pz_fs k0 pz_hg3_0
  have k2 := pz_fs k1 pz_hg3_1
  have k3 := pz_fs k2 pz_hg3_2
  have k4 := pz_fs k3 pz_hg3_3
  have k5 := pz_fs k4 pz_hg3_4
  have k6 := pz_fs k5 pz_hg3_5
  have k7 := pz_fs k6 pz_hg3_6
  have k8 := pz_fs k7 pz_hg3_7
  have k9 := pz_fs k8 pz_hg3_8
  have k10 := pz_fs k9 pz_hg3_9
  have k11 := pz_fs k10 pz_hg3_10
  have k12 := pz_fs k11 pz_hg3_11
  have k13 := pz_fs k12 pz_hg3_12
  have k14 := pz_fs k13 pz_hg3_13
  have k15 := pz_fs k14 pz_hg3_14
  have k16 := pz_fs k15 pz_hg3_15
  have k17 := pz_fs k16 pz_hg3_16
  have k18 := pz_fs k17 pz_hg3_17
  have k19 := pz_fs k18 pz_hg3_18
  have k20 := pz_fs k19 pz_hg3_19
  have k21 := pz_fs k20 pz_hg3_20
  have k22 := pz_fs k21 pz_hg3_21
  have k23 := pz_fs k22 pz_hg3_22
  have k24 := pz_fs k23 pz_hg3_23
  have k25 := pz_fs k24 pz_hg3_24
  exact k25
theorem pz_hg4_0 : Cond.eq (.length (.field (pz_tm 0) "java/lang/String" "value" "[B")) (.int (Int32.ofNat (pz_stl.getD 0 0))) ∈ flatC (Jvm.Cond.and given_1 narrow_1) := pz_fi1 _ (pz_fqR (pz_fqR (pz_fqL (pz_fqR pz_fqq))))
theorem pz_hg4_1 : Cond.eq (.length (.field (pz_tm 1) "java/lang/String" "value" "[B")) (.int (Int32.ofNat (pz_stl.getD 1 0))) ∈ flatC (Jvm.Cond.and given_1 narrow_1) := pz_fi7 _ (pz_fqR (pz_fqR (pz_fqR (pz_fqR (pz_fqR pz_fqq)))))
theorem pz_hg4_2 : Cond.eq (.length (.field (pz_tm 2) "java/lang/String" "value" "[B")) (.int (Int32.ofNat (pz_stl.getD 2 0))) ∈ flatC (Jvm.Cond.and given_1 narrow_1) := pz_fi8 _ (pz_fqL (pz_fqR (pz_fqR (pz_fqR (pz_fqL pz_fqq)))))
theorem pz_hg4_3 : Cond.eq (.length (.field (pz_tm 3) "java/lang/String" "value" "[B")) (.int (Int32.ofNat (pz_stl.getD 3 0))) ∈ flatC (Jvm.Cond.and given_1 narrow_1) := pz_fi8 _ (pz_fqR (pz_fqR (pz_fqL (pz_fqR pz_fqq))))
theorem pz_hg4_4 : Cond.eq (.length (.field (pz_tm 4) "java/lang/String" "value" "[B")) (.int (Int32.ofNat (pz_stl.getD 4 0))) ∈ flatC (Jvm.Cond.and given_1 narrow_1) := pz_fi9 _ (pz_fqL (pz_fqR (pz_fqL (pz_fqR pz_fqq))))
theorem pz_hg4_5 : Cond.eq (.length (.field (pz_tm 5) "java/lang/String" "value" "[B")) (.int (Int32.ofNat (pz_stl.getD 5 0))) ∈ flatC (Jvm.Cond.and given_1 narrow_1) := pz_fi9 _ (pz_fqR (pz_fqR (pz_fqR (pz_fqL pz_fqq))))
theorem pz_hg4_6 : Cond.eq (.length (.field (pz_tm 6) "java/lang/String" "value" "[B")) (.int (Int32.ofNat (pz_stl.getD 6 0))) ∈ flatC (Jvm.Cond.and given_1 narrow_1) := pz_fi10 _ (pz_fqR (pz_fqL (pz_fqL (pz_fqR pz_fqq))))
theorem pz_hg4_7 : Cond.eq (.length (.field (pz_tm 7) "java/lang/String" "value" "[B")) (.int (Int32.ofNat (pz_stl.getD 7 0))) ∈ flatC (Jvm.Cond.and given_1 narrow_1) := pz_fi11 _ (pz_fqL (pz_fqR (pz_fqL (pz_fqR pz_fqq))))
theorem pz_hg4_8 : Cond.eq (.length (.field (pz_tm 8) "java/lang/String" "value" "[B")) (.int (Int32.ofNat (pz_stl.getD 8 0))) ∈ flatC (Jvm.Cond.and given_1 narrow_1) := pz_fi12 _ (pz_fqL (pz_fqL (pz_fqL (pz_fqL pz_fqq))))
theorem pz_hg4_9 : Cond.eq (.length (.field (pz_tm 9) "java/lang/String" "value" "[B")) (.int (Int32.ofNat (pz_stl.getD 9 0))) ∈ flatC (Jvm.Cond.and given_1 narrow_1) := pz_fi12 _ (pz_fqR (pz_fqR (pz_fqL (pz_fqR pz_fqq))))
theorem pz_hg4_10 : Cond.eq (.length (.field (pz_tm 10) "java/lang/String" "value" "[B")) (.int (Int32.ofNat (pz_stl.getD 10 0))) ∈ flatC (Jvm.Cond.and given_1 narrow_1) := pz_fi13 _ (pz_fqR (pz_fqL (pz_fqR (pz_fqR (pz_fqL pz_fqq)))))
theorem pz_hg4_11 : Cond.eq (.length (.field (pz_tm 11) "java/lang/String" "value" "[B")) (.int (Int32.ofNat (pz_stl.getD 11 0))) ∈ flatC (Jvm.Cond.and given_1 narrow_1) := pz_fi14 _ (pz_fqR (pz_fqL (pz_fqL (pz_fqR pz_fqq))))
theorem pz_hg4_12 : Cond.eq (.length (.field (pz_tm 12) "java/lang/String" "value" "[B")) (.int (Int32.ofNat (pz_stl.getD 12 0))) ∈ flatC (Jvm.Cond.and given_1 narrow_1) := pz_fi15 _ (pz_fqR (pz_fqL (pz_fqL (pz_fqR pz_fqq))))
theorem pz_hg4_13 : Cond.eq (.length (.field (pz_tm 13) "java/lang/String" "value" "[B")) (.int (Int32.ofNat (pz_stl.getD 13 0))) ∈ flatC (Jvm.Cond.and given_1 narrow_1) := pz_fi16 _ (pz_fqR (pz_fqL (pz_fqL (pz_fqR pz_fqq))))
theorem pz_hg4_14 : Cond.eq (.length (.field (pz_tm 14) "java/lang/String" "value" "[B")) (.int (Int32.ofNat (pz_stl.getD 14 0))) ∈ flatC (Jvm.Cond.and given_1 narrow_1) := pz_fi17 _ (pz_fqR (pz_fqL (pz_fqR (pz_fqL pz_fqq))))
theorem pz_hg4_15 : Cond.eq (.length (.field (pz_tm 15) "java/lang/String" "value" "[B")) (.int (Int32.ofNat (pz_stl.getD 15 0))) ∈ flatC (Jvm.Cond.and given_1 narrow_1) := pz_fi18 _ (pz_fqR (pz_fqL (pz_fqR (pz_fqR (pz_fqL pz_fqq)))))
theorem pz_hg4_16 : Cond.eq (.length (.field (pz_tm 16) "java/lang/String" "value" "[B")) (.int (Int32.ofNat (pz_stl.getD 16 0))) ∈ flatC (Jvm.Cond.and given_1 narrow_1) := pz_fi19 _ (pz_fqR (pz_fqR (pz_fqL (pz_fqR (pz_fqR pz_fqq)))))
theorem pz_hg4_17 : Cond.eq (.length (.field (pz_tm 17) "java/lang/String" "value" "[B")) (.int (Int32.ofNat (pz_stl.getD 17 0))) ∈ flatC (Jvm.Cond.and given_1 narrow_1) := pz_fi21 _ (pz_fqL (pz_fqL (pz_fqR (pz_fqR (pz_fqL pz_fqq)))))
theorem pz_hg4_18 : Cond.eq (.length (.field (pz_tm 18) "java/lang/String" "value" "[B")) (.int (Int32.ofNat (pz_stl.getD 18 0))) ∈ flatC (Jvm.Cond.and given_1 narrow_1) := pz_fi22 _ (pz_fqL (pz_fqR (pz_fqR (pz_fqR (pz_fqL pz_fqq)))))
theorem pz_hg4_19 : Cond.eq (.length (.field (pz_tm 19) "java/lang/String" "value" "[B")) (.int (Int32.ofNat (pz_stl.getD 19 0))) ∈ flatC (Jvm.Cond.and given_1 narrow_1) := pz_fi23 _ (pz_fqR (pz_fqL (pz_fqR (pz_fqL pz_fqq))))
theorem pz_hg4_20 : Cond.eq (.length (.field (pz_tm 20) "java/lang/String" "value" "[B")) (.int (Int32.ofNat (pz_stl.getD 20 0))) ∈ flatC (Jvm.Cond.and given_1 narrow_1) := pz_fi24 _ (pz_fqR (pz_fqR (pz_fqR (pz_fqL pz_fqq))))
theorem pz_hg4_21 : Cond.eq (.length (.field (pz_tm 21) "java/lang/String" "value" "[B")) (.int (Int32.ofNat (pz_stl.getD 21 0))) ∈ flatC (Jvm.Cond.and given_1 narrow_1) := pz_fi26 _ (pz_fqL (pz_fqR (pz_fqL (pz_fqR pz_fqq))))
theorem pz_hg4_22 : Cond.eq (.length (.field (pz_tm 22) "java/lang/String" "value" "[B")) (.int (Int32.ofNat (pz_stl.getD 22 0))) ∈ flatC (Jvm.Cond.and given_1 narrow_1) := pz_fi27 _ (pz_fqR (pz_fqL (pz_fqR (pz_fqR (pz_fqR pz_fqq)))))
theorem pz_hg4_23 : Cond.eq (.length (.field (pz_tm 23) "java/lang/String" "value" "[B")) (.int (Int32.ofNat (pz_stl.getD 23 0))) ∈ flatC (Jvm.Cond.and given_1 narrow_1) := pz_fi29 _ (pz_fqL (pz_fqL (pz_fqR (pz_fqR (pz_fqR pz_fqq)))))
theorem pz_hg4_24 : Cond.eq (.length (.field (pz_tm 24) "java/lang/String" "value" "[B")) (.int (Int32.ofNat (pz_stl.getD 24 0))) ∈ flatC (Jvm.Cond.and given_1 narrow_1) := pz_fi30 _ (pz_fqR (pz_fqL (pz_fqR (pz_fqR (pz_fqR pz_fqq)))))
theorem pz_hg4 : ∀ i, i < 25 → Cond.eq (.length (.field (pz_tm i) "java/lang/String" "value" "[B")) (.int (Int32.ofNat (pz_stl.getD i 0))) ∈ flatC (Jvm.Cond.and given_1 narrow_1) := by
  have k0 : ∀ m, m < 0 → (fun i : Nat => Cond.eq (.length (.field (pz_tm i) "java/lang/String" "value" "[B")) (.int (Int32.ofNat (pz_stl.getD i 0))) ∈ flatC (Jvm.Cond.and given_1 narrow_1)) m := pz_f0
  have k1 := pz_fs k0 pz_hg4_0
  have k2 := pz_fs k1 pz_hg4_1
  have k3 := pz_fs k2 pz_hg4_2
  have k4 := pz_fs k3 pz_hg4_3
  have k5 := pz_fs k4 pz_hg4_4
  have k6 := pz_fs k5 pz_hg4_5
  have k7 := pz_fs k6 pz_hg4_6
  have k8 := pz_fs k7 pz_hg4_7
  have k9 := pz_fs k8 pz_hg4_8
  have k10 := pz_fs k9 pz_hg4_9
  have k11 := pz_fs k10 pz_hg4_10
  have k12 := pz_fs k11 pz_hg4_11
  have k13 := pz_fs k12 pz_hg4_12
  have k14 := pz_fs k13 pz_hg4_13
  have k15 := pz_fs k14 pz_hg4_14
  have k16 := pz_fs k15 pz_hg4_15
  have k17 := pz_fs k16 pz_hg4_16
  have k18 := pz_fs k17 pz_hg4_17
  have k19 := pz_fs k18 pz_hg4_18
  have k20 := pz_fs k19 pz_hg4_19
  have k21 := pz_fs k20 pz_hg4_20
  have k22 := pz_fs k21 pz_hg4_21
  have k23 := pz_fs k22 pz_hg4_22
  have k24 := pz_fs k23 pz_hg4_23
  have k25 := pz_fs k24 pz_hg4_24
  exact k25
theorem pz_hg5_0_0 : Cond.eq (.elem (.field (pz_tm 0) "java/lang/String" "value" "[B") (.int (Int32.ofNat 0))) (.int ((pz_sb.getD 0 []).getD 0 0)) ∈ flatC (Jvm.Cond.and given_1 narrow_1) := pz_fi1 _ (pz_fqR (pz_fqR (pz_fqR (pz_fqL pz_fqq))))
theorem pz_hg5_0_1 : Cond.eq (.elem (.field (pz_tm 0) "java/lang/String" "value" "[B") (.int (Int32.ofNat 1))) (.int ((pz_sb.getD 0 []).getD 1 0)) ∈ flatC (Jvm.Cond.and given_1 narrow_1) := pz_fi1 _ (pz_fqR (pz_fqR (pz_fqR (pz_fqR (pz_fqL pz_fqq)))))
theorem pz_hg5_0_2 : Cond.eq (.elem (.field (pz_tm 0) "java/lang/String" "value" "[B") (.int (Int32.ofNat 2))) (.int ((pz_sb.getD 0 []).getD 2 0)) ∈ flatC (Jvm.Cond.and given_1 narrow_1) := pz_fi1 _ (pz_fqR (pz_fqR (pz_fqR (pz_fqR (pz_fqR pz_fqq)))))
theorem pz_hg5_0_3 : Cond.eq (.elem (.field (pz_tm 0) "java/lang/String" "value" "[B") (.int (Int32.ofNat 3))) (.int ((pz_sb.getD 0 []).getD 3 0)) ∈ flatC (Jvm.Cond.and given_1 narrow_1) := pz_fi2 _ (pz_fqL (pz_fqL (pz_fqL (pz_fqL pz_fqq))))
theorem pz_hg5_0_4 : Cond.eq (.elem (.field (pz_tm 0) "java/lang/String" "value" "[B") (.int (Int32.ofNat 4))) (.int ((pz_sb.getD 0 []).getD 4 0)) ∈ flatC (Jvm.Cond.and given_1 narrow_1) := pz_fi2 _ (pz_fqL (pz_fqL (pz_fqL (pz_fqR pz_fqq))))
theorem pz_hg5_0_5 : Cond.eq (.elem (.field (pz_tm 0) "java/lang/String" "value" "[B") (.int (Int32.ofNat 5))) (.int ((pz_sb.getD 0 []).getD 5 0)) ∈ flatC (Jvm.Cond.and given_1 narrow_1) := pz_fi2 _ (pz_fqL (pz_fqL (pz_fqR (pz_fqL pz_fqq))))
theorem pz_hg5_0_6 : Cond.eq (.elem (.field (pz_tm 0) "java/lang/String" "value" "[B") (.int (Int32.ofNat 6))) (.int ((pz_sb.getD 0 []).getD 6 0)) ∈ flatC (Jvm.Cond.and given_1 narrow_1) := pz_fi2 _ (pz_fqL (pz_fqL (pz_fqR (pz_fqR (pz_fqL pz_fqq)))))
theorem pz_hg5_0_7 : Cond.eq (.elem (.field (pz_tm 0) "java/lang/String" "value" "[B") (.int (Int32.ofNat 7))) (.int ((pz_sb.getD 0 []).getD 7 0)) ∈ flatC (Jvm.Cond.and given_1 narrow_1) := pz_fi2 _ (pz_fqL (pz_fqL (pz_fqR (pz_fqR (pz_fqR pz_fqq)))))
theorem pz_hg5_0_8 : Cond.eq (.elem (.field (pz_tm 0) "java/lang/String" "value" "[B") (.int (Int32.ofNat 8))) (.int ((pz_sb.getD 0 []).getD 8 0)) ∈ flatC (Jvm.Cond.and given_1 narrow_1) := pz_fi2 _ (pz_fqL (pz_fqR (pz_fqL (pz_fqL pz_fqq))))
theorem pz_hg5_0_9 : Cond.eq (.elem (.field (pz_tm 0) "java/lang/String" "value" "[B") (.int (Int32.ofNat 9))) (.int ((pz_sb.getD 0 []).getD 9 0)) ∈ flatC (Jvm.Cond.and given_1 narrow_1) := pz_fi2 _ (pz_fqL (pz_fqR (pz_fqL (pz_fqR pz_fqq))))
theorem pz_hg5_0_10 : Cond.eq (.elem (.field (pz_tm 0) "java/lang/String" "value" "[B") (.int (Int32.ofNat 10))) (.int ((pz_sb.getD 0 []).getD 10 0)) ∈ flatC (Jvm.Cond.and given_1 narrow_1) := pz_fi2 _ (pz_fqL (pz_fqR (pz_fqR (pz_fqL pz_fqq))))
theorem pz_hg5_0_11 : Cond.eq (.elem (.field (pz_tm 0) "java/lang/String" "value" "[B") (.int (Int32.ofNat 11))) (.int ((pz_sb.getD 0 []).getD 11 0)) ∈ flatC (Jvm.Cond.and given_1 narrow_1) := pz_fi2 _ (pz_fqL (pz_fqR (pz_fqR (pz_fqR (pz_fqL pz_fqq)))))
theorem pz_hg5_0_12 : Cond.eq (.elem (.field (pz_tm 0) "java/lang/String" "value" "[B") (.int (Int32.ofNat 12))) (.int ((pz_sb.getD 0 []).getD 12 0)) ∈ flatC (Jvm.Cond.and given_1 narrow_1) := pz_fi2 _ (pz_fqL (pz_fqR (pz_fqR (pz_fqR (pz_fqR pz_fqq)))))
theorem pz_hg5_0_13 : Cond.eq (.elem (.field (pz_tm 0) "java/lang/String" "value" "[B") (.int (Int32.ofNat 13))) (.int ((pz_sb.getD 0 []).getD 13 0)) ∈ flatC (Jvm.Cond.and given_1 narrow_1) := pz_fi2 _ (pz_fqR (pz_fqL (pz_fqL (pz_fqL pz_fqq))))
theorem pz_hg5_0_14 : Cond.eq (.elem (.field (pz_tm 0) "java/lang/String" "value" "[B") (.int (Int32.ofNat 14))) (.int ((pz_sb.getD 0 []).getD 14 0)) ∈ flatC (Jvm.Cond.and given_1 narrow_1) := pz_fi2 _ (pz_fqR (pz_fqL (pz_fqL (pz_fqR pz_fqq))))
theorem pz_hg5_0_15 : Cond.eq (.elem (.field (pz_tm 0) "java/lang/String" "value" "[B") (.int (Int32.ofNat 15))) (.int ((pz_sb.getD 0 []).getD 15 0)) ∈ flatC (Jvm.Cond.and given_1 narrow_1) := pz_fi2 _ (pz_fqR (pz_fqL (pz_fqR (pz_fqL pz_fqq))))
theorem pz_hg5_0_16 : Cond.eq (.elem (.field (pz_tm 0) "java/lang/String" "value" "[B") (.int (Int32.ofNat 16))) (.int ((pz_sb.getD 0 []).getD 16 0)) ∈ flatC (Jvm.Cond.and given_1 narrow_1) := pz_fi2 _ (pz_fqR (pz_fqL (pz_fqR (pz_fqR (pz_fqL pz_fqq)))))
theorem pz_hg5_0_17 : Cond.eq (.elem (.field (pz_tm 0) "java/lang/String" "value" "[B") (.int (Int32.ofNat 17))) (.int ((pz_sb.getD 0 []).getD 17 0)) ∈ flatC (Jvm.Cond.and given_1 narrow_1) := pz_fi2 _ (pz_fqR (pz_fqL (pz_fqR (pz_fqR (pz_fqR pz_fqq)))))
theorem pz_hg5_0_18 : Cond.eq (.elem (.field (pz_tm 0) "java/lang/String" "value" "[B") (.int (Int32.ofNat 18))) (.int ((pz_sb.getD 0 []).getD 18 0)) ∈ flatC (Jvm.Cond.and given_1 narrow_1) := pz_fi2 _ (pz_fqR (pz_fqR (pz_fqL (pz_fqL pz_fqq))))
theorem pz_hg5_0_19 : Cond.eq (.elem (.field (pz_tm 0) "java/lang/String" "value" "[B") (.int (Int32.ofNat 19))) (.int ((pz_sb.getD 0 []).getD 19 0)) ∈ flatC (Jvm.Cond.and given_1 narrow_1) := pz_fi2 _ (pz_fqR (pz_fqR (pz_fqL (pz_fqR pz_fqq))))
theorem pz_hg5_0_20 : Cond.eq (.elem (.field (pz_tm 0) "java/lang/String" "value" "[B") (.int (Int32.ofNat 20))) (.int ((pz_sb.getD 0 []).getD 20 0)) ∈ flatC (Jvm.Cond.and given_1 narrow_1) := pz_fi2 _ (pz_fqR (pz_fqR (pz_fqR (pz_fqL pz_fqq))))
theorem pz_hg5_0_21 : Cond.eq (.elem (.field (pz_tm 0) "java/lang/String" "value" "[B") (.int (Int32.ofNat 21))) (.int ((pz_sb.getD 0 []).getD 21 0)) ∈ flatC (Jvm.Cond.and given_1 narrow_1) := pz_fi2 _ (pz_fqR (pz_fqR (pz_fqR (pz_fqR (pz_fqL pz_fqq)))))
theorem pz_hg5_0_22 : Cond.eq (.elem (.field (pz_tm 0) "java/lang/String" "value" "[B") (.int (Int32.ofNat 22))) (.int ((pz_sb.getD 0 []).getD 22 0)) ∈ flatC (Jvm.Cond.and given_1 narrow_1) := pz_fi2 _ (pz_fqR (pz_fqR (pz_fqR (pz_fqR (pz_fqR pz_fqq)))))
theorem pz_hg5_0_23 : Cond.eq (.elem (.field (pz_tm 0) "java/lang/String" "value" "[B") (.int (Int32.ofNat 23))) (.int ((pz_sb.getD 0 []).getD 23 0)) ∈ flatC (Jvm.Cond.and given_1 narrow_1) := pz_fi3 _ (pz_fqL (pz_fqL (pz_fqL (pz_fqL pz_fqq))))
theorem pz_hg5_0_24 : Cond.eq (.elem (.field (pz_tm 0) "java/lang/String" "value" "[B") (.int (Int32.ofNat 24))) (.int ((pz_sb.getD 0 []).getD 24 0)) ∈ flatC (Jvm.Cond.and given_1 narrow_1) := pz_fi3 _ (pz_fqL (pz_fqL (pz_fqL (pz_fqR pz_fqq))))
theorem pz_hg5_0_25 : Cond.eq (.elem (.field (pz_tm 0) "java/lang/String" "value" "[B") (.int (Int32.ofNat 25))) (.int ((pz_sb.getD 0 []).getD 25 0)) ∈ flatC (Jvm.Cond.and given_1 narrow_1) := pz_fi3 _ (pz_fqL (pz_fqL (pz_fqR (pz_fqL pz_fqq))))
theorem pz_hg5_0_26 : Cond.eq (.elem (.field (pz_tm 0) "java/lang/String" "value" "[B") (.int (Int32.ofNat 26))) (.int ((pz_sb.getD 0 []).getD 26 0)) ∈ flatC (Jvm.Cond.and given_1 narrow_1) := pz_fi3 _ (pz_fqL (pz_fqL (pz_fqR (pz_fqR (pz_fqL pz_fqq)))))
theorem pz_hg5_0_27 : Cond.eq (.elem (.field (pz_tm 0) "java/lang/String" "value" "[B") (.int (Int32.ofNat 27))) (.int ((pz_sb.getD 0 []).getD 27 0)) ∈ flatC (Jvm.Cond.and given_1 narrow_1) := pz_fi3 _ (pz_fqL (pz_fqL (pz_fqR (pz_fqR (pz_fqR pz_fqq)))))
theorem pz_hg5_0_28 : Cond.eq (.elem (.field (pz_tm 0) "java/lang/String" "value" "[B") (.int (Int32.ofNat 28))) (.int ((pz_sb.getD 0 []).getD 28 0)) ∈ flatC (Jvm.Cond.and given_1 narrow_1) := pz_fi3 _ (pz_fqL (pz_fqR (pz_fqL (pz_fqL pz_fqq))))
theorem pz_hg5_0_29 : Cond.eq (.elem (.field (pz_tm 0) "java/lang/String" "value" "[B") (.int (Int32.ofNat 29))) (.int ((pz_sb.getD 0 []).getD 29 0)) ∈ flatC (Jvm.Cond.and given_1 narrow_1) := pz_fi3 _ (pz_fqL (pz_fqR (pz_fqL (pz_fqR pz_fqq))))
theorem pz_hg5_0_30 : Cond.eq (.elem (.field (pz_tm 0) "java/lang/String" "value" "[B") (.int (Int32.ofNat 30))) (.int ((pz_sb.getD 0 []).getD 30 0)) ∈ flatC (Jvm.Cond.and given_1 narrow_1) := pz_fi3 _ (pz_fqL (pz_fqR (pz_fqR (pz_fqL pz_fqq))))
theorem pz_hg5_0_31 : Cond.eq (.elem (.field (pz_tm 0) "java/lang/String" "value" "[B") (.int (Int32.ofNat 31))) (.int ((pz_sb.getD 0 []).getD 31 0)) ∈ flatC (Jvm.Cond.and given_1 narrow_1) := pz_fi3 _ (pz_fqL (pz_fqR (pz_fqR (pz_fqR (pz_fqL pz_fqq)))))
theorem pz_hg5_0_32 : Cond.eq (.elem (.field (pz_tm 0) "java/lang/String" "value" "[B") (.int (Int32.ofNat 32))) (.int ((pz_sb.getD 0 []).getD 32 0)) ∈ flatC (Jvm.Cond.and given_1 narrow_1) := pz_fi3 _ (pz_fqL (pz_fqR (pz_fqR (pz_fqR (pz_fqR pz_fqq)))))
theorem pz_hg5_0_33 : Cond.eq (.elem (.field (pz_tm 0) "java/lang/String" "value" "[B") (.int (Int32.ofNat 33))) (.int ((pz_sb.getD 0 []).getD 33 0)) ∈ flatC (Jvm.Cond.and given_1 narrow_1) := pz_fi3 _ (pz_fqR (pz_fqL (pz_fqL (pz_fqL pz_fqq))))
theorem pz_hg5_0_34 : Cond.eq (.elem (.field (pz_tm 0) "java/lang/String" "value" "[B") (.int (Int32.ofNat 34))) (.int ((pz_sb.getD 0 []).getD 34 0)) ∈ flatC (Jvm.Cond.and given_1 narrow_1) := pz_fi3 _ (pz_fqR (pz_fqL (pz_fqL (pz_fqR pz_fqq))))
theorem pz_hg5_0_35 : Cond.eq (.elem (.field (pz_tm 0) "java/lang/String" "value" "[B") (.int (Int32.ofNat 35))) (.int ((pz_sb.getD 0 []).getD 35 0)) ∈ flatC (Jvm.Cond.and given_1 narrow_1) := pz_fi3 _ (pz_fqR (pz_fqL (pz_fqR (pz_fqL pz_fqq))))
theorem pz_hg5_0_36 : Cond.eq (.elem (.field (pz_tm 0) "java/lang/String" "value" "[B") (.int (Int32.ofNat 36))) (.int ((pz_sb.getD 0 []).getD 36 0)) ∈ flatC (Jvm.Cond.and given_1 narrow_1) := pz_fi3 _ (pz_fqR (pz_fqL (pz_fqR (pz_fqR (pz_fqL pz_fqq)))))
theorem pz_hg5_0_37 : Cond.eq (.elem (.field (pz_tm 0) "java/lang/String" "value" "[B") (.int (Int32.ofNat 37))) (.int ((pz_sb.getD 0 []).getD 37 0)) ∈ flatC (Jvm.Cond.and given_1 narrow_1) := pz_fi3 _ (pz_fqR (pz_fqL (pz_fqR (pz_fqR (pz_fqR pz_fqq)))))
theorem pz_hg5_0_38 : Cond.eq (.elem (.field (pz_tm 0) "java/lang/String" "value" "[B") (.int (Int32.ofNat 38))) (.int ((pz_sb.getD 0 []).getD 38 0)) ∈ flatC (Jvm.Cond.and given_1 narrow_1) := pz_fi3 _ (pz_fqR (pz_fqR (pz_fqL (pz_fqL pz_fqq))))
theorem pz_hg5_0_39 : Cond.eq (.elem (.field (pz_tm 0) "java/lang/String" "value" "[B") (.int (Int32.ofNat 39))) (.int ((pz_sb.getD 0 []).getD 39 0)) ∈ flatC (Jvm.Cond.and given_1 narrow_1) := pz_fi3 _ (pz_fqR (pz_fqR (pz_fqL (pz_fqR (pz_fqL pz_fqq)))))
theorem pz_hg5_0_40 : Cond.eq (.elem (.field (pz_tm 0) "java/lang/String" "value" "[B") (.int (Int32.ofNat 40))) (.int ((pz_sb.getD 0 []).getD 40 0)) ∈ flatC (Jvm.Cond.and given_1 narrow_1) := pz_fi3 _ (pz_fqR (pz_fqR (pz_fqL (pz_fqR (pz_fqR pz_fqq)))))
theorem pz_hg5_0_41 : Cond.eq (.elem (.field (pz_tm 0) "java/lang/String" "value" "[B") (.int (Int32.ofNat 41))) (.int ((pz_sb.getD 0 []).getD 41 0)) ∈ flatC (Jvm.Cond.and given_1 narrow_1) := pz_fi3 _ (pz_fqR (pz_fqR (pz_fqR (pz_fqL pz_fqq))))
theorem pz_hg5_0_42 : Cond.eq (.elem (.field (pz_tm 0) "java/lang/String" "value" "[B") (.int (Int32.ofNat 42))) (.int ((pz_sb.getD 0 []).getD 42 0)) ∈ flatC (Jvm.Cond.and given_1 narrow_1) := pz_fi3 _ (pz_fqR (pz_fqR (pz_fqR (pz_fqR (pz_fqL pz_fqq)))))
theorem pz_hg5_0_43 : Cond.eq (.elem (.field (pz_tm 0) "java/lang/String" "value" "[B") (.int (Int32.ofNat 43))) (.int ((pz_sb.getD 0 []).getD 43 0)) ∈ flatC (Jvm.Cond.and given_1 narrow_1) := pz_fi3 _ (pz_fqR (pz_fqR (pz_fqR (pz_fqR (pz_fqR pz_fqq)))))
theorem pz_hg5_0_44 : Cond.eq (.elem (.field (pz_tm 0) "java/lang/String" "value" "[B") (.int (Int32.ofNat 44))) (.int ((pz_sb.getD 0 []).getD 44 0)) ∈ flatC (Jvm.Cond.and given_1 narrow_1) := pz_fi4 _ (pz_fqL (pz_fqL (pz_fqL (pz_fqL pz_fqq))))
theorem pz_hg5_0_45 : Cond.eq (.elem (.field (pz_tm 0) "java/lang/String" "value" "[B") (.int (Int32.ofNat 45))) (.int ((pz_sb.getD 0 []).getD 45 0)) ∈ flatC (Jvm.Cond.and given_1 narrow_1) := pz_fi4 _ (pz_fqL (pz_fqL (pz_fqL (pz_fqR pz_fqq))))
theorem pz_hg5_0_46 : Cond.eq (.elem (.field (pz_tm 0) "java/lang/String" "value" "[B") (.int (Int32.ofNat 46))) (.int ((pz_sb.getD 0 []).getD 46 0)) ∈ flatC (Jvm.Cond.and given_1 narrow_1) := pz_fi4 _ (pz_fqL (pz_fqL (pz_fqR (pz_fqL pz_fqq))))
theorem pz_hg5_0_47 : Cond.eq (.elem (.field (pz_tm 0) "java/lang/String" "value" "[B") (.int (Int32.ofNat 47))) (.int ((pz_sb.getD 0 []).getD 47 0)) ∈ flatC (Jvm.Cond.and given_1 narrow_1) := pz_fi4 _ (pz_fqL (pz_fqL (pz_fqR (pz_fqR (pz_fqL pz_fqq)))))
theorem pz_hg5_0_48 : Cond.eq (.elem (.field (pz_tm 0) "java/lang/String" "value" "[B") (.int (Int32.ofNat 48))) (.int ((pz_sb.getD 0 []).getD 48 0)) ∈ flatC (Jvm.Cond.and given_1 narrow_1) := pz_fi4 _ (pz_fqL (pz_fqL (pz_fqR (pz_fqR (pz_fqR pz_fqq)))))
theorem pz_hg5_0_49 : Cond.eq (.elem (.field (pz_tm 0) "java/lang/String" "value" "[B") (.int (Int32.ofNat 49))) (.int ((pz_sb.getD 0 []).getD 49 0)) ∈ flatC (Jvm.Cond.and given_1 narrow_1) := pz_fi4 _ (pz_fqL (pz_fqR (pz_fqL (pz_fqL pz_fqq))))
theorem pz_hg5_0_50 : Cond.eq (.elem (.field (pz_tm 0) "java/lang/String" "value" "[B") (.int (Int32.ofNat 50))) (.int ((pz_sb.getD 0 []).getD 50 0)) ∈ flatC (Jvm.Cond.and given_1 narrow_1) := pz_fi4 _ (pz_fqL (pz_fqR (pz_fqL (pz_fqR pz_fqq))))
theorem pz_hg5_0_51 : Cond.eq (.elem (.field (pz_tm 0) "java/lang/String" "value" "[B") (.int (Int32.ofNat 51))) (.int ((pz_sb.getD 0 []).getD 51 0)) ∈ flatC (Jvm.Cond.and given_1 narrow_1) := pz_fi4 _ (pz_fqL (pz_fqR (pz_fqR (pz_fqL pz_fqq))))
theorem pz_hg5_0_52 : Cond.eq (.elem (.field (pz_tm 0) "java/lang/String" "value" "[B") (.int (Int32.ofNat 52))) (.int ((pz_sb.getD 0 []).getD 52 0)) ∈ flatC (Jvm.Cond.and given_1 narrow_1) := pz_fi4 _ (pz_fqL (pz_fqR (pz_fqR (pz_fqR (pz_fqL pz_fqq)))))
theorem pz_hg5_0_53 : Cond.eq (.elem (.field (pz_tm 0) "java/lang/String" "value" "[B") (.int (Int32.ofNat 53))) (.int ((pz_sb.getD 0 []).getD 53 0)) ∈ flatC (Jvm.Cond.and given_1 narrow_1) := pz_fi4 _ (pz_fqL (pz_fqR (pz_fqR (pz_fqR (pz_fqR pz_fqq)))))
theorem pz_hg5_0_54 : Cond.eq (.elem (.field (pz_tm 0) "java/lang/String" "value" "[B") (.int (Int32.ofNat 54))) (.int ((pz_sb.getD 0 []).getD 54 0)) ∈ flatC (Jvm.Cond.and given_1 narrow_1) := pz_fi4 _ (pz_fqR (pz_fqL (pz_fqL (pz_fqL pz_fqq))))
theorem pz_hg5_0_55 : Cond.eq (.elem (.field (pz_tm 0) "java/lang/String" "value" "[B") (.int (Int32.ofNat 55))) (.int ((pz_sb.getD 0 []).getD 55 0)) ∈ flatC (Jvm.Cond.and given_1 narrow_1) := pz_fi4 _ (pz_fqR (pz_fqL (pz_fqL (pz_fqR pz_fqq))))
theorem pz_hg5_0_56 : Cond.eq (.elem (.field (pz_tm 0) "java/lang/String" "value" "[B") (.int (Int32.ofNat 56))) (.int ((pz_sb.getD 0 []).getD 56 0)) ∈ flatC (Jvm.Cond.and given_1 narrow_1) := pz_fi4 _ (pz_fqR (pz_fqL (pz_fqR (pz_fqL pz_fqq))))
theorem pz_hg5_0_57 : Cond.eq (.elem (.field (pz_tm 0) "java/lang/String" "value" "[B") (.int (Int32.ofNat 57))) (.int ((pz_sb.getD 0 []).getD 57 0)) ∈ flatC (Jvm.Cond.and given_1 narrow_1) := pz_fi4 _ (pz_fqR (pz_fqL (pz_fqR (pz_fqR (pz_fqL pz_fqq)))))
theorem pz_hg5_0_58 : Cond.eq (.elem (.field (pz_tm 0) "java/lang/String" "value" "[B") (.int (Int32.ofNat 58))) (.int ((pz_sb.getD 0 []).getD 58 0)) ∈ flatC (Jvm.Cond.and given_1 narrow_1) := pz_fi4 _ (pz_fqR (pz_fqL (pz_fqR (pz_fqR (pz_fqR pz_fqq)))))
theorem pz_hg5_0_59 : Cond.eq (.elem (.field (pz_tm 0) "java/lang/String" "value" "[B") (.int (Int32.ofNat 59))) (.int ((pz_sb.getD 0 []).getD 59 0)) ∈ flatC (Jvm.Cond.and given_1 narrow_1) := pz_fi4 _ (pz_fqR (pz_fqR (pz_fqL (pz_fqL pz_fqq))))
theorem pz_hg5_0_60 : Cond.eq (.elem (.field (pz_tm 0) "java/lang/String" "value" "[B") (.int (Int32.ofNat 60))) (.int ((pz_sb.getD 0 []).getD 60 0)) ∈ flatC (Jvm.Cond.and given_1 narrow_1) := pz_fi4 _ (pz_fqR (pz_fqR (pz_fqL (pz_fqR pz_fqq))))
theorem pz_hg5_0_61 : Cond.eq (.elem (.field (pz_tm 0) "java/lang/String" "value" "[B") (.int (Int32.ofNat 61))) (.int ((pz_sb.getD 0 []).getD 61 0)) ∈ flatC (Jvm.Cond.and given_1 narrow_1) := pz_fi4 _ (pz_fqR (pz_fqR (pz_fqR (pz_fqL pz_fqq))))
theorem pz_hg5_0_62 : Cond.eq (.elem (.field (pz_tm 0) "java/lang/String" "value" "[B") (.int (Int32.ofNat 62))) (.int ((pz_sb.getD 0 []).getD 62 0)) ∈ flatC (Jvm.Cond.and given_1 narrow_1) := pz_fi4 _ (pz_fqR (pz_fqR (pz_fqR (pz_fqR (pz_fqL pz_fqq)))))
theorem pz_hg5_0_63 : Cond.eq (.elem (.field (pz_tm 0) "java/lang/String" "value" "[B") (.int (Int32.ofNat 63))) (.int ((pz_sb.getD 0 []).getD 63 0)) ∈ flatC (Jvm.Cond.and given_1 narrow_1) := pz_fi4 _ (pz_fqR (pz_fqR (pz_fqR (pz_fqR (pz_fqR pz_fqq)))))
theorem pz_hg5_0_64 : Cond.eq (.elem (.field (pz_tm 0) "java/lang/String" "value" "[B") (.int (Int32.ofNat 64))) (.int ((pz_sb.getD 0 []).getD 64 0)) ∈ flatC (Jvm.Cond.and given_1 narrow_1) := pz_fi5 _ (pz_fqL (pz_fqL (pz_fqL (pz_fqL pz_fqq))))
theorem pz_hg5_0_65 : Cond.eq (.elem (.field (pz_tm 0) "java/lang/String" "value" "[B") (.int (Int32.ofNat 65))) (.int ((pz_sb.getD 0 []).getD 65 0)) ∈ flatC (Jvm.Cond.and given_1 narrow_1) := pz_fi5 _ (pz_fqL (pz_fqL (pz_fqL (pz_fqR pz_fqq))))
theorem pz_hg5_0_66 : Cond.eq (.elem (.field (pz_tm 0) "java/lang/String" "value" "[B") (.int (Int32.ofNat 66))) (.int ((pz_sb.getD 0 []).getD 66 0)) ∈ flatC (Jvm.Cond.and given_1 narrow_1) := pz_fi5 _ (pz_fqL (pz_fqL (pz_fqR (pz_fqL pz_fqq))))
theorem pz_hg5_0_67 : Cond.eq (.elem (.field (pz_tm 0) "java/lang/String" "value" "[B") (.int (Int32.ofNat 67))) (.int ((pz_sb.getD 0 []).getD 67 0)) ∈ flatC (Jvm.Cond.and given_1 narrow_1) := pz_fi5 _ (pz_fqL (pz_fqL (pz_fqR (pz_fqR (pz_fqL pz_fqq)))))
theorem pz_hg5_0_68 : Cond.eq (.elem (.field (pz_tm 0) "java/lang/String" "value" "[B") (.int (Int32.ofNat 68))) (.int ((pz_sb.getD 0 []).getD 68 0)) ∈ flatC (Jvm.Cond.and given_1 narrow_1) := pz_fi5 _ (pz_fqL (pz_fqL (pz_fqR (pz_fqR (pz_fqR pz_fqq)))))
theorem pz_hg5_0_69 : Cond.eq (.elem (.field (pz_tm 0) "java/lang/String" "value" "[B") (.int (Int32.ofNat 69))) (.int ((pz_sb.getD 0 []).getD 69 0)) ∈ flatC (Jvm.Cond.and given_1 narrow_1) := pz_fi5 _ (pz_fqL (pz_fqR (pz_fqL (pz_fqL pz_fqq))))
theorem pz_hg5_0_70 : Cond.eq (.elem (.field (pz_tm 0) "java/lang/String" "value" "[B") (.int (Int32.ofNat 70))) (.int ((pz_sb.getD 0 []).getD 70 0)) ∈ flatC (Jvm.Cond.and given_1 narrow_1) := pz_fi5 _ (pz_fqL (pz_fqR (pz_fqL (pz_fqR pz_fqq))))
theorem pz_hg5_0_71 : Cond.eq (.elem (.field (pz_tm 0) "java/lang/String" "value" "[B") (.int (Int32.ofNat 71))) (.int ((pz_sb.getD 0 []).getD 71 0)) ∈ flatC (Jvm.Cond.and given_1 narrow_1) := pz_fi5 _ (pz_fqL (pz_fqR (pz_fqR (pz_fqL pz_fqq))))
theorem pz_hg5_0_72 : Cond.eq (.elem (.field (pz_tm 0) "java/lang/String" "value" "[B") (.int (Int32.ofNat 72))) (.int ((pz_sb.getD 0 []).getD 72 0)) ∈ flatC (Jvm.Cond.and given_1 narrow_1) := pz_fi5 _ (pz_fqL (pz_fqR (pz_fqR (pz_fqR (pz_fqL pz_fqq)))))
theorem pz_hg5_0_73 : Cond.eq (.elem (.field (pz_tm 0) "java/lang/String" "value" "[B") (.int (Int32.ofNat 73))) (.int ((pz_sb.getD 0 []).getD 73 0)) ∈ flatC (Jvm.Cond.and given_1 narrow_1) := pz_fi5 _ (pz_fqL (pz_fqR (pz_fqR (pz_fqR (pz_fqR pz_fqq)))))
theorem pz_hg5_0_74 : Cond.eq (.elem (.field (pz_tm 0) "java/lang/String" "value" "[B") (.int (Int32.ofNat 74))) (.int ((pz_sb.getD 0 []).getD 74 0)) ∈ flatC (Jvm.Cond.and given_1 narrow_1) := pz_fi5 _ (pz_fqR (pz_fqL (pz_fqL (pz_fqL pz_fqq))))
theorem pz_hg5_0_75 : Cond.eq (.elem (.field (pz_tm 0) "java/lang/String" "value" "[B") (.int (Int32.ofNat 75))) (.int ((pz_sb.getD 0 []).getD 75 0)) ∈ flatC (Jvm.Cond.and given_1 narrow_1) := pz_fi5 _ (pz_fqR (pz_fqL (pz_fqL (pz_fqR pz_fqq))))
theorem pz_hg5_0_76 : Cond.eq (.elem (.field (pz_tm 0) "java/lang/String" "value" "[B") (.int (Int32.ofNat 76))) (.int ((pz_sb.getD 0 []).getD 76 0)) ∈ flatC (Jvm.Cond.and given_1 narrow_1) := pz_fi5 _ (pz_fqR (pz_fqL (pz_fqR (pz_fqL pz_fqq))))
theorem pz_hg5_0_77 : Cond.eq (.elem (.field (pz_tm 0) "java/lang/String" "value" "[B") (.int (Int32.ofNat 77))) (.int ((pz_sb.getD 0 []).getD 77 0)) ∈ flatC (Jvm.Cond.and given_1 narrow_1) := pz_fi5 _ (pz_fqR (pz_fqL (pz_fqR (pz_fqR (pz_fqL pz_fqq)))))
theorem pz_hg5_0_78 : Cond.eq (.elem (.field (pz_tm 0) "java/lang/String" "value" "[B") (.int (Int32.ofNat 78))) (.int ((pz_sb.getD 0 []).getD 78 0)) ∈ flatC (Jvm.Cond.and given_1 narrow_1) := pz_fi5 _ (pz_fqR (pz_fqL (pz_fqR (pz_fqR (pz_fqR pz_fqq)))))
theorem pz_hg5_0_79 : Cond.eq (.elem (.field (pz_tm 0) "java/lang/String" "value" "[B") (.int (Int32.ofNat 79))) (.int ((pz_sb.getD 0 []).getD 79 0)) ∈ flatC (Jvm.Cond.and given_1 narrow_1) := pz_fi5 _ (pz_fqR (pz_fqR (pz_fqL (pz_fqL pz_fqq))))
theorem pz_hg5_0_80 : Cond.eq (.elem (.field (pz_tm 0) "java/lang/String" "value" "[B") (.int (Int32.ofNat 80))) (.int ((pz_sb.getD 0 []).getD 80 0)) ∈ flatC (Jvm.Cond.and given_1 narrow_1) := pz_fi5 _ (pz_fqR (pz_fqR (pz_fqL (pz_fqR (pz_fqL pz_fqq)))))
theorem pz_hg5_0_81 : Cond.eq (.elem (.field (pz_tm 0) "java/lang/String" "value" "[B") (.int (Int32.ofNat 81))) (.int ((pz_sb.getD 0 []).getD 81 0)) ∈ flatC (Jvm.Cond.and given_1 narrow_1) := pz_fi5 _ (pz_fqR (pz_fqR (pz_fqL (pz_fqR (pz_fqR pz_fqq)))))
theorem pz_hg5_0_82 : Cond.eq (.elem (.field (pz_tm 0) "java/lang/String" "value" "[B") (.int (Int32.ofNat 82))) (.int ((pz_sb.getD 0 []).getD 82 0)) ∈ flatC (Jvm.Cond.and given_1 narrow_1) := pz_fi5 _ (pz_fqR (pz_fqR (pz_fqR (pz_fqL pz_fqq))))
theorem pz_hg5_0_83 : Cond.eq (.elem (.field (pz_tm 0) "java/lang/String" "value" "[B") (.int (Int32.ofNat 83))) (.int ((pz_sb.getD 0 []).getD 83 0)) ∈ flatC (Jvm.Cond.and given_1 narrow_1) := pz_fi5 _ (pz_fqR (pz_fqR (pz_fqR (pz_fqR (pz_fqL pz_fqq)))))
theorem pz_hg5_0_84 : Cond.eq (.elem (.field (pz_tm 0) "java/lang/String" "value" "[B") (.int (Int32.ofNat 84))) (.int ((pz_sb.getD 0 []).getD 84 0)) ∈ flatC (Jvm.Cond.and given_1 narrow_1) := pz_fi5 _ (pz_fqR (pz_fqR (pz_fqR (pz_fqR (pz_fqR pz_fqq)))))
theorem pz_hg5_0_85 : Cond.eq (.elem (.field (pz_tm 0) "java/lang/String" "value" "[B") (.int (Int32.ofNat 85))) (.int ((pz_sb.getD 0 []).getD 85 0)) ∈ flatC (Jvm.Cond.and given_1 narrow_1) := pz_fi6 _ (pz_fqL (pz_fqL (pz_fqL (pz_fqL pz_fqq))))
theorem pz_hg5_0_86 : Cond.eq (.elem (.field (pz_tm 0) "java/lang/String" "value" "[B") (.int (Int32.ofNat 86))) (.int ((pz_sb.getD 0 []).getD 86 0)) ∈ flatC (Jvm.Cond.and given_1 narrow_1) := pz_fi6 _ (pz_fqL (pz_fqL (pz_fqL (pz_fqR pz_fqq))))
theorem pz_hg5_0_87 : Cond.eq (.elem (.field (pz_tm 0) "java/lang/String" "value" "[B") (.int (Int32.ofNat 87))) (.int ((pz_sb.getD 0 []).getD 87 0)) ∈ flatC (Jvm.Cond.and given_1 narrow_1) := pz_fi6 _ (pz_fqL (pz_fqL (pz_fqR (pz_fqL pz_fqq))))
theorem pz_hg5_0_88 : Cond.eq (.elem (.field (pz_tm 0) "java/lang/String" "value" "[B") (.int (Int32.ofNat 88))) (.int ((pz_sb.getD 0 []).getD 88 0)) ∈ flatC (Jvm.Cond.and given_1 narrow_1) := pz_fi6 _ (pz_fqL (pz_fqL (pz_fqR (pz_fqR (pz_fqL pz_fqq)))))
theorem pz_hg5_0_89 : Cond.eq (.elem (.field (pz_tm 0) "java/lang/String" "value" "[B") (.int (Int32.ofNat 89))) (.int ((pz_sb.getD 0 []).getD 89 0)) ∈ flatC (Jvm.Cond.and given_1 narrow_1) := pz_fi6 _ (pz_fqL (pz_fqL (pz_fqR (pz_fqR (pz_fqR pz_fqq)))))
theorem pz_hg5_0_90 : Cond.eq (.elem (.field (pz_tm 0) "java/lang/String" "value" "[B") (.int (Int32.ofNat 90))) (.int ((pz_sb.getD 0 []).getD 90 0)) ∈ flatC (Jvm.Cond.and given_1 narrow_1) := pz_fi6 _ (pz_fqL (pz_fqR (pz_fqL (pz_fqL pz_fqq))))
theorem pz_hg5_0_91 : Cond.eq (.elem (.field (pz_tm 0) "java/lang/String" "value" "[B") (.int (Int32.ofNat 91))) (.int ((pz_sb.getD 0 []).getD 91 0)) ∈ flatC (Jvm.Cond.and given_1 narrow_1) := pz_fi6 _ (pz_fqL (pz_fqR (pz_fqL (pz_fqR pz_fqq))))
theorem pz_hg5_0_92 : Cond.eq (.elem (.field (pz_tm 0) "java/lang/String" "value" "[B") (.int (Int32.ofNat 92))) (.int ((pz_sb.getD 0 []).getD 92 0)) ∈ flatC (Jvm.Cond.and given_1 narrow_1) := pz_fi6 _ (pz_fqL (pz_fqR (pz_fqR (pz_fqL pz_fqq))))
theorem pz_hg5_0_93 : Cond.eq (.elem (.field (pz_tm 0) "java/lang/String" "value" "[B") (.int (Int32.ofNat 93))) (.int ((pz_sb.getD 0 []).getD 93 0)) ∈ flatC (Jvm.Cond.and given_1 narrow_1) := pz_fi6 _ (pz_fqL (pz_fqR (pz_fqR (pz_fqR (pz_fqL pz_fqq)))))
theorem pz_hg5_0_94 : Cond.eq (.elem (.field (pz_tm 0) "java/lang/String" "value" "[B") (.int (Int32.ofNat 94))) (.int ((pz_sb.getD 0 []).getD 94 0)) ∈ flatC (Jvm.Cond.and given_1 narrow_1) := pz_fi6 _ (pz_fqL (pz_fqR (pz_fqR (pz_fqR (pz_fqR pz_fqq)))))
theorem pz_hg5_0_95 : Cond.eq (.elem (.field (pz_tm 0) "java/lang/String" "value" "[B") (.int (Int32.ofNat 95))) (.int ((pz_sb.getD 0 []).getD 95 0)) ∈ flatC (Jvm.Cond.and given_1 narrow_1) := pz_fi6 _ (pz_fqR (pz_fqL (pz_fqL (pz_fqL pz_fqq))))
theorem pz_hg5_0_96 : Cond.eq (.elem (.field (pz_tm 0) "java/lang/String" "value" "[B") (.int (Int32.ofNat 96))) (.int ((pz_sb.getD 0 []).getD 96 0)) ∈ flatC (Jvm.Cond.and given_1 narrow_1) := pz_fi6 _ (pz_fqR (pz_fqL (pz_fqL (pz_fqR pz_fqq))))
theorem pz_hg5_0_97 : Cond.eq (.elem (.field (pz_tm 0) "java/lang/String" "value" "[B") (.int (Int32.ofNat 97))) (.int ((pz_sb.getD 0 []).getD 97 0)) ∈ flatC (Jvm.Cond.and given_1 narrow_1) := pz_fi6 _ (pz_fqR (pz_fqL (pz_fqR (pz_fqL pz_fqq))))
theorem pz_hg5_0_98 : Cond.eq (.elem (.field (pz_tm 0) "java/lang/String" "value" "[B") (.int (Int32.ofNat 98))) (.int ((pz_sb.getD 0 []).getD 98 0)) ∈ flatC (Jvm.Cond.and given_1 narrow_1) := pz_fi6 _ (pz_fqR (pz_fqL (pz_fqR (pz_fqR (pz_fqL pz_fqq)))))
theorem pz_hg5_0_99 : Cond.eq (.elem (.field (pz_tm 0) "java/lang/String" "value" "[B") (.int (Int32.ofNat 99))) (.int ((pz_sb.getD 0 []).getD 99 0)) ∈ flatC (Jvm.Cond.and given_1 narrow_1) := pz_fi6 _ (pz_fqR (pz_fqL (pz_fqR (pz_fqR (pz_fqR pz_fqq)))))
theorem pz_hg5_0_100 : Cond.eq (.elem (.field (pz_tm 0) "java/lang/String" "value" "[B") (.int (Int32.ofNat 100))) (.int ((pz_sb.getD 0 []).getD 100 0)) ∈ flatC (Jvm.Cond.and given_1 narrow_1) := pz_fi6 _ (pz_fqR (pz_fqR (pz_fqL (pz_fqL pz_fqq))))
theorem pz_hg5_0_101 : Cond.eq (.elem (.field (pz_tm 0) "java/lang/String" "value" "[B") (.int (Int32.ofNat 101))) (.int ((pz_sb.getD 0 []).getD 101 0)) ∈ flatC (Jvm.Cond.and given_1 narrow_1) := pz_fi6 _ (pz_fqR (pz_fqR (pz_fqL (pz_fqR pz_fqq))))
theorem pz_hg5_0_102 : Cond.eq (.elem (.field (pz_tm 0) "java/lang/String" "value" "[B") (.int (Int32.ofNat 102))) (.int ((pz_sb.getD 0 []).getD 102 0)) ∈ flatC (Jvm.Cond.and given_1 narrow_1) := pz_fi6 _ (pz_fqR (pz_fqR (pz_fqR (pz_fqL pz_fqq))))
theorem pz_hg5_0_103 : Cond.eq (.elem (.field (pz_tm 0) "java/lang/String" "value" "[B") (.int (Int32.ofNat 103))) (.int ((pz_sb.getD 0 []).getD 103 0)) ∈ flatC (Jvm.Cond.and given_1 narrow_1) := pz_fi6 _ (pz_fqR (pz_fqR (pz_fqR (pz_fqR (pz_fqL pz_fqq)))))
theorem pz_hg5_0_104 : Cond.eq (.elem (.field (pz_tm 0) "java/lang/String" "value" "[B") (.int (Int32.ofNat 104))) (.int ((pz_sb.getD 0 []).getD 104 0)) ∈ flatC (Jvm.Cond.and given_1 narrow_1) := pz_fi6 _ (pz_fqR (pz_fqR (pz_fqR (pz_fqR (pz_fqR pz_fqq)))))
theorem pz_hg5_0_105 : Cond.eq (.elem (.field (pz_tm 0) "java/lang/String" "value" "[B") (.int (Int32.ofNat 105))) (.int ((pz_sb.getD 0 []).getD 105 0)) ∈ flatC (Jvm.Cond.and given_1 narrow_1) := pz_fi7 _ (pz_fqL (pz_fqL (pz_fqL (pz_fqL pz_fqq))))
theorem pz_hg5_0_106 : Cond.eq (.elem (.field (pz_tm 0) "java/lang/String" "value" "[B") (.int (Int32.ofNat 106))) (.int ((pz_sb.getD 0 []).getD 106 0)) ∈ flatC (Jvm.Cond.and given_1 narrow_1) := pz_fi7 _ (pz_fqL (pz_fqL (pz_fqL (pz_fqR pz_fqq))))
theorem pz_hg5_0_107 : Cond.eq (.elem (.field (pz_tm 0) "java/lang/String" "value" "[B") (.int (Int32.ofNat 107))) (.int ((pz_sb.getD 0 []).getD 107 0)) ∈ flatC (Jvm.Cond.and given_1 narrow_1) := pz_fi7 _ (pz_fqL (pz_fqL (pz_fqR (pz_fqL pz_fqq))))
theorem pz_hg5_0_108 : Cond.eq (.elem (.field (pz_tm 0) "java/lang/String" "value" "[B") (.int (Int32.ofNat 108))) (.int ((pz_sb.getD 0 []).getD 108 0)) ∈ flatC (Jvm.Cond.and given_1 narrow_1) := pz_fi7 _ (pz_fqL (pz_fqL (pz_fqR (pz_fqR (pz_fqL pz_fqq)))))
theorem pz_hg5_0_109 : Cond.eq (.elem (.field (pz_tm 0) "java/lang/String" "value" "[B") (.int (Int32.ofNat 109))) (.int ((pz_sb.getD 0 []).getD 109 0)) ∈ flatC (Jvm.Cond.and given_1 narrow_1) := pz_fi7 _ (pz_fqL (pz_fqL (pz_fqR (pz_fqR (pz_fqR pz_fqq)))))
theorem pz_hg5_0_110 : Cond.eq (.elem (.field (pz_tm 0) "java/lang/String" "value" "[B") (.int (Int32.ofNat 110))) (.int ((pz_sb.getD 0 []).getD 110 0)) ∈ flatC (Jvm.Cond.and given_1 narrow_1) := pz_fi7 _ (pz_fqL (pz_fqR (pz_fqL (pz_fqL pz_fqq))))
theorem pz_hg5_0_111 : Cond.eq (.elem (.field (pz_tm 0) "java/lang/String" "value" "[B") (.int (Int32.ofNat 111))) (.int ((pz_sb.getD 0 []).getD 111 0)) ∈ flatC (Jvm.Cond.and given_1 narrow_1) := pz_fi7 _ (pz_fqL (pz_fqR (pz_fqL (pz_fqR pz_fqq))))
theorem pz_hg5_0_112 : Cond.eq (.elem (.field (pz_tm 0) "java/lang/String" "value" "[B") (.int (Int32.ofNat 112))) (.int ((pz_sb.getD 0 []).getD 112 0)) ∈ flatC (Jvm.Cond.and given_1 narrow_1) := pz_fi7 _ (pz_fqL (pz_fqR (pz_fqR (pz_fqL pz_fqq))))
theorem pz_hg5_0_113 : Cond.eq (.elem (.field (pz_tm 0) "java/lang/String" "value" "[B") (.int (Int32.ofNat 113))) (.int ((pz_sb.getD 0 []).getD 113 0)) ∈ flatC (Jvm.Cond.and given_1 narrow_1) := pz_fi7 _ (pz_fqL (pz_fqR (pz_fqR (pz_fqR (pz_fqL pz_fqq)))))
theorem pz_hg5_0_114 : Cond.eq (.elem (.field (pz_tm 0) "java/lang/String" "value" "[B") (.int (Int32.ofNat 114))) (.int ((pz_sb.getD 0 []).getD 114 0)) ∈ flatC (Jvm.Cond.and given_1 narrow_1) := pz_fi7 _ (pz_fqL (pz_fqR (pz_fqR (pz_fqR (pz_fqR pz_fqq)))))
theorem pz_hg5_0_115 : Cond.eq (.elem (.field (pz_tm 0) "java/lang/String" "value" "[B") (.int (Int32.ofNat 115))) (.int ((pz_sb.getD 0 []).getD 115 0)) ∈ flatC (Jvm.Cond.and given_1 narrow_1) := pz_fi7 _ (pz_fqR (pz_fqL (pz_fqL (pz_fqL pz_fqq))))
theorem pz_hg5_0_116 : Cond.eq (.elem (.field (pz_tm 0) "java/lang/String" "value" "[B") (.int (Int32.ofNat 116))) (.int ((pz_sb.getD 0 []).getD 116 0)) ∈ flatC (Jvm.Cond.and given_1 narrow_1) := pz_fi7 _ (pz_fqR (pz_fqL (pz_fqL (pz_fqR pz_fqq))))
theorem pz_hg5_0_117 : Cond.eq (.elem (.field (pz_tm 0) "java/lang/String" "value" "[B") (.int (Int32.ofNat 117))) (.int ((pz_sb.getD 0 []).getD 117 0)) ∈ flatC (Jvm.Cond.and given_1 narrow_1) := pz_fi7 _ (pz_fqR (pz_fqL (pz_fqR (pz_fqL pz_fqq))))
theorem pz_hg5_0_118 : Cond.eq (.elem (.field (pz_tm 0) "java/lang/String" "value" "[B") (.int (Int32.ofNat 118))) (.int ((pz_sb.getD 0 []).getD 118 0)) ∈ flatC (Jvm.Cond.and given_1 narrow_1) := pz_fi7 _ (pz_fqR (pz_fqL (pz_fqR (pz_fqR (pz_fqL pz_fqq)))))
theorem pz_hg5_0_119 : Cond.eq (.elem (.field (pz_tm 0) "java/lang/String" "value" "[B") (.int (Int32.ofNat 119))) (.int ((pz_sb.getD 0 []).getD 119 0)) ∈ flatC (Jvm.Cond.and given_1 narrow_1) := pz_fi7 _ (pz_fqR (pz_fqL (pz_fqR (pz_fqR (pz_fqR pz_fqq)))))
theorem pz_hg5_0_120 : Cond.eq (.elem (.field (pz_tm 0) "java/lang/String" "value" "[B") (.int (Int32.ofNat 120))) (.int ((pz_sb.getD 0 []).getD 120 0)) ∈ flatC (Jvm.Cond.and given_1 narrow_1) := pz_fi7 _ (pz_fqR (pz_fqR (pz_fqL (pz_fqL pz_fqq))))
theorem pz_hg5_0_121 : Cond.eq (.elem (.field (pz_tm 0) "java/lang/String" "value" "[B") (.int (Int32.ofNat 121))) (.int ((pz_sb.getD 0 []).getD 121 0)) ∈ flatC (Jvm.Cond.and given_1 narrow_1) := pz_fi7 _ (pz_fqR (pz_fqR (pz_fqL (pz_fqR (pz_fqL pz_fqq)))))
theorem pz_hg5_0 : ∀ i, i < 122 → Cond.eq (.elem (.field (pz_tm 0) "java/lang/String" "value" "[B") (.int (Int32.ofNat i))) (.int ((pz_sb.getD 0 []).getD i 0)) ∈ flatC (Jvm.Cond.and given_1 narrow_1) := by
  have k0 : ∀ m, m < 0 → (fun i : Nat => Cond.eq (.elem (.field (pz_tm 0) "java/lang/String" "value" "[B") (.int (Int32.ofNat i))) (.int ((pz_sb.getD 0 []).getD i 0)) ∈ flatC (Jvm.Cond.and given_1 narrow_1)) m := pz_f0
  have k1 := pz_fs k0 pz_hg5_0_0
  have k2 := pz_fs k1 pz_hg5_0_1
  have k3 := pz_fs k2 pz_hg5_0_2
  have k4 := pz_fs k3 pz_hg5_0_3
  have k5 := pz_fs k4 pz_hg5_0_4
  have k6 := pz_fs k5 pz_hg5_0_5
  have k7 := pz_fs k6 pz_hg5_0_6
  have k8 := pz_fs k7 pz_hg5_0_7
  have k9 := pz_fs k8 pz_hg5_0_8
  have k10 := pz_fs k9 pz_hg5_0_9
  have k11 := pz_fs k10 pz_hg5_0_10
  have k12 := pz_fs k11 pz_hg5_0_11
  have k13 := pz_fs k12 pz_hg5_0_12
  have k14 := pz_fs k13 pz_hg5_0_13
  have k15 := pz_fs k14 pz_hg5_0_14
  have k16 := pz_fs k15 pz_hg5_0_15
  have k17 := pz_fs k16 pz_hg5_0_16
  have k18 := pz_fs k17 pz_hg5_0_17
  have k19 := pz_fs k18 pz_hg5_0_18
  have k20 := pz_fs k19 pz_hg5_0_19
  have k21 := pz_fs k20 pz_hg5_0_20
  have k22 := pz_fs k21 pz_hg5_0_21
  have k23 := pz_fs k22 pz_hg5_0_22
  have k24 := pz_fs k23 pz_hg5_0_23
  have k25 := pz_fs k24 pz_hg5_0_24
  have k26 := pz_fs k25 pz_hg5_0_25
  have k27 := pz_fs k26 pz_hg5_0_26
  have k28 := pz_fs k27 pz_hg5_0_27
  have k29 := pz_fs k28 pz_hg5_0_28
  have k30 := pz_fs k29 pz_hg5_0_29
  have k31 := pz_fs k30 pz_hg5_0_30
  have k32 := pz_fs k31 pz_hg5_0_31
  have k33 := pz_fs k32 pz_hg5_0_32
  have k34 := pz_fs k33 pz_hg5_0_33
  have k35 := pz_fs k34 pz_hg5_0_34
  have k36 := pz_fs k35 pz_hg5_0_35
  have k37 := pz_fs k36 pz_hg5_0_36
  have k38 := pz_fs k37 pz_hg5_0_37
  have k39 := pz_fs k38 pz_hg5_0_38
  have k40 := pz_fs k39 pz_hg5_0_39
  have k41 := pz_fs k40 pz_hg5_0_40
  have k42 := pz_fs k41 pz_hg5_0_41
  have k43 := pz_fs k42 pz_hg5_0_42
  have k44 := pz_fs k43 pz_hg5_0_43
  have k45 := pz_fs k44 pz_hg5_0_44
  have k46 := pz_fs k45 pz_hg5_0_45
  have k47 := pz_fs k46 pz_hg5_0_46
  have k48 := pz_fs k47 pz_hg5_0_47
  have k49 := pz_fs k48 pz_hg5_0_48
  have k50 := pz_fs k49 pz_hg5_0_49
  have k51 := pz_fs k50 pz_hg5_0_50
  have k52 := pz_fs k51 pz_hg5_0_51
  have k53 := pz_fs k52 pz_hg5_0_52
  have k54 := pz_fs k53 pz_hg5_0_53
  have k55 := pz_fs k54 pz_hg5_0_54
  have k56 := pz_fs k55 pz_hg5_0_55
  have k57 := pz_fs k56 pz_hg5_0_56
  have k58 := pz_fs k57 pz_hg5_0_57
  have k59 := pz_fs k58 pz_hg5_0_58
  have k60 := pz_fs k59 pz_hg5_0_59
  have k61 := pz_fs k60 pz_hg5_0_60
  have k62 := pz_fs k61 pz_hg5_0_61
  have k63 := pz_fs k62 pz_hg5_0_62
  have k64 := pz_fs k63 pz_hg5_0_63
  have k65 := pz_fs k64 pz_hg5_0_64
  have k66 := pz_fs k65 pz_hg5_0_65
  have k67 := pz_fs k66 pz_hg5_0_66
  have k68 := pz_fs k67 pz_hg5_0_67
  have k69 := pz_fs k68 pz_hg5_0_68
  have k70 := pz_fs k69 pz_hg5_0_69
  have k71 := pz_fs k70 pz_hg5_0_70
  have k72 := pz_fs k71 pz_hg5_0_71
  have k73 := pz_fs k72 pz_hg5_0_72
  have k74 := pz_fs k73 pz_hg5_0_73
  have k75 := pz_fs k74 pz_hg5_0_74
  have k76 := pz_fs k75 pz_hg5_0_75
  have k77 := pz_fs k76 pz_hg5_0_76
  have k78 := pz_fs k77 pz_hg5_0_77
  have k79 := pz_fs k78 pz_hg5_0_78
  have k80 := pz_fs k79 pz_hg5_0_79
  have k81 := pz_fs k80 pz_hg5_0_80
  have k82 := pz_fs k81 pz_hg5_0_81
  have k83 := pz_fs k82 pz_hg5_0_82
  have k84 := pz_fs k83 pz_hg5_0_83
  have k85 := pz_fs k84 pz_hg5_0_84
  have k86 := pz_fs k85 pz_hg5_0_85
  have k87 := pz_fs k86 pz_hg5_0_86
  have k88 := pz_fs k87 pz_hg5_0_87
  have k89 := pz_fs k88 pz_hg5_0_88
  have k90 := pz_fs k89 pz_hg5_0_89
  have k91 := pz_fs k90 pz_hg5_0_90
  have k92 := pz_fs k91 pz_hg5_0_91
  have k93 := pz_fs k92 pz_hg5_0_92
  have k94 := pz_fs k93 pz_hg5_0_93
  have k95 := pz_fs k94 pz_hg5_0_94
  have k96 := pz_fs k95 pz_hg5_0_95
  have k97 := pz_fs k96 pz_hg5_0_96
  have k98 := pz_fs k97 pz_hg5_0_97
  have k99 := pz_fs k98 pz_hg5_0_98
  have k100 := pz_fs k99 pz_hg5_0_99
  have k101 := pz_fs k100 pz_hg5_0_100
  have k102 := pz_fs k101 pz_hg5_0_101
  have k103 := pz_fs k102 pz_hg5_0_102
  have k104 := pz_fs k103 pz_hg5_0_103
  have k105 := pz_fs k104 pz_hg5_0_104
  have k106 := pz_fs k105 pz_hg5_0_105
  have k107 := pz_fs k106 pz_hg5_0_106
  have k108 := pz_fs k107 pz_hg5_0_107
  have k109 := pz_fs k108 pz_hg5_0_108
  have k110 := pz_fs k109 pz_hg5_0_109
  have k111 := pz_fs k110 pz_hg5_0_110
  have k112 := pz_fs k111 pz_hg5_0_111
  have k113 := pz_fs k112 pz_hg5_0_112
  have k114 := pz_fs k113 pz_hg5_0_113
  have k115 := pz_fs k114 pz_hg5_0_114
  have k116 := pz_fs k115 pz_hg5_0_115
  have k117 := pz_fs k116 pz_hg5_0_116
  have k118 := pz_fs k117 pz_hg5_0_117
  have k119 := pz_fs k118 pz_hg5_0_118
  have k120 := pz_fs k119 pz_hg5_0_119
  have k121 := pz_fs k120 pz_hg5_0_120
  have k122 := pz_fs k121 pz_hg5_0_121
  exact k122
theorem pz_hg5_1_0 : Cond.eq (.elem (.field (pz_tm 1) "java/lang/String" "value" "[B") (.int (Int32.ofNat 0))) (.int ((pz_sb.getD 1 []).getD 0 0)) ∈ flatC (Jvm.Cond.and given_1 narrow_1) := pz_fi8 _ (pz_fqL (pz_fqL (pz_fqL (pz_fqL pz_fqq))))
theorem pz_hg5_1_1 : Cond.eq (.elem (.field (pz_tm 1) "java/lang/String" "value" "[B") (.int (Int32.ofNat 1))) (.int ((pz_sb.getD 1 []).getD 1 0)) ∈ flatC (Jvm.Cond.and given_1 narrow_1) := pz_fi8 _ (pz_fqL (pz_fqL (pz_fqL (pz_fqR pz_fqq))))
theorem pz_hg5_1_2 : Cond.eq (.elem (.field (pz_tm 1) "java/lang/String" "value" "[B") (.int (Int32.ofNat 2))) (.int ((pz_sb.getD 1 []).getD 2 0)) ∈ flatC (Jvm.Cond.and given_1 narrow_1) := pz_fi8 _ (pz_fqL (pz_fqL (pz_fqR (pz_fqL pz_fqq))))
theorem pz_hg5_1_3 : Cond.eq (.elem (.field (pz_tm 1) "java/lang/String" "value" "[B") (.int (Int32.ofNat 3))) (.int ((pz_sb.getD 1 []).getD 3 0)) ∈ flatC (Jvm.Cond.and given_1 narrow_1) := pz_fi8 _ (pz_fqL (pz_fqL (pz_fqR (pz_fqR (pz_fqL pz_fqq)))))
theorem pz_hg5_1 : ∀ i, i < 4 → Cond.eq (.elem (.field (pz_tm 1) "java/lang/String" "value" "[B") (.int (Int32.ofNat i))) (.int ((pz_sb.getD 1 []).getD i 0)) ∈ flatC (Jvm.Cond.and given_1 narrow_1) := by
  have k0 : ∀ m, m < 0 → (fun i : Nat => Cond.eq (.elem (.field (pz_tm 1) "java/lang/String" "value" "[B") (.int (Int32.ofNat i))) (.int ((pz_sb.getD 1 []).getD i 0)) ∈ flatC (Jvm.Cond.and given_1 narrow_1)) m := pz_f0
  have k1 := pz_fs k0 pz_hg5_1_0
  have k2 := pz_fs k1 pz_hg5_1_1
  have k3 := pz_fs k2 pz_hg5_1_2
  have k4 := pz_fs k3 pz_hg5_1_3
  exact k4
theorem pz_hg5_2_0 : Cond.eq (.elem (.field (pz_tm 2) "java/lang/String" "value" "[B") (.int (Int32.ofNat 0))) (.int ((pz_sb.getD 2 []).getD 0 0)) ∈ flatC (Jvm.Cond.and given_1 narrow_1) := pz_fi8 _ (pz_fqL (pz_fqR (pz_fqR (pz_fqR (pz_fqR pz_fqq)))))
theorem pz_hg5_2_1 : Cond.eq (.elem (.field (pz_tm 2) "java/lang/String" "value" "[B") (.int (Int32.ofNat 1))) (.int ((pz_sb.getD 2 []).getD 1 0)) ∈ flatC (Jvm.Cond.and given_1 narrow_1) := pz_fi8 _ (pz_fqR (pz_fqL (pz_fqL (pz_fqL pz_fqq))))
theorem pz_hg5_2 : ∀ i, i < 2 → Cond.eq (.elem (.field (pz_tm 2) "java/lang/String" "value" "[B") (.int (Int32.ofNat i))) (.int ((pz_sb.getD 2 []).getD i 0)) ∈ flatC (Jvm.Cond.and given_1 narrow_1) := by
  have k0 : ∀ m, m < 0 → (fun i : Nat => Cond.eq (.elem (.field (pz_tm 2) "java/lang/String" "value" "[B") (.int (Int32.ofNat i))) (.int ((pz_sb.getD 2 []).getD i 0)) ∈ flatC (Jvm.Cond.and given_1 narrow_1)) m := pz_f0
  have k1 := pz_fs k0 pz_hg5_2_0
  have k2 := pz_fs k1 pz_hg5_2_1
  exact k2
theorem pz_hg5_3_0 : Cond.eq (.elem (.field (pz_tm 3) "java/lang/String" "value" "[B") (.int (Int32.ofNat 0))) (.int ((pz_sb.getD 3 []).getD 0 0)) ∈ flatC (Jvm.Cond.and given_1 narrow_1) := pz_fi8 _ (pz_fqR (pz_fqR (pz_fqR (pz_fqL pz_fqq))))
theorem pz_hg5_3_1 : Cond.eq (.elem (.field (pz_tm 3) "java/lang/String" "value" "[B") (.int (Int32.ofNat 1))) (.int ((pz_sb.getD 3 []).getD 1 0)) ∈ flatC (Jvm.Cond.and given_1 narrow_1) := pz_fi8 _ (pz_fqR (pz_fqR (pz_fqR (pz_fqR (pz_fqL pz_fqq)))))
theorem pz_hg5_3_2 : Cond.eq (.elem (.field (pz_tm 3) "java/lang/String" "value" "[B") (.int (Int32.ofNat 2))) (.int ((pz_sb.getD 3 []).getD 2 0)) ∈ flatC (Jvm.Cond.and given_1 narrow_1) := pz_fi8 _ (pz_fqR (pz_fqR (pz_fqR (pz_fqR (pz_fqR pz_fqq)))))
theorem pz_hg5_3 : ∀ i, i < 3 → Cond.eq (.elem (.field (pz_tm 3) "java/lang/String" "value" "[B") (.int (Int32.ofNat i))) (.int ((pz_sb.getD 3 []).getD i 0)) ∈ flatC (Jvm.Cond.and given_1 narrow_1) := by
  have k0 : ∀ m, m < 0 → (fun i : Nat => Cond.eq (.elem (.field (pz_tm 3) "java/lang/String" "value" "[B") (.int (Int32.ofNat i))) (.int ((pz_sb.getD 3 []).getD i 0)) ∈ flatC (Jvm.Cond.and given_1 narrow_1)) m := pz_f0
  have k1 := pz_fs k0 pz_hg5_3_0
  have k2 := pz_fs k1 pz_hg5_3_1
  have k3 := pz_fs k2 pz_hg5_3_2
  exact k3
theorem pz_hg5_4_0 : Cond.eq (.elem (.field (pz_tm 4) "java/lang/String" "value" "[B") (.int (Int32.ofNat 0))) (.int ((pz_sb.getD 4 []).getD 0 0)) ∈ flatC (Jvm.Cond.and given_1 narrow_1) := pz_fi9 _ (pz_fqL (pz_fqR (pz_fqR (pz_fqL pz_fqq))))
theorem pz_hg5_4_1 : Cond.eq (.elem (.field (pz_tm 4) "java/lang/String" "value" "[B") (.int (Int32.ofNat 1))) (.int ((pz_sb.getD 4 []).getD 1 0)) ∈ flatC (Jvm.Cond.and given_1 narrow_1) := pz_fi9 _ (pz_fqL (pz_fqR (pz_fqR (pz_fqR (pz_fqL pz_fqq)))))
theorem pz_hg5_4_2 : Cond.eq (.elem (.field (pz_tm 4) "java/lang/String" "value" "[B") (.int (Int32.ofNat 2))) (.int ((pz_sb.getD 4 []).getD 2 0)) ∈ flatC (Jvm.Cond.and given_1 narrow_1) := pz_fi9 _ (pz_fqL (pz_fqR (pz_fqR (pz_fqR (pz_fqR pz_fqq)))))
theorem pz_hg5_4 : ∀ i, i < 3 → Cond.eq (.elem (.field (pz_tm 4) "java/lang/String" "value" "[B") (.int (Int32.ofNat i))) (.int ((pz_sb.getD 4 []).getD i 0)) ∈ flatC (Jvm.Cond.and given_1 narrow_1) := by
  have k0 : ∀ m, m < 0 → (fun i : Nat => Cond.eq (.elem (.field (pz_tm 4) "java/lang/String" "value" "[B") (.int (Int32.ofNat i))) (.int ((pz_sb.getD 4 []).getD i 0)) ∈ flatC (Jvm.Cond.and given_1 narrow_1)) m := pz_f0
  have k1 := pz_fs k0 pz_hg5_4_0
  have k2 := pz_fs k1 pz_hg5_4_1
  have k3 := pz_fs k2 pz_hg5_4_2
  exact k3
theorem pz_hg5_5_0 : Cond.eq (.elem (.field (pz_tm 5) "java/lang/String" "value" "[B") (.int (Int32.ofNat 0))) (.int ((pz_sb.getD 5 []).getD 0 0)) ∈ flatC (Jvm.Cond.and given_1 narrow_1) := pz_fi9 _ (pz_fqR (pz_fqR (pz_fqR (pz_fqR (pz_fqL pz_fqq)))))
theorem pz_hg5_5_1 : Cond.eq (.elem (.field (pz_tm 5) "java/lang/String" "value" "[B") (.int (Int32.ofNat 1))) (.int ((pz_sb.getD 5 []).getD 1 0)) ∈ flatC (Jvm.Cond.and given_1 narrow_1) := pz_fi9 _ (pz_fqR (pz_fqR (pz_fqR (pz_fqR (pz_fqR pz_fqq)))))
theorem pz_hg5_5_2 : Cond.eq (.elem (.field (pz_tm 5) "java/lang/String" "value" "[B") (.int (Int32.ofNat 2))) (.int ((pz_sb.getD 5 []).getD 2 0)) ∈ flatC (Jvm.Cond.and given_1 narrow_1) := pz_fi10 _ (pz_fqL (pz_fqL (pz_fqL (pz_fqL pz_fqq))))
theorem pz_hg5_5_3 : Cond.eq (.elem (.field (pz_tm 5) "java/lang/String" "value" "[B") (.int (Int32.ofNat 3))) (.int ((pz_sb.getD 5 []).getD 3 0)) ∈ flatC (Jvm.Cond.and given_1 narrow_1) := pz_fi10 _ (pz_fqL (pz_fqL (pz_fqL (pz_fqR pz_fqq))))
theorem pz_hg5_5_4 : Cond.eq (.elem (.field (pz_tm 5) "java/lang/String" "value" "[B") (.int (Int32.ofNat 4))) (.int ((pz_sb.getD 5 []).getD 4 0)) ∈ flatC (Jvm.Cond.and given_1 narrow_1) := pz_fi10 _ (pz_fqL (pz_fqL (pz_fqR (pz_fqL pz_fqq))))
theorem pz_hg5_5 : ∀ i, i < 5 → Cond.eq (.elem (.field (pz_tm 5) "java/lang/String" "value" "[B") (.int (Int32.ofNat i))) (.int ((pz_sb.getD 5 []).getD i 0)) ∈ flatC (Jvm.Cond.and given_1 narrow_1) := by
  have k0 : ∀ m, m < 0 → (fun i : Nat => Cond.eq (.elem (.field (pz_tm 5) "java/lang/String" "value" "[B") (.int (Int32.ofNat i))) (.int ((pz_sb.getD 5 []).getD i 0)) ∈ flatC (Jvm.Cond.and given_1 narrow_1)) m := pz_f0
  have k1 := pz_fs k0 pz_hg5_5_0
  have k2 := pz_fs k1 pz_hg5_5_1
  have k3 := pz_fs k2 pz_hg5_5_2
  have k4 := pz_fs k3 pz_hg5_5_3
  have k5 := pz_fs k4 pz_hg5_5_4
  exact k5
theorem pz_hg5_6_0 : Cond.eq (.elem (.field (pz_tm 6) "java/lang/String" "value" "[B") (.int (Int32.ofNat 0))) (.int ((pz_sb.getD 6 []).getD 0 0)) ∈ flatC (Jvm.Cond.and given_1 narrow_1) := pz_fi10 _ (pz_fqR (pz_fqL (pz_fqR (pz_fqL pz_fqq))))
theorem pz_hg5_6_1 : Cond.eq (.elem (.field (pz_tm 6) "java/lang/String" "value" "[B") (.int (Int32.ofNat 1))) (.int ((pz_sb.getD 6 []).getD 1 0)) ∈ flatC (Jvm.Cond.and given_1 narrow_1) := pz_fi10 _ (pz_fqR (pz_fqL (pz_fqR (pz_fqR (pz_fqL pz_fqq)))))
theorem pz_hg5_6_2 : Cond.eq (.elem (.field (pz_tm 6) "java/lang/String" "value" "[B") (.int (Int32.ofNat 2))) (.int ((pz_sb.getD 6 []).getD 2 0)) ∈ flatC (Jvm.Cond.and given_1 narrow_1) := pz_fi10 _ (pz_fqR (pz_fqL (pz_fqR (pz_fqR (pz_fqR pz_fqq)))))
theorem pz_hg5_6_3 : Cond.eq (.elem (.field (pz_tm 6) "java/lang/String" "value" "[B") (.int (Int32.ofNat 3))) (.int ((pz_sb.getD 6 []).getD 3 0)) ∈ flatC (Jvm.Cond.and given_1 narrow_1) := pz_fi10 _ (pz_fqR (pz_fqR (pz_fqL (pz_fqL pz_fqq))))
theorem pz_hg5_6_4 : Cond.eq (.elem (.field (pz_tm 6) "java/lang/String" "value" "[B") (.int (Int32.ofNat 4))) (.int ((pz_sb.getD 6 []).getD 4 0)) ∈ flatC (Jvm.Cond.and given_1 narrow_1) := pz_fi10 _ (pz_fqR (pz_fqR (pz_fqL (pz_fqR pz_fqq))))
theorem pz_hg5_6 : ∀ i, i < 5 → Cond.eq (.elem (.field (pz_tm 6) "java/lang/String" "value" "[B") (.int (Int32.ofNat i))) (.int ((pz_sb.getD 6 []).getD i 0)) ∈ flatC (Jvm.Cond.and given_1 narrow_1) := by
  have k0 : ∀ m, m < 0 → (fun i : Nat => Cond.eq (.elem (.field (pz_tm 6) "java/lang/String" "value" "[B") (.int (Int32.ofNat i))) (.int ((pz_sb.getD 6 []).getD i 0)) ∈ flatC (Jvm.Cond.and given_1 narrow_1)) m := pz_f0
  have k1 := pz_fs k0 pz_hg5_6_0
  have k2 := pz_fs k1 pz_hg5_6_1
  have k3 := pz_fs k2 pz_hg5_6_2
  have k4 := pz_fs k3 pz_hg5_6_3
  have k5 := pz_fs k4 pz_hg5_6_4
  exact k5
theorem pz_hg5_7_0 : Cond.eq (.elem (.field (pz_tm 7) "java/lang/String" "value" "[B") (.int (Int32.ofNat 0))) (.int ((pz_sb.getD 7 []).getD 0 0)) ∈ flatC (Jvm.Cond.and given_1 narrow_1) := pz_fi11 _ (pz_fqL (pz_fqR (pz_fqR (pz_fqL pz_fqq))))
theorem pz_hg5_7_1 : Cond.eq (.elem (.field (pz_tm 7) "java/lang/String" "value" "[B") (.int (Int32.ofNat 1))) (.int ((pz_sb.getD 7 []).getD 1 0)) ∈ flatC (Jvm.Cond.and given_1 narrow_1) := pz_fi11 _ (pz_fqL (pz_fqR (pz_fqR (pz_fqR (pz_fqL pz_fqq)))))
theorem pz_hg5_7_2 : Cond.eq (.elem (.field (pz_tm 7) "java/lang/String" "value" "[B") (.int (Int32.ofNat 2))) (.int ((pz_sb.getD 7 []).getD 2 0)) ∈ flatC (Jvm.Cond.and given_1 narrow_1) := pz_fi11 _ (pz_fqL (pz_fqR (pz_fqR (pz_fqR (pz_fqR pz_fqq)))))
theorem pz_hg5_7_3 : Cond.eq (.elem (.field (pz_tm 7) "java/lang/String" "value" "[B") (.int (Int32.ofNat 3))) (.int ((pz_sb.getD 7 []).getD 3 0)) ∈ flatC (Jvm.Cond.and given_1 narrow_1) := pz_fi11 _ (pz_fqR (pz_fqL (pz_fqL (pz_fqL pz_fqq))))
theorem pz_hg5_7 : ∀ i, i < 4 → Cond.eq (.elem (.field (pz_tm 7) "java/lang/String" "value" "[B") (.int (Int32.ofNat i))) (.int ((pz_sb.getD 7 []).getD i 0)) ∈ flatC (Jvm.Cond.and given_1 narrow_1) := by
  have k0 : ∀ m, m < 0 → (fun i : Nat => Cond.eq (.elem (.field (pz_tm 7) "java/lang/String" "value" "[B") (.int (Int32.ofNat i))) (.int ((pz_sb.getD 7 []).getD i 0)) ∈ flatC (Jvm.Cond.and given_1 narrow_1)) m := pz_f0
  have k1 := pz_fs k0 pz_hg5_7_0
  have k2 := pz_fs k1 pz_hg5_7_1
  have k3 := pz_fs k2 pz_hg5_7_2
  have k4 := pz_fs k3 pz_hg5_7_3
  exact k4
theorem pz_hg5_8_0 : Cond.eq (.elem (.field (pz_tm 8) "java/lang/String" "value" "[B") (.int (Int32.ofNat 0))) (.int ((pz_sb.getD 8 []).getD 0 0)) ∈ flatC (Jvm.Cond.and given_1 narrow_1) := pz_fi12 _ (pz_fqL (pz_fqL (pz_fqL (pz_fqR pz_fqq))))
theorem pz_hg5_8_1 : Cond.eq (.elem (.field (pz_tm 8) "java/lang/String" "value" "[B") (.int (Int32.ofNat 1))) (.int ((pz_sb.getD 8 []).getD 1 0)) ∈ flatC (Jvm.Cond.and given_1 narrow_1) := pz_fi12 _ (pz_fqL (pz_fqL (pz_fqR (pz_fqL pz_fqq))))
theorem pz_hg5_8_2 : Cond.eq (.elem (.field (pz_tm 8) "java/lang/String" "value" "[B") (.int (Int32.ofNat 2))) (.int ((pz_sb.getD 8 []).getD 2 0)) ∈ flatC (Jvm.Cond.and given_1 narrow_1) := pz_fi12 _ (pz_fqL (pz_fqL (pz_fqR (pz_fqR (pz_fqL pz_fqq)))))
theorem pz_hg5_8_3 : Cond.eq (.elem (.field (pz_tm 8) "java/lang/String" "value" "[B") (.int (Int32.ofNat 3))) (.int ((pz_sb.getD 8 []).getD 3 0)) ∈ flatC (Jvm.Cond.and given_1 narrow_1) := pz_fi12 _ (pz_fqL (pz_fqL (pz_fqR (pz_fqR (pz_fqR pz_fqq)))))
theorem pz_hg5_8 : ∀ i, i < 4 → Cond.eq (.elem (.field (pz_tm 8) "java/lang/String" "value" "[B") (.int (Int32.ofNat i))) (.int ((pz_sb.getD 8 []).getD i 0)) ∈ flatC (Jvm.Cond.and given_1 narrow_1) := by
  have k0 : ∀ m, m < 0 → (fun i : Nat => Cond.eq (.elem (.field (pz_tm 8) "java/lang/String" "value" "[B") (.int (Int32.ofNat i))) (.int ((pz_sb.getD 8 []).getD i 0)) ∈ flatC (Jvm.Cond.and given_1 narrow_1)) m := pz_f0
  have k1 := pz_fs k0 pz_hg5_8_0
  have k2 := pz_fs k1 pz_hg5_8_1
  have k3 := pz_fs k2 pz_hg5_8_2
  have k4 := pz_fs k3 pz_hg5_8_3
  exact k4
theorem pz_hg5_9_0 : Cond.eq (.elem (.field (pz_tm 9) "java/lang/String" "value" "[B") (.int (Int32.ofNat 0))) (.int ((pz_sb.getD 9 []).getD 0 0)) ∈ flatC (Jvm.Cond.and given_1 narrow_1) := pz_fi12 _ (pz_fqR (pz_fqR (pz_fqR (pz_fqL pz_fqq))))
theorem pz_hg5_9_1 : Cond.eq (.elem (.field (pz_tm 9) "java/lang/String" "value" "[B") (.int (Int32.ofNat 1))) (.int ((pz_sb.getD 9 []).getD 1 0)) ∈ flatC (Jvm.Cond.and given_1 narrow_1) := pz_fi12 _ (pz_fqR (pz_fqR (pz_fqR (pz_fqR (pz_fqL pz_fqq)))))
theorem pz_hg5_9_2 : Cond.eq (.elem (.field (pz_tm 9) "java/lang/String" "value" "[B") (.int (Int32.ofNat 2))) (.int ((pz_sb.getD 9 []).getD 2 0)) ∈ flatC (Jvm.Cond.and given_1 narrow_1) := pz_fi12 _ (pz_fqR (pz_fqR (pz_fqR (pz_fqR (pz_fqR pz_fqq)))))
theorem pz_hg5_9_3 : Cond.eq (.elem (.field (pz_tm 9) "java/lang/String" "value" "[B") (.int (Int32.ofNat 3))) (.int ((pz_sb.getD 9 []).getD 3 0)) ∈ flatC (Jvm.Cond.and given_1 narrow_1) := pz_fi13 _ (pz_fqL (pz_fqL (pz_fqL (pz_fqL pz_fqq))))
theorem pz_hg5_9 : ∀ i, i < 4 → Cond.eq (.elem (.field (pz_tm 9) "java/lang/String" "value" "[B") (.int (Int32.ofNat i))) (.int ((pz_sb.getD 9 []).getD i 0)) ∈ flatC (Jvm.Cond.and given_1 narrow_1) := by
  have k0 : ∀ m, m < 0 → (fun i : Nat => Cond.eq (.elem (.field (pz_tm 9) "java/lang/String" "value" "[B") (.int (Int32.ofNat i))) (.int ((pz_sb.getD 9 []).getD i 0)) ∈ flatC (Jvm.Cond.and given_1 narrow_1)) m := pz_f0
  have k1 := pz_fs k0 pz_hg5_9_0
  have k2 := pz_fs k1 pz_hg5_9_1
  have k3 := pz_fs k2 pz_hg5_9_2
  have k4 := pz_fs k3 pz_hg5_9_3
  exact k4
theorem pz_hg5_10_0 : Cond.eq (.elem (.field (pz_tm 10) "java/lang/String" "value" "[B") (.int (Int32.ofNat 0))) (.int ((pz_sb.getD 10 []).getD 0 0)) ∈ flatC (Jvm.Cond.and given_1 narrow_1) := pz_fi13 _ (pz_fqR (pz_fqL (pz_fqR (pz_fqR (pz_fqR pz_fqq)))))
theorem pz_hg5_10_1 : Cond.eq (.elem (.field (pz_tm 10) "java/lang/String" "value" "[B") (.int (Int32.ofNat 1))) (.int ((pz_sb.getD 10 []).getD 1 0)) ∈ flatC (Jvm.Cond.and given_1 narrow_1) := pz_fi13 _ (pz_fqR (pz_fqR (pz_fqL (pz_fqL pz_fqq))))
theorem pz_hg5_10_2 : Cond.eq (.elem (.field (pz_tm 10) "java/lang/String" "value" "[B") (.int (Int32.ofNat 2))) (.int ((pz_sb.getD 10 []).getD 2 0)) ∈ flatC (Jvm.Cond.and given_1 narrow_1) := pz_fi13 _ (pz_fqR (pz_fqR (pz_fqL (pz_fqR (pz_fqL pz_fqq)))))
theorem pz_hg5_10_3 : Cond.eq (.elem (.field (pz_tm 10) "java/lang/String" "value" "[B") (.int (Int32.ofNat 3))) (.int ((pz_sb.getD 10 []).getD 3 0)) ∈ flatC (Jvm.Cond.and given_1 narrow_1) := pz_fi13 _ (pz_fqR (pz_fqR (pz_fqL (pz_fqR (pz_fqR pz_fqq)))))
theorem pz_hg5_10_4 : Cond.eq (.elem (.field (pz_tm 10) "java/lang/String" "value" "[B") (.int (Int32.ofNat 4))) (.int ((pz_sb.getD 10 []).getD 4 0)) ∈ flatC (Jvm.Cond.and given_1 narrow_1) := pz_fi13 _ (pz_fqR (pz_fqR (pz_fqR (pz_fqL pz_fqq))))
theorem pz_hg5_10 : ∀ i, i < 5 → Cond.eq (.elem (.field (pz_tm 10) "java/lang/String" "value" "[B") (.int (Int32.ofNat i))) (.int ((pz_sb.getD 10 []).getD i 0)) ∈ flatC (Jvm.Cond.and given_1 narrow_1) := by
  have k0 : ∀ m, m < 0 → (fun i : Nat => Cond.eq (.elem (.field (pz_tm 10) "java/lang/String" "value" "[B") (.int (Int32.ofNat i))) (.int ((pz_sb.getD 10 []).getD i 0)) ∈ flatC (Jvm.Cond.and given_1 narrow_1)) m := pz_f0
  have k1 := pz_fs k0 pz_hg5_10_0
  have k2 := pz_fs k1 pz_hg5_10_1
  have k3 := pz_fs k2 pz_hg5_10_2
  have k4 := pz_fs k3 pz_hg5_10_3
  have k5 := pz_fs k4 pz_hg5_10_4
  exact k5
theorem pz_hg5_11_0 : Cond.eq (.elem (.field (pz_tm 11) "java/lang/String" "value" "[B") (.int (Int32.ofNat 0))) (.int ((pz_sb.getD 11 []).getD 0 0)) ∈ flatC (Jvm.Cond.and given_1 narrow_1) := pz_fi14 _ (pz_fqR (pz_fqL (pz_fqR (pz_fqL pz_fqq))))
theorem pz_hg5_11_1 : Cond.eq (.elem (.field (pz_tm 11) "java/lang/String" "value" "[B") (.int (Int32.ofNat 1))) (.int ((pz_sb.getD 11 []).getD 1 0)) ∈ flatC (Jvm.Cond.and given_1 narrow_1) := pz_fi14 _ (pz_fqR (pz_fqL (pz_fqR (pz_fqR (pz_fqL pz_fqq)))))
theorem pz_hg5_11_2 : Cond.eq (.elem (.field (pz_tm 11) "java/lang/String" "value" "[B") (.int (Int32.ofNat 2))) (.int ((pz_sb.getD 11 []).getD 2 0)) ∈ flatC (Jvm.Cond.and given_1 narrow_1) := pz_fi14 _ (pz_fqR (pz_fqL (pz_fqR (pz_fqR (pz_fqR pz_fqq)))))
theorem pz_hg5_11_3 : Cond.eq (.elem (.field (pz_tm 11) "java/lang/String" "value" "[B") (.int (Int32.ofNat 3))) (.int ((pz_sb.getD 11 []).getD 3 0)) ∈ flatC (Jvm.Cond.and given_1 narrow_1) := pz_fi14 _ (pz_fqR (pz_fqR (pz_fqL (pz_fqL pz_fqq))))
theorem pz_hg5_11_4 : Cond.eq (.elem (.field (pz_tm 11) "java/lang/String" "value" "[B") (.int (Int32.ofNat 4))) (.int ((pz_sb.getD 11 []).getD 4 0)) ∈ flatC (Jvm.Cond.and given_1 narrow_1) := pz_fi14 _ (pz_fqR (pz_fqR (pz_fqL (pz_fqR pz_fqq))))
theorem pz_hg5_11 : ∀ i, i < 5 → Cond.eq (.elem (.field (pz_tm 11) "java/lang/String" "value" "[B") (.int (Int32.ofNat i))) (.int ((pz_sb.getD 11 []).getD i 0)) ∈ flatC (Jvm.Cond.and given_1 narrow_1) := by
  have k0 : ∀ m, m < 0 → (fun i : Nat => Cond.eq (.elem (.field (pz_tm 11) "java/lang/String" "value" "[B") (.int (Int32.ofNat i))) (.int ((pz_sb.getD 11 []).getD i 0)) ∈ flatC (Jvm.Cond.and given_1 narrow_1)) m := pz_f0
  have k1 := pz_fs k0 pz_hg5_11_0
  have k2 := pz_fs k1 pz_hg5_11_1
  have k3 := pz_fs k2 pz_hg5_11_2
  have k4 := pz_fs k3 pz_hg5_11_3
  have k5 := pz_fs k4 pz_hg5_11_4
  exact k5
theorem pz_hg5_12_0 : Cond.eq (.elem (.field (pz_tm 12) "java/lang/String" "value" "[B") (.int (Int32.ofNat 0))) (.int ((pz_sb.getD 12 []).getD 0 0)) ∈ flatC (Jvm.Cond.and given_1 narrow_1) := pz_fi15 _ (pz_fqR (pz_fqL (pz_fqR (pz_fqL pz_fqq))))
theorem pz_hg5_12_1 : Cond.eq (.elem (.field (pz_tm 12) "java/lang/String" "value" "[B") (.int (Int32.ofNat 1))) (.int ((pz_sb.getD 12 []).getD 1 0)) ∈ flatC (Jvm.Cond.and given_1 narrow_1) := pz_fi15 _ (pz_fqR (pz_fqL (pz_fqR (pz_fqR (pz_fqL pz_fqq)))))
theorem pz_hg5_12_2 : Cond.eq (.elem (.field (pz_tm 12) "java/lang/String" "value" "[B") (.int (Int32.ofNat 2))) (.int ((pz_sb.getD 12 []).getD 2 0)) ∈ flatC (Jvm.Cond.and given_1 narrow_1) := pz_fi15 _ (pz_fqR (pz_fqL (pz_fqR (pz_fqR (pz_fqR pz_fqq)))))
theorem pz_hg5_12_3 : Cond.eq (.elem (.field (pz_tm 12) "java/lang/String" "value" "[B") (.int (Int32.ofNat 3))) (.int ((pz_sb.getD 12 []).getD 3 0)) ∈ flatC (Jvm.Cond.and given_1 narrow_1) := pz_fi15 _ (pz_fqR (pz_fqR (pz_fqL (pz_fqL pz_fqq))))
theorem pz_hg5_12_4 : Cond.eq (.elem (.field (pz_tm 12) "java/lang/String" "value" "[B") (.int (Int32.ofNat 4))) (.int ((pz_sb.getD 12 []).getD 4 0)) ∈ flatC (Jvm.Cond.and given_1 narrow_1) := pz_fi15 _ (pz_fqR (pz_fqR (pz_fqL (pz_fqR (pz_fqL pz_fqq)))))
theorem pz_hg5_12 : ∀ i, i < 5 → Cond.eq (.elem (.field (pz_tm 12) "java/lang/String" "value" "[B") (.int (Int32.ofNat i))) (.int ((pz_sb.getD 12 []).getD i 0)) ∈ flatC (Jvm.Cond.and given_1 narrow_1) := by
  have k0 : ∀ m, m < 0 → (fun i : Nat => Cond.eq (.elem (.field (pz_tm 12) "java/lang/String" "value" "[B") (.int (Int32.ofNat i))) (.int ((pz_sb.getD 12 []).getD i 0)) ∈ flatC (Jvm.Cond.and given_1 narrow_1)) m := pz_f0
  have k1 := pz_fs k0 pz_hg5_12_0
  have k2 := pz_fs k1 pz_hg5_12_1
  have k3 := pz_fs k2 pz_hg5_12_2
  have k4 := pz_fs k3 pz_hg5_12_3
  have k5 := pz_fs k4 pz_hg5_12_4
  exact k5
theorem pz_hg5_13_0 : Cond.eq (.elem (.field (pz_tm 13) "java/lang/String" "value" "[B") (.int (Int32.ofNat 0))) (.int ((pz_sb.getD 13 []).getD 0 0)) ∈ flatC (Jvm.Cond.and given_1 narrow_1) := pz_fi16 _ (pz_fqR (pz_fqL (pz_fqR (pz_fqL pz_fqq))))
theorem pz_hg5_13_1 : Cond.eq (.elem (.field (pz_tm 13) "java/lang/String" "value" "[B") (.int (Int32.ofNat 1))) (.int ((pz_sb.getD 13 []).getD 1 0)) ∈ flatC (Jvm.Cond.and given_1 narrow_1) := pz_fi16 _ (pz_fqR (pz_fqL (pz_fqR (pz_fqR (pz_fqL pz_fqq)))))
theorem pz_hg5_13_2 : Cond.eq (.elem (.field (pz_tm 13) "java/lang/String" "value" "[B") (.int (Int32.ofNat 2))) (.int ((pz_sb.getD 13 []).getD 2 0)) ∈ flatC (Jvm.Cond.and given_1 narrow_1) := pz_fi16 _ (pz_fqR (pz_fqL (pz_fqR (pz_fqR (pz_fqR pz_fqq)))))
theorem pz_hg5_13_3 : Cond.eq (.elem (.field (pz_tm 13) "java/lang/String" "value" "[B") (.int (Int32.ofNat 3))) (.int ((pz_sb.getD 13 []).getD 3 0)) ∈ flatC (Jvm.Cond.and given_1 narrow_1) := pz_fi16 _ (pz_fqR (pz_fqR (pz_fqL (pz_fqL pz_fqq))))
theorem pz_hg5_13 : ∀ i, i < 4 → Cond.eq (.elem (.field (pz_tm 13) "java/lang/String" "value" "[B") (.int (Int32.ofNat i))) (.int ((pz_sb.getD 13 []).getD i 0)) ∈ flatC (Jvm.Cond.and given_1 narrow_1) := by
  have k0 : ∀ m, m < 0 → (fun i : Nat => Cond.eq (.elem (.field (pz_tm 13) "java/lang/String" "value" "[B") (.int (Int32.ofNat i))) (.int ((pz_sb.getD 13 []).getD i 0)) ∈ flatC (Jvm.Cond.and given_1 narrow_1)) m := pz_f0
  have k1 := pz_fs k0 pz_hg5_13_0
  have k2 := pz_fs k1 pz_hg5_13_1
  have k3 := pz_fs k2 pz_hg5_13_2
  have k4 := pz_fs k3 pz_hg5_13_3
  exact k4
theorem pz_hg5_14_0 : Cond.eq (.elem (.field (pz_tm 14) "java/lang/String" "value" "[B") (.int (Int32.ofNat 0))) (.int ((pz_sb.getD 14 []).getD 0 0)) ∈ flatC (Jvm.Cond.and given_1 narrow_1) := pz_fi17 _ (pz_fqR (pz_fqL (pz_fqR (pz_fqR (pz_fqL pz_fqq)))))
theorem pz_hg5_14_1 : Cond.eq (.elem (.field (pz_tm 14) "java/lang/String" "value" "[B") (.int (Int32.ofNat 1))) (.int ((pz_sb.getD 14 []).getD 1 0)) ∈ flatC (Jvm.Cond.and given_1 narrow_1) := pz_fi17 _ (pz_fqR (pz_fqL (pz_fqR (pz_fqR (pz_fqR pz_fqq)))))
theorem pz_hg5_14_2 : Cond.eq (.elem (.field (pz_tm 14) "java/lang/String" "value" "[B") (.int (Int32.ofNat 2))) (.int ((pz_sb.getD 14 []).getD 2 0)) ∈ flatC (Jvm.Cond.and given_1 narrow_1) := pz_fi17 _ (pz_fqR (pz_fqR (pz_fqL (pz_fqL pz_fqq))))
theorem pz_hg5_14 : ∀ i, i < 3 → Cond.eq (.elem (.field (pz_tm 14) "java/lang/String" "value" "[B") (.int (Int32.ofNat i))) (.int ((pz_sb.getD 14 []).getD i 0)) ∈ flatC (Jvm.Cond.and given_1 narrow_1) := by
  have k0 : ∀ m, m < 0 → (fun i : Nat => Cond.eq (.elem (.field (pz_tm 14) "java/lang/String" "value" "[B") (.int (Int32.ofNat i))) (.int ((pz_sb.getD 14 []).getD i 0)) ∈ flatC (Jvm.Cond.and given_1 narrow_1)) m := pz_f0
  have k1 := pz_fs k0 pz_hg5_14_0
  have k2 := pz_fs k1 pz_hg5_14_1
  have k3 := pz_fs k2 pz_hg5_14_2
  exact k3
theorem pz_hg5_15_0 : Cond.eq (.elem (.field (pz_tm 15) "java/lang/String" "value" "[B") (.int (Int32.ofNat 0))) (.int ((pz_sb.getD 15 []).getD 0 0)) ∈ flatC (Jvm.Cond.and given_1 narrow_1) := pz_fi18 _ (pz_fqR (pz_fqL (pz_fqR (pz_fqR (pz_fqR pz_fqq)))))
theorem pz_hg5_15_1 : Cond.eq (.elem (.field (pz_tm 15) "java/lang/String" "value" "[B") (.int (Int32.ofNat 1))) (.int ((pz_sb.getD 15 []).getD 1 0)) ∈ flatC (Jvm.Cond.and given_1 narrow_1) := pz_fi18 _ (pz_fqR (pz_fqR (pz_fqL (pz_fqL pz_fqq))))
theorem pz_hg5_15_2 : Cond.eq (.elem (.field (pz_tm 15) "java/lang/String" "value" "[B") (.int (Int32.ofNat 2))) (.int ((pz_sb.getD 15 []).getD 2 0)) ∈ flatC (Jvm.Cond.and given_1 narrow_1) := pz_fi18 _ (pz_fqR (pz_fqR (pz_fqL (pz_fqR pz_fqq))))
theorem pz_hg5_15_3 : Cond.eq (.elem (.field (pz_tm 15) "java/lang/String" "value" "[B") (.int (Int32.ofNat 3))) (.int ((pz_sb.getD 15 []).getD 3 0)) ∈ flatC (Jvm.Cond.and given_1 narrow_1) := pz_fi18 _ (pz_fqR (pz_fqR (pz_fqR (pz_fqL pz_fqq))))
theorem pz_hg5_15_4 : Cond.eq (.elem (.field (pz_tm 15) "java/lang/String" "value" "[B") (.int (Int32.ofNat 4))) (.int ((pz_sb.getD 15 []).getD 4 0)) ∈ flatC (Jvm.Cond.and given_1 narrow_1) := pz_fi18 _ (pz_fqR (pz_fqR (pz_fqR (pz_fqR (pz_fqL pz_fqq)))))
theorem pz_hg5_15 : ∀ i, i < 5 → Cond.eq (.elem (.field (pz_tm 15) "java/lang/String" "value" "[B") (.int (Int32.ofNat i))) (.int ((pz_sb.getD 15 []).getD i 0)) ∈ flatC (Jvm.Cond.and given_1 narrow_1) := by
  have k0 : ∀ m, m < 0 → (fun i : Nat => Cond.eq (.elem (.field (pz_tm 15) "java/lang/String" "value" "[B") (.int (Int32.ofNat i))) (.int ((pz_sb.getD 15 []).getD i 0)) ∈ flatC (Jvm.Cond.and given_1 narrow_1)) m := pz_f0
  have k1 := pz_fs k0 pz_hg5_15_0
  have k2 := pz_fs k1 pz_hg5_15_1
  have k3 := pz_fs k2 pz_hg5_15_2
  have k4 := pz_fs k3 pz_hg5_15_3
  have k5 := pz_fs k4 pz_hg5_15_4
  exact k5
theorem pz_hg5_16_0 : Cond.eq (.elem (.field (pz_tm 16) "java/lang/String" "value" "[B") (.int (Int32.ofNat 0))) (.int ((pz_sb.getD 16 []).getD 0 0)) ∈ flatC (Jvm.Cond.and given_1 narrow_1) := pz_fi19 _ (pz_fqR (pz_fqR (pz_fqR (pz_fqL pz_fqq))))
theorem pz_hg5_16_1 : Cond.eq (.elem (.field (pz_tm 16) "java/lang/String" "value" "[B") (.int (Int32.ofNat 1))) (.int ((pz_sb.getD 16 []).getD 1 0)) ∈ flatC (Jvm.Cond.and given_1 narrow_1) := pz_fi19 _ (pz_fqR (pz_fqR (pz_fqR (pz_fqR (pz_fqL pz_fqq)))))
theorem pz_hg5_16_2 : Cond.eq (.elem (.field (pz_tm 16) "java/lang/String" "value" "[B") (.int (Int32.ofNat 2))) (.int ((pz_sb.getD 16 []).getD 2 0)) ∈ flatC (Jvm.Cond.and given_1 narrow_1) := pz_fi19 _ (pz_fqR (pz_fqR (pz_fqR (pz_fqR (pz_fqR pz_fqq)))))
theorem pz_hg5_16_3 : Cond.eq (.elem (.field (pz_tm 16) "java/lang/String" "value" "[B") (.int (Int32.ofNat 3))) (.int ((pz_sb.getD 16 []).getD 3 0)) ∈ flatC (Jvm.Cond.and given_1 narrow_1) := pz_fi20 _ (pz_fqL (pz_fqL (pz_fqL (pz_fqL pz_fqq))))
theorem pz_hg5_16_4 : Cond.eq (.elem (.field (pz_tm 16) "java/lang/String" "value" "[B") (.int (Int32.ofNat 4))) (.int ((pz_sb.getD 16 []).getD 4 0)) ∈ flatC (Jvm.Cond.and given_1 narrow_1) := pz_fi20 _ (pz_fqL (pz_fqL (pz_fqL (pz_fqR pz_fqq))))
theorem pz_hg5_16_5 : Cond.eq (.elem (.field (pz_tm 16) "java/lang/String" "value" "[B") (.int (Int32.ofNat 5))) (.int ((pz_sb.getD 16 []).getD 5 0)) ∈ flatC (Jvm.Cond.and given_1 narrow_1) := pz_fi20 _ (pz_fqL (pz_fqL (pz_fqR (pz_fqL pz_fqq))))
theorem pz_hg5_16_6 : Cond.eq (.elem (.field (pz_tm 16) "java/lang/String" "value" "[B") (.int (Int32.ofNat 6))) (.int ((pz_sb.getD 16 []).getD 6 0)) ∈ flatC (Jvm.Cond.and given_1 narrow_1) := pz_fi20 _ (pz_fqL (pz_fqL (pz_fqR (pz_fqR (pz_fqL pz_fqq)))))
theorem pz_hg5_16 : ∀ i, i < 7 → Cond.eq (.elem (.field (pz_tm 16) "java/lang/String" "value" "[B") (.int (Int32.ofNat i))) (.int ((pz_sb.getD 16 []).getD i 0)) ∈ flatC (Jvm.Cond.and given_1 narrow_1) := by
  have k0 : ∀ m, m < 0 → (fun i : Nat => Cond.eq (.elem (.field (pz_tm 16) "java/lang/String" "value" "[B") (.int (Int32.ofNat i))) (.int ((pz_sb.getD 16 []).getD i 0)) ∈ flatC (Jvm.Cond.and given_1 narrow_1)) m := pz_f0
  have k1 := pz_fs k0 pz_hg5_16_0
  have k2 := pz_fs k1 pz_hg5_16_1
  have k3 := pz_fs k2 pz_hg5_16_2
  have k4 := pz_fs k3 pz_hg5_16_3
  have k5 := pz_fs k4 pz_hg5_16_4
  have k6 := pz_fs k5 pz_hg5_16_5
  have k7 := pz_fs k6 pz_hg5_16_6
  exact k7
theorem pz_hg5_17_0 : Cond.eq (.elem (.field (pz_tm 17) "java/lang/String" "value" "[B") (.int (Int32.ofNat 0))) (.int ((pz_sb.getD 17 []).getD 0 0)) ∈ flatC (Jvm.Cond.and given_1 narrow_1) := pz_fi21 _ (pz_fqL (pz_fqL (pz_fqR (pz_fqR (pz_fqR pz_fqq)))))
theorem pz_hg5_17_1 : Cond.eq (.elem (.field (pz_tm 17) "java/lang/String" "value" "[B") (.int (Int32.ofNat 1))) (.int ((pz_sb.getD 17 []).getD 1 0)) ∈ flatC (Jvm.Cond.and given_1 narrow_1) := pz_fi21 _ (pz_fqL (pz_fqR (pz_fqL (pz_fqL pz_fqq))))
theorem pz_hg5_17_2 : Cond.eq (.elem (.field (pz_tm 17) "java/lang/String" "value" "[B") (.int (Int32.ofNat 2))) (.int ((pz_sb.getD 17 []).getD 2 0)) ∈ flatC (Jvm.Cond.and given_1 narrow_1) := pz_fi21 _ (pz_fqL (pz_fqR (pz_fqL (pz_fqR pz_fqq))))
theorem pz_hg5_17_3 : Cond.eq (.elem (.field (pz_tm 17) "java/lang/String" "value" "[B") (.int (Int32.ofNat 3))) (.int ((pz_sb.getD 17 []).getD 3 0)) ∈ flatC (Jvm.Cond.and given_1 narrow_1) := pz_fi21 _ (pz_fqL (pz_fqR (pz_fqR (pz_fqL pz_fqq))))
theorem pz_hg5_17_4 : Cond.eq (.elem (.field (pz_tm 17) "java/lang/String" "value" "[B") (.int (Int32.ofNat 4))) (.int ((pz_sb.getD 17 []).getD 4 0)) ∈ flatC (Jvm.Cond.and given_1 narrow_1) := pz_fi21 _ (pz_fqL (pz_fqR (pz_fqR (pz_fqR (pz_fqL pz_fqq)))))
theorem pz_hg5_17 : ∀ i, i < 5 → Cond.eq (.elem (.field (pz_tm 17) "java/lang/String" "value" "[B") (.int (Int32.ofNat i))) (.int ((pz_sb.getD 17 []).getD i 0)) ∈ flatC (Jvm.Cond.and given_1 narrow_1) := by
  have k0 : ∀ m, m < 0 → (fun i : Nat => Cond.eq (.elem (.field (pz_tm 17) "java/lang/String" "value" "[B") (.int (Int32.ofNat i))) (.int ((pz_sb.getD 17 []).getD i 0)) ∈ flatC (Jvm.Cond.and given_1 narrow_1)) m := pz_f0
  have k1 := pz_fs k0 pz_hg5_17_0
  have k2 := pz_fs k1 pz_hg5_17_1
  have k3 := pz_fs k2 pz_hg5_17_2
  have k4 := pz_fs k3 pz_hg5_17_3
  have k5 := pz_fs k4 pz_hg5_17_4
  exact k5
theorem pz_hg5_18_0 : Cond.eq (.elem (.field (pz_tm 18) "java/lang/String" "value" "[B") (.int (Int32.ofNat 0))) (.int ((pz_sb.getD 18 []).getD 0 0)) ∈ flatC (Jvm.Cond.and given_1 narrow_1) := pz_fi22 _ (pz_fqL (pz_fqR (pz_fqR (pz_fqR (pz_fqR pz_fqq)))))
theorem pz_hg5_18_1 : Cond.eq (.elem (.field (pz_tm 18) "java/lang/String" "value" "[B") (.int (Int32.ofNat 1))) (.int ((pz_sb.getD 18 []).getD 1 0)) ∈ flatC (Jvm.Cond.and given_1 narrow_1) := pz_fi22 _ (pz_fqR (pz_fqL (pz_fqL (pz_fqL pz_fqq))))
theorem pz_hg5_18 : ∀ i, i < 2 → Cond.eq (.elem (.field (pz_tm 18) "java/lang/String" "value" "[B") (.int (Int32.ofNat i))) (.int ((pz_sb.getD 18 []).getD i 0)) ∈ flatC (Jvm.Cond.and given_1 narrow_1) := by
  have k0 : ∀ m, m < 0 → (fun i : Nat => Cond.eq (.elem (.field (pz_tm 18) "java/lang/String" "value" "[B") (.int (Int32.ofNat i))) (.int ((pz_sb.getD 18 []).getD i 0)) ∈ flatC (Jvm.Cond.and given_1 narrow_1)) m := pz_f0
  have k1 := pz_fs k0 pz_hg5_18_0
  have k2 := pz_fs k1 pz_hg5_18_1
  exact k2
theorem pz_hg5_19_0 : Cond.eq (.elem (.field (pz_tm 19) "java/lang/String" "value" "[B") (.int (Int32.ofNat 0))) (.int ((pz_sb.getD 19 []).getD 0 0)) ∈ flatC (Jvm.Cond.and given_1 narrow_1) := pz_fi23 _ (pz_fqR (pz_fqL (pz_fqR (pz_fqR (pz_fqL pz_fqq)))))
theorem pz_hg5_19_1 : Cond.eq (.elem (.field (pz_tm 19) "java/lang/String" "value" "[B") (.int (Int32.ofNat 1))) (.int ((pz_sb.getD 19 []).getD 1 0)) ∈ flatC (Jvm.Cond.and given_1 narrow_1) := pz_fi23 _ (pz_fqR (pz_fqL (pz_fqR (pz_fqR (pz_fqR pz_fqq)))))
theorem pz_hg5_19_2 : Cond.eq (.elem (.field (pz_tm 19) "java/lang/String" "value" "[B") (.int (Int32.ofNat 2))) (.int ((pz_sb.getD 19 []).getD 2 0)) ∈ flatC (Jvm.Cond.and given_1 narrow_1) := pz_fi23 _ (pz_fqR (pz_fqR (pz_fqL (pz_fqL pz_fqq))))
theorem pz_hg5_19 : ∀ i, i < 3 → Cond.eq (.elem (.field (pz_tm 19) "java/lang/String" "value" "[B") (.int (Int32.ofNat i))) (.int ((pz_sb.getD 19 []).getD i 0)) ∈ flatC (Jvm.Cond.and given_1 narrow_1) := by
  have k0 : ∀ m, m < 0 → (fun i : Nat => Cond.eq (.elem (.field (pz_tm 19) "java/lang/String" "value" "[B") (.int (Int32.ofNat i))) (.int ((pz_sb.getD 19 []).getD i 0)) ∈ flatC (Jvm.Cond.and given_1 narrow_1)) m := pz_f0
  have k1 := pz_fs k0 pz_hg5_19_0
  have k2 := pz_fs k1 pz_hg5_19_1
  have k3 := pz_fs k2 pz_hg5_19_2
  exact k3
theorem pz_hg5_20_0 : Cond.eq (.elem (.field (pz_tm 20) "java/lang/String" "value" "[B") (.int (Int32.ofNat 0))) (.int ((pz_sb.getD 20 []).getD 0 0)) ∈ flatC (Jvm.Cond.and given_1 narrow_1) := pz_fi24 _ (pz_fqR (pz_fqR (pz_fqR (pz_fqR (pz_fqL pz_fqq)))))
theorem pz_hg5_20_1 : Cond.eq (.elem (.field (pz_tm 20) "java/lang/String" "value" "[B") (.int (Int32.ofNat 1))) (.int ((pz_sb.getD 20 []).getD 1 0)) ∈ flatC (Jvm.Cond.and given_1 narrow_1) := pz_fi24 _ (pz_fqR (pz_fqR (pz_fqR (pz_fqR (pz_fqR pz_fqq)))))
theorem pz_hg5_20_2 : Cond.eq (.elem (.field (pz_tm 20) "java/lang/String" "value" "[B") (.int (Int32.ofNat 2))) (.int ((pz_sb.getD 20 []).getD 2 0)) ∈ flatC (Jvm.Cond.and given_1 narrow_1) := pz_fi25 _ (pz_fqL (pz_fqL (pz_fqL (pz_fqL pz_fqq))))
theorem pz_hg5_20_3 : Cond.eq (.elem (.field (pz_tm 20) "java/lang/String" "value" "[B") (.int (Int32.ofNat 3))) (.int ((pz_sb.getD 20 []).getD 3 0)) ∈ flatC (Jvm.Cond.and given_1 narrow_1) := pz_fi25 _ (pz_fqL (pz_fqL (pz_fqL (pz_fqR pz_fqq))))
theorem pz_hg5_20_4 : Cond.eq (.elem (.field (pz_tm 20) "java/lang/String" "value" "[B") (.int (Int32.ofNat 4))) (.int ((pz_sb.getD 20 []).getD 4 0)) ∈ flatC (Jvm.Cond.and given_1 narrow_1) := pz_fi25 _ (pz_fqL (pz_fqL (pz_fqR (pz_fqL pz_fqq))))
theorem pz_hg5_20_5 : Cond.eq (.elem (.field (pz_tm 20) "java/lang/String" "value" "[B") (.int (Int32.ofNat 5))) (.int ((pz_sb.getD 20 []).getD 5 0)) ∈ flatC (Jvm.Cond.and given_1 narrow_1) := pz_fi25 _ (pz_fqL (pz_fqL (pz_fqR (pz_fqR (pz_fqL pz_fqq)))))
theorem pz_hg5_20 : ∀ i, i < 6 → Cond.eq (.elem (.field (pz_tm 20) "java/lang/String" "value" "[B") (.int (Int32.ofNat i))) (.int ((pz_sb.getD 20 []).getD i 0)) ∈ flatC (Jvm.Cond.and given_1 narrow_1) := by
  have k0 : ∀ m, m < 0 → (fun i : Nat => Cond.eq (.elem (.field (pz_tm 20) "java/lang/String" "value" "[B") (.int (Int32.ofNat i))) (.int ((pz_sb.getD 20 []).getD i 0)) ∈ flatC (Jvm.Cond.and given_1 narrow_1)) m := pz_f0
  have k1 := pz_fs k0 pz_hg5_20_0
  have k2 := pz_fs k1 pz_hg5_20_1
  have k3 := pz_fs k2 pz_hg5_20_2
  have k4 := pz_fs k3 pz_hg5_20_3
  have k5 := pz_fs k4 pz_hg5_20_4
  have k6 := pz_fs k5 pz_hg5_20_5
  exact k6
theorem pz_hg5_21_0 : Cond.eq (.elem (.field (pz_tm 21) "java/lang/String" "value" "[B") (.int (Int32.ofNat 0))) (.int ((pz_sb.getD 21 []).getD 0 0)) ∈ flatC (Jvm.Cond.and given_1 narrow_1) := pz_fi26 _ (pz_fqL (pz_fqR (pz_fqR (pz_fqL pz_fqq))))
theorem pz_hg5_21_1 : Cond.eq (.elem (.field (pz_tm 21) "java/lang/String" "value" "[B") (.int (Int32.ofNat 1))) (.int ((pz_sb.getD 21 []).getD 1 0)) ∈ flatC (Jvm.Cond.and given_1 narrow_1) := pz_fi26 _ (pz_fqL (pz_fqR (pz_fqR (pz_fqR (pz_fqL pz_fqq)))))
theorem pz_hg5_21_2 : Cond.eq (.elem (.field (pz_tm 21) "java/lang/String" "value" "[B") (.int (Int32.ofNat 2))) (.int ((pz_sb.getD 21 []).getD 2 0)) ∈ flatC (Jvm.Cond.and given_1 narrow_1) := pz_fi26 _ (pz_fqL (pz_fqR (pz_fqR (pz_fqR (pz_fqR pz_fqq)))))
theorem pz_hg5_21 : ∀ i, i < 3 → Cond.eq (.elem (.field (pz_tm 21) "java/lang/String" "value" "[B") (.int (Int32.ofNat i))) (.int ((pz_sb.getD 21 []).getD i 0)) ∈ flatC (Jvm.Cond.and given_1 narrow_1) := by
  have k0 : ∀ m, m < 0 → (fun i : Nat => Cond.eq (.elem (.field (pz_tm 21) "java/lang/String" "value" "[B") (.int (Int32.ofNat i))) (.int ((pz_sb.getD 21 []).getD i 0)) ∈ flatC (Jvm.Cond.and given_1 narrow_1)) m := pz_f0
  have k1 := pz_fs k0 pz_hg5_21_0
  have k2 := pz_fs k1 pz_hg5_21_1
  have k3 := pz_fs k2 pz_hg5_21_2
  exact k3
theorem pz_hg5_22_0 : Cond.eq (.elem (.field (pz_tm 22) "java/lang/String" "value" "[B") (.int (Int32.ofNat 0))) (.int ((pz_sb.getD 22 []).getD 0 0)) ∈ flatC (Jvm.Cond.and given_1 narrow_1) := pz_fi27 _ (pz_fqR (pz_fqR (pz_fqL (pz_fqL pz_fqq))))
theorem pz_hg5_22_1 : Cond.eq (.elem (.field (pz_tm 22) "java/lang/String" "value" "[B") (.int (Int32.ofNat 1))) (.int ((pz_sb.getD 22 []).getD 1 0)) ∈ flatC (Jvm.Cond.and given_1 narrow_1) := pz_fi27 _ (pz_fqR (pz_fqR (pz_fqL (pz_fqR (pz_fqL pz_fqq)))))
theorem pz_hg5_22_2 : Cond.eq (.elem (.field (pz_tm 22) "java/lang/String" "value" "[B") (.int (Int32.ofNat 2))) (.int ((pz_sb.getD 22 []).getD 2 0)) ∈ flatC (Jvm.Cond.and given_1 narrow_1) := pz_fi27 _ (pz_fqR (pz_fqR (pz_fqL (pz_fqR (pz_fqR pz_fqq)))))
theorem pz_hg5_22_3 : Cond.eq (.elem (.field (pz_tm 22) "java/lang/String" "value" "[B") (.int (Int32.ofNat 3))) (.int ((pz_sb.getD 22 []).getD 3 0)) ∈ flatC (Jvm.Cond.and given_1 narrow_1) := pz_fi27 _ (pz_fqR (pz_fqR (pz_fqR (pz_fqL pz_fqq))))
theorem pz_hg5_22_4 : Cond.eq (.elem (.field (pz_tm 22) "java/lang/String" "value" "[B") (.int (Int32.ofNat 4))) (.int ((pz_sb.getD 22 []).getD 4 0)) ∈ flatC (Jvm.Cond.and given_1 narrow_1) := pz_fi27 _ (pz_fqR (pz_fqR (pz_fqR (pz_fqR (pz_fqL pz_fqq)))))
theorem pz_hg5_22 : ∀ i, i < 5 → Cond.eq (.elem (.field (pz_tm 22) "java/lang/String" "value" "[B") (.int (Int32.ofNat i))) (.int ((pz_sb.getD 22 []).getD i 0)) ∈ flatC (Jvm.Cond.and given_1 narrow_1) := by
  have k0 : ∀ m, m < 0 → (fun i : Nat => Cond.eq (.elem (.field (pz_tm 22) "java/lang/String" "value" "[B") (.int (Int32.ofNat i))) (.int ((pz_sb.getD 22 []).getD i 0)) ∈ flatC (Jvm.Cond.and given_1 narrow_1)) m := pz_f0
  have k1 := pz_fs k0 pz_hg5_22_0
  have k2 := pz_fs k1 pz_hg5_22_1
  have k3 := pz_fs k2 pz_hg5_22_2
  have k4 := pz_fs k3 pz_hg5_22_3
  have k5 := pz_fs k4 pz_hg5_22_4
  exact k5
theorem pz_hg5_23_0 : Cond.eq (.elem (.field (pz_tm 23) "java/lang/String" "value" "[B") (.int (Int32.ofNat 0))) (.int ((pz_sb.getD 23 []).getD 0 0)) ∈ flatC (Jvm.Cond.and given_1 narrow_1) := pz_fi29 _ (pz_fqL (pz_fqR (pz_fqL (pz_fqL pz_fqq))))
theorem pz_hg5_23_1 : Cond.eq (.elem (.field (pz_tm 23) "java/lang/String" "value" "[B") (.int (Int32.ofNat 1))) (.int ((pz_sb.getD 23 []).getD 1 0)) ∈ flatC (Jvm.Cond.and given_1 narrow_1) := pz_fi29 _ (pz_fqL (pz_fqR (pz_fqL (pz_fqR pz_fqq))))
theorem pz_hg5_23_2 : Cond.eq (.elem (.field (pz_tm 23) "java/lang/String" "value" "[B") (.int (Int32.ofNat 2))) (.int ((pz_sb.getD 23 []).getD 2 0)) ∈ flatC (Jvm.Cond.and given_1 narrow_1) := pz_fi29 _ (pz_fqL (pz_fqR (pz_fqR (pz_fqL pz_fqq))))
theorem pz_hg5_23_3 : Cond.eq (.elem (.field (pz_tm 23) "java/lang/String" "value" "[B") (.int (Int32.ofNat 3))) (.int ((pz_sb.getD 23 []).getD 3 0)) ∈ flatC (Jvm.Cond.and given_1 narrow_1) := pz_fi29 _ (pz_fqL (pz_fqR (pz_fqR (pz_fqR (pz_fqL pz_fqq)))))
theorem pz_hg5_23 : ∀ i, i < 4 → Cond.eq (.elem (.field (pz_tm 23) "java/lang/String" "value" "[B") (.int (Int32.ofNat i))) (.int ((pz_sb.getD 23 []).getD i 0)) ∈ flatC (Jvm.Cond.and given_1 narrow_1) := by
  have k0 : ∀ m, m < 0 → (fun i : Nat => Cond.eq (.elem (.field (pz_tm 23) "java/lang/String" "value" "[B") (.int (Int32.ofNat i))) (.int ((pz_sb.getD 23 []).getD i 0)) ∈ flatC (Jvm.Cond.and given_1 narrow_1)) m := pz_f0
  have k1 := pz_fs k0 pz_hg5_23_0
  have k2 := pz_fs k1 pz_hg5_23_1
  have k3 := pz_fs k2 pz_hg5_23_2
  have k4 := pz_fs k3 pz_hg5_23_3
  exact k4
theorem pz_hg5_24_0 : Cond.eq (.elem (.field (pz_tm 24) "java/lang/String" "value" "[B") (.int (Int32.ofNat 0))) (.int ((pz_sb.getD 24 []).getD 0 0)) ∈ flatC (Jvm.Cond.and given_1 narrow_1) := pz_fi30 _ (pz_fqR (pz_fqR (pz_fqL (pz_fqL pz_fqq))))
theorem pz_hg5_24_1 : Cond.eq (.elem (.field (pz_tm 24) "java/lang/String" "value" "[B") (.int (Int32.ofNat 1))) (.int ((pz_sb.getD 24 []).getD 1 0)) ∈ flatC (Jvm.Cond.and given_1 narrow_1) := pz_fi30 _ (pz_fqR (pz_fqR (pz_fqL (pz_fqR pz_fqq))))
theorem pz_hg5_24 : ∀ i, i < 2 → Cond.eq (.elem (.field (pz_tm 24) "java/lang/String" "value" "[B") (.int (Int32.ofNat i))) (.int ((pz_sb.getD 24 []).getD i 0)) ∈ flatC (Jvm.Cond.and given_1 narrow_1) := by
  have k0 : ∀ m, m < 0 → (fun i : Nat => Cond.eq (.elem (.field (pz_tm 24) "java/lang/String" "value" "[B") (.int (Int32.ofNat i))) (.int ((pz_sb.getD 24 []).getD i 0)) ∈ flatC (Jvm.Cond.and given_1 narrow_1)) m := pz_f0
  have k1 := pz_fs k0 pz_hg5_24_0
  have k2 := pz_fs k1 pz_hg5_24_1
  exact k2
theorem pz_hg5 : ∀ i, i < 25 → ∀ j, j < pz_stl.getD i 0 → Cond.eq (.elem (.field (pz_tm i) "java/lang/String" "value" "[B") (.int (Int32.ofNat j))) (.int ((pz_sb.getD i []).getD j 0)) ∈ flatC (Jvm.Cond.and given_1 narrow_1) := by
  have k0 : ∀ m, m < 0 → (fun i : Nat => ∀ j, j < pz_stl.getD i 0 → Cond.eq (.elem (.field (pz_tm i) "java/lang/String" "value" "[B") (.int (Int32.ofNat j))) (.int ((pz_sb.getD i []).getD j 0)) ∈ flatC (Jvm.Cond.and given_1 narrow_1)) m := pz_f0
  have k1 := pz_fs k0 pz_hg5_0
  have k2 := pz_fs k1 pz_hg5_1
  have k3 := pz_fs k2 pz_hg5_2
  have k4 := pz_fs k3 pz_hg5_3
  have k5 := pz_fs k4 pz_hg5_4
  have k6 := pz_fs k5 pz_hg5_5
  have k7 := pz_fs k6 pz_hg5_6
  have k8 := pz_fs k7 pz_hg5_7
  have k9 := pz_fs k8 pz_hg5_8
  have k10 := pz_fs k9 pz_hg5_9
  have k11 := pz_fs k10 pz_hg5_10
  have k12 := pz_fs k11 pz_hg5_11
  have k13 := pz_fs k12 pz_hg5_12
  have k14 := pz_fs k13 pz_hg5_13
  have k15 := pz_fs k14 pz_hg5_14
  have k16 := pz_fs k15 pz_hg5_15
  have k17 := pz_fs k16 pz_hg5_16
  have k18 := pz_fs k17 pz_hg5_17
  have k19 := pz_fs k18 pz_hg5_18
  have k20 := pz_fs k19 pz_hg5_19
  have k21 := pz_fs k20 pz_hg5_20
  have k22 := pz_fs k21 pz_hg5_21
  have k23 := pz_fs k22 pz_hg5_22
  have k24 := pz_fs k23 pz_hg5_23
  have k25 := pz_fs k24 pz_hg5_24
  exact k25
theorem pz_hg6_0_1 : Cond.not (Cond.eq (pz_tm 0) (pz_tm 1)) ∈ flatC (Jvm.Cond.and given_1 narrow_1) := pz_fi8 _ (pz_fqL (pz_fqL (pz_fqR (pz_fqR (pz_fqR pz_fqn)))))
theorem pz_hg6_0_2 : Cond.not (Cond.eq (pz_tm 0) (pz_tm 2)) ∈ flatC (Jvm.Cond.and given_1 narrow_1) := pz_fi8 _ (pz_fqR (pz_fqL (pz_fqL (pz_fqR pz_fqn))))
theorem pz_hg6_0_3 : Cond.not (Cond.eq (pz_tm 0) (pz_tm 3)) ∈ flatC (Jvm.Cond.and given_1 narrow_1) := pz_fi9 _ (pz_fqL (pz_fqL (pz_fqL (pz_fqL pz_fqn))))
theorem pz_hg6_0_4 : Cond.not (Cond.eq (pz_tm 0) (pz_tm 4)) ∈ flatC (Jvm.Cond.and given_1 narrow_1) := pz_fi9 _ (pz_fqR (pz_fqL (pz_fqL (pz_fqL pz_fqn))))
theorem pz_hg6_0_5 : Cond.not (Cond.eq (pz_tm 0) (pz_tm 5)) ∈ flatC (Jvm.Cond.and given_1 narrow_1) := pz_fi10 _ (pz_fqL (pz_fqL (pz_fqR (pz_fqR (pz_fqL pz_fqn)))))
theorem pz_hg6_0_6 : Cond.not (Cond.eq (pz_tm 0) (pz_tm 6)) ∈ flatC (Jvm.Cond.and given_1 narrow_1) := pz_fi10 _ (pz_fqR (pz_fqR (pz_fqR (pz_fqL pz_fqn))))
theorem pz_hg6_0_7 : Cond.not (Cond.eq (pz_tm 0) (pz_tm 7)) ∈ flatC (Jvm.Cond.and given_1 narrow_1) := pz_fi11 _ (pz_fqR (pz_fqL (pz_fqL (pz_fqR pz_fqn))))
theorem pz_hg6_0_8 : Cond.not (Cond.eq (pz_tm 0) (pz_tm 8)) ∈ flatC (Jvm.Cond.and given_1 narrow_1) := pz_fi12 _ (pz_fqL (pz_fqR (pz_fqL (pz_fqL pz_fqn))))
theorem pz_hg6_0_9 : Cond.not (Cond.eq (pz_tm 0) (pz_tm 9)) ∈ flatC (Jvm.Cond.and given_1 narrow_1) := pz_fi13 _ (pz_fqL (pz_fqL (pz_fqL (pz_fqR pz_fqn))))
theorem pz_hg6_0_10 : Cond.not (Cond.eq (pz_tm 0) (pz_tm 10)) ∈ flatC (Jvm.Cond.and given_1 narrow_1) := pz_fi13 _ (pz_fqR (pz_fqR (pz_fqR (pz_fqR (pz_fqL pz_fqn)))))
theorem pz_hg6_0_11 : Cond.not (Cond.eq (pz_tm 0) (pz_tm 11)) ∈ flatC (Jvm.Cond.and given_1 narrow_1) := pz_fi14 _ (pz_fqR (pz_fqR (pz_fqR (pz_fqL pz_fqn))))
theorem pz_hg6_0_12 : Cond.not (Cond.eq (pz_tm 0) (pz_tm 12)) ∈ flatC (Jvm.Cond.and given_1 narrow_1) := pz_fi15 _ (pz_fqR (pz_fqR (pz_fqL (pz_fqR (pz_fqR pz_fqn)))))
theorem pz_hg6_0_13 : Cond.not (Cond.eq (pz_tm 0) (pz_tm 13)) ∈ flatC (Jvm.Cond.and given_1 narrow_1) := pz_fi16 _ (pz_fqR (pz_fqR (pz_fqL (pz_fqR pz_fqn))))
theorem pz_hg6_0_14 : Cond.not (Cond.eq (pz_tm 0) (pz_tm 14)) ∈ flatC (Jvm.Cond.and given_1 narrow_1) := pz_fi17 _ (pz_fqR (pz_fqR (pz_fqL (pz_fqR pz_fqn))))
theorem pz_hg6_0_15 : Cond.not (Cond.eq (pz_tm 0) (pz_tm 15)) ∈ flatC (Jvm.Cond.and given_1 narrow_1) := pz_fi18 _ (pz_fqR (pz_fqR (pz_fqR (pz_fqR (pz_fqR pz_fqn)))))
theorem pz_hg6_0_16 : Cond.not (Cond.eq (pz_tm 0) (pz_tm 16)) ∈ flatC (Jvm.Cond.and given_1 narrow_1) := pz_fi20 _ (pz_fqL (pz_fqL (pz_fqR (pz_fqR (pz_fqR pz_fqn)))))
theorem pz_hg6_0_17 : Cond.not (Cond.eq (pz_tm 0) (pz_tm 17)) ∈ flatC (Jvm.Cond.and given_1 narrow_1) := pz_fi21 _ (pz_fqL (pz_fqR (pz_fqR (pz_fqR (pz_fqR pz_fqn)))))
theorem pz_hg6_0_18 : Cond.not (Cond.eq (pz_tm 0) (pz_tm 18)) ∈ flatC (Jvm.Cond.and given_1 narrow_1) := pz_fi22 _ (pz_fqR (pz_fqL (pz_fqL (pz_fqR pz_fqn))))
theorem pz_hg6_0_19 : Cond.not (Cond.eq (pz_tm 0) (pz_tm 19)) ∈ flatC (Jvm.Cond.and given_1 narrow_1) := pz_fi23 _ (pz_fqR (pz_fqR (pz_fqL (pz_fqR (pz_fqL pz_fqn)))))
theorem pz_hg6_0_20 : Cond.not (Cond.eq (pz_tm 0) (pz_tm 20)) ∈ flatC (Jvm.Cond.and given_1 narrow_1) := pz_fi25 _ (pz_fqL (pz_fqL (pz_fqR (pz_fqR (pz_fqR pz_fqn)))))
theorem pz_hg6_0_21 : Cond.not (Cond.eq (pz_tm 0) (pz_tm 21)) ∈ flatC (Jvm.Cond.and given_1 narrow_1) := pz_fi26 _ (pz_fqR (pz_fqL (pz_fqL (pz_fqL pz_fqn))))
theorem pz_hg6_0_22 : Cond.not (Cond.eq (pz_tm 0) (pz_tm 22)) ∈ flatC (Jvm.Cond.and given_1 narrow_1) := pz_fi27 _ (pz_fqR (pz_fqR (pz_fqR (pz_fqR (pz_fqR pz_fqn)))))
theorem pz_hg6_0_23 : Cond.not (Cond.eq (pz_tm 0) (pz_tm 23)) ∈ flatC (Jvm.Cond.and given_1 narrow_1) := pz_fi29 _ (pz_fqL (pz_fqR (pz_fqR (pz_fqR (pz_fqR pz_fqn)))))
theorem pz_hg6_0_24 : Cond.not (Cond.eq (pz_tm 0) (pz_tm 24)) ∈ flatC (Jvm.Cond.and given_1 narrow_1) := pz_fi30 _ (pz_fqR (pz_fqR (pz_fqR (pz_fqL pz_fqn))))
theorem pz_hg6_0 : ∀ i, i < 25 → 0 < i → Cond.not (Cond.eq (pz_tm 0) (pz_tm i)) ∈ flatC (Jvm.Cond.and given_1 narrow_1) := by
  have k0 : ∀ m, m < 0 → (fun i : Nat => 0 < i → Cond.not (Cond.eq (pz_tm 0) (pz_tm i)) ∈ flatC (Jvm.Cond.and given_1 narrow_1)) m := pz_f0
  have k1 := pz_fs k0 (fun h => absurd h (by decide))
  have k2 := pz_fs k1 (fun _ => pz_hg6_0_1)
  have k3 := pz_fs k2 (fun _ => pz_hg6_0_2)
  have k4 := pz_fs k3 (fun _ => pz_hg6_0_3)
  have k5 := pz_fs k4 (fun _ => pz_hg6_0_4)
  have k6 := pz_fs k5 (fun _ => pz_hg6_0_5)
  have k7 := pz_fs k6 (fun _ => pz_hg6_0_6)
  have k8 := pz_fs k7 (fun _ => pz_hg6_0_7)
  have k9 := pz_fs k8 (fun _ => pz_hg6_0_8)
  have k10 := pz_fs k9 (fun _ => pz_hg6_0_9)
  have k11 := pz_fs k10 (fun _ => pz_hg6_0_10)
  have k12 := pz_fs k11 (fun _ => pz_hg6_0_11)
  have k13 := pz_fs k12 (fun _ => pz_hg6_0_12)
  have k14 := pz_fs k13 (fun _ => pz_hg6_0_13)
  have k15 := pz_fs k14 (fun _ => pz_hg6_0_14)
  have k16 := pz_fs k15 (fun _ => pz_hg6_0_15)
  have k17 := pz_fs k16 (fun _ => pz_hg6_0_16)
  have k18 := pz_fs k17 (fun _ => pz_hg6_0_17)
  have k19 := pz_fs k18 (fun _ => pz_hg6_0_18)
  have k20 := pz_fs k19 (fun _ => pz_hg6_0_19)
  have k21 := pz_fs k20 (fun _ => pz_hg6_0_20)
  have k22 := pz_fs k21 (fun _ => pz_hg6_0_21)
  have k23 := pz_fs k22 (fun _ => pz_hg6_0_22)
  have k24 := pz_fs k23 (fun _ => pz_hg6_0_23)
  have k25 := pz_fs k24 (fun _ => pz_hg6_0_24)
  exact k25
theorem pz_hg6_1_2 : Cond.not (Cond.eq (pz_tm 1) (pz_tm 2)) ∈ flatC (Jvm.Cond.and given_1 narrow_1) := pz_fi8 _ (pz_fqR (pz_fqL (pz_fqR (pz_fqL pz_fqn))))
theorem pz_hg6_1_3 : Cond.not (Cond.eq (pz_tm 1) (pz_tm 3)) ∈ flatC (Jvm.Cond.and given_1 narrow_1) := pz_fi9 _ (pz_fqL (pz_fqL (pz_fqL (pz_fqR pz_fqn))))
theorem pz_hg6_1_4 : Cond.not (Cond.eq (pz_tm 1) (pz_tm 4)) ∈ flatC (Jvm.Cond.and given_1 narrow_1) := pz_fi9 _ (pz_fqR (pz_fqL (pz_fqL (pz_fqR pz_fqn))))
theorem pz_hg6_1_5 : Cond.not (Cond.eq (pz_tm 1) (pz_tm 5)) ∈ flatC (Jvm.Cond.and given_1 narrow_1) := pz_fi10 _ (pz_fqL (pz_fqL (pz_fqR (pz_fqR (pz_fqR pz_fqn)))))
theorem pz_hg6_1_6 : Cond.not (Cond.eq (pz_tm 1) (pz_tm 6)) ∈ flatC (Jvm.Cond.and given_1 narrow_1) := pz_fi10 _ (pz_fqR (pz_fqR (pz_fqR (pz_fqR (pz_fqL pz_fqn)))))
theorem pz_hg6_1_7 : Cond.not (Cond.eq (pz_tm 1) (pz_tm 7)) ∈ flatC (Jvm.Cond.and given_1 narrow_1) := pz_fi11 _ (pz_fqR (pz_fqL (pz_fqR (pz_fqL pz_fqn))))
theorem pz_hg6_1_8 : Cond.not (Cond.eq (pz_tm 1) (pz_tm 8)) ∈ flatC (Jvm.Cond.and given_1 narrow_1) := pz_fi12 _ (pz_fqL (pz_fqR (pz_fqL (pz_fqR pz_fqn))))
theorem pz_hg6_1_9 : Cond.not (Cond.eq (pz_tm 1) (pz_tm 9)) ∈ flatC (Jvm.Cond.and given_1 narrow_1) := pz_fi13 _ (pz_fqL (pz_fqL (pz_fqR (pz_fqL pz_fqn))))
theorem pz_hg6_1_10 : Cond.not (Cond.eq (pz_tm 1) (pz_tm 10)) ∈ flatC (Jvm.Cond.and given_1 narrow_1) := pz_fi13 _ (pz_fqR (pz_fqR (pz_fqR (pz_fqR (pz_fqR pz_fqn)))))
theorem pz_hg6_1_11 : Cond.not (Cond.eq (pz_tm 1) (pz_tm 11)) ∈ flatC (Jvm.Cond.and given_1 narrow_1) := pz_fi14 _ (pz_fqR (pz_fqR (pz_fqR (pz_fqR (pz_fqL pz_fqn)))))
theorem pz_hg6_1_12 : Cond.not (Cond.eq (pz_tm 1) (pz_tm 12)) ∈ flatC (Jvm.Cond.and given_1 narrow_1) := pz_fi15 _ (pz_fqR (pz_fqR (pz_fqR (pz_fqL pz_fqn))))
theorem pz_hg6_1_13 : Cond.not (Cond.eq (pz_tm 1) (pz_tm 13)) ∈ flatC (Jvm.Cond.and given_1 narrow_1) := pz_fi16 _ (pz_fqR (pz_fqR (pz_fqR (pz_fqL pz_fqn))))
theorem pz_hg6_1_14 : Cond.not (Cond.eq (pz_tm 1) (pz_tm 14)) ∈ flatC (Jvm.Cond.and given_1 narrow_1) := pz_fi17 _ (pz_fqR (pz_fqR (pz_fqR (pz_fqL pz_fqn))))
theorem pz_hg6_1_15 : Cond.not (Cond.eq (pz_tm 1) (pz_tm 15)) ∈ flatC (Jvm.Cond.and given_1 narrow_1) := pz_fi19 _ (pz_fqL (pz_fqL (pz_fqL (pz_fqL pz_fqn))))
theorem pz_hg6_1_16 : Cond.not (Cond.eq (pz_tm 1) (pz_tm 16)) ∈ flatC (Jvm.Cond.and given_1 narrow_1) := pz_fi20 _ (pz_fqL (pz_fqR (pz_fqL (pz_fqL pz_fqn))))
theorem pz_hg6_1_17 : Cond.not (Cond.eq (pz_tm 1) (pz_tm 17)) ∈ flatC (Jvm.Cond.and given_1 narrow_1) := pz_fi21 _ (pz_fqR (pz_fqL (pz_fqL (pz_fqL pz_fqn))))
theorem pz_hg6_1_18 : Cond.not (Cond.eq (pz_tm 1) (pz_tm 18)) ∈ flatC (Jvm.Cond.and given_1 narrow_1) := pz_fi22 _ (pz_fqR (pz_fqL (pz_fqR (pz_fqL pz_fqn))))
theorem pz_hg6_1_19 : Cond.not (Cond.eq (pz_tm 1) (pz_tm 19)) ∈ flatC (Jvm.Cond.and given_1 narrow_1) := pz_fi23 _ (pz_fqR (pz_fqR (pz_fqL (pz_fqR (pz_fqR pz_fqn)))))
theorem pz_hg6_1_20 : Cond.not (Cond.eq (pz_tm 1) (pz_tm 20)) ∈ flatC (Jvm.Cond.and given_1 narrow_1) := pz_fi25 _ (pz_fqL (pz_fqR (pz_fqL (pz_fqL pz_fqn))))
theorem pz_hg6_1_21 : Cond.not (Cond.eq (pz_tm 1) (pz_tm 21)) ∈ flatC (Jvm.Cond.and given_1 narrow_1) := pz_fi26 _ (pz_fqR (pz_fqL (pz_fqL (pz_fqR pz_fqn))))
theorem pz_hg6_1_22 : Cond.not (Cond.eq (pz_tm 1) (pz_tm 22)) ∈ flatC (Jvm.Cond.and given_1 narrow_1) := pz_fi28 _ (pz_fqL (pz_fqL (pz_fqL (pz_fqL pz_fqn))))
theorem pz_hg6_1_23 : Cond.not (Cond.eq (pz_tm 1) (pz_tm 23)) ∈ flatC (Jvm.Cond.and given_1 narrow_1) := pz_fi29 _ (pz_fqR (pz_fqL (pz_fqL (pz_fqL pz_fqn))))
theorem pz_hg6_1_24 : Cond.not (Cond.eq (pz_tm 1) (pz_tm 24)) ∈ flatC (Jvm.Cond.and given_1 narrow_1) := pz_fi30 _ (pz_fqR (pz_fqR (pz_fqR (pz_fqR (pz_fqL pz_fqn)))))
theorem pz_hg6_1 : ∀ i, i < 25 → 1 < i → Cond.not (Cond.eq (pz_tm 1) (pz_tm i)) ∈ flatC (Jvm.Cond.and given_1 narrow_1) := by
  have k0 : ∀ m, m < 0 → (fun i : Nat => 1 < i → Cond.not (Cond.eq (pz_tm 1) (pz_tm i)) ∈ flatC (Jvm.Cond.and given_1 narrow_1)) m := pz_f0
  have k1 := pz_fs k0 (fun h => absurd h (by decide))
  have k2 := pz_fs k1 (fun h => absurd h (by decide))
  have k3 := pz_fs k2 (fun _ => pz_hg6_1_2)
  have k4 := pz_fs k3 (fun _ => pz_hg6_1_3)
  have k5 := pz_fs k4 (fun _ => pz_hg6_1_4)
  have k6 := pz_fs k5 (fun _ => pz_hg6_1_5)
  have k7 := pz_fs k6 (fun _ => pz_hg6_1_6)
  have k8 := pz_fs k7 (fun _ => pz_hg6_1_7)
  have k9 := pz_fs k8 (fun _ => pz_hg6_1_8)
  have k10 := pz_fs k9 (fun _ => pz_hg6_1_9)
  have k11 := pz_fs k10 (fun _ => pz_hg6_1_10)
  have k12 := pz_fs k11 (fun _ => pz_hg6_1_11)
  have k13 := pz_fs k12 (fun _ => pz_hg6_1_12)
  have k14 := pz_fs k13 (fun _ => pz_hg6_1_13)
  have k15 := pz_fs k14 (fun _ => pz_hg6_1_14)
  have k16 := pz_fs k15 (fun _ => pz_hg6_1_15)
  have k17 := pz_fs k16 (fun _ => pz_hg6_1_16)
  have k18 := pz_fs k17 (fun _ => pz_hg6_1_17)
  have k19 := pz_fs k18 (fun _ => pz_hg6_1_18)
  have k20 := pz_fs k19 (fun _ => pz_hg6_1_19)
  have k21 := pz_fs k20 (fun _ => pz_hg6_1_20)
  have k22 := pz_fs k21 (fun _ => pz_hg6_1_21)
  have k23 := pz_fs k22 (fun _ => pz_hg6_1_22)
  have k24 := pz_fs k23 (fun _ => pz_hg6_1_23)
  have k25 := pz_fs k24 (fun _ => pz_hg6_1_24)
  exact k25
theorem pz_hg6_2_3 : Cond.not (Cond.eq (pz_tm 2) (pz_tm 3)) ∈ flatC (Jvm.Cond.and given_1 narrow_1) := pz_fi9 _ (pz_fqL (pz_fqL (pz_fqR (pz_fqL pz_fqn))))
theorem pz_hg6_2_4 : Cond.not (Cond.eq (pz_tm 2) (pz_tm 4)) ∈ flatC (Jvm.Cond.and given_1 narrow_1) := pz_fi9 _ (pz_fqR (pz_fqL (pz_fqR (pz_fqL pz_fqn))))
theorem pz_hg6_2_5 : Cond.not (Cond.eq (pz_tm 2) (pz_tm 5)) ∈ flatC (Jvm.Cond.and given_1 narrow_1) := pz_fi10 _ (pz_fqL (pz_fqR (pz_fqL (pz_fqL pz_fqn))))
theorem pz_hg6_2_6 : Cond.not (Cond.eq (pz_tm 2) (pz_tm 6)) ∈ flatC (Jvm.Cond.and given_1 narrow_1) := pz_fi10 _ (pz_fqR (pz_fqR (pz_fqR (pz_fqR (pz_fqR pz_fqn)))))
theorem pz_hg6_2_7 : Cond.not (Cond.eq (pz_tm 2) (pz_tm 7)) ∈ flatC (Jvm.Cond.and given_1 narrow_1) := pz_fi11 _ (pz_fqR (pz_fqL (pz_fqR (pz_fqR (pz_fqL pz_fqn)))))
theorem pz_hg6_2_8 : Cond.not (Cond.eq (pz_tm 2) (pz_tm 8)) ∈ flatC (Jvm.Cond.and given_1 narrow_1) := pz_fi12 _ (pz_fqL (pz_fqR (pz_fqR (pz_fqL pz_fqn))))
theorem pz_hg6_2_9 : Cond.not (Cond.eq (pz_tm 2) (pz_tm 9)) ∈ flatC (Jvm.Cond.and given_1 narrow_1) := pz_fi13 _ (pz_fqL (pz_fqL (pz_fqR (pz_fqR (pz_fqL pz_fqn)))))
theorem pz_hg6_2_10 : Cond.not (Cond.eq (pz_tm 2) (pz_tm 10)) ∈ flatC (Jvm.Cond.and given_1 narrow_1) := pz_fi14 _ (pz_fqL (pz_fqL (pz_fqL (pz_fqL pz_fqn))))
theorem pz_hg6_2_11 : Cond.not (Cond.eq (pz_tm 2) (pz_tm 11)) ∈ flatC (Jvm.Cond.and given_1 narrow_1) := pz_fi14 _ (pz_fqR (pz_fqR (pz_fqR (pz_fqR (pz_fqR pz_fqn)))))
theorem pz_hg6_2_12 : Cond.not (Cond.eq (pz_tm 2) (pz_tm 12)) ∈ flatC (Jvm.Cond.and given_1 narrow_1) := pz_fi15 _ (pz_fqR (pz_fqR (pz_fqR (pz_fqR (pz_fqL pz_fqn)))))
theorem pz_hg6_2_13 : Cond.not (Cond.eq (pz_tm 2) (pz_tm 13)) ∈ flatC (Jvm.Cond.and given_1 narrow_1) := pz_fi16 _ (pz_fqR (pz_fqR (pz_fqR (pz_fqR (pz_fqL pz_fqn)))))
theorem pz_hg6_2_14 : Cond.not (Cond.eq (pz_tm 2) (pz_tm 14)) ∈ flatC (Jvm.Cond.and given_1 narrow_1) := pz_fi17 _ (pz_fqR (pz_fqR (pz_fqR (pz_fqR (pz_fqL pz_fqn)))))
theorem pz_hg6_2_15 : Cond.not (Cond.eq (pz_tm 2) (pz_tm 15)) ∈ flatC (Jvm.Cond.and given_1 narrow_1) := pz_fi19 _ (pz_fqL (pz_fqL (pz_fqL (pz_fqR pz_fqn))))
theorem pz_hg6_2_16 : Cond.not (Cond.eq (pz_tm 2) (pz_tm 16)) ∈ flatC (Jvm.Cond.and given_1 narrow_1) := pz_fi20 _ (pz_fqL (pz_fqR (pz_fqL (pz_fqR pz_fqn))))
theorem pz_hg6_2_17 : Cond.not (Cond.eq (pz_tm 2) (pz_tm 17)) ∈ flatC (Jvm.Cond.and given_1 narrow_1) := pz_fi21 _ (pz_fqR (pz_fqL (pz_fqL (pz_fqR pz_fqn))))
theorem pz_hg6_2_18 : Cond.not (Cond.eq (pz_tm 2) (pz_tm 18)) ∈ flatC (Jvm.Cond.and given_1 narrow_1) := pz_fi22 _ (pz_fqR (pz_fqL (pz_fqR (pz_fqR (pz_fqL pz_fqn)))))
theorem pz_hg6_2_19 : Cond.not (Cond.eq (pz_tm 2) (pz_tm 19)) ∈ flatC (Jvm.Cond.and given_1 narrow_1) := pz_fi23 _ (pz_fqR (pz_fqR (pz_fqR (pz_fqL pz_fqn))))
theorem pz_hg6_2_20 : Cond.not (Cond.eq (pz_tm 2) (pz_tm 20)) ∈ flatC (Jvm.Cond.and given_1 narrow_1) := pz_fi25 _ (pz_fqL (pz_fqR (pz_fqL (pz_fqR pz_fqn))))
theorem pz_hg6_2_21 : Cond.not (Cond.eq (pz_tm 2) (pz_tm 21)) ∈ flatC (Jvm.Cond.and given_1 narrow_1) := pz_fi26 _ (pz_fqR (pz_fqL (pz_fqR (pz_fqL pz_fqn))))
theorem pz_hg6_2_22 : Cond.not (Cond.eq (pz_tm 2) (pz_tm 22)) ∈ flatC (Jvm.Cond.and given_1 narrow_1) := pz_fi28 _ (pz_fqL (pz_fqL (pz_fqL (pz_fqR pz_fqn))))
theorem pz_hg6_2_23 : Cond.not (Cond.eq (pz_tm 2) (pz_tm 23)) ∈ flatC (Jvm.Cond.and given_1 narrow_1) := pz_fi29 _ (pz_fqR (pz_fqL (pz_fqL (pz_fqR pz_fqn))))
theorem pz_hg6_2_24 : Cond.not (Cond.eq (pz_tm 2) (pz_tm 24)) ∈ flatC (Jvm.Cond.and given_1 narrow_1) := pz_fi30 _ (pz_fqR (pz_fqR (pz_fqR (pz_fqR (pz_fqR pz_fqn)))))
theorem pz_hg6_2 : ∀ i, i < 25 → 2 < i → Cond.not (Cond.eq (pz_tm 2) (pz_tm i)) ∈ flatC (Jvm.Cond.and given_1 narrow_1) := by
  have k0 : ∀ m, m < 0 → (fun i : Nat => 2 < i → Cond.not (Cond.eq (pz_tm 2) (pz_tm i)) ∈ flatC (Jvm.Cond.and given_1 narrow_1)) m := pz_f0
  have k1 := pz_fs k0 (fun h => absurd h (by decide))
  have k2 := pz_fs k1 (fun h => absurd h (by decide))
  have k3 := pz_fs k2 (fun h => absurd h (by decide))
  have k4 := pz_fs k3 (fun _ => pz_hg6_2_3)
  have k5 := pz_fs k4 (fun _ => pz_hg6_2_4)
  have k6 := pz_fs k5 (fun _ => pz_hg6_2_5)
  have k7 := pz_fs k6 (fun _ => pz_hg6_2_6)
  have k8 := pz_fs k7 (fun _ => pz_hg6_2_7)
  have k9 := pz_fs k8 (fun _ => pz_hg6_2_8)
  have k10 := pz_fs k9 (fun _ => pz_hg6_2_9)
  have k11 := pz_fs k10 (fun _ => pz_hg6_2_10)
  have k12 := pz_fs k11 (fun _ => pz_hg6_2_11)
  have k13 := pz_fs k12 (fun _ => pz_hg6_2_12)
  have k14 := pz_fs k13 (fun _ => pz_hg6_2_13)
  have k15 := pz_fs k14 (fun _ => pz_hg6_2_14)
  have k16 := pz_fs k15 (fun _ => pz_hg6_2_15)
  have k17 := pz_fs k16 (fun _ => pz_hg6_2_16)
  have k18 := pz_fs k17 (fun _ => pz_hg6_2_17)
  have k19 := pz_fs k18 (fun _ => pz_hg6_2_18)
  have k20 := pz_fs k19 (fun _ => pz_hg6_2_19)
  have k21 := pz_fs k20 (fun _ => pz_hg6_2_20)
  have k22 := pz_fs k21 (fun _ => pz_hg6_2_21)
  have k23 := pz_fs k22 (fun _ => pz_hg6_2_22)
  have k24 := pz_fs k23 (fun _ => pz_hg6_2_23)
  have k25 := pz_fs k24 (fun _ => pz_hg6_2_24)
  exact k25
theorem pz_hg6_3_4 : Cond.not (Cond.eq (pz_tm 3) (pz_tm 4)) ∈ flatC (Jvm.Cond.and given_1 narrow_1) := pz_fi9 _ (pz_fqR (pz_fqL (pz_fqR (pz_fqR (pz_fqL pz_fqn)))))
theorem pz_hg6_3_5 : Cond.not (Cond.eq (pz_tm 3) (pz_tm 5)) ∈ flatC (Jvm.Cond.and given_1 narrow_1) := pz_fi10 _ (pz_fqL (pz_fqR (pz_fqL (pz_fqR pz_fqn))))
theorem pz_hg6_3_6 : Cond.not (Cond.eq (pz_tm 3) (pz_tm 6)) ∈ flatC (Jvm.Cond.and given_1 narrow_1) := pz_fi11 _ (pz_fqL (pz_fqL (pz_fqL (pz_fqL pz_fqn))))
theorem pz_hg6_3_7 : Cond.not (Cond.eq (pz_tm 3) (pz_tm 7)) ∈ flatC (Jvm.Cond.and given_1 narrow_1) := pz_fi11 _ (pz_fqR (pz_fqL (pz_fqR (pz_fqR (pz_fqR pz_fqn)))))
theorem pz_hg6_3_8 : Cond.not (Cond.eq (pz_tm 3) (pz_tm 8)) ∈ flatC (Jvm.Cond.and given_1 narrow_1) := pz_fi12 _ (pz_fqL (pz_fqR (pz_fqR (pz_fqR (pz_fqL pz_fqn)))))
theorem pz_hg6_3_9 : Cond.not (Cond.eq (pz_tm 3) (pz_tm 9)) ∈ flatC (Jvm.Cond.and given_1 narrow_1) := pz_fi13 _ (pz_fqL (pz_fqL (pz_fqR (pz_fqR (pz_fqR pz_fqn)))))
theorem pz_hg6_3_10 : Cond.not (Cond.eq (pz_tm 3) (pz_tm 10)) ∈ flatC (Jvm.Cond.and given_1 narrow_1) := pz_fi14 _ (pz_fqL (pz_fqL (pz_fqL (pz_fqR pz_fqn))))
theorem pz_hg6_3_11 : Cond.not (Cond.eq (pz_tm 3) (pz_tm 11)) ∈ flatC (Jvm.Cond.and given_1 narrow_1) := pz_fi15 _ (pz_fqL (pz_fqL (pz_fqL (pz_fqL pz_fqn))))
theorem pz_hg6_3_12 : Cond.not (Cond.eq (pz_tm 3) (pz_tm 12)) ∈ flatC (Jvm.Cond.and given_1 narrow_1) := pz_fi15 _ (pz_fqR (pz_fqR (pz_fqR (pz_fqR (pz_fqR pz_fqn)))))
theorem pz_hg6_3_13 : Cond.not (Cond.eq (pz_tm 3) (pz_tm 13)) ∈ flatC (Jvm.Cond.and given_1 narrow_1) := pz_fi16 _ (pz_fqR (pz_fqR (pz_fqR (pz_fqR (pz_fqR pz_fqn)))))
theorem pz_hg6_3_14 : Cond.not (Cond.eq (pz_tm 3) (pz_tm 14)) ∈ flatC (Jvm.Cond.and given_1 narrow_1) := pz_fi17 _ (pz_fqR (pz_fqR (pz_fqR (pz_fqR (pz_fqR pz_fqn)))))
theorem pz_hg6_3_15 : Cond.not (Cond.eq (pz_tm 3) (pz_tm 15)) ∈ flatC (Jvm.Cond.and given_1 narrow_1) := pz_fi19 _ (pz_fqL (pz_fqL (pz_fqR (pz_fqL pz_fqn))))
theorem pz_hg6_3_16 : Cond.not (Cond.eq (pz_tm 3) (pz_tm 16)) ∈ flatC (Jvm.Cond.and given_1 narrow_1) := pz_fi20 _ (pz_fqL (pz_fqR (pz_fqR (pz_fqL pz_fqn))))
theorem pz_hg6_3_17 : Cond.not (Cond.eq (pz_tm 3) (pz_tm 17)) ∈ flatC (Jvm.Cond.and given_1 narrow_1) := pz_fi21 _ (pz_fqR (pz_fqL (pz_fqR (pz_fqL pz_fqn))))
theorem pz_hg6_3_18 : Cond.not (Cond.eq (pz_tm 3) (pz_tm 18)) ∈ flatC (Jvm.Cond.and given_1 narrow_1) := pz_fi22 _ (pz_fqR (pz_fqL (pz_fqR (pz_fqR (pz_fqR pz_fqn)))))
theorem pz_hg6_3_19 : Cond.not (Cond.eq (pz_tm 3) (pz_tm 19)) ∈ flatC (Jvm.Cond.and given_1 narrow_1) := pz_fi23 _ (pz_fqR (pz_fqR (pz_fqR (pz_fqR (pz_fqL pz_fqn)))))
theorem pz_hg6_3_20 : Cond.not (Cond.eq (pz_tm 3) (pz_tm 20)) ∈ flatC (Jvm.Cond.and given_1 narrow_1) := pz_fi25 _ (pz_fqL (pz_fqR (pz_fqR (pz_fqL pz_fqn))))
theorem pz_hg6_3_21 : Cond.not (Cond.eq (pz_tm 3) (pz_tm 21)) ∈ flatC (Jvm.Cond.and given_1 narrow_1) := pz_fi26 _ (pz_fqR (pz_fqL (pz_fqR (pz_fqR (pz_fqL pz_fqn)))))
theorem pz_hg6_3_22 : Cond.not (Cond.eq (pz_tm 3) (pz_tm 22)) ∈ flatC (Jvm.Cond.and given_1 narrow_1) := pz_fi28 _ (pz_fqL (pz_fqL (pz_fqR (pz_fqL pz_fqn))))
theorem pz_hg6_3_23 : Cond.not (Cond.eq (pz_tm 3) (pz_tm 23)) ∈ flatC (Jvm.Cond.and given_1 narrow_1) := pz_fi29 _ (pz_fqR (pz_fqL (pz_fqR (pz_fqL pz_fqn))))
theorem pz_hg6_3_24 : Cond.not (Cond.eq (pz_tm 3) (pz_tm 24)) ∈ flatC (Jvm.Cond.and given_1 narrow_1) := pz_fi31 _ (pz_fqL (pz_fqL (pz_fqL (pz_fqL pz_fqn))))
theorem pz_hg6_3 : ∀ i, i < 25 → 3 < i → Cond.not (Cond.eq (pz_tm 3) (pz_tm i)) ∈ flatC (Jvm.Cond.and given_1 narrow_1) := by
  have k0 : ∀ m, m < 0 → (fun i : Nat => 3 < i → Cond.not (Cond.eq (pz_tm 3) (pz_tm i)) ∈ flatC (Jvm.Cond.and given_1 narrow_1)) m := pz_f0
  have k1 := pz_fs k0 (fun h => absurd h (by decide))
  have k2 := pz_fs k1 (fun h => absurd h (by decide))
  have k3 := pz_fs k2 (fun h => absurd h (by decide))
  have k4 := pz_fs k3 (fun h => absurd h (by decide))
  have k5 := pz_fs k4 (fun _ => pz_hg6_3_4)
  have k6 := pz_fs k5 (fun _ => pz_hg6_3_5)
  have k7 := pz_fs k6 (fun _ => pz_hg6_3_6)
  have k8 := pz_fs k7 (fun _ => pz_hg6_3_7)
  have k9 := pz_fs k8 (fun _ => pz_hg6_3_8)
  have k10 := pz_fs k9 (fun _ => pz_hg6_3_9)
  have k11 := pz_fs k10 (fun _ => pz_hg6_3_10)
  have k12 := pz_fs k11 (fun _ => pz_hg6_3_11)
  have k13 := pz_fs k12 (fun _ => pz_hg6_3_12)
  have k14 := pz_fs k13 (fun _ => pz_hg6_3_13)
  have k15 := pz_fs k14 (fun _ => pz_hg6_3_14)
  have k16 := pz_fs k15 (fun _ => pz_hg6_3_15)
  have k17 := pz_fs k16 (fun _ => pz_hg6_3_16)
  have k18 := pz_fs k17 (fun _ => pz_hg6_3_17)
  have k19 := pz_fs k18 (fun _ => pz_hg6_3_18)
  have k20 := pz_fs k19 (fun _ => pz_hg6_3_19)
  have k21 := pz_fs k20 (fun _ => pz_hg6_3_20)
  have k22 := pz_fs k21 (fun _ => pz_hg6_3_21)
  have k23 := pz_fs k22 (fun _ => pz_hg6_3_22)
  have k24 := pz_fs k23 (fun _ => pz_hg6_3_23)
  have k25 := pz_fs k24 (fun _ => pz_hg6_3_24)
  exact k25
theorem pz_hg6_4_5 : Cond.not (Cond.eq (pz_tm 4) (pz_tm 5)) ∈ flatC (Jvm.Cond.and given_1 narrow_1) := pz_fi10 _ (pz_fqL (pz_fqR (pz_fqR (pz_fqL pz_fqn))))
theorem pz_hg6_4_6 : Cond.not (Cond.eq (pz_tm 4) (pz_tm 6)) ∈ flatC (Jvm.Cond.and given_1 narrow_1) := pz_fi11 _ (pz_fqL (pz_fqL (pz_fqL (pz_fqR pz_fqn))))
theorem pz_hg6_4_7 : Cond.not (Cond.eq (pz_tm 4) (pz_tm 7)) ∈ flatC (Jvm.Cond.and given_1 narrow_1) := pz_fi11 _ (pz_fqR (pz_fqR (pz_fqL (pz_fqL pz_fqn))))
theorem pz_hg6_4_8 : Cond.not (Cond.eq (pz_tm 4) (pz_tm 8)) ∈ flatC (Jvm.Cond.and given_1 narrow_1) := pz_fi12 _ (pz_fqL (pz_fqR (pz_fqR (pz_fqR (pz_fqR pz_fqn)))))
theorem pz_hg6_4_9 : Cond.not (Cond.eq (pz_tm 4) (pz_tm 9)) ∈ flatC (Jvm.Cond.and given_1 narrow_1) := pz_fi13 _ (pz_fqL (pz_fqR (pz_fqL (pz_fqL pz_fqn))))
theorem pz_hg6_4_10 : Cond.not (Cond.eq (pz_tm 4) (pz_tm 10)) ∈ flatC (Jvm.Cond.and given_1 narrow_1) := pz_fi14 _ (pz_fqL (pz_fqL (pz_fqR (pz_fqL pz_fqn))))
theorem pz_hg6_4_11 : Cond.not (Cond.eq (pz_tm 4) (pz_tm 11)) ∈ flatC (Jvm.Cond.and given_1 narrow_1) := pz_fi15 _ (pz_fqL (pz_fqL (pz_fqL (pz_fqR pz_fqn))))
theorem pz_hg6_4_12 : Cond.not (Cond.eq (pz_tm 4) (pz_tm 12)) ∈ flatC (Jvm.Cond.and given_1 narrow_1) := pz_fi16 _ (pz_fqL (pz_fqL (pz_fqL (pz_fqL pz_fqn))))
theorem pz_hg6_4_13 : Cond.not (Cond.eq (pz_tm 4) (pz_tm 13)) ∈ flatC (Jvm.Cond.and given_1 narrow_1) := pz_fi17 _ (pz_fqL (pz_fqL (pz_fqL (pz_fqL pz_fqn))))
theorem pz_hg6_4_14 : Cond.not (Cond.eq (pz_tm 4) (pz_tm 14)) ∈ flatC (Jvm.Cond.and given_1 narrow_1) := pz_fi18 _ (pz_fqL (pz_fqL (pz_fqL (pz_fqL pz_fqn))))
theorem pz_hg6_4_15 : Cond.not (Cond.eq (pz_tm 4) (pz_tm 15)) ∈ flatC (Jvm.Cond.and given_1 narrow_1) := pz_fi19 _ (pz_fqL (pz_fqL (pz_fqR (pz_fqR (pz_fqL pz_fqn)))))
theorem pz_hg6_4_16 : Cond.not (Cond.eq (pz_tm 4) (pz_tm 16)) ∈ flatC (Jvm.Cond.and given_1 narrow_1) := pz_fi20 _ (pz_fqL (pz_fqR (pz_fqR (pz_fqR (pz_fqL pz_fqn)))))
theorem pz_hg6_4_17 : Cond.not (Cond.eq (pz_tm 4) (pz_tm 17)) ∈ flatC (Jvm.Cond.and given_1 narrow_1) := pz_fi21 _ (pz_fqR (pz_fqL (pz_fqR (pz_fqR (pz_fqL pz_fqn)))))
theorem pz_hg6_4_18 : Cond.not (Cond.eq (pz_tm 4) (pz_tm 18)) ∈ flatC (Jvm.Cond.and given_1 narrow_1) := pz_fi22 _ (pz_fqR (pz_fqR (pz_fqL (pz_fqL pz_fqn))))
theorem pz_hg6_4_19 : Cond.not (Cond.eq (pz_tm 4) (pz_tm 19)) ∈ flatC (Jvm.Cond.and given_1 narrow_1) := pz_fi23 _ (pz_fqR (pz_fqR (pz_fqR (pz_fqR (pz_fqR pz_fqn)))))
theorem pz_hg6_4_20 : Cond.not (Cond.eq (pz_tm 4) (pz_tm 20)) ∈ flatC (Jvm.Cond.and given_1 narrow_1) := pz_fi25 _ (pz_fqL (pz_fqR (pz_fqR (pz_fqR (pz_fqL pz_fqn)))))
theorem pz_hg6_4_21 : Cond.not (Cond.eq (pz_tm 4) (pz_tm 21)) ∈ flatC (Jvm.Cond.and given_1 narrow_1) := pz_fi26 _ (pz_fqR (pz_fqL (pz_fqR (pz_fqR (pz_fqR pz_fqn)))))
theorem pz_hg6_4_22 : Cond.not (Cond.eq (pz_tm 4) (pz_tm 22)) ∈ flatC (Jvm.Cond.and given_1 narrow_1) := pz_fi28 _ (pz_fqL (pz_fqL (pz_fqR (pz_fqR (pz_fqL pz_fqn)))))
theorem pz_hg6_4_23 : Cond.not (Cond.eq (pz_tm 4) (pz_tm 23)) ∈ flatC (Jvm.Cond.and given_1 narrow_1) := pz_fi29 _ (pz_fqR (pz_fqL (pz_fqR (pz_fqR (pz_fqL pz_fqn)))))
theorem pz_hg6_4_24 : Cond.not (Cond.eq (pz_tm 4) (pz_tm 24)) ∈ flatC (Jvm.Cond.and given_1 narrow_1) := pz_fi31 _ (pz_fqL (pz_fqL (pz_fqL (pz_fqR pz_fqn))))
theorem pz_hg6_4 : ∀ i, i < 25 → 4 < i → Cond.not (Cond.eq (pz_tm 4) (pz_tm i)) ∈ flatC (Jvm.Cond.and given_1 narrow_1) := by
  have k0 : ∀ m, m < 0 → (fun i : Nat => 4 < i → Cond.not (Cond.eq (pz_tm 4) (pz_tm i)) ∈ flatC (Jvm.Cond.and given_1 narrow_1)) m := pz_f0
  have k1 := pz_fs k0 (fun h => absurd h (by decide))
  have k2 := pz_fs k1 (fun h => absurd h (by decide))
  have k3 := pz_fs k2 (fun h => absurd h (by decide))
  have k4 := pz_fs k3 (fun h => absurd h (by decide))
  have k5 := pz_fs k4 (fun h => absurd h (by decide))
  have k6 := pz_fs k5 (fun _ => pz_hg6_4_5)
  have k7 := pz_fs k6 (fun _ => pz_hg6_4_6)
  have k8 := pz_fs k7 (fun _ => pz_hg6_4_7)
  have k9 := pz_fs k8 (fun _ => pz_hg6_4_8)
  have k10 := pz_fs k9 (fun _ => pz_hg6_4_9)
  have k11 := pz_fs k10 (fun _ => pz_hg6_4_10)
  have k12 := pz_fs k11 (fun _ => pz_hg6_4_11)
  have k13 := pz_fs k12 (fun _ => pz_hg6_4_12)
  have k14 := pz_fs k13 (fun _ => pz_hg6_4_13)
  have k15 := pz_fs k14 (fun _ => pz_hg6_4_14)
  have k16 := pz_fs k15 (fun _ => pz_hg6_4_15)
  have k17 := pz_fs k16 (fun _ => pz_hg6_4_16)
  have k18 := pz_fs k17 (fun _ => pz_hg6_4_17)
  have k19 := pz_fs k18 (fun _ => pz_hg6_4_18)
  have k20 := pz_fs k19 (fun _ => pz_hg6_4_19)
  have k21 := pz_fs k20 (fun _ => pz_hg6_4_20)
  have k22 := pz_fs k21 (fun _ => pz_hg6_4_21)
  have k23 := pz_fs k22 (fun _ => pz_hg6_4_22)
  have k24 := pz_fs k23 (fun _ => pz_hg6_4_23)
  have k25 := pz_fs k24 (fun _ => pz_hg6_4_24)
  exact k25
theorem pz_hg6_5_6 : Cond.not (Cond.eq (pz_tm 5) (pz_tm 6)) ∈ flatC (Jvm.Cond.and given_1 narrow_1) := pz_fi11 _ (pz_fqL (pz_fqL (pz_fqR (pz_fqL pz_fqn))))
theorem pz_hg6_5_7 : Cond.not (Cond.eq (pz_tm 5) (pz_tm 7)) ∈ flatC (Jvm.Cond.and given_1 narrow_1) := pz_fi11 _ (pz_fqR (pz_fqR (pz_fqL (pz_fqR (pz_fqL pz_fqn)))))
theorem pz_hg6_5_8 : Cond.not (Cond.eq (pz_tm 5) (pz_tm 8)) ∈ flatC (Jvm.Cond.and given_1 narrow_1) := pz_fi12 _ (pz_fqR (pz_fqL (pz_fqL (pz_fqL pz_fqn))))
theorem pz_hg6_5_9 : Cond.not (Cond.eq (pz_tm 5) (pz_tm 9)) ∈ flatC (Jvm.Cond.and given_1 narrow_1) := pz_fi13 _ (pz_fqL (pz_fqR (pz_fqL (pz_fqR pz_fqn))))
theorem pz_hg6_5_10 : Cond.not (Cond.eq (pz_tm 5) (pz_tm 10)) ∈ flatC (Jvm.Cond.and given_1 narrow_1) := pz_fi14 _ (pz_fqL (pz_fqL (pz_fqR (pz_fqR (pz_fqL pz_fqn)))))
theorem pz_hg6_5_11 : Cond.not (Cond.eq (pz_tm 5) (pz_tm 11)) ∈ flatC (Jvm.Cond.and given_1 narrow_1) := pz_fi15 _ (pz_fqL (pz_fqL (pz_fqR (pz_fqL pz_fqn))))
theorem pz_hg6_5_12 : Cond.not (Cond.eq (pz_tm 5) (pz_tm 12)) ∈ flatC (Jvm.Cond.and given_1 narrow_1) := pz_fi16 _ (pz_fqL (pz_fqL (pz_fqL (pz_fqR pz_fqn))))
theorem pz_hg6_5_13 : Cond.not (Cond.eq (pz_tm 5) (pz_tm 13)) ∈ flatC (Jvm.Cond.and given_1 narrow_1) := pz_fi17 _ (pz_fqL (pz_fqL (pz_fqL (pz_fqR pz_fqn))))
theorem pz_hg6_5_14 : Cond.not (Cond.eq (pz_tm 5) (pz_tm 14)) ∈ flatC (Jvm.Cond.and given_1 narrow_1) := pz_fi18 _ (pz_fqL (pz_fqL (pz_fqL (pz_fqR pz_fqn))))
theorem pz_hg6_5_15 : Cond.not (Cond.eq (pz_tm 5) (pz_tm 15)) ∈ flatC (Jvm.Cond.and given_1 narrow_1) := pz_fi19 _ (pz_fqL (pz_fqL (pz_fqR (pz_fqR (pz_fqR pz_fqn)))))
theorem pz_hg6_5_16 : Cond.not (Cond.eq (pz_tm 5) (pz_tm 16)) ∈ flatC (Jvm.Cond.and given_1 narrow_1) := pz_fi20 _ (pz_fqL (pz_fqR (pz_fqR (pz_fqR (pz_fqR pz_fqn)))))
theorem pz_hg6_5_17 : Cond.not (Cond.eq (pz_tm 5) (pz_tm 17)) ∈ flatC (Jvm.Cond.and given_1 narrow_1) := pz_fi21 _ (pz_fqR (pz_fqL (pz_fqR (pz_fqR (pz_fqR pz_fqn)))))
theorem pz_hg6_5_18 : Cond.not (Cond.eq (pz_tm 5) (pz_tm 18)) ∈ flatC (Jvm.Cond.and given_1 narrow_1) := pz_fi22 _ (pz_fqR (pz_fqR (pz_fqL (pz_fqR pz_fqn))))
theorem pz_hg6_5_19 : Cond.not (Cond.eq (pz_tm 5) (pz_tm 19)) ∈ flatC (Jvm.Cond.and given_1 narrow_1) := pz_fi24 _ (pz_fqL (pz_fqL (pz_fqL (pz_fqL pz_fqn))))
theorem pz_hg6_5_20 : Cond.not (Cond.eq (pz_tm 5) (pz_tm 20)) ∈ flatC (Jvm.Cond.and given_1 narrow_1) := pz_fi25 _ (pz_fqL (pz_fqR (pz_fqR (pz_fqR (pz_fqR pz_fqn)))))
theorem pz_hg6_5_21 : Cond.not (Cond.eq (pz_tm 5) (pz_tm 21)) ∈ flatC (Jvm.Cond.and given_1 narrow_1) := pz_fi26 _ (pz_fqR (pz_fqR (pz_fqL (pz_fqL pz_fqn))))
theorem pz_hg6_5_22 : Cond.not (Cond.eq (pz_tm 5) (pz_tm 22)) ∈ flatC (Jvm.Cond.and given_1 narrow_1) := pz_fi28 _ (pz_fqL (pz_fqL (pz_fqR (pz_fqR (pz_fqR pz_fqn)))))
theorem pz_hg6_5_23 : Cond.not (Cond.eq (pz_tm 5) (pz_tm 23)) ∈ flatC (Jvm.Cond.and given_1 narrow_1) := pz_fi29 _ (pz_fqR (pz_fqL (pz_fqR (pz_fqR (pz_fqR pz_fqn)))))
theorem pz_hg6_5_24 : Cond.not (Cond.eq (pz_tm 5) (pz_tm 24)) ∈ flatC (Jvm.Cond.and given_1 narrow_1) := pz_fi31 _ (pz_fqL (pz_fqL (pz_fqR (pz_fqL pz_fqn))))
theorem pz_hg6_5 : ∀ i, i < 25 → 5 < i → Cond.not (Cond.eq (pz_tm 5) (pz_tm i)) ∈ flatC (Jvm.Cond.and given_1 narrow_1) := by
  have k0 : ∀ m, m < 0 → (fun i : Nat => 5 < i → Cond.not (Cond.eq (pz_tm 5) (pz_tm i)) ∈ flatC (Jvm.Cond.and given_1 narrow_1)) m := pz_f0
  have k1 := pz_fs k0 (fun h => absurd h (by decide))
  have k2 := pz_fs k1 (fun h => absurd h (by decide))
  have k3 := pz_fs k2 (fun h => absurd h (by decide))
  have k4 := pz_fs k3 (fun h => absurd h (by decide))
  have k5 := pz_fs k4 (fun h => absurd h (by decide))
  have k6 := pz_fs k5 (fun h => absurd h (by decide))
  have k7 := pz_fs k6 (fun _ => pz_hg6_5_6)
  have k8 := pz_fs k7 (fun _ => pz_hg6_5_7)
  have k9 := pz_fs k8 (fun _ => pz_hg6_5_8)
  have k10 := pz_fs k9 (fun _ => pz_hg6_5_9)
  have k11 := pz_fs k10 (fun _ => pz_hg6_5_10)
  have k12 := pz_fs k11 (fun _ => pz_hg6_5_11)
  have k13 := pz_fs k12 (fun _ => pz_hg6_5_12)
  have k14 := pz_fs k13 (fun _ => pz_hg6_5_13)
  have k15 := pz_fs k14 (fun _ => pz_hg6_5_14)
  have k16 := pz_fs k15 (fun _ => pz_hg6_5_15)
  have k17 := pz_fs k16 (fun _ => pz_hg6_5_16)
  have k18 := pz_fs k17 (fun _ => pz_hg6_5_17)
  have k19 := pz_fs k18 (fun _ => pz_hg6_5_18)
  have k20 := pz_fs k19 (fun _ => pz_hg6_5_19)
  have k21 := pz_fs k20 (fun _ => pz_hg6_5_20)
  have k22 := pz_fs k21 (fun _ => pz_hg6_5_21)
  have k23 := pz_fs k22 (fun _ => pz_hg6_5_22)
  have k24 := pz_fs k23 (fun _ => pz_hg6_5_23)
  have k25 := pz_fs k24 (fun _ => pz_hg6_5_24)
  exact k25
theorem pz_hg6_6_7 : Cond.not (Cond.eq (pz_tm 6) (pz_tm 7)) ∈ flatC (Jvm.Cond.and given_1 narrow_1) := pz_fi11 _ (pz_fqR (pz_fqR (pz_fqL (pz_fqR (pz_fqR pz_fqn)))))
theorem pz_hg6_6_8 : Cond.not (Cond.eq (pz_tm 6) (pz_tm 8)) ∈ flatC (Jvm.Cond.and given_1 narrow_1) := pz_fi12 _ (pz_fqR (pz_fqL (pz_fqL (pz_fqR pz_fqn))))
theorem pz_hg6_6_9 : Cond.not (Cond.eq (pz_tm 6) (pz_tm 9)) ∈ flatC (Jvm.Cond.and given_1 narrow_1) := pz_fi13 _ (pz_fqL (pz_fqR (pz_fqR (pz_fqL pz_fqn))))
theorem pz_hg6_6_10 : Cond.not (Cond.eq (pz_tm 6) (pz_tm 10)) ∈ flatC (Jvm.Cond.and given_1 narrow_1) := pz_fi14 _ (pz_fqL (pz_fqL (pz_fqR (pz_fqR (pz_fqR pz_fqn)))))
theorem pz_hg6_6_11 : Cond.not (Cond.eq (pz_tm 6) (pz_tm 11)) ∈ flatC (Jvm.Cond.and given_1 narrow_1) := pz_fi15 _ (pz_fqL (pz_fqL (pz_fqR (pz_fqR (pz_fqL pz_fqn)))))
theorem pz_hg6_6_12 : Cond.not (Cond.eq (pz_tm 6) (pz_tm 12)) ∈ flatC (Jvm.Cond.and given_1 narrow_1) := pz_fi16 _ (pz_fqL (pz_fqL (pz_fqR (pz_fqL pz_fqn))))
theorem pz_hg6_6_13 : Cond.not (Cond.eq (pz_tm 6) (pz_tm 13)) ∈ flatC (Jvm.Cond.and given_1 narrow_1) := pz_fi17 _ (pz_fqL (pz_fqL (pz_fqR (pz_fqL pz_fqn))))
theorem pz_hg6_6_14 : Cond.not (Cond.eq (pz_tm 6) (pz_tm 14)) ∈ flatC (Jvm.Cond.and given_1 narrow_1) := pz_fi18 _ (pz_fqL (pz_fqL (pz_fqR (pz_fqL pz_fqn))))
theorem pz_hg6_6_15 : Cond.not (Cond.eq (pz_tm 6) (pz_tm 15)) ∈ flatC (Jvm.Cond.and given_1 narrow_1) := pz_fi19 _ (pz_fqL (pz_fqR (pz_fqL (pz_fqL pz_fqn))))
theorem pz_hg6_6_16 : Cond.not (Cond.eq (pz_tm 6) (pz_tm 16)) ∈ flatC (Jvm.Cond.and given_1 narrow_1) := pz_fi20 _ (pz_fqR (pz_fqL (pz_fqL (pz_fqL pz_fqn))))
theorem pz_hg6_6_17 : Cond.not (Cond.eq (pz_tm 6) (pz_tm 17)) ∈ flatC (Jvm.Cond.and given_1 narrow_1) := pz_fi21 _ (pz_fqR (pz_fqR (pz_fqL (pz_fqL pz_fqn))))
theorem pz_hg6_6_18 : Cond.not (Cond.eq (pz_tm 6) (pz_tm 18)) ∈ flatC (Jvm.Cond.and given_1 narrow_1) := pz_fi22 _ (pz_fqR (pz_fqR (pz_fqR (pz_fqL pz_fqn))))
theorem pz_hg6_6_19 : Cond.not (Cond.eq (pz_tm 6) (pz_tm 19)) ∈ flatC (Jvm.Cond.and given_1 narrow_1) := pz_fi24 _ (pz_fqL (pz_fqL (pz_fqL (pz_fqR pz_fqn))))
theorem pz_hg6_6_20 : Cond.not (Cond.eq (pz_tm 6) (pz_tm 20)) ∈ flatC (Jvm.Cond.and given_1 narrow_1) := pz_fi25 _ (pz_fqR (pz_fqL (pz_fqL (pz_fqL pz_fqn))))
theorem pz_hg6_6_21 : Cond.not (Cond.eq (pz_tm 6) (pz_tm 21)) ∈ flatC (Jvm.Cond.and given_1 narrow_1) := pz_fi26 _ (pz_fqR (pz_fqR (pz_fqL (pz_fqR pz_fqn))))
theorem pz_hg6_6_22 : Cond.not (Cond.eq (pz_tm 6) (pz_tm 22)) ∈ flatC (Jvm.Cond.and given_1 narrow_1) := pz_fi28 _ (pz_fqL (pz_fqR (pz_fqL (pz_fqL pz_fqn))))
theorem pz_hg6_6_23 : Cond.not (Cond.eq (pz_tm 6) (pz_tm 23)) ∈ flatC (Jvm.Cond.and given_1 narrow_1) := pz_fi29 _ (pz_fqR (pz_fqR (pz_fqL (pz_fqL pz_fqn))))
theorem pz_hg6_6_24 : Cond.not (Cond.eq (pz_tm 6) (pz_tm 24)) ∈ flatC (Jvm.Cond.and given_1 narrow_1) := pz_fi31 _ (pz_fqL (pz_fqL (pz_fqR (pz_fqR (pz_fqL pz_fqn)))))
theorem pz_hg6_6 : ∀ i, i < 25 → 6 < i → Cond.not (Cond.eq (pz_tm 6) (pz_tm i)) ∈ flatC (Jvm.Cond.and given_1 narrow_1) := by
  have k0 : ∀ m, m < 0 → (fun i : Nat => 6 < i → Cond.not (Cond.eq (pz_tm 6) (pz_tm i)) ∈ flatC (Jvm.Cond.and given_1 narrow_1)) m := pz_f0
  have k1 := pz_fs k0 (fun h => absurd h (by decide))
  have k2 := pz_fs k1 (fun h => absurd h (by decide))
  have k3 := pz_fs k2 (fun h => absurd h (by decide))
  have k4 := pz_fs k3 (fun h => absurd h (by decide))
  have k5 := pz_fs k4 (fun h => absurd h (by decide))
  have k6 := pz_fs k5 (fun h => absurd h (by decide))
  have k7 := pz_fs k6 (fun h => absurd h (by decide))
  have k8 := pz_fs k7 (fun _ => pz_hg6_6_7)
  have k9 := pz_fs k8 (fun _ => pz_hg6_6_8)
  have k10 := pz_fs k9 (fun _ => pz_hg6_6_9)
  have k11 := pz_fs k10 (fun _ => pz_hg6_6_10)
  have k12 := pz_fs k11 (fun _ => pz_hg6_6_11)
  have k13 := pz_fs k12 (fun _ => pz_hg6_6_12)
  have k14 := pz_fs k13 (fun _ => pz_hg6_6_13)
  have k15 := pz_fs k14 (fun _ => pz_hg6_6_14)
  have k16 := pz_fs k15 (fun _ => pz_hg6_6_15)
  have k17 := pz_fs k16 (fun _ => pz_hg6_6_16)
  have k18 := pz_fs k17 (fun _ => pz_hg6_6_17)
  have k19 := pz_fs k18 (fun _ => pz_hg6_6_18)
  have k20 := pz_fs k19 (fun _ => pz_hg6_6_19)
  have k21 := pz_fs k20 (fun _ => pz_hg6_6_20)
  have k22 := pz_fs k21 (fun _ => pz_hg6_6_21)
  have k23 := pz_fs k22 (fun _ => pz_hg6_6_22)
  have k24 := pz_fs k23 (fun _ => pz_hg6_6_23)
  have k25 := pz_fs k24 (fun _ => pz_hg6_6_24)
  exact k25
theorem pz_hg6_7_8 : Cond.not (Cond.eq (pz_tm 7) (pz_tm 8)) ∈ flatC (Jvm.Cond.and given_1 narrow_1) := pz_fi12 _ (pz_fqR (pz_fqL (pz_fqR (pz_fqL pz_fqn))))
theorem pz_hg6_7_9 : Cond.not (Cond.eq (pz_tm 7) (pz_tm 9)) ∈ flatC (Jvm.Cond.and given_1 narrow_1) := pz_fi13 _ (pz_fqL (pz_fqR (pz_fqR (pz_fqR (pz_fqL pz_fqn)))))
theorem pz_hg6_7_10 : Cond.not (Cond.eq (pz_tm 7) (pz_tm 10)) ∈ flatC (Jvm.Cond.and given_1 narrow_1) := pz_fi14 _ (pz_fqL (pz_fqR (pz_fqL (pz_fqL pz_fqn))))
theorem pz_hg6_7_11 : Cond.not (Cond.eq (pz_tm 7) (pz_tm 11)) ∈ flatC (Jvm.Cond.and given_1 narrow_1) := pz_fi15 _ (pz_fqL (pz_fqL (pz_fqR (pz_fqR (pz_fqR pz_fqn)))))
theorem pz_hg6_7_12 : Cond.not (Cond.eq (pz_tm 7) (pz_tm 12)) ∈ flatC (Jvm.Cond.and given_1 narrow_1) := pz_fi16 _ (pz_fqL (pz_fqL (pz_fqR (pz_fqR (pz_fqL pz_fqn)))))
theorem pz_hg6_7_13 : Cond.not (Cond.eq (pz_tm 7) (pz_tm 13)) ∈ flatC (Jvm.Cond.and given_1 narrow_1) := pz_fi17 _ (pz_fqL (pz_fqL (pz_fqR (pz_fqR (pz_fqL pz_fqn)))))
theorem pz_hg6_7_14 : Cond.not (Cond.eq (pz_tm 7) (pz_tm 14)) ∈ flatC (Jvm.Cond.and given_1 narrow_1) := pz_fi18 _ (pz_fqL (pz_fqL (pz_fqR (pz_fqR (pz_fqL pz_fqn)))))
theorem pz_hg6_7_15 : Cond.not (Cond.eq (pz_tm 7) (pz_tm 15)) ∈ flatC (Jvm.Cond.and given_1 narrow_1) := pz_fi19 _ (pz_fqL (pz_fqR (pz_fqL (pz_fqR pz_fqn))))
theorem pz_hg6_7_16 : Cond.not (Cond.eq (pz_tm 7) (pz_tm 16)) ∈ flatC (Jvm.Cond.and given_1 narrow_1) := pz_fi20 _ (pz_fqR (pz_fqL (pz_fqL (pz_fqR pz_fqn))))
theorem pz_hg6_7_17 : Cond.not (Cond.eq (pz_tm 7) (pz_tm 17)) ∈ flatC (Jvm.Cond.and given_1 narrow_1) := pz_fi21 _ (pz_fqR (pz_fqR (pz_fqL (pz_fqR (pz_fqL pz_fqn)))))
theorem pz_hg6_7_18 : Cond.not (Cond.eq (pz_tm 7) (pz_tm 18)) ∈ flatC (Jvm.Cond.and given_1 narrow_1) := pz_fi22 _ (pz_fqR (pz_fqR (pz_fqR (pz_fqR (pz_fqL pz_fqn)))))
theorem pz_hg6_7_19 : Cond.not (Cond.eq (pz_tm 7) (pz_tm 19)) ∈ flatC (Jvm.Cond.and given_1 narrow_1) := pz_fi24 _ (pz_fqL (pz_fqL (pz_fqR (pz_fqL pz_fqn))))
theorem pz_hg6_7_20 : Cond.not (Cond.eq (pz_tm 7) (pz_tm 20)) ∈ flatC (Jvm.Cond.and given_1 narrow_1) := pz_fi25 _ (pz_fqR (pz_fqL (pz_fqL (pz_fqR pz_fqn))))
theorem pz_hg6_7_21 : Cond.not (Cond.eq (pz_tm 7) (pz_tm 21)) ∈ flatC (Jvm.Cond.and given_1 narrow_1) := pz_fi26 _ (pz_fqR (pz_fqR (pz_fqR (pz_fqL pz_fqn))))
theorem pz_hg6_7_22 : Cond.not (Cond.eq (pz_tm 7) (pz_tm 22)) ∈ flatC (Jvm.Cond.and given_1 narrow_1) := pz_fi28 _ (pz_fqL (pz_fqR (pz_fqL (pz_fqR pz_fqn))))
theorem pz_hg6_7_23 : Cond.not (Cond.eq (pz_tm 7) (pz_tm 23)) ∈ flatC (Jvm.Cond.and given_1 narrow_1) := pz_fi29 _ (pz_fqR (pz_fqR (pz_fqL (pz_fqR (pz_fqL pz_fqn)))))
theorem pz_hg6_7_24 : Cond.not (Cond.eq (pz_tm 7) (pz_tm 24)) ∈ flatC (Jvm.Cond.and given_1 narrow_1) := pz_fi31 _ (pz_fqL (pz_fqL (pz_fqR (pz_fqR (pz_fqR pz_fqn)))))
theorem pz_hg6_7 : ∀ i, i < 25 → 7 < i → Cond.not (Cond.eq (pz_tm 7) (pz_tm i)) ∈ flatC (Jvm.Cond.and given_1 narrow_1) := by
  have k0 : ∀ m, m < 0 → (fun i : Nat => 7 < i → Cond.not (Cond.eq (pz_tm 7) (pz_tm i)) ∈ flatC (Jvm.Cond.and given_1 narrow_1)) m := pz_f0
  have k1 := pz_fs k0 (fun h => absurd h (by decide))
  have k2 := pz_fs k1 (fun h => absurd h (by decide))
  have k3 := pz_fs k2 (fun h => absurd h (by decide))
  have k4 := pz_fs k3 (fun h => absurd h (by decide))
  have k5 := pz_fs k4 (fun h => absurd h (by decide))
  have k6 := pz_fs k5 (fun h => absurd h (by decide))
  have k7 := pz_fs k6 (fun h => absurd h (by decide))
  have k8 := pz_fs k7 (fun h => absurd h (by decide))
  have k9 := pz_fs k8 (fun _ => pz_hg6_7_8)
  have k10 := pz_fs k9 (fun _ => pz_hg6_7_9)
  have k11 := pz_fs k10 (fun _ => pz_hg6_7_10)
  have k12 := pz_fs k11 (fun _ => pz_hg6_7_11)
  have k13 := pz_fs k12 (fun _ => pz_hg6_7_12)
  have k14 := pz_fs k13 (fun _ => pz_hg6_7_13)
  have k15 := pz_fs k14 (fun _ => pz_hg6_7_14)
  have k16 := pz_fs k15 (fun _ => pz_hg6_7_15)
  have k17 := pz_fs k16 (fun _ => pz_hg6_7_16)
  have k18 := pz_fs k17 (fun _ => pz_hg6_7_17)
  have k19 := pz_fs k18 (fun _ => pz_hg6_7_18)
  have k20 := pz_fs k19 (fun _ => pz_hg6_7_19)
  have k21 := pz_fs k20 (fun _ => pz_hg6_7_20)
  have k22 := pz_fs k21 (fun _ => pz_hg6_7_21)
  have k23 := pz_fs k22 (fun _ => pz_hg6_7_22)
  have k24 := pz_fs k23 (fun _ => pz_hg6_7_23)
  have k25 := pz_fs k24 (fun _ => pz_hg6_7_24)
  exact k25
theorem pz_hg6_8_9 : Cond.not (Cond.eq (pz_tm 8) (pz_tm 9)) ∈ flatC (Jvm.Cond.and given_1 narrow_1) := pz_fi13 _ (pz_fqL (pz_fqR (pz_fqR (pz_fqR (pz_fqR pz_fqn)))))
theorem pz_hg6_8_10 : Cond.not (Cond.eq (pz_tm 8) (pz_tm 10)) ∈ flatC (Jvm.Cond.and given_1 narrow_1) := pz_fi14 _ (pz_fqL (pz_fqR (pz_fqL (pz_fqR pz_fqn))))
theorem pz_hg6_8_11 : Cond.not (Cond.eq (pz_tm 8) (pz_tm 11)) ∈ flatC (Jvm.Cond.and given_1 narrow_1) := pz_fi15 _ (pz_fqL (pz_fqR (pz_fqL (pz_fqL pz_fqn))))
theorem pz_hg6_8_12 : Cond.not (Cond.eq (pz_tm 8) (pz_tm 12)) ∈ flatC (Jvm.Cond.and given_1 narrow_1) := pz_fi16 _ (pz_fqL (pz_fqL (pz_fqR (pz_fqR (pz_fqR pz_fqn)))))
theorem pz_hg6_8_13 : Cond.not (Cond.eq (pz_tm 8) (pz_tm 13)) ∈ flatC (Jvm.Cond.and given_1 narrow_1) := pz_fi17 _ (pz_fqL (pz_fqL (pz_fqR (pz_fqR (pz_fqR pz_fqn)))))
theorem pz_hg6_8_14 : Cond.not (Cond.eq (pz_tm 8) (pz_tm 14)) ∈ flatC (Jvm.Cond.and given_1 narrow_1) := pz_fi18 _ (pz_fqL (pz_fqL (pz_fqR (pz_fqR (pz_fqR pz_fqn)))))
theorem pz_hg6_8_15 : Cond.not (Cond.eq (pz_tm 8) (pz_tm 15)) ∈ flatC (Jvm.Cond.and given_1 narrow_1) := pz_fi19 _ (pz_fqL (pz_fqR (pz_fqR (pz_fqL pz_fqn))))
theorem pz_hg6_8_16 : Cond.not (Cond.eq (pz_tm 8) (pz_tm 16)) ∈ flatC (Jvm.Cond.and given_1 narrow_1) := pz_fi20 _ (pz_fqR (pz_fqL (pz_fqR (pz_fqL pz_fqn))))
theorem pz_hg6_8_17 : Cond.not (Cond.eq (pz_tm 8) (pz_tm 17)) ∈ flatC (Jvm.Cond.and given_1 narrow_1) := pz_fi21 _ (pz_fqR (pz_fqR (pz_fqL (pz_fqR (pz_fqR pz_fqn)))))
theorem pz_hg6_8_18 : Cond.not (Cond.eq (pz_tm 8) (pz_tm 18)) ∈ flatC (Jvm.Cond.and given_1 narrow_1) := pz_fi22 _ (pz_fqR (pz_fqR (pz_fqR (pz_fqR (pz_fqR pz_fqn)))))
theorem pz_hg6_8_19 : Cond.not (Cond.eq (pz_tm 8) (pz_tm 19)) ∈ flatC (Jvm.Cond.and given_1 narrow_1) := pz_fi24 _ (pz_fqL (pz_fqL (pz_fqR (pz_fqR (pz_fqL pz_fqn)))))
theorem pz_hg6_8_20 : Cond.not (Cond.eq (pz_tm 8) (pz_tm 20)) ∈ flatC (Jvm.Cond.and given_1 narrow_1) := pz_fi25 _ (pz_fqR (pz_fqL (pz_fqR (pz_fqL pz_fqn))))
theorem pz_hg6_8_21 : Cond.not (Cond.eq (pz_tm 8) (pz_tm 21)) ∈ flatC (Jvm.Cond.and given_1 narrow_1) := pz_fi26 _ (pz_fqR (pz_fqR (pz_fqR (pz_fqR (pz_fqL pz_fqn)))))
theorem pz_hg6_8_22 : Cond.not (Cond.eq (pz_tm 8) (pz_tm 22)) ∈ flatC (Jvm.Cond.and given_1 narrow_1) := pz_fi28 _ (pz_fqL (pz_fqR (pz_fqR (pz_fqL pz_fqn))))
theorem pz_hg6_8_23 : Cond.not (Cond.eq (pz_tm 8) (pz_tm 23)) ∈ flatC (Jvm.Cond.and given_1 narrow_1) := pz_fi29 _ (pz_fqR (pz_fqR (pz_fqL (pz_fqR (pz_fqR pz_fqn)))))
theorem pz_hg6_8_24 : Cond.not (Cond.eq (pz_tm 8) (pz_tm 24)) ∈ flatC (Jvm.Cond.and given_1 narrow_1) := pz_fi31 _ (pz_fqL (pz_fqR (pz_fqL (pz_fqL pz_fqn))))
theorem pz_hg6_8 : ∀ i, i < 25 → 8 < i → Cond.not (Cond.eq (pz_tm 8) (pz_tm i)) ∈ flatC (Jvm.Cond.and given_1 narrow_1) := by
  have k0 : ∀ m, m < 0 → (fun i : Nat => 8 < i → Cond.not (Cond.eq (pz_tm 8) (pz_tm i)) ∈ flatC (Jvm.Cond.and given_1 narrow_1)) m := pz_f0
  have k1 := pz_fs k0 (fun h => absurd h (by decide))
  have k2 := pz_fs k1 (fun h => absurd h (by decide))
  have k3 := pz_fs k2 (fun h => absurd h (by decide))
  have k4 := pz_fs k3 (fun h => absurd h (by decide))
  have k5 := pz_fs k4 (fun h => absurd h (by decide))
  have k6 := pz_fs k5 (fun h => absurd h (by decide))
  have k7 := pz_fs k6 (fun h => absurd h (by decide))
  have k8 := pz_fs k7 (fun h => absurd h (by decide))
  have k9 := pz_fs k8 (fun h => absurd h (by decide))
  have k10 := pz_fs k9 (fun _ => pz_hg6_8_9)
  have k11 := pz_fs k10 (fun _ => pz_hg6_8_10)
  have k12 := pz_fs k11 (fun _ => pz_hg6_8_11)
  have k13 := pz_fs k12 (fun _ => pz_hg6_8_12)
  have k14 := pz_fs k13 (fun _ => pz_hg6_8_13)
  have k15 := pz_fs k14 (fun _ => pz_hg6_8_14)
  have k16 := pz_fs k15 (fun _ => pz_hg6_8_15)
  have k17 := pz_fs k16 (fun _ => pz_hg6_8_16)
  have k18 := pz_fs k17 (fun _ => pz_hg6_8_17)
  have k19 := pz_fs k18 (fun _ => pz_hg6_8_18)
  have k20 := pz_fs k19 (fun _ => pz_hg6_8_19)
  have k21 := pz_fs k20 (fun _ => pz_hg6_8_20)
  have k22 := pz_fs k21 (fun _ => pz_hg6_8_21)
  have k23 := pz_fs k22 (fun _ => pz_hg6_8_22)
  have k24 := pz_fs k23 (fun _ => pz_hg6_8_23)
  have k25 := pz_fs k24 (fun _ => pz_hg6_8_24)
  exact k25
theorem pz_hg6_9_10 : Cond.not (Cond.eq (pz_tm 9) (pz_tm 10)) ∈ flatC (Jvm.Cond.and given_1 narrow_1) := pz_fi14 _ (pz_fqL (pz_fqR (pz_fqR (pz_fqL pz_fqn))))
theorem pz_hg6_9_11 : Cond.not (Cond.eq (pz_tm 9) (pz_tm 11)) ∈ flatC (Jvm.Cond.and given_1 narrow_1) := pz_fi15 _ (pz_fqL (pz_fqR (pz_fqL (pz_fqR pz_fqn))))
theorem pz_hg6_9_12 : Cond.not (Cond.eq (pz_tm 9) (pz_tm 12)) ∈ flatC (Jvm.Cond.and given_1 narrow_1) := pz_fi16 _ (pz_fqL (pz_fqR (pz_fqL (pz_fqL pz_fqn))))
theorem pz_hg6_9_13 : Cond.not (Cond.eq (pz_tm 9) (pz_tm 13)) ∈ flatC (Jvm.Cond.and given_1 narrow_1) := pz_fi17 _ (pz_fqL (pz_fqR (pz_fqL (pz_fqL pz_fqn))))
theorem pz_hg6_9_14 : Cond.not (Cond.eq (pz_tm 9) (pz_tm 14)) ∈ flatC (Jvm.Cond.and given_1 narrow_1) := pz_fi18 _ (pz_fqL (pz_fqR (pz_fqL (pz_fqL pz_fqn))))
theorem pz_hg6_9_15 : Cond.not (Cond.eq (pz_tm 9) (pz_tm 15)) ∈ flatC (Jvm.Cond.and given_1 narrow_1) := pz_fi19 _ (pz_fqL (pz_fqR (pz_fqR (pz_fqR (pz_fqL pz_fqn)))))
theorem pz_hg6_9_16 : Cond.not (Cond.eq (pz_tm 9) (pz_tm 16)) ∈ flatC (Jvm.Cond.and given_1 narrow_1) := pz_fi20 _ (pz_fqR (pz_fqL (pz_fqR (pz_fqR (pz_fqL pz_fqn)))))
theorem pz_hg6_9_17 : Cond.not (Cond.eq (pz_tm 9) (pz_tm 17)) ∈ flatC (Jvm.Cond.and given_1 narrow_1) := pz_fi21 _ (pz_fqR (pz_fqR (pz_fqR (pz_fqL pz_fqn))))
theorem pz_hg6_9_18 : Cond.not (Cond.eq (pz_tm 9) (pz_tm 18)) ∈ flatC (Jvm.Cond.and given_1 narrow_1) := pz_fi23 _ (pz_fqL (pz_fqL (pz_fqL (pz_fqL pz_fqn))))
theorem pz_hg6_9_19 : Cond.not (Cond.eq (pz_tm 9) (pz_tm 19)) ∈ flatC (Jvm.Cond.and given_1 narrow_1) := pz_fi24 _ (pz_fqL (pz_fqL (pz_fqR (pz_fqR (pz_fqR pz_fqn)))))
theorem pz_hg6_9_20 : Cond.not (Cond.eq (pz_tm 9) (pz_tm 20)) ∈ flatC (Jvm.Cond.and given_1 narrow_1) := pz_fi25 _ (pz_fqR (pz_fqL (pz_fqR (pz_fqR (pz_fqL pz_fqn)))))
theorem pz_hg6_9_21 : Cond.not (Cond.eq (pz_tm 9) (pz_tm 21)) ∈ flatC (Jvm.Cond.and given_1 narrow_1) := pz_fi26 _ (pz_fqR (pz_fqR (pz_fqR (pz_fqR (pz_fqR pz_fqn)))))
theorem pz_hg6_9_22 : Cond.not (Cond.eq (pz_tm 9) (pz_tm 22)) ∈ flatC (Jvm.Cond.and given_1 narrow_1) := pz_fi28 _ (pz_fqL (pz_fqR (pz_fqR (pz_fqR (pz_fqL pz_fqn)))))
theorem pz_hg6_9_23 : Cond.not (Cond.eq (pz_tm 9) (pz_tm 23)) ∈ flatC (Jvm.Cond.and given_1 narrow_1) := pz_fi29 _ (pz_fqR (pz_fqR (pz_fqR (pz_fqL pz_fqn))))
theorem pz_hg6_9_24 : Cond.not (Cond.eq (pz_tm 9) (pz_tm 24)) ∈ flatC (Jvm.Cond.and given_1 narrow_1) := pz_fi31 _ (pz_fqL (pz_fqR (pz_fqL (pz_fqR pz_fqn))))
theorem pz_hg6_9 : ∀ i, i < 25 → 9 < i → Cond.not (Cond.eq (pz_tm 9) (pz_tm i)) ∈ flatC (Jvm.Cond.and given_1 narrow_1) := by
  have k0 : ∀ m, m < 0 → (fun i : Nat => 9 < i → Cond.not (Cond.eq (pz_tm 9) (pz_tm i)) ∈ flatC (Jvm.Cond.and given_1 narrow_1)) m := pz_f0
  have k1 := pz_fs k0 (fun h => absurd h (by decide))
  have k2 := pz_fs k1 (fun h => absurd h (by decide))
  have k3 := pz_fs k2 (fun h => absurd h (by decide))
  have k4 := pz_fs k3 (fun h => absurd h (by decide))
  have k5 := pz_fs k4 (fun h => absurd h (by decide))
  have k6 := pz_fs k5 (fun h => absurd h (by decide))
  have k7 := pz_fs k6 (fun h => absurd h (by decide))
  have k8 := pz_fs k7 (fun h => absurd h (by decide))
  have k9 := pz_fs k8 (fun h => absurd h (by decide))
  have k10 := pz_fs k9 (fun h => absurd h (by decide))
  have k11 := pz_fs k10 (fun _ => pz_hg6_9_10)
  have k12 := pz_fs k11 (fun _ => pz_hg6_9_11)
  have k13 := pz_fs k12 (fun _ => pz_hg6_9_12)
  have k14 := pz_fs k13 (fun _ => pz_hg6_9_13)
  have k15 := pz_fs k14 (fun _ => pz_hg6_9_14)
  have k16 := pz_fs k15 (fun _ => pz_hg6_9_15)
  have k17 := pz_fs k16 (fun _ => pz_hg6_9_16)
  have k18 := pz_fs k17 (fun _ => pz_hg6_9_17)
  have k19 := pz_fs k18 (fun _ => pz_hg6_9_18)
  have k20 := pz_fs k19 (fun _ => pz_hg6_9_19)
  have k21 := pz_fs k20 (fun _ => pz_hg6_9_20)
  have k22 := pz_fs k21 (fun _ => pz_hg6_9_21)
  have k23 := pz_fs k22 (fun _ => pz_hg6_9_22)
  have k24 := pz_fs k23 (fun _ => pz_hg6_9_23)
  have k25 := pz_fs k24 (fun _ => pz_hg6_9_24)
  exact k25
theorem pz_hg6_10_11 : Cond.not (Cond.eq (pz_tm 10) (pz_tm 11)) ∈ flatC (Jvm.Cond.and given_1 narrow_1) := pz_fi15 _ (pz_fqL (pz_fqR (pz_fqR (pz_fqL pz_fqn))))
theorem pz_hg6_10_12 : Cond.not (Cond.eq (pz_tm 10) (pz_tm 12)) ∈ flatC (Jvm.Cond.and given_1 narrow_1) := pz_fi16 _ (pz_fqL (pz_fqR (pz_fqL (pz_fqR pz_fqn))))
theorem pz_hg6_10_13 : Cond.not (Cond.eq (pz_tm 10) (pz_tm 13)) ∈ flatC (Jvm.Cond.and given_1 narrow_1) := pz_fi17 _ (pz_fqL (pz_fqR (pz_fqL (pz_fqR pz_fqn))))
theorem pz_hg6_10_14 : Cond.not (Cond.eq (pz_tm 10) (pz_tm 14)) ∈ flatC (Jvm.Cond.and given_1 narrow_1) := pz_fi18 _ (pz_fqL (pz_fqR (pz_fqL (pz_fqR pz_fqn))))
theorem pz_hg6_10_15 : Cond.not (Cond.eq (pz_tm 10) (pz_tm 15)) ∈ flatC (Jvm.Cond.and given_1 narrow_1) := pz_fi19 _ (pz_fqL (pz_fqR (pz_fqR (pz_fqR (pz_fqR pz_fqn)))))
theorem pz_hg6_10_16 : Cond.not (Cond.eq (pz_tm 10) (pz_tm 16)) ∈ flatC (Jvm.Cond.and given_1 narrow_1) := pz_fi20 _ (pz_fqR (pz_fqL (pz_fqR (pz_fqR (pz_fqR pz_fqn)))))
theorem pz_hg6_10_17 : Cond.not (Cond.eq (pz_tm 10) (pz_tm 17)) ∈ flatC (Jvm.Cond.and given_1 narrow_1) := pz_fi21 _ (pz_fqR (pz_fqR (pz_fqR (pz_fqR (pz_fqL pz_fqn)))))
theorem pz_hg6_10_18 : Cond.not (Cond.eq (pz_tm 10) (pz_tm 18)) ∈ flatC (Jvm.Cond.and given_1 narrow_1) := pz_fi23 _ (pz_fqL (pz_fqL (pz_fqL (pz_fqR pz_fqn))))
theorem pz_hg6_10_19 : Cond.not (Cond.eq (pz_tm 10) (pz_tm 19)) ∈ flatC (Jvm.Cond.and given_1 narrow_1) := pz_fi24 _ (pz_fqL (pz_fqR (pz_fqL (pz_fqL pz_fqn))))
theorem pz_hg6_10_20 : Cond.not (Cond.eq (pz_tm 10) (pz_tm 20)) ∈ flatC (Jvm.Cond.and given_1 narrow_1) := pz_fi25 _ (pz_fqR (pz_fqL (pz_fqR (pz_fqR (pz_fqR pz_fqn)))))
theorem pz_hg6_10_21 : Cond.not (Cond.eq (pz_tm 10) (pz_tm 21)) ∈ flatC (Jvm.Cond.and given_1 narrow_1) := pz_fi27 _ (pz_fqL (pz_fqL (pz_fqL (pz_fqL pz_fqn))))
theorem pz_hg6_10_22 : Cond.not (Cond.eq (pz_tm 10) (pz_tm 22)) ∈ flatC (Jvm.Cond.and given_1 narrow_1) := pz_fi28 _ (pz_fqL (pz_fqR (pz_fqR (pz_fqR (pz_fqR pz_fqn)))))
theorem pz_hg6_10_23 : Cond.not (Cond.eq (pz_tm 10) (pz_tm 23)) ∈ flatC (Jvm.Cond.and given_1 narrow_1) := pz_fi29 _ (pz_fqR (pz_fqR (pz_fqR (pz_fqR (pz_fqL pz_fqn)))))
theorem pz_hg6_10_24 : Cond.not (Cond.eq (pz_tm 10) (pz_tm 24)) ∈ flatC (Jvm.Cond.and given_1 narrow_1) := pz_fi31 _ (pz_fqL (pz_fqR (pz_fqR (pz_fqL pz_fqn))))
theorem pz_hg6_10 : ∀ i, i < 25 → 10 < i → Cond.not (Cond.eq (pz_tm 10) (pz_tm i)) ∈ flatC (Jvm.Cond.and given_1 narrow_1) := by
  have k0 : ∀ m, m < 0 → (fun i : Nat => 10 < i → Cond.not (Cond.eq (pz_tm 10) (pz_tm i)) ∈ flatC (Jvm.Cond.and given_1 narrow_1)) m := pz_f0
  have k1 := pz_fs k0 (fun h => absurd h (by decide))
  have k2 := pz_fs k1 (fun h => absurd h (by decide))
  have k3 := pz_fs k2 (fun h => absurd h (by decide))
  have k4 := pz_fs k3 (fun h => absurd h (by decide))
  have k5 := pz_fs k4 (fun h => absurd h (by decide))
  have k6 := pz_fs k5 (fun h => absurd h (by decide))
  have k7 := pz_fs k6 (fun h => absurd h (by decide))
  have k8 := pz_fs k7 (fun h => absurd h (by decide))
  have k9 := pz_fs k8 (fun h => absurd h (by decide))
  have k10 := pz_fs k9 (fun h => absurd h (by decide))
  have k11 := pz_fs k10 (fun h => absurd h (by decide))
  have k12 := pz_fs k11 (fun _ => pz_hg6_10_11)
  have k13 := pz_fs k12 (fun _ => pz_hg6_10_12)
  have k14 := pz_fs k13 (fun _ => pz_hg6_10_13)
  have k15 := pz_fs k14 (fun _ => pz_hg6_10_14)
  have k16 := pz_fs k15 (fun _ => pz_hg6_10_15)
  have k17 := pz_fs k16 (fun _ => pz_hg6_10_16)
  have k18 := pz_fs k17 (fun _ => pz_hg6_10_17)
  have k19 := pz_fs k18 (fun _ => pz_hg6_10_18)
  have k20 := pz_fs k19 (fun _ => pz_hg6_10_19)
  have k21 := pz_fs k20 (fun _ => pz_hg6_10_20)
  have k22 := pz_fs k21 (fun _ => pz_hg6_10_21)
  have k23 := pz_fs k22 (fun _ => pz_hg6_10_22)
  have k24 := pz_fs k23 (fun _ => pz_hg6_10_23)
  have k25 := pz_fs k24 (fun _ => pz_hg6_10_24)
  exact k25
theorem pz_hg6_11_12 : Cond.not (Cond.eq (pz_tm 11) (pz_tm 12)) ∈ flatC (Jvm.Cond.and given_1 narrow_1) := pz_fi16 _ (pz_fqL (pz_fqR (pz_fqR (pz_fqL pz_fqn))))
theorem pz_hg6_11_13 : Cond.not (Cond.eq (pz_tm 11) (pz_tm 13)) ∈ flatC (Jvm.Cond.and given_1 narrow_1) := pz_fi17 _ (pz_fqL (pz_fqR (pz_fqR (pz_fqL pz_fqn))))
theorem pz_hg6_11_14 : Cond.not (Cond.eq (pz_tm 11) (pz_tm 14)) ∈ flatC (Jvm.Cond.and given_1 narrow_1) := pz_fi18 _ (pz_fqL (pz_fqR (pz_fqR (pz_fqL pz_fqn))))
theorem pz_hg6_11_15 : Cond.not (Cond.eq (pz_tm 11) (pz_tm 15)) ∈ flatC (Jvm.Cond.and given_1 narrow_1) := pz_fi19 _ (pz_fqR (pz_fqL (pz_fqL (pz_fqL pz_fqn))))
theorem pz_hg6_11_16 : Cond.not (Cond.eq (pz_tm 11) (pz_tm 16)) ∈ flatC (Jvm.Cond.and given_1 narrow_1) := pz_fi20 _ (pz_fqR (pz_fqR (pz_fqL (pz_fqL pz_fqn))))
theorem pz_hg6_11_17 : Cond.not (Cond.eq (pz_tm 11) (pz_tm 17)) ∈ flatC (Jvm.Cond.and given_1 narrow_1) := pz_fi21 _ (pz_fqR (pz_fqR (pz_fqR (pz_fqR (pz_fqR pz_fqn)))))
theorem pz_hg6_11_18 : Cond.not (Cond.eq (pz_tm 11) (pz_tm 18)) ∈ flatC (Jvm.Cond.and given_1 narrow_1) := pz_fi23 _ (pz_fqL (pz_fqL (pz_fqR (pz_fqL pz_fqn))))
theorem pz_hg6_11_19 : Cond.not (Cond.eq (pz_tm 11) (pz_tm 19)) ∈ flatC (Jvm.Cond.and given_1 narrow_1) := pz_fi24 _ (pz_fqL (pz_fqR (pz_fqL (pz_fqR pz_fqn))))
theorem pz_hg6_11_20 : Cond.not (Cond.eq (pz_tm 11) (pz_tm 20)) ∈ flatC (Jvm.Cond.and given_1 narrow_1) := pz_fi25 _ (pz_fqR (pz_fqR (pz_fqL (pz_fqL pz_fqn))))
theorem pz_hg6_11_21 : Cond.not (Cond.eq (pz_tm 11) (pz_tm 21)) ∈ flatC (Jvm.Cond.and given_1 narrow_1) := pz_fi27 _ (pz_fqL (pz_fqL (pz_fqL (pz_fqR pz_fqn))))
theorem pz_hg6_11_22 : Cond.not (Cond.eq (pz_tm 11) (pz_tm 22)) ∈ flatC (Jvm.Cond.and given_1 narrow_1) := pz_fi28 _ (pz_fqR (pz_fqL (pz_fqL (pz_fqL pz_fqn))))
theorem pz_hg6_11_23 : Cond.not (Cond.eq (pz_tm 11) (pz_tm 23)) ∈ flatC (Jvm.Cond.and given_1 narrow_1) := pz_fi29 _ (pz_fqR (pz_fqR (pz_fqR (pz_fqR (pz_fqR pz_fqn)))))
theorem pz_hg6_11_24 : Cond.not (Cond.eq (pz_tm 11) (pz_tm 24)) ∈ flatC (Jvm.Cond.and given_1 narrow_1) := pz_fi31 _ (pz_fqL (pz_fqR (pz_fqR (pz_fqR (pz_fqL pz_fqn)))))
theorem pz_hg6_11 : ∀ i, i < 25 → 11 < i → Cond.not (Cond.eq (pz_tm 11) (pz_tm i)) ∈ flatC (Jvm.Cond.and given_1 narrow_1) := by
  have k0 : ∀ m, m < 0 → (fun i : Nat => 11 < i → Cond.not (Cond.eq (pz_tm 11) (pz_tm i)) ∈ flatC (Jvm.Cond.and given_1 narrow_1)) m := pz_f0
  have k1 := pz_fs k0 (fun h => absurd h (by decide))
  have k2 := pz_fs k1 (fun h => absurd h (by decide))
  have k3 := pz_fs k2 (fun h => absurd h (by decide))
  have k4 := pz_fs k3 (fun h => absurd h (by decide))
  have k5 := pz_fs k4 (fun h => absurd h (by decide))
  have k6 := pz_fs k5 (fun h => absurd h (by decide))
  have k7 := pz_fs k6 (fun h => absurd h (by decide))
  have k8 := pz_fs k7 (fun h => absurd h (by decide))
  have k9 := pz_fs k8 (fun h => absurd h (by decide))
  have k10 := pz_fs k9 (fun h => absurd h (by decide))
  have k11 := pz_fs k10 (fun h => absurd h (by decide))
  have k12 := pz_fs k11 (fun h => absurd h (by decide))
  have k13 := pz_fs k12 (fun _ => pz_hg6_11_12)
  have k14 := pz_fs k13 (fun _ => pz_hg6_11_13)
  have k15 := pz_fs k14 (fun _ => pz_hg6_11_14)
  have k16 := pz_fs k15 (fun _ => pz_hg6_11_15)
  have k17 := pz_fs k16 (fun _ => pz_hg6_11_16)
  have k18 := pz_fs k17 (fun _ => pz_hg6_11_17)
  have k19 := pz_fs k18 (fun _ => pz_hg6_11_18)
  have k20 := pz_fs k19 (fun _ => pz_hg6_11_19)
  have k21 := pz_fs k20 (fun _ => pz_hg6_11_20)
  have k22 := pz_fs k21 (fun _ => pz_hg6_11_21)
  have k23 := pz_fs k22 (fun _ => pz_hg6_11_22)
  have k24 := pz_fs k23 (fun _ => pz_hg6_11_23)
  have k25 := pz_fs k24 (fun _ => pz_hg6_11_24)
  exact k25
theorem pz_hg6_12_13 : Cond.not (Cond.eq (pz_tm 12) (pz_tm 13)) ∈ flatC (Jvm.Cond.and given_1 narrow_1) := pz_fi17 _ (pz_fqL (pz_fqR (pz_fqR (pz_fqR (pz_fqL pz_fqn)))))
theorem pz_hg6_12_14 : Cond.not (Cond.eq (pz_tm 12) (pz_tm 14)) ∈ flatC (Jvm.Cond.and given_1 narrow_1) := pz_fi18 _ (pz_fqL (pz_fqR (pz_fqR (pz_fqR (pz_fqL pz_fqn)))))
theorem pz_hg6_12_15 : Cond.not (Cond.eq (pz_tm 12) (pz_tm 15)) ∈ flatC (Jvm.Cond.and given_1 narrow_1) := pz_fi19 _ (pz_fqR (pz_fqL (pz_fqL (pz_fqR pz_fqn))))
theorem pz_hg6_12_16 : Cond.not (Cond.eq (pz_tm 12) (pz_tm 16)) ∈ flatC (Jvm.Cond.and given_1 narrow_1) := pz_fi20 _ (pz_fqR (pz_fqR (pz_fqL (pz_fqR pz_fqn))))
theorem pz_hg6_12_17 : Cond.not (Cond.eq (pz_tm 12) (pz_tm 17)) ∈ flatC (Jvm.Cond.and given_1 narrow_1) := pz_fi22 _ (pz_fqL (pz_fqL (pz_fqL (pz_fqL pz_fqn))))
theorem pz_hg6_12_18 : Cond.not (Cond.eq (pz_tm 12) (pz_tm 18)) ∈ flatC (Jvm.Cond.and given_1 narrow_1) := pz_fi23 _ (pz_fqL (pz_fqL (pz_fqR (pz_fqR (pz_fqL pz_fqn)))))
theorem pz_hg6_12_19 : Cond.not (Cond.eq (pz_tm 12) (pz_tm 19)) ∈ flatC (Jvm.Cond.and given_1 narrow_1) := pz_fi24 _ (pz_fqL (pz_fqR (pz_fqR (pz_fqL pz_fqn))))
theorem pz_hg6_12_20 : Cond.not (Cond.eq (pz_tm 12) (pz_tm 20)) ∈ flatC (Jvm.Cond.and given_1 narrow_1) := pz_fi25 _ (pz_fqR (pz_fqR (pz_fqL (pz_fqR (pz_fqL pz_fqn)))))
theorem pz_hg6_12_21 : Cond.not (Cond.eq (pz_tm 12) (pz_tm 21)) ∈ flatC (Jvm.Cond.and given_1 narrow_1) := pz_fi27 _ (pz_fqL (pz_fqL (pz_fqR (pz_fqL pz_fqn))))
theorem pz_hg6_12_22 : Cond.not (Cond.eq (pz_tm 12) (pz_tm 22)) ∈ flatC (Jvm.Cond.and given_1 narrow_1) := pz_fi28 _ (pz_fqR (pz_fqL (pz_fqL (pz_fqR pz_fqn))))
theorem pz_hg6_12_23 : Cond.not (Cond.eq (pz_tm 12) (pz_tm 23)) ∈ flatC (Jvm.Cond.and given_1 narrow_1) := pz_fi30 _ (pz_fqL (pz_fqL (pz_fqL (pz_fqL pz_fqn))))
theorem pz_hg6_12_24 : Cond.not (Cond.eq (pz_tm 12) (pz_tm 24)) ∈ flatC (Jvm.Cond.and given_1 narrow_1) := pz_fi31 _ (pz_fqL (pz_fqR (pz_fqR (pz_fqR (pz_fqR pz_fqn)))))
theorem pz_hg6_12 : ∀ i, i < 25 → 12 < i → Cond.not (Cond.eq (pz_tm 12) (pz_tm i)) ∈ flatC (Jvm.Cond.and given_1 narrow_1) := by
  have k0 : ∀ m, m < 0 → (fun i : Nat => 12 < i → Cond.not (Cond.eq (pz_tm 12) (pz_tm i)) ∈ flatC (Jvm.Cond.and given_1 narrow_1)) m := pz_f0
  have k1 := pz_fs k0 (fun h => absurd h (by decide))
  have k2 := pz_fs k1 (fun h => absurd h (by decide))
  have k3 := pz_fs k2 (fun h => absurd h (by decide))
  have k4 := pz_fs k3 (fun h => absurd h (by decide))
  have k5 := pz_fs k4 (fun h => absurd h (by decide))
  have k6 := pz_fs k5 (fun h => absurd h (by decide))
  have k7 := pz_fs k6 (fun h => absurd h (by decide))
  have k8 := pz_fs k7 (fun h => absurd h (by decide))
  have k9 := pz_fs k8 (fun h => absurd h (by decide))
  have k10 := pz_fs k9 (fun h => absurd h (by decide))
  have k11 := pz_fs k10 (fun h => absurd h (by decide))
  have k12 := pz_fs k11 (fun h => absurd h (by decide))
  have k13 := pz_fs k12 (fun h => absurd h (by decide))
  have k14 := pz_fs k13 (fun _ => pz_hg6_12_13)
  have k15 := pz_fs k14 (fun _ => pz_hg6_12_14)
  have k16 := pz_fs k15 (fun _ => pz_hg6_12_15)
  have k17 := pz_fs k16 (fun _ => pz_hg6_12_16)
  have k18 := pz_fs k17 (fun _ => pz_hg6_12_17)
  have k19 := pz_fs k18 (fun _ => pz_hg6_12_18)
  have k20 := pz_fs k19 (fun _ => pz_hg6_12_19)
  have k21 := pz_fs k20 (fun _ => pz_hg6_12_20)
  have k22 := pz_fs k21 (fun _ => pz_hg6_12_21)
  have k23 := pz_fs k22 (fun _ => pz_hg6_12_22)
  have k24 := pz_fs k23 (fun _ => pz_hg6_12_23)
  have k25 := pz_fs k24 (fun _ => pz_hg6_12_24)
  exact k25
theorem pz_hg6_13_14 : Cond.not (Cond.eq (pz_tm 13) (pz_tm 14)) ∈ flatC (Jvm.Cond.and given_1 narrow_1) := pz_fi18 _ (pz_fqL (pz_fqR (pz_fqR (pz_fqR (pz_fqR pz_fqn)))))
theorem pz_hg6_13_15 : Cond.not (Cond.eq (pz_tm 13) (pz_tm 15)) ∈ flatC (Jvm.Cond.and given_1 narrow_1) := pz_fi19 _ (pz_fqR (pz_fqL (pz_fqR (pz_fqL pz_fqn))))
theorem pz_hg6_13_16 : Cond.not (Cond.eq (pz_tm 13) (pz_tm 16)) ∈ flatC (Jvm.Cond.and given_1 narrow_1) := pz_fi20 _ (pz_fqR (pz_fqR (pz_fqR (pz_fqL pz_fqn))))
theorem pz_hg6_13_17 : Cond.not (Cond.eq (pz_tm 13) (pz_tm 17)) ∈ flatC (Jvm.Cond.and given_1 narrow_1) := pz_fi22 _ (pz_fqL (pz_fqL (pz_fqL (pz_fqR pz_fqn))))
theorem pz_hg6_13_18 : Cond.not (Cond.eq (pz_tm 13) (pz_tm 18)) ∈ flatC (Jvm.Cond.and given_1 narrow_1) := pz_fi23 _ (pz_fqL (pz_fqL (pz_fqR (pz_fqR (pz_fqR pz_fqn)))))
theorem pz_hg6_13_19 : Cond.not (Cond.eq (pz_tm 13) (pz_tm 19)) ∈ flatC (Jvm.Cond.and given_1 narrow_1) := pz_fi24 _ (pz_fqL (pz_fqR (pz_fqR (pz_fqR (pz_fqL pz_fqn)))))
theorem pz_hg6_13_20 : Cond.not (Cond.eq (pz_tm 13) (pz_tm 20)) ∈ flatC (Jvm.Cond.and given_1 narrow_1) := pz_fi25 _ (pz_fqR (pz_fqR (pz_fqL (pz_fqR (pz_fqR pz_fqn)))))
theorem pz_hg6_13_21 : Cond.not (Cond.eq (pz_tm 13) (pz_tm 21)) ∈ flatC (Jvm.Cond.and given_1 narrow_1) := pz_fi27 _ (pz_fqL (pz_fqL (pz_fqR (pz_fqR (pz_fqL pz_fqn)))))
theorem pz_hg6_13_22 : Cond.not (Cond.eq (pz_tm 13) (pz_tm 22)) ∈ flatC (Jvm.Cond.and given_1 narrow_1) := pz_fi28 _ (pz_fqR (pz_fqL (pz_fqR (pz_fqL pz_fqn))))
theorem pz_hg6_13_23 : Cond.not (Cond.eq (pz_tm 13) (pz_tm 23)) ∈ flatC (Jvm.Cond.and given_1 narrow_1) := pz_fi30 _ (pz_fqL (pz_fqL (pz_fqL (pz_fqR pz_fqn))))
theorem pz_hg6_13_24 : Cond.not (Cond.eq (pz_tm 13) (pz_tm 24)) ∈ flatC (Jvm.Cond.and given_1 narrow_1) := pz_fi31 _ (pz_fqR (pz_fqL (pz_fqL (pz_fqL pz_fqn))))
theorem pz_hg6_13 : ∀ i, i < 25 → 13 < i → Cond.not (Cond.eq (pz_tm 13) (pz_tm i)) ∈ flatC (Jvm.Cond.and given_1 narrow_1) := by
  have k0 : ∀ m, m < 0 → (fun i : Nat => 13 < i → Cond.not (Cond.eq (pz_tm 13) (pz_tm i)) ∈ flatC (Jvm.Cond.and given_1 narrow_1)) m := pz_f0
  have k1 := pz_fs k0 (fun h => absurd h (by decide))
  have k2 := pz_fs k1 (fun h => absurd h (by decide))
  have k3 := pz_fs k2 (fun h => absurd h (by decide))
  have k4 := pz_fs k3 (fun h => absurd h (by decide))
  have k5 := pz_fs k4 (fun h => absurd h (by decide))
  have k6 := pz_fs k5 (fun h => absurd h (by decide))
  have k7 := pz_fs k6 (fun h => absurd h (by decide))
  have k8 := pz_fs k7 (fun h => absurd h (by decide))
  have k9 := pz_fs k8 (fun h => absurd h (by decide))
  have k10 := pz_fs k9 (fun h => absurd h (by decide))
  have k11 := pz_fs k10 (fun h => absurd h (by decide))
  have k12 := pz_fs k11 (fun h => absurd h (by decide))
  have k13 := pz_fs k12 (fun h => absurd h (by decide))
  have k14 := pz_fs k13 (fun h => absurd h (by decide))
  have k15 := pz_fs k14 (fun _ => pz_hg6_13_14)
  have k16 := pz_fs k15 (fun _ => pz_hg6_13_15)
  have k17 := pz_fs k16 (fun _ => pz_hg6_13_16)
  have k18 := pz_fs k17 (fun _ => pz_hg6_13_17)
  have k19 := pz_fs k18 (fun _ => pz_hg6_13_18)
  have k20 := pz_fs k19 (fun _ => pz_hg6_13_19)
  have k21 := pz_fs k20 (fun _ => pz_hg6_13_20)
  have k22 := pz_fs k21 (fun _ => pz_hg6_13_21)
  have k23 := pz_fs k22 (fun _ => pz_hg6_13_22)
  have k24 := pz_fs k23 (fun _ => pz_hg6_13_23)
  have k25 := pz_fs k24 (fun _ => pz_hg6_13_24)
  exact k25
theorem pz_hg6_14_15 : Cond.not (Cond.eq (pz_tm 14) (pz_tm 15)) ∈ flatC (Jvm.Cond.and given_1 narrow_1) := pz_fi19 _ (pz_fqR (pz_fqL (pz_fqR (pz_fqR (pz_fqL pz_fqn)))))
theorem pz_hg6_14_16 : Cond.not (Cond.eq (pz_tm 14) (pz_tm 16)) ∈ flatC (Jvm.Cond.and given_1 narrow_1) := pz_fi20 _ (pz_fqR (pz_fqR (pz_fqR (pz_fqR (pz_fqL pz_fqn)))))
theorem pz_hg6_14_17 : Cond.not (Cond.eq (pz_tm 14) (pz_tm 17)) ∈ flatC (Jvm.Cond.and given_1 narrow_1) := pz_fi22 _ (pz_fqL (pz_fqL (pz_fqR (pz_fqL pz_fqn))))
theorem pz_hg6_14_18 : Cond.not (Cond.eq (pz_tm 14) (pz_tm 18)) ∈ flatC (Jvm.Cond.and given_1 narrow_1) := pz_fi23 _ (pz_fqL (pz_fqR (pz_fqL (pz_fqL pz_fqn))))
theorem pz_hg6_14_19 : Cond.not (Cond.eq (pz_tm 14) (pz_tm 19)) ∈ flatC (Jvm.Cond.and given_1 narrow_1) := pz_fi24 _ (pz_fqL (pz_fqR (pz_fqR (pz_fqR (pz_fqR pz_fqn)))))
theorem pz_hg6_14_20 : Cond.not (Cond.eq (pz_tm 14) (pz_tm 20)) ∈ flatC (Jvm.Cond.and given_1 narrow_1) := pz_fi25 _ (pz_fqR (pz_fqR (pz_fqR (pz_fqL pz_fqn))))
theorem pz_hg6_14_21 : Cond.not (Cond.eq (pz_tm 14) (pz_tm 21)) ∈ flatC (Jvm.Cond.and given_1 narrow_1) := pz_fi27 _ (pz_fqL (pz_fqL (pz_fqR (pz_fqR (pz_fqR pz_fqn)))))
theorem pz_hg6_14_22 : Cond.not (Cond.eq (pz_tm 14) (pz_tm 22)) ∈ flatC (Jvm.Cond.and given_1 narrow_1) := pz_fi28 _ (pz_fqR (pz_fqL (pz_fqR (pz_fqR (pz_fqL pz_fqn)))))
theorem pz_hg6_14_23 : Cond.not (Cond.eq (pz_tm 14) (pz_tm 23)) ∈ flatC (Jvm.Cond.and given_1 narrow_1) := pz_fi30 _ (pz_fqL (pz_fqL (pz_fqR (pz_fqL pz_fqn))))
theorem pz_hg6_14_24 : Cond.not (Cond.eq (pz_tm 14) (pz_tm 24)) ∈ flatC (Jvm.Cond.and given_1 narrow_1) := pz_fi31 _ (pz_fqR (pz_fqL (pz_fqL (pz_fqR pz_fqn))))
theorem pz_hg6_14 : ∀ i, i < 25 → 14 < i → Cond.not (Cond.eq (pz_tm 14) (pz_tm i)) ∈ flatC (Jvm.Cond.and given_1 narrow_1) := by
  have k0 : ∀ m, m < 0 → (fun i : Nat => 14 < i → Cond.not (Cond.eq (pz_tm 14) (pz_tm i)) ∈ flatC (Jvm.Cond.and given_1 narrow_1)) m := pz_f0
  have k1 := pz_fs k0 (fun h => absurd h (by decide))
  have k2 := pz_fs k1 (fun h => absurd h (by decide))
  have k3 := pz_fs k2 (fun h => absurd h (by decide))
  have k4 := pz_fs k3 (fun h => absurd h (by decide))
  have k5 := pz_fs k4 (fun h => absurd h (by decide))
  have k6 := pz_fs k5 (fun h => absurd h (by decide))
  have k7 := pz_fs k6 (fun h => absurd h (by decide))
  have k8 := pz_fs k7 (fun h => absurd h (by decide))
  have k9 := pz_fs k8 (fun h => absurd h (by decide))
  have k10 := pz_fs k9 (fun h => absurd h (by decide))
  have k11 := pz_fs k10 (fun h => absurd h (by decide))
  have k12 := pz_fs k11 (fun h => absurd h (by decide))
  have k13 := pz_fs k12 (fun h => absurd h (by decide))
  have k14 := pz_fs k13 (fun h => absurd h (by decide))
  have k15 := pz_fs k14 (fun h => absurd h (by decide))
  have k16 := pz_fs k15 (fun _ => pz_hg6_14_15)
  have k17 := pz_fs k16 (fun _ => pz_hg6_14_16)
  have k18 := pz_fs k17 (fun _ => pz_hg6_14_17)
  have k19 := pz_fs k18 (fun _ => pz_hg6_14_18)
  have k20 := pz_fs k19 (fun _ => pz_hg6_14_19)
  have k21 := pz_fs k20 (fun _ => pz_hg6_14_20)
  have k22 := pz_fs k21 (fun _ => pz_hg6_14_21)
  have k23 := pz_fs k22 (fun _ => pz_hg6_14_22)
  have k24 := pz_fs k23 (fun _ => pz_hg6_14_23)
  have k25 := pz_fs k24 (fun _ => pz_hg6_14_24)
  exact k25
theorem pz_hg6_15_16 : Cond.not (Cond.eq (pz_tm 15) (pz_tm 16)) ∈ flatC (Jvm.Cond.and given_1 narrow_1) := pz_fi20 _ (pz_fqR (pz_fqR (pz_fqR (pz_fqR (pz_fqR pz_fqn)))))
theorem pz_hg6_15_17 : Cond.not (Cond.eq (pz_tm 15) (pz_tm 17)) ∈ flatC (Jvm.Cond.and given_1 narrow_1) := pz_fi22 _ (pz_fqL (pz_fqL (pz_fqR (pz_fqR (pz_fqL pz_fqn)))))
theorem pz_hg6_15_18 : Cond.not (Cond.eq (pz_tm 15) (pz_tm 18)) ∈ flatC (Jvm.Cond.and given_1 narrow_1) := pz_fi23 _ (pz_fqL (pz_fqR (pz_fqL (pz_fqR pz_fqn))))
theorem pz_hg6_15_19 : Cond.not (Cond.eq (pz_tm 15) (pz_tm 19)) ∈ flatC (Jvm.Cond.and given_1 narrow_1) := pz_fi24 _ (pz_fqR (pz_fqL (pz_fqL (pz_fqL pz_fqn))))
theorem pz_hg6_15_20 : Cond.not (Cond.eq (pz_tm 15) (pz_tm 20)) ∈ flatC (Jvm.Cond.and given_1 narrow_1) := pz_fi25 _ (pz_fqR (pz_fqR (pz_fqR (pz_fqR (pz_fqL pz_fqn)))))
theorem pz_hg6_15_21 : Cond.not (Cond.eq (pz_tm 15) (pz_tm 21)) ∈ flatC (Jvm.Cond.and given_1 narrow_1) := pz_fi27 _ (pz_fqL (pz_fqR (pz_fqL (pz_fqL pz_fqn))))
theorem pz_hg6_15_22 : Cond.not (Cond.eq (pz_tm 15) (pz_tm 22)) ∈ flatC (Jvm.Cond.and given_1 narrow_1) := pz_fi28 _ (pz_fqR (pz_fqL (pz_fqR (pz_fqR (pz_fqR pz_fqn)))))
theorem pz_hg6_15_23 : Cond.not (Cond.eq (pz_tm 15) (pz_tm 23)) ∈ flatC (Jvm.Cond.and given_1 narrow_1) := pz_fi30 _ (pz_fqL (pz_fqL (pz_fqR (pz_fqR (pz_fqL pz_fqn)))))
theorem pz_hg6_15_24 : Cond.not (Cond.eq (pz_tm 15) (pz_tm 24)) ∈ flatC (Jvm.Cond.and given_1 narrow_1) := pz_fi31 _ (pz_fqR (pz_fqL (pz_fqR (pz_fqL pz_fqn))))
theorem pz_hg6_15 : ∀ i, i < 25 → 15 < i → Cond.not (Cond.eq (pz_tm 15) (pz_tm i)) ∈ flatC (Jvm.Cond.and given_1 narrow_1) := by
  have k0 : ∀ m, m < 0 → (fun i : Nat => 15 < i → Cond.not (Cond.eq (pz_tm 15) (pz_tm i)) ∈ flatC (Jvm.Cond.and given_1 narrow_1)) m := pz_f0
  have k1 := pz_fs k0 (fun h => absurd h (by decide))
  have k2 := pz_fs k1 (fun h => absurd h (by decide))
  have k3 := pz_fs k2 (fun h => absurd h (by decide))
  have k4 := pz_fs k3 (fun h => absurd h (by decide))
  have k5 := pz_fs k4 (fun h => absurd h (by decide))
  have k6 := pz_fs k5 (fun h => absurd h (by decide))
  have k7 := pz_fs k6 (fun h => absurd h (by decide))
  have k8 := pz_fs k7 (fun h => absurd h (by decide))
  have k9 := pz_fs k8 (fun h => absurd h (by decide))
  have k10 := pz_fs k9 (fun h => absurd h (by decide))
  have k11 := pz_fs k10 (fun h => absurd h (by decide))
  have k12 := pz_fs k11 (fun h => absurd h (by decide))
  have k13 := pz_fs k12 (fun h => absurd h (by decide))
  have k14 := pz_fs k13 (fun h => absurd h (by decide))
  have k15 := pz_fs k14 (fun h => absurd h (by decide))
  have k16 := pz_fs k15 (fun h => absurd h (by decide))
  have k17 := pz_fs k16 (fun _ => pz_hg6_15_16)
  have k18 := pz_fs k17 (fun _ => pz_hg6_15_17)
  have k19 := pz_fs k18 (fun _ => pz_hg6_15_18)
  have k20 := pz_fs k19 (fun _ => pz_hg6_15_19)
  have k21 := pz_fs k20 (fun _ => pz_hg6_15_20)
  have k22 := pz_fs k21 (fun _ => pz_hg6_15_21)
  have k23 := pz_fs k22 (fun _ => pz_hg6_15_22)
  have k24 := pz_fs k23 (fun _ => pz_hg6_15_23)
  have k25 := pz_fs k24 (fun _ => pz_hg6_15_24)
  exact k25
theorem pz_hg6_16_17 : Cond.not (Cond.eq (pz_tm 16) (pz_tm 17)) ∈ flatC (Jvm.Cond.and given_1 narrow_1) := pz_fi22 _ (pz_fqL (pz_fqL (pz_fqR (pz_fqR (pz_fqR pz_fqn)))))
theorem pz_hg6_16_18 : Cond.not (Cond.eq (pz_tm 16) (pz_tm 18)) ∈ flatC (Jvm.Cond.and given_1 narrow_1) := pz_fi23 _ (pz_fqL (pz_fqR (pz_fqR (pz_fqL pz_fqn))))
theorem pz_hg6_16_19 : Cond.not (Cond.eq (pz_tm 16) (pz_tm 19)) ∈ flatC (Jvm.Cond.and given_1 narrow_1) := pz_fi24 _ (pz_fqR (pz_fqL (pz_fqL (pz_fqR pz_fqn))))
theorem pz_hg6_16_20 : Cond.not (Cond.eq (pz_tm 16) (pz_tm 20)) ∈ flatC (Jvm.Cond.and given_1 narrow_1) := pz_fi25 _ (pz_fqR (pz_fqR (pz_fqR (pz_fqR (pz_fqR pz_fqn)))))
theorem pz_hg6_16_21 : Cond.not (Cond.eq (pz_tm 16) (pz_tm 21)) ∈ flatC (Jvm.Cond.and given_1 narrow_1) := pz_fi27 _ (pz_fqL (pz_fqR (pz_fqL (pz_fqR pz_fqn))))
theorem pz_hg6_16_22 : Cond.not (Cond.eq (pz_tm 16) (pz_tm 22)) ∈ flatC (Jvm.Cond.and given_1 narrow_1) := pz_fi28 _ (pz_fqR (pz_fqR (pz_fqL (pz_fqL pz_fqn))))
theorem pz_hg6_16_23 : Cond.not (Cond.eq (pz_tm 16) (pz_tm 23)) ∈ flatC (Jvm.Cond.and given_1 narrow_1) := pz_fi30 _ (pz_fqL (pz_fqL (pz_fqR (pz_fqR (pz_fqR pz_fqn)))))
theorem pz_hg6_16_24 : Cond.not (Cond.eq (pz_tm 16) (pz_tm 24)) ∈ flatC (Jvm.Cond.and given_1 narrow_1) := pz_fi31 _ (pz_fqR (pz_fqL (pz_fqR (pz_fqR (pz_fqL pz_fqn)))))
theorem pz_hg6_16 : ∀ i, i < 25 → 16 < i → Cond.not (Cond.eq (pz_tm 16) (pz_tm i)) ∈ flatC (Jvm.Cond.and given_1 narrow_1) := by
  have k0 : ∀ m, m < 0 → (fun i : Nat => 16 < i → Cond.not (Cond.eq (pz_tm 16) (pz_tm i)) ∈ flatC (Jvm.Cond.and given_1 narrow_1)) m := pz_f0
  have k1 := pz_fs k0 (fun h => absurd h (by decide))
  have k2 := pz_fs k1 (fun h => absurd h (by decide))
  have k3 := pz_fs k2 (fun h => absurd h (by decide))
  have k4 := pz_fs k3 (fun h => absurd h (by decide))
  have k5 := pz_fs k4 (fun h => absurd h (by decide))
  have k6 := pz_fs k5 (fun h => absurd h (by decide))
  have k7 := pz_fs k6 (fun h => absurd h (by decide))
  have k8 := pz_fs k7 (fun h => absurd h (by decide))
  have k9 := pz_fs k8 (fun h => absurd h (by decide))
  have k10 := pz_fs k9 (fun h => absurd h (by decide))
  have k11 := pz_fs k10 (fun h => absurd h (by decide))
  have k12 := pz_fs k11 (fun h => absurd h (by decide))
  have k13 := pz_fs k12 (fun h => absurd h (by decide))
  have k14 := pz_fs k13 (fun h => absurd h (by decide))
  have k15 := pz_fs k14 (fun h => absurd h (by decide))
  have k16 := pz_fs k15 (fun h => absurd h (by decide))
  have k17 := pz_fs k16 (fun h => absurd h (by decide))
  have k18 := pz_fs k17 (fun _ => pz_hg6_16_17)
  have k19 := pz_fs k18 (fun _ => pz_hg6_16_18)
  have k20 := pz_fs k19 (fun _ => pz_hg6_16_19)
  have k21 := pz_fs k20 (fun _ => pz_hg6_16_20)
  have k22 := pz_fs k21 (fun _ => pz_hg6_16_21)
  have k23 := pz_fs k22 (fun _ => pz_hg6_16_22)
  have k24 := pz_fs k23 (fun _ => pz_hg6_16_23)
  have k25 := pz_fs k24 (fun _ => pz_hg6_16_24)
  exact k25
theorem pz_hg6_17_18 : Cond.not (Cond.eq (pz_tm 17) (pz_tm 18)) ∈ flatC (Jvm.Cond.and given_1 narrow_1) := pz_fi23 _ (pz_fqL (pz_fqR (pz_fqR (pz_fqR (pz_fqL pz_fqn)))))
theorem pz_hg6_17_19 : Cond.not (Cond.eq (pz_tm 17) (pz_tm 19)) ∈ flatC (Jvm.Cond.and given_1 narrow_1) := pz_fi24 _ (pz_fqR (pz_fqL (pz_fqR (pz_fqL pz_fqn))))
theorem pz_hg6_17_20 : Cond.not (Cond.eq (pz_tm 17) (pz_tm 20)) ∈ flatC (Jvm.Cond.and given_1 narrow_1) := pz_fi26 _ (pz_fqL (pz_fqL (pz_fqL (pz_fqL pz_fqn))))
theorem pz_hg6_17_21 : Cond.not (Cond.eq (pz_tm 17) (pz_tm 21)) ∈ flatC (Jvm.Cond.and given_1 narrow_1) := pz_fi27 _ (pz_fqL (pz_fqR (pz_fqR (pz_fqL pz_fqn))))
theorem pz_hg6_17_22 : Cond.not (Cond.eq (pz_tm 17) (pz_tm 22)) ∈ flatC (Jvm.Cond.and given_1 narrow_1) := pz_fi28 _ (pz_fqR (pz_fqR (pz_fqL (pz_fqR pz_fqn))))
theorem pz_hg6_17_23 : Cond.not (Cond.eq (pz_tm 17) (pz_tm 23)) ∈ flatC (Jvm.Cond.and given_1 narrow_1) := pz_fi30 _ (pz_fqL (pz_fqR (pz_fqL (pz_fqL pz_fqn))))
theorem pz_hg6_17_24 : Cond.not (Cond.eq (pz_tm 17) (pz_tm 24)) ∈ flatC (Jvm.Cond.and given_1 narrow_1) := pz_fi31 _ (pz_fqR (pz_fqL (pz_fqR (pz_fqR (pz_fqR pz_fqn)))))
theorem pz_hg6_17 : ∀ i, i < 25 → 17 < i → Cond.not (Cond.eq (pz_tm 17) (pz_tm i)) ∈ flatC (Jvm.Cond.and given_1 narrow_1) := by
  have k0 : ∀ m, m < 0 → (fun i : Nat => 17 < i → Cond.not (Cond.eq (pz_tm 17) (pz_tm i)) ∈ flatC (Jvm.Cond.and given_1 narrow_1)) m := pz_f0
  have k1 := pz_fs k0 (fun h => absurd h (by decide))
  have k2 := pz_fs k1 (fun h => absurd h (by decide))
  have k3 := pz_fs k2 (fun h => absurd h (by decide))
  have k4 := pz_fs k3 (fun h => absurd h (by decide))
  have k5 := pz_fs k4 (fun h => absurd h (by decide))
  have k6 := pz_fs k5 (fun h => absurd h (by decide))
  have k7 := pz_fs k6 (fun h => absurd h (by decide))
  have k8 := pz_fs k7 (fun h => absurd h (by decide))
  have k9 := pz_fs k8 (fun h => absurd h (by decide))
  have k10 := pz_fs k9 (fun h => absurd h (by decide))
  have k11 := pz_fs k10 (fun h => absurd h (by decide))
  have k12 := pz_fs k11 (fun h => absurd h (by decide))
  have k13 := pz_fs k12 (fun h => absurd h (by decide))
  have k14 := pz_fs k13 (fun h => absurd h (by decide))
  have k15 := pz_fs k14 (fun h => absurd h (by decide))
  have k16 := pz_fs k15 (fun h => absurd h (by decide))
  have k17 := pz_fs k16 (fun h => absurd h (by decide))
  have k18 := pz_fs k17 (fun h => absurd h (by decide))
  have k19 := pz_fs k18 (fun _ => pz_hg6_17_18)
  have k20 := pz_fs k19 (fun _ => pz_hg6_17_19)
  have k21 := pz_fs k20 (fun _ => pz_hg6_17_20)
  have k22 := pz_fs k21 (fun _ => pz_hg6_17_21)
  have k23 := pz_fs k22 (fun _ => pz_hg6_17_22)
  have k24 := pz_fs k23 (fun _ => pz_hg6_17_23)
  have k25 := pz_fs k24 (fun _ => pz_hg6_17_24)
  exact k25
theorem pz_hg6_18_19 : Cond.not (Cond.eq (pz_tm 18) (pz_tm 19)) ∈ flatC (Jvm.Cond.and given_1 narrow_1) := pz_fi24 _ (pz_fqR (pz_fqL (pz_fqR (pz_fqR (pz_fqL pz_fqn)))))
theorem pz_hg6_18_20 : Cond.not (Cond.eq (pz_tm 18) (pz_tm 20)) ∈ flatC (Jvm.Cond.and given_1 narrow_1) := pz_fi26 _ (pz_fqL (pz_fqL (pz_fqL (pz_fqR pz_fqn))))
theorem pz_hg6_18_21 : Cond.not (Cond.eq (pz_tm 18) (pz_tm 21)) ∈ flatC (Jvm.Cond.and given_1 narrow_1) := pz_fi27 _ (pz_fqL (pz_fqR (pz_fqR (pz_fqR (pz_fqL pz_fqn)))))
theorem pz_hg6_18_22 : Cond.not (Cond.eq (pz_tm 18) (pz_tm 22)) ∈ flatC (Jvm.Cond.and given_1 narrow_1) := pz_fi28 _ (pz_fqR (pz_fqR (pz_fqR (pz_fqL pz_fqn))))
theorem pz_hg6_18_23 : Cond.not (Cond.eq (pz_tm 18) (pz_tm 23)) ∈ flatC (Jvm.Cond.and given_1 narrow_1) := pz_fi30 _ (pz_fqL (pz_fqR (pz_fqL (pz_fqR pz_fqn))))
theorem pz_hg6_18_24 : Cond.not (Cond.eq (pz_tm 18) (pz_tm 24)) ∈ flatC (Jvm.Cond.and given_1 narrow_1) := pz_fi31 _ (pz_fqR (pz_fqR (pz_fqL (pz_fqL pz_fqn))))
theorem pz_hg6_18 : ∀ i, i < 25 → 18 < i → Cond.not (Cond.eq (pz_tm 18) (pz_tm i)) ∈ flatC (Jvm.Cond.and given_1 narrow_1) := by
  have k0 : ∀ m, m < 0 → (fun i : Nat => 18 < i → Cond.not (Cond.eq (pz_tm 18) (pz_tm i)) ∈ flatC (Jvm.Cond.and given_1 narrow_1)) m := pz_f0
  have k1 := pz_fs k0 (fun h => absurd h (by decide))
  have k2 := pz_fs k1 (fun h => absurd h (by decide))
  have k3 := pz_fs k2 (fun h => absurd h (by decide))
  have k4 := pz_fs k3 (fun h => absurd h (by decide))
  have k5 := pz_fs k4 (fun h => absurd h (by decide))
  have k6 := pz_fs k5 (fun h => absurd h (by decide))
  have k7 := pz_fs k6 (fun h => absurd h (by decide))
  have k8 := pz_fs k7 (fun h => absurd h (by decide))
  have k9 := pz_fs k8 (fun h => absurd h (by decide))
  have k10 := pz_fs k9 (fun h => absurd h (by decide))
  have k11 := pz_fs k10 (fun h => absurd h (by decide))
  have k12 := pz_fs k11 (fun h => absurd h (by decide))
  have k13 := pz_fs k12 (fun h => absurd h (by decide))
  have k14 := pz_fs k13 (fun h => absurd h (by decide))
  have k15 := pz_fs k14 (fun h => absurd h (by decide))
  have k16 := pz_fs k15 (fun h => absurd h (by decide))
  have k17 := pz_fs k16 (fun h => absurd h (by decide))
  have k18 := pz_fs k17 (fun h => absurd h (by decide))
  have k19 := pz_fs k18 (fun h => absurd h (by decide))
  have k20 := pz_fs k19 (fun _ => pz_hg6_18_19)
  have k21 := pz_fs k20 (fun _ => pz_hg6_18_20)
  have k22 := pz_fs k21 (fun _ => pz_hg6_18_21)
  have k23 := pz_fs k22 (fun _ => pz_hg6_18_22)
  have k24 := pz_fs k23 (fun _ => pz_hg6_18_23)
  have k25 := pz_fs k24 (fun _ => pz_hg6_18_24)
  exact k25
theorem pz_hg6_19_20 : Cond.not (Cond.eq (pz_tm 19) (pz_tm 20)) ∈ flatC (Jvm.Cond.and given_1 narrow_1) := pz_fi26 _ (pz_fqL (pz_fqL (pz_fqR (pz_fqL pz_fqn))))
theorem pz_hg6_19_21 : Cond.not (Cond.eq (pz_tm 19) (pz_tm 21)) ∈ flatC (Jvm.Cond.and given_1 narrow_1) := pz_fi27 _ (pz_fqL (pz_fqR (pz_fqR (pz_fqR (pz_fqR pz_fqn)))))
theorem pz_hg6_19_22 : Cond.not (Cond.eq (pz_tm 19) (pz_tm 22)) ∈ flatC (Jvm.Cond.and given_1 narrow_1) := pz_fi28 _ (pz_fqR (pz_fqR (pz_fqR (pz_fqR (pz_fqL pz_fqn)))))
theorem pz_hg6_19_23 : Cond.not (Cond.eq (pz_tm 19) (pz_tm 23)) ∈ flatC (Jvm.Cond.and given_1 narrow_1) := pz_fi30 _ (pz_fqL (pz_fqR (pz_fqR (pz_fqL pz_fqn))))
theorem pz_hg6_19_24 : Cond.not (Cond.eq (pz_tm 19) (pz_tm 24)) ∈ flatC (Jvm.Cond.and given_1 narrow_1) := pz_fi31 _ (pz_fqR (pz_fqR (pz_fqL (pz_fqR (pz_fqL pz_fqn)))))
theorem pz_hg6_19 : ∀ i, i < 25 → 19 < i → Cond.not (Cond.eq (pz_tm 19) (pz_tm i)) ∈ flatC (Jvm.Cond.and given_1 narrow_1) := by
  have k0 : ∀ m, m < 0 → (fun i : Nat => 19 < i → Cond.not (Cond.eq (pz_tm 19) (pz_tm i)) ∈ flatC (Jvm.Cond.and given_1 narrow_1)) m := pz_f0
  have k1 := pz_fs k0 (fun h => absurd h (by decide))
  have k2 := pz_fs k1 (fun h => absurd h (by decide))
  have k3 := pz_fs k2 (fun h => absurd h (by decide))
  have k4 := pz_fs k3 (fun h => absurd h (by decide))
  have k5 := pz_fs k4 (fun h => absurd h (by decide))
  have k6 := pz_fs k5 (fun h => absurd h (by decide))
  have k7 := pz_fs k6 (fun h => absurd h (by decide))
  have k8 := pz_fs k7 (fun h => absurd h (by decide))
  have k9 := pz_fs k8 (fun h => absurd h (by decide))
  have k10 := pz_fs k9 (fun h => absurd h (by decide))
  have k11 := pz_fs k10 (fun h => absurd h (by decide))
  have k12 := pz_fs k11 (fun h => absurd h (by decide))
  have k13 := pz_fs k12 (fun h => absurd h (by decide))
  have k14 := pz_fs k13 (fun h => absurd h (by decide))
  have k15 := pz_fs k14 (fun h => absurd h (by decide))
  have k16 := pz_fs k15 (fun h => absurd h (by decide))
  have k17 := pz_fs k16 (fun h => absurd h (by decide))
  have k18 := pz_fs k17 (fun h => absurd h (by decide))
  have k19 := pz_fs k18 (fun h => absurd h (by decide))
  have k20 := pz_fs k19 (fun h => absurd h (by decide))
  have k21 := pz_fs k20 (fun _ => pz_hg6_19_20)
  have k22 := pz_fs k21 (fun _ => pz_hg6_19_21)
  have k23 := pz_fs k22 (fun _ => pz_hg6_19_22)
  have k24 := pz_fs k23 (fun _ => pz_hg6_19_23)
  have k25 := pz_fs k24 (fun _ => pz_hg6_19_24)
  exact k25
theorem pz_hg6_20_21 : Cond.not (Cond.eq (pz_tm 20) (pz_tm 21)) ∈ flatC (Jvm.Cond.and given_1 narrow_1) := pz_fi27 _ (pz_fqR (pz_fqL (pz_fqL (pz_fqL pz_fqn))))
theorem pz_hg6_20_22 : Cond.not (Cond.eq (pz_tm 20) (pz_tm 22)) ∈ flatC (Jvm.Cond.and given_1 narrow_1) := pz_fi28 _ (pz_fqR (pz_fqR (pz_fqR (pz_fqR (pz_fqR pz_fqn)))))
theorem pz_hg6_20_23 : Cond.not (Cond.eq (pz_tm 20) (pz_tm 23)) ∈ flatC (Jvm.Cond.and given_1 narrow_1) := pz_fi30 _ (pz_fqL (pz_fqR (pz_fqR (pz_fqR (pz_fqL pz_fqn)))))
theorem pz_hg6_20_24 : Cond.not (Cond.eq (pz_tm 20) (pz_tm 24)) ∈ flatC (Jvm.Cond.and given_1 narrow_1) := pz_fi31 _ (pz_fqR (pz_fqR (pz_fqL (pz_fqR (pz_fqR pz_fqn)))))
theorem pz_hg6_20 : ∀ i, i < 25 → 20 < i → Cond.not (Cond.eq (pz_tm 20) (pz_tm i)) ∈ flatC (Jvm.Cond.and given_1 narrow_1) := by
  have k0 : ∀ m, m < 0 → (fun i : Nat => 20 < i → Cond.not (Cond.eq (pz_tm 20) (pz_tm i)) ∈ flatC (Jvm.Cond.and given_1 narrow_1)) m := pz_f0
  have k1 := pz_fs k0 (fun h => absurd h (by decide))
  have k2 := pz_fs k1 (fun h => absurd h (by decide))
  have k3 := pz_fs k2 (fun h => absurd h (by decide))
  have k4 := pz_fs k3 (fun h => absurd h (by decide))
  have k5 := pz_fs k4 (fun h => absurd h (by decide))
  have k6 := pz_fs k5 (fun h => absurd h (by decide))
  have k7 := pz_fs k6 (fun h => absurd h (by decide))
  have k8 := pz_fs k7 (fun h => absurd h (by decide))
  have k9 := pz_fs k8 (fun h => absurd h (by decide))
  have k10 := pz_fs k9 (fun h => absurd h (by decide))
  have k11 := pz_fs k10 (fun h => absurd h (by decide))
  have k12 := pz_fs k11 (fun h => absurd h (by decide))
  have k13 := pz_fs k12 (fun h => absurd h (by decide))
  have k14 := pz_fs k13 (fun h => absurd h (by decide))
  have k15 := pz_fs k14 (fun h => absurd h (by decide))
  have k16 := pz_fs k15 (fun h => absurd h (by decide))
  have k17 := pz_fs k16 (fun h => absurd h (by decide))
  have k18 := pz_fs k17 (fun h => absurd h (by decide))
  have k19 := pz_fs k18 (fun h => absurd h (by decide))
  have k20 := pz_fs k19 (fun h => absurd h (by decide))
  have k21 := pz_fs k20 (fun h => absurd h (by decide))
  have k22 := pz_fs k21 (fun _ => pz_hg6_20_21)
  have k23 := pz_fs k22 (fun _ => pz_hg6_20_22)
  have k24 := pz_fs k23 (fun _ => pz_hg6_20_23)
  have k25 := pz_fs k24 (fun _ => pz_hg6_20_24)
  exact k25
theorem pz_hg6_21_22 : Cond.not (Cond.eq (pz_tm 21) (pz_tm 22)) ∈ flatC (Jvm.Cond.and given_1 narrow_1) := pz_fi29 _ (pz_fqL (pz_fqL (pz_fqL (pz_fqL pz_fqn))))
theorem pz_hg6_21_23 : Cond.not (Cond.eq (pz_tm 21) (pz_tm 23)) ∈ flatC (Jvm.Cond.and given_1 narrow_1) := pz_fi30 _ (pz_fqL (pz_fqR (pz_fqR (pz_fqR (pz_fqR pz_fqn)))))
theorem pz_hg6_21_24 : Cond.not (Cond.eq (pz_tm 21) (pz_tm 24)) ∈ flatC (Jvm.Cond.and given_1 narrow_1) := pz_fi31 _ (pz_fqR (pz_fqR (pz_fqR (pz_fqL pz_fqn))))
theorem pz_hg6_21 : ∀ i, i < 25 → 21 < i → Cond.not (Cond.eq (pz_tm 21) (pz_tm i)) ∈ flatC (Jvm.Cond.and given_1 narrow_1) := by
  have k0 : ∀ m, m < 0 → (fun i : Nat => 21 < i → Cond.not (Cond.eq (pz_tm 21) (pz_tm i)) ∈ flatC (Jvm.Cond.and given_1 narrow_1)) m := pz_f0
  have k1 := pz_fs k0 (fun h => absurd h (by decide))
  have k2 := pz_fs k1 (fun h => absurd h (by decide))
  have k3 := pz_fs k2 (fun h => absurd h (by decide))
  have k4 := pz_fs k3 (fun h => absurd h (by decide))
  have k5 := pz_fs k4 (fun h => absurd h (by decide))
  have k6 := pz_fs k5 (fun h => absurd h (by decide))
  have k7 := pz_fs k6 (fun h => absurd h (by decide))
  have k8 := pz_fs k7 (fun h => absurd h (by decide))
  have k9 := pz_fs k8 (fun h => absurd h (by decide))
  have k10 := pz_fs k9 (fun h => absurd h (by decide))
  have k11 := pz_fs k10 (fun h => absurd h (by decide))
  have k12 := pz_fs k11 (fun h => absurd h (by decide))
  have k13 := pz_fs k12 (fun h => absurd h (by decide))
  have k14 := pz_fs k13 (fun h => absurd h (by decide))
  have k15 := pz_fs k14 (fun h => absurd h (by decide))
  have k16 := pz_fs k15 (fun h => absurd h (by decide))
  have k17 := pz_fs k16 (fun h => absurd h (by decide))
  have k18 := pz_fs k17 (fun h => absurd h (by decide))
  have k19 := pz_fs k18 (fun h => absurd h (by decide))
  have k20 := pz_fs k19 (fun h => absurd h (by decide))
  have k21 := pz_fs k20 (fun h => absurd h (by decide))
  have k22 := pz_fs k21 (fun h => absurd h (by decide))
  have k23 := pz_fs k22 (fun _ => pz_hg6_21_22)
  have k24 := pz_fs k23 (fun _ => pz_hg6_21_23)
  have k25 := pz_fs k24 (fun _ => pz_hg6_21_24)
  exact k25
theorem pz_hg6_22_23 : Cond.not (Cond.eq (pz_tm 22) (pz_tm 23)) ∈ flatC (Jvm.Cond.and given_1 narrow_1) := pz_fi30 _ (pz_fqR (pz_fqL (pz_fqL (pz_fqL pz_fqn))))
theorem pz_hg6_22_24 : Cond.not (Cond.eq (pz_tm 22) (pz_tm 24)) ∈ flatC (Jvm.Cond.and given_1 narrow_1) := pz_fi31 _ (pz_fqR (pz_fqR (pz_fqR (pz_fqR (pz_fqL pz_fqn)))))
theorem pz_hg6_22 : ∀ i, i < 25 → 22 < i → Cond.not (Cond.eq (pz_tm 22) (pz_tm i)) ∈ flatC (Jvm.Cond.and given_1 narrow_1) := by
  have k0 : ∀ m, m < 0 → (fun i : Nat => 22 < i → Cond.not (Cond.eq (pz_tm 22) (pz_tm i)) ∈ flatC (Jvm.Cond.and given_1 narrow_1)) m := pz_f0
  have k1 := pz_fs k0 (fun h => absurd h (by decide))
  have k2 := pz_fs k1 (fun h => absurd h (by decide))
  have k3 := pz_fs k2 (fun h => absurd h (by decide))
  have k4 := pz_fs k3 (fun h => absurd h (by decide))
  have k5 := pz_fs k4 (fun h => absurd h (by decide))
  have k6 := pz_fs k5 (fun h => absurd h (by decide))
  have k7 := pz_fs k6 (fun h => absurd h (by decide))
  have k8 := pz_fs k7 (fun h => absurd h (by decide))
  have k9 := pz_fs k8 (fun h => absurd h (by decide))
  have k10 := pz_fs k9 (fun h => absurd h (by decide))
  have k11 := pz_fs k10 (fun h => absurd h (by decide))
  have k12 := pz_fs k11 (fun h => absurd h (by decide))
  have k13 := pz_fs k12 (fun h => absurd h (by decide))
  have k14 := pz_fs k13 (fun h => absurd h (by decide))
  have k15 := pz_fs k14 (fun h => absurd h (by decide))
  have k16 := pz_fs k15 (fun h => absurd h (by decide))
  have k17 := pz_fs k16 (fun h => absurd h (by decide))
  have k18 := pz_fs k17 (fun h => absurd h (by decide))
  have k19 := pz_fs k18 (fun h => absurd h (by decide))
  have k20 := pz_fs k19 (fun h => absurd h (by decide))
  have k21 := pz_fs k20 (fun h => absurd h (by decide))
  have k22 := pz_fs k21 (fun h => absurd h (by decide))
  have k23 := pz_fs k22 (fun h => absurd h (by decide))
  have k24 := pz_fs k23 (fun _ => pz_hg6_22_23)
  have k25 := pz_fs k24 (fun _ => pz_hg6_22_24)
  exact k25
theorem pz_hg6_23_24 : Cond.not (Cond.eq (pz_tm 23) (pz_tm 24)) ∈ flatC (Jvm.Cond.and given_1 narrow_1) := pz_fi31 _ (pz_fqR (pz_fqR (pz_fqR (pz_fqR (pz_fqR pz_fqn)))))
theorem pz_hg6_23 : ∀ i, i < 25 → 23 < i → Cond.not (Cond.eq (pz_tm 23) (pz_tm i)) ∈ flatC (Jvm.Cond.and given_1 narrow_1) := by
  have k0 : ∀ m, m < 0 → (fun i : Nat => 23 < i → Cond.not (Cond.eq (pz_tm 23) (pz_tm i)) ∈ flatC (Jvm.Cond.and given_1 narrow_1)) m := pz_f0
  have k1 := pz_fs k0 (fun h => absurd h (by decide))
  have k2 := pz_fs k1 (fun h => absurd h (by decide))
  have k3 := pz_fs k2 (fun h => absurd h (by decide))
  have k4 := pz_fs k3 (fun h => absurd h (by decide))
  have k5 := pz_fs k4 (fun h => absurd h (by decide))
  have k6 := pz_fs k5 (fun h => absurd h (by decide))
  have k7 := pz_fs k6 (fun h => absurd h (by decide))
  have k8 := pz_fs k7 (fun h => absurd h (by decide))
  have k9 := pz_fs k8 (fun h => absurd h (by decide))
  have k10 := pz_fs k9 (fun h => absurd h (by decide))
  have k11 := pz_fs k10 (fun h => absurd h (by decide))
  have k12 := pz_fs k11 (fun h => absurd h (by decide))
  have k13 := pz_fs k12 (fun h => absurd h (by decide))
  have k14 := pz_fs k13 (fun h => absurd h (by decide))
  have k15 := pz_fs k14 (fun h => absurd h (by decide))
  have k16 := pz_fs k15 (fun h => absurd h (by decide))
  have k17 := pz_fs k16 (fun h => absurd h (by decide))
  have k18 := pz_fs k17 (fun h => absurd h (by decide))
  have k19 := pz_fs k18 (fun h => absurd h (by decide))
  have k20 := pz_fs k19 (fun h => absurd h (by decide))
  have k21 := pz_fs k20 (fun h => absurd h (by decide))
  have k22 := pz_fs k21 (fun h => absurd h (by decide))
  have k23 := pz_fs k22 (fun h => absurd h (by decide))
  have k24 := pz_fs k23 (fun h => absurd h (by decide))
  have k25 := pz_fs k24 (fun _ => pz_hg6_23_24)
  exact k25
theorem pz_hg6_24 : ∀ i, i < 25 → 24 < i → Cond.not (Cond.eq (pz_tm 24) (pz_tm i)) ∈ flatC (Jvm.Cond.and given_1 narrow_1) := by
  have k0 : ∀ m, m < 0 → (fun i : Nat => 24 < i → Cond.not (Cond.eq (pz_tm 24) (pz_tm i)) ∈ flatC (Jvm.Cond.and given_1 narrow_1)) m := pz_f0
  have k1 := pz_fs k0 (fun h => absurd h (by decide))
  have k2 := pz_fs k1 (fun h => absurd h (by decide))
  have k3 := pz_fs k2 (fun h => absurd h (by decide))
  have k4 := pz_fs k3 (fun h => absurd h (by decide))
  have k5 := pz_fs k4 (fun h => absurd h (by decide))
  have k6 := pz_fs k5 (fun h => absurd h (by decide))
  have k7 := pz_fs k6 (fun h => absurd h (by decide))
  have k8 := pz_fs k7 (fun h => absurd h (by decide))
  have k9 := pz_fs k8 (fun h => absurd h (by decide))
  have k10 := pz_fs k9 (fun h => absurd h (by decide))
  have k11 := pz_fs k10 (fun h => absurd h (by decide))
  have k12 := pz_fs k11 (fun h => absurd h (by decide))
  have k13 := pz_fs k12 (fun h => absurd h (by decide))
  have k14 := pz_fs k13 (fun h => absurd h (by decide))
  have k15 := pz_fs k14 (fun h => absurd h (by decide))
  have k16 := pz_fs k15 (fun h => absurd h (by decide))
  have k17 := pz_fs k16 (fun h => absurd h (by decide))
  have k18 := pz_fs k17 (fun h => absurd h (by decide))
  have k19 := pz_fs k18 (fun h => absurd h (by decide))
  have k20 := pz_fs k19 (fun h => absurd h (by decide))
  have k21 := pz_fs k20 (fun h => absurd h (by decide))
  have k22 := pz_fs k21 (fun h => absurd h (by decide))
  have k23 := pz_fs k22 (fun h => absurd h (by decide))
  have k24 := pz_fs k23 (fun h => absurd h (by decide))
  have k25 := pz_fs k24 (fun h => absurd h (by decide))
  exact k25
theorem pz_hg6a : ∀ i, i < 25 → ∀ j, j < 25 → i < j → Cond.not (Cond.eq (pz_tm i) (pz_tm j)) ∈ flatC (Jvm.Cond.and given_1 narrow_1) := by
  have k0 : ∀ m, m < 0 → (fun i : Nat => ∀ j, j < 25 → i < j → Cond.not (Cond.eq (pz_tm i) (pz_tm j)) ∈ flatC (Jvm.Cond.and given_1 narrow_1)) m := pz_f0
  have k1 := pz_fs k0 pz_hg6_0
  have k2 := pz_fs k1 pz_hg6_1
  have k3 := pz_fs k2 pz_hg6_2
  have k4 := pz_fs k3 pz_hg6_3
  have k5 := pz_fs k4 pz_hg6_4
  have k6 := pz_fs k5 pz_hg6_5
  have k7 := pz_fs k6 pz_hg6_6
  have k8 := pz_fs k7 pz_hg6_7
  have k9 := pz_fs k8 pz_hg6_8
  have k10 := pz_fs k9 pz_hg6_9
  have k11 := pz_fs k10 pz_hg6_10
  have k12 := pz_fs k11 pz_hg6_11
  have k13 := pz_fs k12 pz_hg6_12
  have k14 := pz_fs k13 pz_hg6_13
  have k15 := pz_fs k14 pz_hg6_14
  have k16 := pz_fs k15 pz_hg6_15
  have k17 := pz_fs k16 pz_hg6_16
  have k18 := pz_fs k17 pz_hg6_17
  have k19 := pz_fs k18 pz_hg6_18
  have k20 := pz_fs k19 pz_hg6_19
  have k21 := pz_fs k20 pz_hg6_20
  have k22 := pz_fs k21 pz_hg6_21
  have k23 := pz_fs k22 pz_hg6_22
  have k24 := pz_fs k23 pz_hg6_23
  have k25 := pz_fs k24 pz_hg6_24
  exact k25
theorem pz_hg6 : ∀ i, i < 25 → ∀ j, j < 25 → i = j ∨ Cond.not (Cond.eq (pz_tm i) (pz_tm j)) ∈ flatC (Jvm.Cond.and given_1 narrow_1) ∨ Cond.not (Cond.eq (pz_tm j) (pz_tm i)) ∈ flatC (Jvm.Cond.and given_1 narrow_1) := by
  intro i hi j hj
  rcases Nat.lt_trichotomy i j with h | h | h
  · exact Or.inr (Or.inl (pz_hg6a i hi j hj h))
  · exact Or.inl h
  · exact Or.inr (Or.inr (pz_hg6a j hj i hi h))
theorem pz_hg7_0 : Cond.stringRef (pz_ss.getD 0 ("", 0, "")).1 (pz_ss.getD 0 ("", 0, "")).2.1 (pz_ss.getD 0 ("", 0, "")).2.2 ∈ lw_tbl := (show Cond.stringRef "TwelveChain$Tape" (52 : Nat) "ready leave give cost when or and not link price purse worth slow day links bridged lacks on ask bridge pay paper from to " ∈ lw_tbl from pz_wq678)
theorem pz_hg7_1 : Cond.stringRef (pz_ss.getD 1 ("", 0, "")).1 (pz_ss.getD 1 ("", 0, "")).2.1 (pz_ss.getD 1 ("", 0, "")).2.2 ∈ lw_tbl := (show Cond.stringRef "TwelveChainModel" (121 : Nat) "when" ∈ lw_tbl from pz_wq1262)
theorem pz_hg7_2 : Cond.stringRef (pz_ss.getD 2 ("", 0, "")).1 (pz_ss.getD 2 ("", 0, "")).2.1 (pz_ss.getD 2 ("", 0, "")).2.2 ∈ lw_tbl := (show Cond.stringRef "TwelveChainModel" (123 : Nat) "or" ∈ lw_tbl from pz_wq1269)
theorem pz_hg7_3 : Cond.stringRef (pz_ss.getD 3 ("", 0, "")).1 (pz_ss.getD 3 ("", 0, "")).2.1 (pz_ss.getD 3 ("", 0, "")).2.2 ∈ lw_tbl := (show Cond.stringRef "TwelveChainModel" (125 : Nat) "and" ∈ lw_tbl from pz_wq1270)
theorem pz_hg7_4 : Cond.stringRef (pz_ss.getD 4 ("", 0, "")).1 (pz_ss.getD 4 ("", 0, "")).2.1 (pz_ss.getD 4 ("", 0, "")).2.2 ∈ lw_tbl := (show Cond.stringRef "TwelveChainModel" (127 : Nat) "not" ∈ lw_tbl from pz_wq1271)
theorem pz_hg7_5 : Cond.stringRef (pz_ss.getD 5 ("", 0, "")).1 (pz_ss.getD 5 ("", 0, "")).2.1 (pz_ss.getD 5 ("", 0, "")).2.2 ∈ lw_tbl := (show Cond.stringRef "TwelveChainModel" (129 : Nat) "ready" ∈ lw_tbl from pz_wq1272)
theorem pz_hg7_6 : Cond.stringRef (pz_ss.getD 6 ("", 0, "")).1 (pz_ss.getD 6 ("", 0, "")).2.1 (pz_ss.getD 6 ("", 0, "")).2.2 ∈ lw_tbl := (show Cond.stringRef "TwelveChainModel" (131 : Nat) "leave" ∈ lw_tbl from pz_wq1273)
theorem pz_hg7_7 : Cond.stringRef (pz_ss.getD 7 ("", 0, "")).1 (pz_ss.getD 7 ("", 0, "")).2.1 (pz_ss.getD 7 ("", 0, "")).2.2 ∈ lw_tbl := (show Cond.stringRef "TwelveChainModel" (133 : Nat) "give" ∈ lw_tbl from pz_wq1274)
theorem pz_hg7_8 : Cond.stringRef (pz_ss.getD 8 ("", 0, "")).1 (pz_ss.getD 8 ("", 0, "")).2.1 (pz_ss.getD 8 ("", 0, "")).2.2 ∈ lw_tbl := (show Cond.stringRef "TwelveChainModel" (135 : Nat) "cost" ∈ lw_tbl from pz_wq1275)
theorem pz_hg7_9 : Cond.stringRef (pz_ss.getD 9 ("", 0, "")).1 (pz_ss.getD 9 ("", 0, "")).2.1 (pz_ss.getD 9 ("", 0, "")).2.2 ∈ lw_tbl := (show Cond.stringRef "TwelveChainModel" (99 : Nat) "link" ∈ lw_tbl from pz_wq1280)
theorem pz_hg7_10 : Cond.stringRef (pz_ss.getD 10 ("", 0, "")).1 (pz_ss.getD 10 ("", 0, "")).2.1 (pz_ss.getD 10 ("", 0, "")).2.2 ∈ lw_tbl := (show Cond.stringRef "TwelveChainModel" (105 : Nat) "price" ∈ lw_tbl from pz_wq1281)
theorem pz_hg7_11 : Cond.stringRef (pz_ss.getD 11 ("", 0, "")).1 (pz_ss.getD 11 ("", 0, "")).2.1 (pz_ss.getD 11 ("", 0, "")).2.2 ∈ lw_tbl := (show Cond.stringRef "TwelveChainModel" (107 : Nat) "purse" ∈ lw_tbl from pz_wq1282)
theorem pz_hg7_12 : Cond.stringRef (pz_ss.getD 12 ("", 0, "")).1 (pz_ss.getD 12 ("", 0, "")).2.1 (pz_ss.getD 12 ("", 0, "")).2.2 ∈ lw_tbl := (show Cond.stringRef "TwelveChainModel" (109 : Nat) "worth" ∈ lw_tbl from pz_wq1283)
theorem pz_hg7_13 : Cond.stringRef (pz_ss.getD 13 ("", 0, "")).1 (pz_ss.getD 13 ("", 0, "")).2.1 (pz_ss.getD 13 ("", 0, "")).2.2 ∈ lw_tbl := (show Cond.stringRef "TwelveChainModel" (111 : Nat) "slow" ∈ lw_tbl from pz_wq1284)
theorem pz_hg7_14 : Cond.stringRef (pz_ss.getD 14 ("", 0, "")).1 (pz_ss.getD 14 ("", 0, "")).2.1 (pz_ss.getD 14 ("", 0, "")).2.2 ∈ lw_tbl := (show Cond.stringRef "TwelveChainModel" (113 : Nat) "day" ∈ lw_tbl from pz_wq1285)
theorem pz_hg7_15 : Cond.stringRef (pz_ss.getD 15 ("", 0, "")).1 (pz_ss.getD 15 ("", 0, "")).2.1 (pz_ss.getD 15 ("", 0, "")).2.2 ∈ lw_tbl := (show Cond.stringRef "TwelveChainModel" (115 : Nat) "links" ∈ lw_tbl from pz_wq1286)
theorem pz_hg7_16 : Cond.stringRef (pz_ss.getD 16 ("", 0, "")).1 (pz_ss.getD 16 ("", 0, "")).2.1 (pz_ss.getD 16 ("", 0, "")).2.2 ∈ lw_tbl := (show Cond.stringRef "TwelveChainModel" (117 : Nat) "bridged" ∈ lw_tbl from pz_wq1287)
theorem pz_hg7_17 : Cond.stringRef (pz_ss.getD 17 ("", 0, "")).1 (pz_ss.getD 17 ("", 0, "")).2.1 (pz_ss.getD 17 ("", 0, "")).2.2 ∈ lw_tbl := (show Cond.stringRef "TwelveChainModel" (119 : Nat) "lacks" ∈ lw_tbl from pz_wq1288)
theorem pz_hg7_18 : Cond.stringRef (pz_ss.getD 18 ("", 0, "")).1 (pz_ss.getD 18 ("", 0, "")).2.1 (pz_ss.getD 18 ("", 0, "")).2.2 ∈ lw_tbl := (show Cond.stringRef "TwelveChainModel" (140 : Nat) "on" ∈ lw_tbl from pz_wq1293)
theorem pz_hg7_19 : Cond.stringRef (pz_ss.getD 19 ("", 0, "")).1 (pz_ss.getD 19 ("", 0, "")).2.1 (pz_ss.getD 19 ("", 0, "")).2.2 ∈ lw_tbl := (show Cond.stringRef "TwelveChainModel" (142 : Nat) "ask" ∈ lw_tbl from pz_wq1294)
theorem pz_hg7_20 : Cond.stringRef (pz_ss.getD 20 ("", 0, "")).1 (pz_ss.getD 20 ("", 0, "")).2.1 (pz_ss.getD 20 ("", 0, "")).2.2 ∈ lw_tbl := (show Cond.stringRef "TwelveChainModel" (144 : Nat) "bridge" ∈ lw_tbl from pz_wq1295)
theorem pz_hg7_21 : Cond.stringRef (pz_ss.getD 21 ("", 0, "")).1 (pz_ss.getD 21 ("", 0, "")).2.1 (pz_ss.getD 21 ("", 0, "")).2.2 ∈ lw_tbl := (show Cond.stringRef "TwelveChainModel" (146 : Nat) "pay" ∈ lw_tbl from pz_wq1296)
theorem pz_hg7_22 : Cond.stringRef (pz_ss.getD 22 ("", 0, "")).1 (pz_ss.getD 22 ("", 0, "")).2.1 (pz_ss.getD 22 ("", 0, "")).2.2 ∈ lw_tbl := (show Cond.stringRef "TwelveChainModel" (148 : Nat) "paper" ∈ lw_tbl from pz_wq1297)
theorem pz_hg7_23 : Cond.stringRef (pz_ss.getD 23 ("", 0, "")).1 (pz_ss.getD 23 ("", 0, "")).2.1 (pz_ss.getD 23 ("", 0, "")).2.2 ∈ lw_tbl := (show Cond.stringRef "TwelveChainModel" (159 : Nat) "from" ∈ lw_tbl from pz_wq1298)
theorem pz_hg7_24 : Cond.stringRef (pz_ss.getD 24 ("", 0, "")).1 (pz_ss.getD 24 ("", 0, "")).2.1 (pz_ss.getD 24 ("", 0, "")).2.2 ∈ lw_tbl := (show Cond.stringRef "TwelveChainModel" (161 : Nat) "to" ∈ lw_tbl from pz_wq1299)
theorem pz_hg7 : ∀ i, i < 25 → Cond.stringRef (pz_ss.getD i ("", 0, "")).1 (pz_ss.getD i ("", 0, "")).2.1 (pz_ss.getD i ("", 0, "")).2.2 ∈ lw_tbl := by
  have k0 : ∀ m, m < 0 → (fun i : Nat => Cond.stringRef (pz_ss.getD i ("", 0, "")).1 (pz_ss.getD i ("", 0, "")).2.1 (pz_ss.getD i ("", 0, "")).2.2 ∈ lw_tbl) m := pz_f0
  have k1 := pz_fs k0 pz_hg7_0
  have k2 := pz_fs k1 pz_hg7_1
  have k3 := pz_fs k2 pz_hg7_2
  have k4 := pz_fs k3 pz_hg7_3
  have k5 := pz_fs k4 pz_hg7_4
  have k6 := pz_fs k5 pz_hg7_5
  have k7 := pz_fs k6 pz_hg7_6
  have k8 := pz_fs k7 pz_hg7_7
  have k9 := pz_fs k8 pz_hg7_8
  have k10 := pz_fs k9 pz_hg7_9
  have k11 := pz_fs k10 pz_hg7_10
  have k12 := pz_fs k11 pz_hg7_11
  have k13 := pz_fs k12 pz_hg7_12
  have k14 := pz_fs k13 pz_hg7_13
  have k15 := pz_fs k14 pz_hg7_14
  have k16 := pz_fs k15 pz_hg7_15
  have k17 := pz_fs k16 pz_hg7_16
  have k18 := pz_fs k17 pz_hg7_17
  have k19 := pz_fs k18 pz_hg7_18
  have k20 := pz_fs k19 pz_hg7_19
  have k21 := pz_fs k20 pz_hg7_20
  have k22 := pz_fs k21 pz_hg7_21
  have k23 := pz_fs k22 pz_hg7_22
  have k24 := pz_fs k23 pz_hg7_23
  have k25 := pz_fs k24 pz_hg7_24
  exact k25
theorem pz_len25 : ∀ i, i < 25 → pz_stl.getD i 0 < 2 ^ 31 := by decide +kernel
theorem pz_start {s : State} {b : Nat} {A : Nat → Prop} (hts : ∀ w ∈ lw_tbl, w.before #[Value.ref b] s = true) (hgv : (Jvm.Cond.and given_1 narrow_1).before #[Value.ref b] s = true) (hA : ∀ a : Nat, a < s.heap.size → ¬ A a) :
    ∃ adK adV : Nat → Nat, ∀ ad : Nat → Nat, (∀ i, i < 25 → ad (206 + i) = adK i) → pz_S ad adV A s s.heap := by
  have hs := flat_of_before _ hgv
  obtain ⟨adK, adV, h1, h2⟩ := vk_Sof (args := #[Value.ref b]) (s := s) (N := 25) (tm := pz_tm) (len := pz_stl) (byt := pz_sb) (A := A) pz_len25 (fun i hi => hs _ (pz_hg1 i hi)) (fun i hi => hs _ (pz_hg2 i hi)) (fun i hi => hs _ (pz_hg3 i hi)) (fun i hi => hs _ (pz_hg4 i hi)) (fun i hi j hj => hs _ (pz_hg5 i hi j hj))
    (fun i j hi hj hij => by
      rcases pz_hg6 i hi j hj with h | h | h
      · exact absurd h hij
      · exact Or.inl (hs _ h)
      · exact Or.inr (hs _ h)) hA
  refine ⟨adK, adV, fun ad had => ⟨⟨fun i hi => ?_, fun i j hi hj he => ?_⟩, fun i q hq => ?_, ⟨va_Zof (hts _ (by decide +kernel)) (hts _ (by decide +kernel)) (va_eqt (hs (.eq (.static "java/lang/String" "COMPACT_STRINGS" "Z") (.int 1)) (by decide +kernel))) hA, va_Zqof (hts _ (by decide +kernel)) (hts _ (by decide +kernel)) (hs _ (by decide +kernel)) hA⟩, va_Nw.of rfl (hts (.methodLinkNest RX1 35 yX11_within "TwelveChain") (by decide +kernel))⟩⟩
  · show va_O _ (ad (206 + i)) _ _ _ ∧ va_OF _ _ _ _ (ad (206 + i)) _ _ _ ∧ va_OF _ _ _ _ (ad (206 + i)) _ _ _ ∧ _
    rw [had i hi]
    exact h1.1 i hi
  · have he : ad (206 + i) = ad (206 + j) := he
    rw [had i hi, had j hj] at he
    exact h1.2 i j hi hj he
  · have hi : i < 25 := (List.getElem?_eq_some_iff.mp hq).1
    rw [had i hi]
    have e : q = pz_ss.getD i ("", 0, "") := by rw [List.getD_eq_getElem?_getD, hq]; rfl
    subst e
    have w := hts _ (pz_hg7 i hi)
    exact vk_R.of w (h2 i hi)
