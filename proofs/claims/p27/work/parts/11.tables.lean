def pz_flf (l : List (Nat × Nat × Nat)) (i : Nat) : Option (Nat × Nat) := (l.find? (fun q => Nat.beq q.1 i)).map (fun q => q.2)
def pz_flc (own : String) (q : Nat × Nat × Nat) : Bool := match vwCl[q.2.1]? with
  | some (_, T, N) => decide (q.2.2 < N) && decide (Cond.fieldLink own q.1 (T q.2.2).1 (T q.2.2).2.1 (T q.2.2).2.2.1 ∈ lw_tbl)
  | none => false
theorem pz_flk {own : String} {l : List (Nat × Nat × Nat)} (h : l.all (pz_flc own) = true) : ∀ i q, pz_flf l i = some q → pz_flok own (i, q) := by
  intro i q hq
  unfold pz_flf at hq
  cases hf : l.find? (fun q => Nat.beq q.1 i) with
  | none => rw [hf] at hq; cases hq
  | some r =>
    rw [hf] at hq
    cases hq
    have h1 := List.all_eq_true.mp h r (List.mem_of_find?_eq_some hf)
    have h2 := List.find?_some hf
    have h2 := Nat.eq_of_beq_eq_true (n := r.1) (m := i) h2
    unfold pz_flc at h1
    obtain ⟨r1, r2, r3⟩ := r
    simp only at h1 h2
    subst h2
    cases hc : vwCl[r2]? with
    | none => rw [hc] at h1; cases h1
    | some z =>
      obtain ⟨C, T, N⟩ := z
      rw [hc] at h1
      simp only [Bool.and_eq_true, decide_eq_true_eq] at h1
      exact ⟨C, T, N, hc, h1.1, pz_tbl_in h1.2 rfl⟩
def pz_cif (l : List (Nat × pz_V)) (i : Nat) : Option pz_V := (l.find? (fun q => Nat.beq q.1 i)).map (fun q => q.2)
def pz_cic (own : String) (q : Nat × pz_V) : Bool := match q.2 with
  | .inl x => decide (Cond.constant own q.1 (Int32.ofInt x) ∈ lw_tbl) && (decide (-2147483648 ≤ x) && decide (x ≤ 2147483647))
  | .inr (.inl x) => decide (Cond.constantLong own q.1 (Int64.ofInt x) ∈ lw_tbl) && (decide (-9223372036854775808 ≤ x) && decide (x ≤ 9223372036854775807))
  | .inr (.inr z) => (match pz_ss[z.2 - 206]? with
    | some (o, k, _) => decide (o = own) && (decide (k = q.1) && (decide (z.1 = 99) && decide (206 ≤ z.2)))
    | none => false)
set_option maxRecDepth 100000 in
theorem pz_cik {own : String} {l : List (Nat × pz_V)} (h : l.all (pz_cic own) = true) : ∀ i v, pz_cif l i = some v → pz_ciok own i v := by
  intro i v hv
  unfold pz_cif at hv
  cases hf : l.find? (fun q => Nat.beq q.1 i) with
  | none => rw [hf] at hv; cases hv
  | some r =>
    rw [hf] at hv
    cases hv
    have h1 := List.all_eq_true.mp h r (List.mem_of_find?_eq_some hf)
    have h2 := List.find?_some hf
    have h2 := Nat.eq_of_beq_eq_true (n := r.1) (m := i) h2
    obtain ⟨r1, r2⟩ := r
    simp only at h2
    subst h2
    unfold pz_cic at h1
    match r2, h1 with
    | .inl x, h1 =>
      simp only [Bool.and_eq_true, decide_eq_true_eq] at h1
      exact ⟨pz_tbl_in h1.1 rfl, h1.2.1, h1.2.2⟩
    | .inr (.inl x), h1 =>
      simp only [Bool.and_eq_true, decide_eq_true_eq] at h1
      exact ⟨pz_tbl_in h1.1 rfl, h1.2.1, h1.2.2⟩
    | .inr (.inr (z1, z2)), h1 =>
      simp only at h1
      cases hs : pz_ss[z2 - 206]? with
      | none => rw [hs] at h1; cases h1
      | some w =>
        obtain ⟨o, k, tx⟩ := w
        rw [hs] at h1
        simp only [Bool.and_eq_true, decide_eq_true_eq] at h1
        obtain ⟨rfl, rfl, rfl, h4⟩ := h1
        exact ⟨z2 - 206, tx, by rw [show 206 + (z2 - 206) = z2 by omega], hs⟩
def pz_ctf (l : List (Bool × Nat × pz_C)) (b : Bool) (i : Nat) : Option pz_C := match l with
  | [] => none
  | (true, j, k) :: t => (match b, Nat.beq j i with | true, true => some k | _, _ => pz_ctf t b i)
  | (false, j, k) :: t => (match b, Nat.beq j i with | false, true => some k | _, _ => pz_ctf t b i)
theorem pz_ctk {P : Bool → Nat → pz_C → Prop} : ∀ {l : List (Bool × Nat × pz_C)}, (∀ q ∈ l, P q.1 q.2.1 q.2.2) → ∀ b i k, pz_ctf l b i = some k → P b i k
  | [], _, b, i, k, hk => by cases hk
  | (b', j, k') :: t, h, b, i, k, hk => by
    have ht := pz_ctk (l := t) (fun q hq => h q (List.mem_cons_of_mem _ hq)) b i k
    have h0 := h _ List.mem_cons_self
    cases b' <;> cases b <;> cases hb : Nat.beq j i <;> simp only [pz_ctf, hb] at hk
    all_goals first
      | exact ht hk
      | (cases hk; rw [← Nat.eq_of_beq_eq_true hb]; exact h0)
theorem pz_cVk {y : MethodName} {cc : ByteArray} {maxL : Nat} {ret : Option FieldType} {k : pz_C} {fr' lo' : Nat} (n rc : Nat) (hH : pz_H y cc maxL ret k fr' lo') (hn : k.1 = n + 1)
    (hd : y.cls ≠ "java/lang/invoke/MethodHandle" ∧ y.cls ≠ "java/lang/invoke/VarHandle" ∧ (parseMethodDescriptor y.desc).map (fun d => d.parameters.length) = some n)
    (hw : .code y cc maxL ret ∈ lw_tbl ∧ .instanceMethod y ∈ lw_tbl ∧ .selects y.cls y y ∈ lw_tbl ∧ .initialized y.cls ∈ lw_tbl) (hrc : pz_rcv rc y.cls) (hre : ∀ (a : List pz_V) (M : pz_M), a.length = k.1 → k.2.2.1 a M → ∃ id t, a = .inr (.inr (rc, id)) :: t)
    {fr lo i : Nat} {own : String} (h1 : fr' + 1 ≤ fr) (h2 : 8 + (maxL + 11) + lo' ≤ lo) (h3 : .methodLink own i y ∈ lw_tbl) : pz_cV fr lo own i k :=
  ⟨y, cc, maxL, ret, fr', lo', n, rc, hH, h1, h2, hn, hd, ⟨pz_tbl_in hw.1 rfl, pz_tbl_in h3 rfl, pz_tbl_in hw.2.1 rfl, pz_tbl_in hw.2.2.1 rfl, pz_tbl_in hw.2.2.2 rfl⟩, hrc, hre⟩
theorem pz_cSk {y : MethodName} {cc : ByteArray} {maxL : Nat} {ret : Option FieldType} {k : pz_C} {fr' lo' : Nat} (n : Nat) (hH : pz_H y cc maxL ret k fr' lo') (hn : k.1 = n)
    (hd : y.cls ≠ "java/lang/invoke/MethodHandle" ∧ y.cls ≠ "java/lang/invoke/VarHandle" ∧ (parseMethodDescriptor y.desc).map (fun d => d.parameters.length) = some n)
    (hw : .code y cc maxL ret ∈ lw_tbl ∧ .static y ∈ lw_tbl ∧ .initialized y.cls ∈ lw_tbl)
    {fr lo i : Nat} {own : String} (h1 : fr' + 1 ≤ fr) (h2 : 8 + (maxL + 11) + lo' ≤ lo) (h3 : .methodLink own i y ∈ lw_tbl ∨ (own = RX1 ∧ i = 35 ∧ y = yX11_within)) : pz_cS fr lo own i k :=
  ⟨y, cc, maxL, ret, fr', lo', n, hH, h1, h2, hn, hd, ⟨pz_tbl_in hw.1 rfl, pz_tbl_in hw.2.1 rfl, pz_tbl_in hw.2.2 rfl⟩, h3.imp (fun h => pz_tbl_in h rfl) id⟩

def pz_flc2 (own : String) (q : (Nat × Nat × Nat) × Nat) : Bool := match vwCl[q.1.2.1]? with
  | some (_, T, N) => decide (q.1.2.2 < N) && decide (tables_1[q.2]? = some (Cond.fieldLink own q.1.1 (T q.1.2.2).1 (T q.1.2.2).2.1 (T q.1.2.2).2.2.1))
  | none => false
theorem pz_flall {own : String} : ∀ {l : List (Nat × Nat × Nat)} {ps : List Nat}, l.length = ps.length → (l.zip ps).all (pz_flc2 own) = true → l.all (pz_flc own) = true
  | [], _, _, _ => rfl
  | q :: l, [], h, _ => by cases h
  | q :: l, n :: ps, h, k => by
    simp only [List.zip_cons_cons, List.all_cons, Bool.and_eq_true] at k
    simp only [List.all_cons, Bool.and_eq_true]
    refine ⟨?_, pz_flall (Nat.succ.inj h) k.2⟩
    have k1 := k.1
    unfold pz_flc2 at k1
    unfold pz_flc
    cases hc : vwCl[q.2.1]? with
    | none => simp only [hc] at k1; cases k1
    | some z =>
      obtain ⟨C, T, N⟩ := z
      simp only [hc, Bool.and_eq_true, decide_eq_true_eq] at k1
      simp only [Bool.and_eq_true, decide_eq_true_eq]
      exact ⟨k1.1, List.mem_append_right _ (List.mem_of_getElem? k1.2)⟩
def fl_RX5 : List (Nat × Nat × Nat) := [(9, 5, 7), (15, 5, 0), (18, 5, 1), (21, 5, 2), (24, 5, 3), (27, 5, 4), (30, 5, 5), (33, 5, 6)]
def fp_RX5 : List Nat := [73, 42, 46, 50, 55, 60, 65, 69]
theorem fl_RX5_ok : fl_RX5.all (pz_flc RX5) = true := pz_flall (ps := fp_RX5) rfl (by decide +kernel)
def fl_RX1 : List (Nat × Nat × Nat) := [(9, 1, 0), (15, 1, 1), (19, 0, 7), (25, 0, 0), (29, 0, 4), (32, 0, 3), (49, 5, 0), (58, 10, 0), (70, 5, 2), (80, 5, 6), (87, 5, 1), (90, 5, 4), (93, 5, 5), (96, 10, 1), (100, 6, 0), (152, 0, 5), (155, 5, 7)]
def fp_RX1 : List Nat := [214, 215, 110, 95, 103, 100, 43, 191, 51, 70, 48, 62, 67, 193, 180, 106, 75]
theorem fl_RX1_ok : fl_RX1.all (pz_flc RX1) = true := pz_flall (ps := fp_RX1) rfl (by decide +kernel)
def fl_RX11 : List (Nat × Nat × Nat) := [(14, 11, 0), (18, 11, 1), (24, 11, 2), (28, 11, 3), (37, 11, 4), (44, 11, 5), (51, 11, 6), (60, 11, 7), (66, 10, 0), (73, 11, 8), (80, 11, 9), (84, 11, 10), (87, 11, 11), (90, 11, 12), (93, 0, 6), (100, 0, 3), (122, 5, 0), (125, 5, 1), (128, 5, 2), (131, 5, 3), (134, 5, 4), (175, 5, 5), (181, 0, 4), (188, 7, 1), (199, 9, 3), (202, 9, 4), (206, 5, 6), (209, 5, 7), (234, 0, 7), (252, 0, 5), (313, 8, 2), (316, 8, 1), (362, 11, 13), (369, 3, 0), (372, 10, 1), (375, 6, 0), (378, 10, 2), (381, 10, 3), (384, 2, 2)]
def fp_RX11 : List Nat := [367, 368, 369, 370, 371, 372, 373, 374, 189, 375, 376, 377, 378, 379, 108, 99, 44, 47, 52, 56, 61, 68, 104, 250, 283, 285, 72, 76, 112, 107, 344, 342, 380, 144, 194, 181, 196, 198, 233]
theorem fl_RX11_ok : fl_RX11.all (pz_flc RX11) = true := pz_flall (ps := fp_RX11) rfl (by decide +kernel)
def fl_RX0 : List (Nat × Nat × Nat) := [(11, 0, 1), (18, 0, 2), (22, 0, 0), (30, 0, 3), (34, 0, 4), (37, 0, 5), (40, 0, 6), (43, 0, 7), (52, 5, 1), (55, 5, 0), (68, 5, 6), (75, 5, 4), (87, 5, 7), (94, 5, 2), (103, 5, 3)]
def fp_RX0 : List Nat := [96, 97, 94, 98, 102, 105, 109, 111, 49, 45, 71, 64, 74, 54, 59]
theorem fl_RX0_ok : fl_RX0.all (pz_flc RX0) = true := pz_flall (ps := fp_RX0) rfl (by decide +kernel)
def fl_RX3 : List (Nat × Nat × Nat) := [(9, 3, 2), (15, 3, 3), (18, 3, 4), (21, 3, 5), (24, 3, 6), (27, 3, 7), (30, 3, 0), (34, 3, 1), (61, 5, 3), (66, 5, 2)]
def fp_RX3 : List Nat := [147, 148, 149, 150, 151, 152, 142, 145, 57, 53]
theorem fl_RX3_ok : fl_RX3.all (pz_flc RX3) = true := pz_flall (ps := fp_RX3) rfl (by decide +kernel)
def fl_RX4 : List (Nat × Nat × Nat) := [(9, 4, 1), (15, 4, 2), (18, 4, 3), (21, 4, 4), (24, 4, 0), (38, 0, 3), (54, 5, 5), (59, 5, 4), (72, 5, 3)]
def fp_RX4 : List Nat := [319, 320, 321, 322, 318, 101, 66, 63, 58]
theorem fl_RX4_ok : fl_RX4.all (pz_flc RX4) = true := pz_flall (ps := fp_RX4) rfl (by decide +kernel)
def fl_RX9 : List (Nat × Nat × Nat) := [(12, 9, 1), (21, 9, 2), (25, 9, 4), (29, 9, 0), (33, 9, 3), (36, 9, 9), (39, 9, 8), (47, 7, 1), (58, 10, 0), (65, 3, 0), (78, 6, 0), (81, 9, 5), (84, 7, 2), (88, 9, 6), (91, 7, 3), (94, 9, 7), (97, 7, 4), (106, 3, 1)]
def fp_RX9 : List Nat := [280, 281, 284, 279, 282, 290, 289, 249, 190, 143, 178, 286, 252, 287, 254, 288, 256, 146]
theorem fl_RX9_ok : fl_RX9.all (pz_flc RX9) = true := pz_flall (ps := fp_RX9) rfl (by decide +kernel)
def fl_RX6 : List (Nat × Nat × Nat) := [(9, 6, 1), (15, 6, 0)]
def fp_RX6 : List Nat := [182, 177]
theorem fl_RX6_ok : fl_RX6.all (pz_flc RX6) = true := pz_flall (ps := fp_RX6) rfl (by decide +kernel)
def fl_RX10 : List (Nat × Nat × Nat) := [(12, 10, 0), (21, 10, 1), (25, 10, 2), (28, 10, 3), (38, 6, 0)]
def fp_RX10 : List Nat := [188, 192, 195, 197, 179]
theorem fl_RX10_ok : fl_RX10.all (pz_flc RX10) = true := pz_flall (ps := fp_RX10) rfl (by decide +kernel)
def fl_RX2 : List (Nat × Nat × Nat) := [(11, 2, 0), (20, 2, 2), (24, 2, 1)]
def fp_RX2 : List Nat := [230, 232, 231]
theorem fl_RX2_ok : fl_RX2.all (pz_flc RX2) = true := pz_flall (ps := fp_RX2) rfl (by decide +kernel)
def fl_RX7 : List (Nat × Nat × Nat) := [(9, 7, 0), (15, 7, 2), (19, 7, 3), (22, 7, 4), (25, 7, 1)]
def fp_RX7 : List Nat := [247, 251, 253, 255, 248]
theorem fl_RX7_ok : fl_RX7.all (pz_flc RX7) = true := pz_flall (ps := fp_RX7) rfl (by decide +kernel)
def fl_RX8 : List (Nat × Nat × Nat) := [(9, 8, 4), (15, 8, 5), (18, 8, 6), (21, 8, 7), (24, 8, 0), (34, 8, 3), (50, 8, 1), (59, 8, 2)]
def fp_RX8 : List Nat := [346, 347, 348, 349, 340, 345, 341, 343]
theorem fl_RX8_ok : fl_RX8.all (pz_flc RX8) = true := pz_flall (ps := fp_RX8) rfl (by decide +kernel)
def fl_RX12 : List (Nat × Nat × Nat) := [(7, 12, 0), (13, 12, 1), (16, 12, 2), (19, 12, 3), (22, 12, 6), (25, 12, 7), (28, 12, 8), (31, 12, 9), (34, 12, 10), (37, 12, 11), (40, 12, 25), (44, 12, 27), (68, 12, 4), (80, 12, 16), (83, 12, 17), (86, 12, 19), (150, 12, 12), (167, 12, 18), (179, 12, 20), (182, 12, 21), (185, 12, 22), (194, 12, 14), (197, 12, 24), (229, 12, 13), (238, 12, 15), (270, 12, 23), (313, 12, 26), (464, 12, 5)]
def fp_RX12 : List Nat := [1120, 1121, 1122, 1123, 1126, 1127, 1128, 1129, 1130, 1131, 1145, 1147, 1124, 1136, 1137, 1139, 1132, 1138, 1140, 1141, 1142, 1134, 1144, 1133, 1135, 1143, 1146, 1125]
theorem fl_RX12_ok : fl_RX12.all (pz_flc RX12) = true := pz_flall (ps := fp_RX12) rfl (by decide +kernel)
def ci_RX0 : List (Nat × pz_V) := [(46, .inl (1664525)), (47, .inl (1013904223))]
theorem ci_RX0_ok : ci_RX0.all (pz_cic RX0) = true := by decide +kernel
def ci_RJ6 : List (Nat × pz_V) := [(265, .inl (1431655765)), (266, .inl (858993459)), (267, .inl (252645135))]
theorem ci_RJ6_ok : ci_RJ6.all (pz_cic RJ6) = true := by decide +kernel
def ci_RX7 : List (Nat × pz_V) := [(52, .inr (.inr (99, 206)))]
theorem ci_RX7_ok : ci_RX7.all (pz_cic RX7) = true := by decide +kernel
def ci_RX11 : List (Nat × pz_V) := [(205, .inl (-100000)), (271, .inl (1000000)), (275, .inl (500000)), (307, .inr (.inl (1000000)))]
theorem ci_RX11_ok : ci_RX11.all (pz_cic RX11) = true := by decide +kernel
def ci_RX4 : List (Nat × pz_V) := [(28, .inl (1000000)), (36, .inr (.inl (1000000)))]
theorem ci_RX4_ok : ci_RX4.all (pz_cic RX4) = true := by decide +kernel
def ci_RX12 : List (Nat × pz_V) := [(74, .inl (1664525)), (75, .inl (1013904223)), (99, .inr (.inr (99, 215))), (105, .inr (.inr (99, 216))), (107, .inr (.inr (99, 217))), (109, .inr (.inr (99, 218))), (111, .inr (.inr (99, 219))), (113, .inr (.inr (99, 220))), (115, .inr (.inr (99, 221))), (117, .inr (.inr (99, 222))), (119, .inr (.inr (99, 223))), (121, .inr (.inr (99, 207))), (123, .inr (.inr (99, 208))), (125, .inr (.inr (99, 209))), (127, .inr (.inr (99, 210))), (129, .inr (.inr (99, 211))), (131, .inr (.inr (99, 212))), (133, .inr (.inr (99, 213))), (135, .inr (.inr (99, 214))), (140, .inr (.inr (99, 224))), (142, .inr (.inr (99, 225))), (144, .inr (.inr (99, 226))), (146, .inr (.inr (99, 227))), (148, .inr (.inr (99, 228))), (159, .inr (.inr (99, 229))), (161, .inr (.inr (99, 230))), (391, .inl (-100000)), (404, .inr (.inl (1000000))), (406, .inr (.inl (1000))), (419, .inr (.inl (500000))), (421, .inl (1000000)), (425, .inr (.inl (-1))), (448, .inl (1000000000))]
theorem ci_RX12_ok : ci_RX12.all (pz_cic RX12) = true := by decide +kernel
