section
def pz_flf (l : List (Nat × Nat × Nat)) (i : Nat) : Option (Nat × Nat) := (l.find? (fun q => Nat.beq q.1 i)).map (fun q => q.2)
def pz_flc (own : String) (q : Nat × Nat × Nat) : Bool := match vwCl[q.2.1]? with
  | some (_, T, N) => decide (q.2.2 < N) && decide (Cond.fieldLink own q.1 (T q.2.2).1 (T q.2.2).2.1 (T q.2.2).2.2.1 ∈ lw_tbl)
  | none => false
theorem pz_flk {own : String} {l : List (Nat × Nat × Nat)} (h : l.all (pz_flc own) = true) : ∀ i q, pz_flf l i = some q → pz_flok own (i, q) := by
  intro i q hq
  unfold pz_flf at hq
  cases hf : l.find? (fun q => Nat.beq q.1 i) with
  | none => rw [hf] at hq; cases hq
  | some r =>
    rw [hf] at hq
    cases hq
    have h1 := List.all_eq_true.mp h r (List.mem_of_find?_eq_some hf)
    have h2 := List.find?_some hf
    have h2 := Nat.eq_of_beq_eq_true (n := r.1) (m := i) h2
    unfold pz_flc at h1
    obtain ⟨r1, r2, r3⟩ := r
    simp only at h1 h2
    subst h2
    cases hc : vwCl[r2]? with
    | none => rw [hc] at h1; cases h1
    | some z =>
      obtain ⟨C, T, N⟩ := z
      rw [hc] at h1
      simp only [Bool.and_eq_true, decide_eq_true_eq] at h1
      exact ⟨C, T, N, hc, h1.1, pz_tbl_in h1.2 rfl⟩
def pz_cif (l : List (Nat × pz_V)) (i : Nat) : Option pz_V := (l.find? (fun q => Nat.beq q.1 i)).map (fun q => q.2)
def pz_cic (own : String) (q : Nat × pz_V) : Bool := match q.2 with
  | .inl x => decide (Cond.constant own q.1 (Int32.ofInt x) ∈ lw_tbl) && (decide (-2147483648 ≤ x) && decide (x ≤ 2147483647))
  | .inr (.inl x) => decide (Cond.constantLong own q.1 (Int64.ofInt x) ∈ lw_tbl) && (decide (-9223372036854775808 ≤ x) && decide (x ≤ 9223372036854775807))
  | .inr (.inr z) => (match pz_ss[z.2 - 206]? with
    | some (o, k, _) => decide (o = own) && (decide (k = q.1) && (decide (z.1 = 99) && decide (206 ≤ z.2)))
    | none => false)
set_option maxRecDepth 100000 in
theorem pz_cik {own : String} {l : List (Nat × pz_V)} (h : l.all (pz_cic own) = true) : ∀ i v, pz_cif l i = some v → pz_ciok own i v := by
  intro i v hv
  unfold pz_cif at hv
  cases hf : l.find? (fun q => Nat.beq q.1 i) with
  | none => rw [hf] at hv; cases hv
  | some r =>
    rw [hf] at hv
    cases hv
    have h1 := List.all_eq_true.mp h r (List.mem_of_find?_eq_some hf)
    have h2 := List.find?_some hf
    have h2 := Nat.eq_of_beq_eq_true (n := r.1) (m := i) h2
    obtain ⟨r1, r2⟩ := r
    simp only at h2
    subst h2
    unfold pz_cic at h1
    match r2, h1 with
    | .inl x, h1 =>
      simp only [Bool.and_eq_true, decide_eq_true_eq] at h1
      exact ⟨pz_tbl_in h1.1 rfl, h1.2.1, h1.2.2⟩
    | .inr (.inl x), h1 =>
      simp only [Bool.and_eq_true, decide_eq_true_eq] at h1
      exact ⟨pz_tbl_in h1.1 rfl, h1.2.1, h1.2.2⟩
    | .inr (.inr (z1, z2)), h1 =>
      simp only at h1
      cases hs : pz_ss[z2 - 206]? with
      | none => rw [hs] at h1; cases h1
      | some w =>
        obtain ⟨o, k, tx⟩ := w
        rw [hs] at h1
        simp only [Bool.and_eq_true, decide_eq_true_eq] at h1
        obtain ⟨rfl, rfl, rfl, h4⟩ := h1
        exact ⟨z2 - 206, tx, by rw [show 206 + (z2 - 206) = z2 by omega], hs⟩
def pz_ctf (l : List (Bool × Nat × pz_C)) (b : Bool) (i : Nat) : Option pz_C := match l with
  | [] => none
  | (true, j, k) :: t => (match b, Nat.beq j i with | true, true => some k | _, _ => pz_ctf t b i)
  | (false, j, k) :: t => (match b, Nat.beq j i with | false, true => some k | _, _ => pz_ctf t b i)
theorem pz_ctk {P : Bool → Nat → pz_C → Prop} : ∀ {l : List (Bool × Nat × pz_C)}, (∀ q ∈ l, P q.1 q.2.1 q.2.2) → ∀ b i k, pz_ctf l b i = some k → P b i k
  | [], _, b, i, k, hk => by cases hk
  | (b', j, k') :: t, h, b, i, k, hk => by
    have ht := pz_ctk (l := t) (fun q hq => h q (List.mem_cons_of_mem _ hq)) b i k
    have h0 := h _ List.mem_cons_self
    cases b' <;> cases b <;> cases hb : Nat.beq j i <;> simp only [pz_ctf, hb] at hk
    all_goals first
      | exact ht hk
      | (cases hk; rw [← Nat.eq_of_beq_eq_true hb]; exact h0)
theorem pz_cVk {y : MethodName} {cc : ByteArray} {maxL : Nat} {ret : Option FieldType} {k : pz_C} {fr' lo' : Nat} (n rc : Nat) (hH : pz_H y cc maxL ret k fr' lo') (hn : k.1 = n + 1)
    (hd : y.cls ≠ "java/lang/invoke/MethodHandle" ∧ y.cls ≠ "java/lang/invoke/VarHandle" ∧ (parseMethodDescriptor y.desc).map (fun d => d.parameters.length) = some n)
    (hw : .code y cc maxL ret ∈ lw_tbl ∧ .instanceMethod y ∈ lw_tbl ∧ .selects y.cls y y ∈ lw_tbl ∧ .initialized y.cls ∈ lw_tbl) (hrc : pz_rcv rc y.cls) (hre : ∀ (a : List pz_V) (M : pz_M), a.length = k.1 → k.2.2.1 a M → ∃ id t, a = .inr (.inr (rc, id)) :: t)
    {fr lo i : Nat} {own : String} (h1 : fr' + 1 ≤ fr) (h2 : 8 + (maxL + 11) + lo' ≤ lo) (h3 : .methodLink own i y ∈ lw_tbl) : pz_cV fr lo own i k :=
  ⟨y, cc, maxL, ret, fr', lo', n, rc, hH, h1, h2, hn, hd, ⟨pz_tbl_in hw.1 rfl, pz_tbl_in h3 rfl, pz_tbl_in hw.2.1 rfl, pz_tbl_in hw.2.2.1 rfl, pz_tbl_in hw.2.2.2 rfl⟩, hrc, hre⟩
theorem pz_cSk {y : MethodName} {cc : ByteArray} {maxL : Nat} {ret : Option FieldType} {k : pz_C} {fr' lo' : Nat} (n : Nat) (hH : pz_H y cc maxL ret k fr' lo') (hn : k.1 = n)
    (hd : y.cls ≠ "java/lang/invoke/MethodHandle" ∧ y.cls ≠ "java/lang/invoke/VarHandle" ∧ (parseMethodDescriptor y.desc).map (fun d => d.parameters.length) = some n)
    (hw : .code y cc maxL ret ∈ lw_tbl ∧ .static y ∈ lw_tbl ∧ .initialized y.cls ∈ lw_tbl)
    {fr lo i : Nat} {own : String} (h1 : fr' + 1 ≤ fr) (h2 : 8 + (maxL + 11) + lo' ≤ lo) (h3 : .methodLink own i y ∈ lw_tbl ∨ (own = RX1 ∧ i = 35 ∧ y = yX11_within)) : pz_cS fr lo own i k :=
  ⟨y, cc, maxL, ret, fr', lo', n, hH, h1, h2, hn, hd, ⟨pz_tbl_in hw.1 rfl, pz_tbl_in hw.2.1 rfl, pz_tbl_in hw.2.2 rfl⟩, h3.imp (fun h => pz_tbl_in h rfl) id⟩

def pz_flc2 (own : String) (q : (Nat × Nat × Nat) × Nat) : Bool := match vwCl[q.1.2.1]? with
  | some (_, T, N) => decide (q.1.2.2 < N) && decide (tables_1[q.2]? = some (Cond.fieldLink own q.1.1 (T q.1.2.2).1 (T q.1.2.2).2.1 (T q.1.2.2).2.2.1))
  | none => false
theorem pz_flall {own : String} : ∀ {l : List (Nat × Nat × Nat)} {ps : List Nat}, l.length = ps.length → (l.zip ps).all (pz_flc2 own) = true → l.all (pz_flc own) = true
  | [], _, _, _ => rfl
  | q :: l, [], h, _ => by cases h
  | q :: l, n :: ps, h, k => by
    simp only [List.zip_cons_cons, List.all_cons, Bool.and_eq_true] at k
    simp only [List.all_cons, Bool.and_eq_true]
    refine ⟨?_, pz_flall (Nat.succ.inj h) k.2⟩
    have k1 := k.1
    unfold pz_flc2 at k1
    unfold pz_flc
    cases hc : vwCl[q.2.1]? with
    | none => simp only [hc] at k1; cases k1
    | some z =>
      obtain ⟨C, T, N⟩ := z
      simp only [hc, Bool.and_eq_true, decide_eq_true_eq] at k1
      simp only [Bool.and_eq_true, decide_eq_true_eq]
      exact ⟨k1.1, List.mem_append_right _ (List.mem_of_getElem? k1.2)⟩
theorem pz_flm {own : String} {i c k : Nat} {C : String} {T : u_T} {N : Nat} (hc : vwCl[c]? = some (C, T, N)) (hk : k < N) (hm : Cond.fieldLink own i (T k).1 (T k).2.1 (T k).2.2.1 ∈ lw_tbl) : pz_flc own (i, c, k) = true := by
  show (match vwCl[c]? with
    | some (_, T, N) => decide (k < N) && decide (Cond.fieldLink own i (T k).1 (T k).2.1 (T k).2.2.1 ∈ lw_tbl)
    | none => false) = true
  rw [hc]
  exact (Bool.and_eq_true _ _).mpr ⟨decide_eq_true hk, decide_eq_true hm⟩
def fl_RX5 : List (Nat × Nat × Nat) := [(9, 5, 7), (15, 5, 0), (18, 5, 1), (21, 5, 2), (24, 5, 3), (27, 5, 4), (30, 5, 5), (33, 5, 6)]
def fp_RX5 : List Nat := [73, 42, 46, 50, 55, 60, 65, 69]
theorem fl_RX5_ok : fl_RX5.all (pz_flc RX5) = true := List.all_eq_true.mpr (List.forall_mem_cons.mpr ⟨pz_flm (i := 9) (c := 5) (k := 7) rfl (Nat.le_of_ble_eq_true rfl) (List.mem_append_right _ (pz_ti4 _ (List.mem_of_getElem? (i := 9) rfl))), List.forall_mem_cons.mpr ⟨pz_flm (i := 15) (c := 5) (k := 0) rfl (Nat.le_of_ble_eq_true rfl) (List.mem_append_right _ (pz_ti2 _ (List.mem_of_getElem? (i := 10) rfl))), List.forall_mem_cons.mpr ⟨pz_flm (i := 18) (c := 5) (k := 1) rfl (Nat.le_of_ble_eq_true rfl) (List.mem_append_right _ (pz_ti2 _ (List.mem_of_getElem? (i := 14) rfl))), List.forall_mem_cons.mpr ⟨pz_flm (i := 21) (c := 5) (k := 2) rfl (Nat.le_of_ble_eq_true rfl) (List.mem_append_right _ (pz_ti3 _ (List.mem_of_getElem? (i := 2) rfl))), List.forall_mem_cons.mpr ⟨pz_flm (i := 24) (c := 5) (k := 3) rfl (Nat.le_of_ble_eq_true rfl) (List.mem_append_right _ (pz_ti3 _ (List.mem_of_getElem? (i := 7) rfl))), List.forall_mem_cons.mpr ⟨pz_flm (i := 27) (c := 5) (k := 4) rfl (Nat.le_of_ble_eq_true rfl) (List.mem_append_right _ (pz_ti3 _ (List.mem_of_getElem? (i := 12) rfl))), List.forall_mem_cons.mpr ⟨pz_flm (i := 30) (c := 5) (k := 5) rfl (Nat.le_of_ble_eq_true rfl) (List.mem_append_right _ (pz_ti4 _ (List.mem_of_getElem? (i := 1) rfl))), List.forall_mem_cons.mpr ⟨pz_flm (i := 33) (c := 5) (k := 6) rfl (Nat.le_of_ble_eq_true rfl) (List.mem_append_right _ (pz_ti4 _ (List.mem_of_getElem? (i := 5) rfl))), List.forall_mem_nil _⟩⟩⟩⟩⟩⟩⟩⟩)
def fl_RX1 : List (Nat × Nat × Nat) := [(9, 1, 0), (15, 1, 1), (19, 0, 7), (25, 0, 0), (29, 0, 4), (32, 0, 3), (49, 5, 0), (58, 10, 0), (70, 5, 2), (80, 5, 6), (87, 5, 1), (90, 5, 4), (93, 5, 5), (96, 10, 1), (100, 6, 0), (152, 0, 5), (155, 5, 7)]
def fp_RX1 : List Nat := [214, 215, 110, 95, 103, 100, 43, 191, 51, 70, 48, 62, 67, 193, 180, 106, 75]
theorem fl_RX1_ok : fl_RX1.all (pz_flc RX1) = true := List.all_eq_true.mpr (List.forall_mem_cons.mpr ⟨pz_flm (i := 9) (c := 1) (k := 0) rfl (Nat.le_of_ble_eq_true rfl) (List.mem_append_right _ (pz_ti13 _ (List.mem_of_getElem? (i := 6) rfl))), List.forall_mem_cons.mpr ⟨pz_flm (i := 15) (c := 1) (k := 1) rfl (Nat.le_of_ble_eq_true rfl) (List.mem_append_right _ (pz_ti13 _ (List.mem_of_getElem? (i := 7) rfl))), List.forall_mem_cons.mpr ⟨pz_flm (i := 19) (c := 0) (k := 7) rfl (Nat.le_of_ble_eq_true rfl) (List.mem_append_right _ (pz_ti6 _ (List.mem_of_getElem? (i := 14) rfl))), List.forall_mem_cons.mpr ⟨pz_flm (i := 25) (c := 0) (k := 0) rfl (Nat.le_of_ble_eq_true rfl) (List.mem_append_right _ (pz_ti5 _ (List.mem_of_getElem? (i := 15) rfl))), List.forall_mem_cons.mpr ⟨pz_flm (i := 29) (c := 0) (k := 4) rfl (Nat.le_of_ble_eq_true rfl) (List.mem_append_right _ (pz_ti6 _ (List.mem_of_getElem? (i := 7) rfl))), List.forall_mem_cons.mpr ⟨pz_flm (i := 32) (c := 0) (k := 3) rfl (Nat.le_of_ble_eq_true rfl) (List.mem_append_right _ (pz_ti6 _ (List.mem_of_getElem? (i := 4) rfl))), List.forall_mem_cons.mpr ⟨pz_flm (i := 49) (c := 5) (k := 0) rfl (Nat.le_of_ble_eq_true rfl) (List.mem_append_right _ (pz_ti2 _ (List.mem_of_getElem? (i := 11) rfl))), List.forall_mem_cons.mpr ⟨pz_flm (i := 58) (c := 10) (k := 0) rfl (Nat.le_of_ble_eq_true rfl) (List.mem_append_right _ (pz_ti11 _ (List.mem_of_getElem? (i := 15) rfl))), List.forall_mem_cons.mpr ⟨pz_flm (i := 70) (c := 5) (k := 2) rfl (Nat.le_of_ble_eq_true rfl) (List.mem_append_right _ (pz_ti3 _ (List.mem_of_getElem? (i := 3) rfl))), List.forall_mem_cons.mpr ⟨pz_flm (i := 80) (c := 5) (k := 6) rfl (Nat.le_of_ble_eq_true rfl) (List.mem_append_right _ (pz_ti4 _ (List.mem_of_getElem? (i := 6) rfl))), List.forall_mem_cons.mpr ⟨pz_flm (i := 87) (c := 5) (k := 1) rfl (Nat.le_of_ble_eq_true rfl) (List.mem_append_right _ (pz_ti3 _ (List.mem_of_getElem? (i := 0) rfl))), List.forall_mem_cons.mpr ⟨pz_flm (i := 90) (c := 5) (k := 4) rfl (Nat.le_of_ble_eq_true rfl) (List.mem_append_right _ (pz_ti3 _ (List.mem_of_getElem? (i := 14) rfl))), List.forall_mem_cons.mpr ⟨pz_flm (i := 93) (c := 5) (k := 5) rfl (Nat.le_of_ble_eq_true rfl) (List.mem_append_right _ (pz_ti4 _ (List.mem_of_getElem? (i := 3) rfl))), List.forall_mem_cons.mpr ⟨pz_flm (i := 96) (c := 10) (k := 1) rfl (Nat.le_of_ble_eq_true rfl) (List.mem_append_right _ (pz_ti12 _ (List.mem_of_getElem? (i := 1) rfl))), List.forall_mem_cons.mpr ⟨pz_flm (i := 100) (c := 6) (k := 0) rfl (Nat.le_of_ble_eq_true rfl) (List.mem_append_right _ (pz_ti11 _ (List.mem_of_getElem? (i := 4) rfl))), List.forall_mem_cons.mpr ⟨pz_flm (i := 152) (c := 0) (k := 5) rfl (Nat.le_of_ble_eq_true rfl) (List.mem_append_right _ (pz_ti6 _ (List.mem_of_getElem? (i := 10) rfl))), List.forall_mem_cons.mpr ⟨pz_flm (i := 155) (c := 5) (k := 7) rfl (Nat.le_of_ble_eq_true rfl) (List.mem_append_right _ (pz_ti4 _ (List.mem_of_getElem? (i := 11) rfl))), List.forall_mem_nil _⟩⟩⟩⟩⟩⟩⟩⟩⟩⟩⟩⟩⟩⟩⟩⟩⟩)
def fl_RX11 : List (Nat × Nat × Nat) := [(14, 11, 0), (18, 11, 1), (24, 11, 2), (28, 11, 3), (37, 11, 4), (44, 11, 5), (51, 11, 6), (60, 11, 7), (66, 10, 0), (73, 11, 8), (80, 11, 9), (84, 11, 10), (87, 11, 11), (90, 11, 12), (93, 0, 6), (100, 0, 3), (122, 5, 0), (125, 5, 1), (128, 5, 2), (131, 5, 3), (134, 5, 4), (175, 5, 5), (181, 0, 4), (188, 7, 1), (199, 9, 3), (202, 9, 4), (206, 5, 6), (209, 5, 7), (234, 0, 7), (252, 0, 5), (313, 8, 2), (316, 8, 1), (362, 11, 13), (369, 3, 0), (372, 10, 1), (375, 6, 0), (378, 10, 2), (381, 10, 3), (384, 2, 2)]
def fp_RX11 : List Nat := [367, 368, 369, 370, 371, 372, 373, 374, 189, 375, 376, 377, 378, 379, 108, 99, 44, 47, 52, 56, 61, 68, 104, 250, 283, 285, 72, 76, 112, 107, 344, 342, 380, 144, 194, 181, 196, 198, 233]
theorem fl_RX11_ok : fl_RX11.all (pz_flc RX11) = true := List.all_eq_true.mpr (List.forall_mem_cons.mpr ⟨pz_flm (i := 14) (c := 11) (k := 0) rfl (Nat.le_of_ble_eq_true rfl) (List.mem_append_right _ (pz_ti22 _ (List.mem_of_getElem? (i := 15) rfl))), List.forall_mem_cons.mpr ⟨pz_flm (i := 18) (c := 11) (k := 1) rfl (Nat.le_of_ble_eq_true rfl) (List.mem_append_right _ (pz_ti23 _ (List.mem_of_getElem? (i := 0) rfl))), List.forall_mem_cons.mpr ⟨pz_flm (i := 24) (c := 11) (k := 2) rfl (Nat.le_of_ble_eq_true rfl) (List.mem_append_right _ (pz_ti23 _ (List.mem_of_getElem? (i := 1) rfl))), List.forall_mem_cons.mpr ⟨pz_flm (i := 28) (c := 11) (k := 3) rfl (Nat.le_of_ble_eq_true rfl) (List.mem_append_right _ (pz_ti23 _ (List.mem_of_getElem? (i := 2) rfl))), List.forall_mem_cons.mpr ⟨pz_flm (i := 37) (c := 11) (k := 4) rfl (Nat.le_of_ble_eq_true rfl) (List.mem_append_right _ (pz_ti23 _ (List.mem_of_getElem? (i := 3) rfl))), List.forall_mem_cons.mpr ⟨pz_flm (i := 44) (c := 11) (k := 5) rfl (Nat.le_of_ble_eq_true rfl) (List.mem_append_right _ (pz_ti23 _ (List.mem_of_getElem? (i := 4) rfl))), List.forall_mem_cons.mpr ⟨pz_flm (i := 51) (c := 11) (k := 6) rfl (Nat.le_of_ble_eq_true rfl) (List.mem_append_right _ (pz_ti23 _ (List.mem_of_getElem? (i := 5) rfl))), List.forall_mem_cons.mpr ⟨pz_flm (i := 60) (c := 11) (k := 7) rfl (Nat.le_of_ble_eq_true rfl) (List.mem_append_right _ (pz_ti23 _ (List.mem_of_getElem? (i := 6) rfl))), List.forall_mem_cons.mpr ⟨pz_flm (i := 66) (c := 10) (k := 0) rfl (Nat.le_of_ble_eq_true rfl) (List.mem_append_right _ (pz_ti11 _ (List.mem_of_getElem? (i := 13) rfl))), List.forall_mem_cons.mpr ⟨pz_flm (i := 73) (c := 11) (k := 8) rfl (Nat.le_of_ble_eq_true rfl) (List.mem_append_right _ (pz_ti23 _ (List.mem_of_getElem? (i := 7) rfl))), List.forall_mem_cons.mpr ⟨pz_flm (i := 80) (c := 11) (k := 9) rfl (Nat.le_of_ble_eq_true rfl) (List.mem_append_right _ (pz_ti23 _ (List.mem_of_getElem? (i := 8) rfl))), List.forall_mem_cons.mpr ⟨pz_flm (i := 84) (c := 11) (k := 10) rfl (Nat.le_of_ble_eq_true rfl) (List.mem_append_right _ (pz_ti23 _ (List.mem_of_getElem? (i := 9) rfl))), List.forall_mem_cons.mpr ⟨pz_flm (i := 87) (c := 11) (k := 11) rfl (Nat.le_of_ble_eq_true rfl) (List.mem_append_right _ (pz_ti23 _ (List.mem_of_getElem? (i := 10) rfl))), List.forall_mem_cons.mpr ⟨pz_flm (i := 90) (c := 11) (k := 12) rfl (Nat.le_of_ble_eq_true rfl) (List.mem_append_right _ (pz_ti23 _ (List.mem_of_getElem? (i := 11) rfl))), List.forall_mem_cons.mpr ⟨pz_flm (i := 93) (c := 0) (k := 6) rfl (Nat.le_of_ble_eq_true rfl) (List.mem_append_right _ (pz_ti6 _ (List.mem_of_getElem? (i := 12) rfl))), List.forall_mem_cons.mpr ⟨pz_flm (i := 100) (c := 0) (k := 3) rfl (Nat.le_of_ble_eq_true rfl) (List.mem_append_right _ (pz_ti6 _ (List.mem_of_getElem? (i := 3) rfl))), List.forall_mem_cons.mpr ⟨pz_flm (i := 122) (c := 5) (k := 0) rfl (Nat.le_of_ble_eq_true rfl) (List.mem_append_right _ (pz_ti2 _ (List.mem_of_getElem? (i := 12) rfl))), List.forall_mem_cons.mpr ⟨pz_flm (i := 125) (c := 5) (k := 1) rfl (Nat.le_of_ble_eq_true rfl) (List.mem_append_right _ (pz_ti2 _ (List.mem_of_getElem? (i := 15) rfl))), List.forall_mem_cons.mpr ⟨pz_flm (i := 128) (c := 5) (k := 2) rfl (Nat.le_of_ble_eq_true rfl) (List.mem_append_right _ (pz_ti3 _ (List.mem_of_getElem? (i := 4) rfl))), List.forall_mem_cons.mpr ⟨pz_flm (i := 131) (c := 5) (k := 3) rfl (Nat.le_of_ble_eq_true rfl) (List.mem_append_right _ (pz_ti3 _ (List.mem_of_getElem? (i := 8) rfl))), List.forall_mem_cons.mpr ⟨pz_flm (i := 134) (c := 5) (k := 4) rfl (Nat.le_of_ble_eq_true rfl) (List.mem_append_right _ (pz_ti3 _ (List.mem_of_getElem? (i := 13) rfl))), List.forall_mem_cons.mpr ⟨pz_flm (i := 175) (c := 5) (k := 5) rfl (Nat.le_of_ble_eq_true rfl) (List.mem_append_right _ (pz_ti4 _ (List.mem_of_getElem? (i := 4) rfl))), List.forall_mem_cons.mpr ⟨pz_flm (i := 181) (c := 0) (k := 4) rfl (Nat.le_of_ble_eq_true rfl) (List.mem_append_right _ (pz_ti6 _ (List.mem_of_getElem? (i := 8) rfl))), List.forall_mem_cons.mpr ⟨pz_flm (i := 188) (c := 7) (k := 1) rfl (Nat.le_of_ble_eq_true rfl) (List.mem_append_right _ (pz_ti15 _ (List.mem_of_getElem? (i := 10) rfl))), List.forall_mem_cons.mpr ⟨pz_flm (i := 199) (c := 9) (k := 3) rfl (Nat.le_of_ble_eq_true rfl) (List.mem_append_right _ (pz_ti17 _ (List.mem_of_getElem? (i := 11) rfl))), List.forall_mem_cons.mpr ⟨pz_flm (i := 202) (c := 9) (k := 4) rfl (Nat.le_of_ble_eq_true rfl) (List.mem_append_right _ (pz_ti17 _ (List.mem_of_getElem? (i := 13) rfl))), List.forall_mem_cons.mpr ⟨pz_flm (i := 206) (c := 5) (k := 6) rfl (Nat.le_of_ble_eq_true rfl) (List.mem_append_right _ (pz_ti4 _ (List.mem_of_getElem? (i := 8) rfl))), List.forall_mem_cons.mpr ⟨pz_flm (i := 209) (c := 5) (k := 7) rfl (Nat.le_of_ble_eq_true rfl) (List.mem_append_right _ (pz_ti4 _ (List.mem_of_getElem? (i := 12) rfl))), List.forall_mem_cons.mpr ⟨pz_flm (i := 234) (c := 0) (k := 7) rfl (Nat.le_of_ble_eq_true rfl) (List.mem_append_right _ (pz_ti7 _ (List.mem_of_getElem? (i := 0) rfl))), List.forall_mem_cons.mpr ⟨pz_flm (i := 252) (c := 0) (k := 5) rfl (Nat.le_of_ble_eq_true rfl) (List.mem_append_right _ (pz_ti6 _ (List.mem_of_getElem? (i := 11) rfl))), List.forall_mem_cons.mpr ⟨pz_flm (i := 313) (c := 8) (k := 2) rfl (Nat.le_of_ble_eq_true rfl) (List.mem_append_right _ (pz_ti21 _ (List.mem_of_getElem? (i := 8) rfl))), List.forall_mem_cons.mpr ⟨pz_flm (i := 316) (c := 8) (k := 1) rfl (Nat.le_of_ble_eq_true rfl) (List.mem_append_right _ (pz_ti21 _ (List.mem_of_getElem? (i := 6) rfl))), List.forall_mem_cons.mpr ⟨pz_flm (i := 362) (c := 11) (k := 13) rfl (Nat.le_of_ble_eq_true rfl) (List.mem_append_right _ (pz_ti23 _ (List.mem_of_getElem? (i := 12) rfl))), List.forall_mem_cons.mpr ⟨pz_flm (i := 369) (c := 3) (k := 0) rfl (Nat.le_of_ble_eq_true rfl) (List.mem_append_right _ (pz_ti9 _ (List.mem_of_getElem? (i := 0) rfl))), List.forall_mem_cons.mpr ⟨pz_flm (i := 372) (c := 10) (k := 1) rfl (Nat.le_of_ble_eq_true rfl) (List.mem_append_right _ (pz_ti12 _ (List.mem_of_getElem? (i := 2) rfl))), List.forall_mem_cons.mpr ⟨pz_flm (i := 375) (c := 6) (k := 0) rfl (Nat.le_of_ble_eq_true rfl) (List.mem_append_right _ (pz_ti11 _ (List.mem_of_getElem? (i := 5) rfl))), List.forall_mem_cons.mpr ⟨pz_flm (i := 378) (c := 10) (k := 2) rfl (Nat.le_of_ble_eq_true rfl) (List.mem_append_right _ (pz_ti12 _ (List.mem_of_getElem? (i := 4) rfl))), List.forall_mem_cons.mpr ⟨pz_flm (i := 381) (c := 10) (k := 3) rfl (Nat.le_of_ble_eq_true rfl) (List.mem_append_right _ (pz_ti12 _ (List.mem_of_getElem? (i := 6) rfl))), List.forall_mem_cons.mpr ⟨pz_flm (i := 384) (c := 2) (k := 2) rfl (Nat.le_of_ble_eq_true rfl) (List.mem_append_right _ (pz_ti14 _ (List.mem_of_getElem? (i := 9) rfl))), List.forall_mem_nil _⟩⟩⟩⟩⟩⟩⟩⟩⟩⟩⟩⟩⟩⟩⟩⟩⟩⟩⟩⟩⟩⟩⟩⟩⟩⟩⟩⟩⟩⟩⟩⟩⟩⟩⟩⟩⟩⟩⟩)
def fl_RX0 : List (Nat × Nat × Nat) := [(11, 0, 1), (18, 0, 2), (22, 0, 0), (30, 0, 3), (34, 0, 4), (37, 0, 5), (40, 0, 6), (43, 0, 7), (52, 5, 1), (55, 5, 0), (68, 5, 6), (75, 5, 4), (87, 5, 7), (94, 5, 2), (103, 5, 3)]
def fp_RX0 : List Nat := [96, 97, 94, 98, 102, 105, 109, 111, 49, 45, 71, 64, 74, 54, 59]
theorem fl_RX0_ok : fl_RX0.all (pz_flc RX0) = true := List.all_eq_true.mpr (List.forall_mem_cons.mpr ⟨pz_flm (i := 11) (c := 0) (k := 1) rfl (Nat.le_of_ble_eq_true rfl) (List.mem_append_right _ (pz_ti6 _ (List.mem_of_getElem? (i := 0) rfl))), List.forall_mem_cons.mpr ⟨pz_flm (i := 18) (c := 0) (k := 2) rfl (Nat.le_of_ble_eq_true rfl) (List.mem_append_right _ (pz_ti6 _ (List.mem_of_getElem? (i := 1) rfl))), List.forall_mem_cons.mpr ⟨pz_flm (i := 22) (c := 0) (k := 0) rfl (Nat.le_of_ble_eq_true rfl) (List.mem_append_right _ (pz_ti5 _ (List.mem_of_getElem? (i := 14) rfl))), List.forall_mem_cons.mpr ⟨pz_flm (i := 30) (c := 0) (k := 3) rfl (Nat.le_of_ble_eq_true rfl) (List.mem_append_right _ (pz_ti6 _ (List.mem_of_getElem? (i := 2) rfl))), List.forall_mem_cons.mpr ⟨pz_flm (i := 34) (c := 0) (k := 4) rfl (Nat.le_of_ble_eq_true rfl) (List.mem_append_right _ (pz_ti6 _ (List.mem_of_getElem? (i := 6) rfl))), List.forall_mem_cons.mpr ⟨pz_flm (i := 37) (c := 0) (k := 5) rfl (Nat.le_of_ble_eq_true rfl) (List.mem_append_right _ (pz_ti6 _ (List.mem_of_getElem? (i := 9) rfl))), List.forall_mem_cons.mpr ⟨pz_flm (i := 40) (c := 0) (k := 6) rfl (Nat.le_of_ble_eq_true rfl) (List.mem_append_right _ (pz_ti6 _ (List.mem_of_getElem? (i := 13) rfl))), List.forall_mem_cons.mpr ⟨pz_flm (i := 43) (c := 0) (k := 7) rfl (Nat.le_of_ble_eq_true rfl) (List.mem_append_right _ (pz_ti6 _ (List.mem_of_getElem? (i := 15) rfl))), List.forall_mem_cons.mpr ⟨pz_flm (i := 52) (c := 5) (k := 1) rfl (Nat.le_of_ble_eq_true rfl) (List.mem_append_right _ (pz_ti3 _ (List.mem_of_getElem? (i := 1) rfl))), List.forall_mem_cons.mpr ⟨pz_flm (i := 55) (c := 5) (k := 0) rfl (Nat.le_of_ble_eq_true rfl) (List.mem_append_right _ (pz_ti2 _ (List.mem_of_getElem? (i := 13) rfl))), List.forall_mem_cons.mpr ⟨pz_flm (i := 68) (c := 5) (k := 6) rfl (Nat.le_of_ble_eq_true rfl) (List.mem_append_right _ (pz_ti4 _ (List.mem_of_getElem? (i := 7) rfl))), List.forall_mem_cons.mpr ⟨pz_flm (i := 75) (c := 5) (k := 4) rfl (Nat.le_of_ble_eq_true rfl) (List.mem_append_right _ (pz_ti4 _ (List.mem_of_getElem? (i := 0) rfl))), List.forall_mem_cons.mpr ⟨pz_flm (i := 87) (c := 5) (k := 7) rfl (Nat.le_of_ble_eq_true rfl) (List.mem_append_right _ (pz_ti4 _ (List.mem_of_getElem? (i := 10) rfl))), List.forall_mem_cons.mpr ⟨pz_flm (i := 94) (c := 5) (k := 2) rfl (Nat.le_of_ble_eq_true rfl) (List.mem_append_right _ (pz_ti3 _ (List.mem_of_getElem? (i := 6) rfl))), List.forall_mem_cons.mpr ⟨pz_flm (i := 103) (c := 5) (k := 3) rfl (Nat.le_of_ble_eq_true rfl) (List.mem_append_right _ (pz_ti3 _ (List.mem_of_getElem? (i := 11) rfl))), List.forall_mem_nil _⟩⟩⟩⟩⟩⟩⟩⟩⟩⟩⟩⟩⟩⟩⟩)
def fl_RX3 : List (Nat × Nat × Nat) := [(9, 3, 2), (15, 3, 3), (18, 3, 4), (21, 3, 5), (24, 3, 6), (27, 3, 7), (30, 3, 0), (34, 3, 1), (61, 5, 3), (66, 5, 2)]
def fp_RX3 : List Nat := [147, 148, 149, 150, 151, 152, 142, 145, 57, 53]
theorem fl_RX3_ok : fl_RX3.all (pz_flc RX3) = true := List.all_eq_true.mpr (List.forall_mem_cons.mpr ⟨pz_flm (i := 9) (c := 3) (k := 2) rfl (Nat.le_of_ble_eq_true rfl) (List.mem_append_right _ (pz_ti9 _ (List.mem_of_getElem? (i := 3) rfl))), List.forall_mem_cons.mpr ⟨pz_flm (i := 15) (c := 3) (k := 3) rfl (Nat.le_of_ble_eq_true rfl) (List.mem_append_right _ (pz_ti9 _ (List.mem_of_getElem? (i := 4) rfl))), List.forall_mem_cons.mpr ⟨pz_flm (i := 18) (c := 3) (k := 4) rfl (Nat.le_of_ble_eq_true rfl) (List.mem_append_right _ (pz_ti9 _ (List.mem_of_getElem? (i := 5) rfl))), List.forall_mem_cons.mpr ⟨pz_flm (i := 21) (c := 3) (k := 5) rfl (Nat.le_of_ble_eq_true rfl) (List.mem_append_right _ (pz_ti9 _ (List.mem_of_getElem? (i := 6) rfl))), List.forall_mem_cons.mpr ⟨pz_flm (i := 24) (c := 3) (k := 6) rfl (Nat.le_of_ble_eq_true rfl) (List.mem_append_right _ (pz_ti9 _ (List.mem_of_getElem? (i := 7) rfl))), List.forall_mem_cons.mpr ⟨pz_flm (i := 27) (c := 3) (k := 7) rfl (Nat.le_of_ble_eq_true rfl) (List.mem_append_right _ (pz_ti9 _ (List.mem_of_getElem? (i := 8) rfl))), List.forall_mem_cons.mpr ⟨pz_flm (i := 30) (c := 3) (k := 0) rfl (Nat.le_of_ble_eq_true rfl) (List.mem_append_right _ (pz_ti8 _ (List.mem_of_getElem? (i := 14) rfl))), List.forall_mem_cons.mpr ⟨pz_flm (i := 34) (c := 3) (k := 1) rfl (Nat.le_of_ble_eq_true rfl) (List.mem_append_right _ (pz_ti9 _ (List.mem_of_getElem? (i := 1) rfl))), List.forall_mem_cons.mpr ⟨pz_flm (i := 61) (c := 5) (k := 3) rfl (Nat.le_of_ble_eq_true rfl) (List.mem_append_right _ (pz_ti3 _ (List.mem_of_getElem? (i := 9) rfl))), List.forall_mem_cons.mpr ⟨pz_flm (i := 66) (c := 5) (k := 2) rfl (Nat.le_of_ble_eq_true rfl) (List.mem_append_right _ (pz_ti3 _ (List.mem_of_getElem? (i := 5) rfl))), List.forall_mem_nil _⟩⟩⟩⟩⟩⟩⟩⟩⟩⟩)
def fl_RX4 : List (Nat × Nat × Nat) := [(9, 4, 1), (15, 4, 2), (18, 4, 3), (21, 4, 4), (24, 4, 0), (38, 0, 3), (54, 5, 5), (59, 5, 4), (72, 5, 3)]
def fp_RX4 : List Nat := [319, 320, 321, 322, 318, 101, 66, 63, 58]
theorem fl_RX4_ok : fl_RX4.all (pz_flc RX4) = true := List.all_eq_true.mpr (List.forall_mem_cons.mpr ⟨pz_flm (i := 9) (c := 4) (k := 1) rfl (Nat.le_of_ble_eq_true rfl) (List.mem_append_right _ (pz_ti19 _ (List.mem_of_getElem? (i := 15) rfl))), List.forall_mem_cons.mpr ⟨pz_flm (i := 15) (c := 4) (k := 2) rfl (Nat.le_of_ble_eq_true rfl) (List.mem_append_right _ (pz_ti20 _ (List.mem_of_getElem? (i := 0) rfl))), List.forall_mem_cons.mpr ⟨pz_flm (i := 18) (c := 4) (k := 3) rfl (Nat.le_of_ble_eq_true rfl) (List.mem_append_right _ (pz_ti20 _ (List.mem_of_getElem? (i := 1) rfl))), List.forall_mem_cons.mpr ⟨pz_flm (i := 21) (c := 4) (k := 4) rfl (Nat.le_of_ble_eq_true rfl) (List.mem_append_right _ (pz_ti20 _ (List.mem_of_getElem? (i := 2) rfl))), List.forall_mem_cons.mpr ⟨pz_flm (i := 24) (c := 4) (k := 0) rfl (Nat.le_of_ble_eq_true rfl) (List.mem_append_right _ (pz_ti19 _ (List.mem_of_getElem? (i := 14) rfl))), List.forall_mem_cons.mpr ⟨pz_flm (i := 38) (c := 0) (k := 3) rfl (Nat.le_of_ble_eq_true rfl) (List.mem_append_right _ (pz_ti6 _ (List.mem_of_getElem? (i := 5) rfl))), List.forall_mem_cons.mpr ⟨pz_flm (i := 54) (c := 5) (k := 5) rfl (Nat.le_of_ble_eq_true rfl) (List.mem_append_right _ (pz_ti4 _ (List.mem_of_getElem? (i := 2) rfl))), List.forall_mem_cons.mpr ⟨pz_flm (i := 59) (c := 5) (k := 4) rfl (Nat.le_of_ble_eq_true rfl) (List.mem_append_right _ (pz_ti3 _ (List.mem_of_getElem? (i := 15) rfl))), List.forall_mem_cons.mpr ⟨pz_flm (i := 72) (c := 5) (k := 3) rfl (Nat.le_of_ble_eq_true rfl) (List.mem_append_right _ (pz_ti3 _ (List.mem_of_getElem? (i := 10) rfl))), List.forall_mem_nil _⟩⟩⟩⟩⟩⟩⟩⟩⟩)
def fl_RX9 : List (Nat × Nat × Nat) := [(12, 9, 1), (21, 9, 2), (25, 9, 4), (29, 9, 0), (33, 9, 3), (36, 9, 9), (39, 9, 8), (47, 7, 1), (58, 10, 0), (65, 3, 0), (78, 6, 0), (81, 9, 5), (84, 7, 2), (88, 9, 6), (91, 7, 3), (94, 9, 7), (97, 7, 4), (106, 3, 1)]
def fp_RX9 : List Nat := [280, 281, 284, 279, 282, 290, 289, 249, 190, 143, 178, 286, 252, 287, 254, 288, 256, 146]
theorem fl_RX9_ok : fl_RX9.all (pz_flc RX9) = true := List.all_eq_true.mpr (List.forall_mem_cons.mpr ⟨pz_flm (i := 12) (c := 9) (k := 1) rfl (Nat.le_of_ble_eq_true rfl) (List.mem_append_right _ (pz_ti17 _ (List.mem_of_getElem? (i := 8) rfl))), List.forall_mem_cons.mpr ⟨pz_flm (i := 21) (c := 9) (k := 2) rfl (Nat.le_of_ble_eq_true rfl) (List.mem_append_right _ (pz_ti17 _ (List.mem_of_getElem? (i := 9) rfl))), List.forall_mem_cons.mpr ⟨pz_flm (i := 25) (c := 9) (k := 4) rfl (Nat.le_of_ble_eq_true rfl) (List.mem_append_right _ (pz_ti17 _ (List.mem_of_getElem? (i := 12) rfl))), List.forall_mem_cons.mpr ⟨pz_flm (i := 29) (c := 9) (k := 0) rfl (Nat.le_of_ble_eq_true rfl) (List.mem_append_right _ (pz_ti17 _ (List.mem_of_getElem? (i := 7) rfl))), List.forall_mem_cons.mpr ⟨pz_flm (i := 33) (c := 9) (k := 3) rfl (Nat.le_of_ble_eq_true rfl) (List.mem_append_right _ (pz_ti17 _ (List.mem_of_getElem? (i := 10) rfl))), List.forall_mem_cons.mpr ⟨pz_flm (i := 36) (c := 9) (k := 9) rfl (Nat.le_of_ble_eq_true rfl) (List.mem_append_right _ (pz_ti18 _ (List.mem_of_getElem? (i := 2) rfl))), List.forall_mem_cons.mpr ⟨pz_flm (i := 39) (c := 9) (k := 8) rfl (Nat.le_of_ble_eq_true rfl) (List.mem_append_right _ (pz_ti18 _ (List.mem_of_getElem? (i := 1) rfl))), List.forall_mem_cons.mpr ⟨pz_flm (i := 47) (c := 7) (k := 1) rfl (Nat.le_of_ble_eq_true rfl) (List.mem_append_right _ (pz_ti15 _ (List.mem_of_getElem? (i := 9) rfl))), List.forall_mem_cons.mpr ⟨pz_flm (i := 58) (c := 10) (k := 0) rfl (Nat.le_of_ble_eq_true rfl) (List.mem_append_right _ (pz_ti11 _ (List.mem_of_getElem? (i := 14) rfl))), List.forall_mem_cons.mpr ⟨pz_flm (i := 65) (c := 3) (k := 0) rfl (Nat.le_of_ble_eq_true rfl) (List.mem_append_right _ (pz_ti8 _ (List.mem_of_getElem? (i := 15) rfl))), List.forall_mem_cons.mpr ⟨pz_flm (i := 78) (c := 6) (k := 0) rfl (Nat.le_of_ble_eq_true rfl) (List.mem_append_right _ (pz_ti11 _ (List.mem_of_getElem? (i := 2) rfl))), List.forall_mem_cons.mpr ⟨pz_flm (i := 81) (c := 9) (k := 5) rfl (Nat.le_of_ble_eq_true rfl) (List.mem_append_right _ (pz_ti17 _ (List.mem_of_getElem? (i := 14) rfl))), List.forall_mem_cons.mpr ⟨pz_flm (i := 84) (c := 7) (k := 2) rfl (Nat.le_of_ble_eq_true rfl) (List.mem_append_right _ (pz_ti15 _ (List.mem_of_getElem? (i := 12) rfl))), List.forall_mem_cons.mpr ⟨pz_flm (i := 88) (c := 9) (k := 6) rfl (Nat.le_of_ble_eq_true rfl) (List.mem_append_right _ (pz_ti17 _ (List.mem_of_getElem? (i := 15) rfl))), List.forall_mem_cons.mpr ⟨pz_flm (i := 91) (c := 7) (k := 3) rfl (Nat.le_of_ble_eq_true rfl) (List.mem_append_right _ (pz_ti15 _ (List.mem_of_getElem? (i := 14) rfl))), List.forall_mem_cons.mpr ⟨pz_flm (i := 94) (c := 9) (k := 7) rfl (Nat.le_of_ble_eq_true rfl) (List.mem_append_right _ (pz_ti18 _ (List.mem_of_getElem? (i := 0) rfl))), List.forall_mem_cons.mpr ⟨pz_flm (i := 97) (c := 7) (k := 4) rfl (Nat.le_of_ble_eq_true rfl) (List.mem_append_right _ (pz_ti16 _ (List.mem_of_getElem? (i := 0) rfl))), List.forall_mem_cons.mpr ⟨pz_flm (i := 106) (c := 3) (k := 1) rfl (Nat.le_of_ble_eq_true rfl) (List.mem_append_right _ (pz_ti9 _ (List.mem_of_getElem? (i := 2) rfl))), List.forall_mem_nil _⟩⟩⟩⟩⟩⟩⟩⟩⟩⟩⟩⟩⟩⟩⟩⟩⟩⟩)
def fl_RX6 : List (Nat × Nat × Nat) := [(9, 6, 1), (15, 6, 0)]
def fp_RX6 : List Nat := [182, 177]
theorem fl_RX6_ok : fl_RX6.all (pz_flc RX6) = true := List.all_eq_true.mpr (List.forall_mem_cons.mpr ⟨pz_flm (i := 9) (c := 6) (k := 1) rfl (Nat.le_of_ble_eq_true rfl) (List.mem_append_right _ (pz_ti11 _ (List.mem_of_getElem? (i := 6) rfl))), List.forall_mem_cons.mpr ⟨pz_flm (i := 15) (c := 6) (k := 0) rfl (Nat.le_of_ble_eq_true rfl) (List.mem_append_right _ (pz_ti11 _ (List.mem_of_getElem? (i := 1) rfl))), List.forall_mem_nil _⟩⟩)
def fl_RX10 : List (Nat × Nat × Nat) := [(12, 10, 0), (21, 10, 1), (25, 10, 2), (28, 10, 3), (38, 6, 0)]
def fp_RX10 : List Nat := [188, 192, 195, 197, 179]
theorem fl_RX10_ok : fl_RX10.all (pz_flc RX10) = true := List.all_eq_true.mpr (List.forall_mem_cons.mpr ⟨pz_flm (i := 12) (c := 10) (k := 0) rfl (Nat.le_of_ble_eq_true rfl) (List.mem_append_right _ (pz_ti11 _ (List.mem_of_getElem? (i := 12) rfl))), List.forall_mem_cons.mpr ⟨pz_flm (i := 21) (c := 10) (k := 1) rfl (Nat.le_of_ble_eq_true rfl) (List.mem_append_right _ (pz_ti12 _ (List.mem_of_getElem? (i := 0) rfl))), List.forall_mem_cons.mpr ⟨pz_flm (i := 25) (c := 10) (k := 2) rfl (Nat.le_of_ble_eq_true rfl) (List.mem_append_right _ (pz_ti12 _ (List.mem_of_getElem? (i := 3) rfl))), List.forall_mem_cons.mpr ⟨pz_flm (i := 28) (c := 10) (k := 3) rfl (Nat.le_of_ble_eq_true rfl) (List.mem_append_right _ (pz_ti12 _ (List.mem_of_getElem? (i := 5) rfl))), List.forall_mem_cons.mpr ⟨pz_flm (i := 38) (c := 6) (k := 0) rfl (Nat.le_of_ble_eq_true rfl) (List.mem_append_right _ (pz_ti11 _ (List.mem_of_getElem? (i := 3) rfl))), List.forall_mem_nil _⟩⟩⟩⟩⟩)
def fl_RX2 : List (Nat × Nat × Nat) := [(11, 2, 0), (20, 2, 2), (24, 2, 1)]
def fp_RX2 : List Nat := [230, 232, 231]
theorem fl_RX2_ok : fl_RX2.all (pz_flc RX2) = true := List.all_eq_true.mpr (List.forall_mem_cons.mpr ⟨pz_flm (i := 11) (c := 2) (k := 0) rfl (Nat.le_of_ble_eq_true rfl) (List.mem_append_right _ (pz_ti14 _ (List.mem_of_getElem? (i := 6) rfl))), List.forall_mem_cons.mpr ⟨pz_flm (i := 20) (c := 2) (k := 2) rfl (Nat.le_of_ble_eq_true rfl) (List.mem_append_right _ (pz_ti14 _ (List.mem_of_getElem? (i := 8) rfl))), List.forall_mem_cons.mpr ⟨pz_flm (i := 24) (c := 2) (k := 1) rfl (Nat.le_of_ble_eq_true rfl) (List.mem_append_right _ (pz_ti14 _ (List.mem_of_getElem? (i := 7) rfl))), List.forall_mem_nil _⟩⟩⟩)
def fl_RX7 : List (Nat × Nat × Nat) := [(9, 7, 0), (15, 7, 2), (19, 7, 3), (22, 7, 4), (25, 7, 1)]
def fp_RX7 : List Nat := [247, 251, 253, 255, 248]
theorem fl_RX7_ok : fl_RX7.all (pz_flc RX7) = true := List.all_eq_true.mpr (List.forall_mem_cons.mpr ⟨pz_flm (i := 9) (c := 7) (k := 0) rfl (Nat.le_of_ble_eq_true rfl) (List.mem_append_right _ (pz_ti15 _ (List.mem_of_getElem? (i := 7) rfl))), List.forall_mem_cons.mpr ⟨pz_flm (i := 15) (c := 7) (k := 2) rfl (Nat.le_of_ble_eq_true rfl) (List.mem_append_right _ (pz_ti15 _ (List.mem_of_getElem? (i := 11) rfl))), List.forall_mem_cons.mpr ⟨pz_flm (i := 19) (c := 7) (k := 3) rfl (Nat.le_of_ble_eq_true rfl) (List.mem_append_right _ (pz_ti15 _ (List.mem_of_getElem? (i := 13) rfl))), List.forall_mem_cons.mpr ⟨pz_flm (i := 22) (c := 7) (k := 4) rfl (Nat.le_of_ble_eq_true rfl) (List.mem_append_right _ (pz_ti15 _ (List.mem_of_getElem? (i := 15) rfl))), List.forall_mem_cons.mpr ⟨pz_flm (i := 25) (c := 7) (k := 1) rfl (Nat.le_of_ble_eq_true rfl) (List.mem_append_right _ (pz_ti15 _ (List.mem_of_getElem? (i := 8) rfl))), List.forall_mem_nil _⟩⟩⟩⟩⟩)
def fl_RX8 : List (Nat × Nat × Nat) := [(9, 8, 4), (15, 8, 5), (18, 8, 6), (21, 8, 7), (24, 8, 0), (34, 8, 3), (50, 8, 1), (59, 8, 2)]
def fp_RX8 : List Nat := [346, 347, 348, 349, 340, 345, 341, 343]
theorem fl_RX8_ok : fl_RX8.all (pz_flc RX8) = true := List.all_eq_true.mpr (List.forall_mem_cons.mpr ⟨pz_flm (i := 9) (c := 8) (k := 4) rfl (Nat.le_of_ble_eq_true rfl) (List.mem_append_right _ (pz_ti21 _ (List.mem_of_getElem? (i := 10) rfl))), List.forall_mem_cons.mpr ⟨pz_flm (i := 15) (c := 8) (k := 5) rfl (Nat.le_of_ble_eq_true rfl) (List.mem_append_right _ (pz_ti21 _ (List.mem_of_getElem? (i := 11) rfl))), List.forall_mem_cons.mpr ⟨pz_flm (i := 18) (c := 8) (k := 6) rfl (Nat.le_of_ble_eq_true rfl) (List.mem_append_right _ (pz_ti21 _ (List.mem_of_getElem? (i := 12) rfl))), List.forall_mem_cons.mpr ⟨pz_flm (i := 21) (c := 8) (k := 7) rfl (Nat.le_of_ble_eq_true rfl) (List.mem_append_right _ (pz_ti21 _ (List.mem_of_getElem? (i := 13) rfl))), List.forall_mem_cons.mpr ⟨pz_flm (i := 24) (c := 8) (k := 0) rfl (Nat.le_of_ble_eq_true rfl) (List.mem_append_right _ (pz_ti21 _ (List.mem_of_getElem? (i := 4) rfl))), List.forall_mem_cons.mpr ⟨pz_flm (i := 34) (c := 8) (k := 3) rfl (Nat.le_of_ble_eq_true rfl) (List.mem_append_right _ (pz_ti21 _ (List.mem_of_getElem? (i := 9) rfl))), List.forall_mem_cons.mpr ⟨pz_flm (i := 50) (c := 8) (k := 1) rfl (Nat.le_of_ble_eq_true rfl) (List.mem_append_right _ (pz_ti21 _ (List.mem_of_getElem? (i := 5) rfl))), List.forall_mem_cons.mpr ⟨pz_flm (i := 59) (c := 8) (k := 2) rfl (Nat.le_of_ble_eq_true rfl) (List.mem_append_right _ (pz_ti21 _ (List.mem_of_getElem? (i := 7) rfl))), List.forall_mem_nil _⟩⟩⟩⟩⟩⟩⟩⟩)
def fl_RX12 : List (Nat × Nat × Nat) := [(7, 12, 0), (13, 12, 1), (16, 12, 2), (19, 12, 3), (22, 12, 6), (25, 12, 7), (28, 12, 8), (31, 12, 9), (34, 12, 10), (37, 12, 11), (40, 12, 25), (44, 12, 27), (68, 12, 4), (80, 12, 16), (83, 12, 17), (86, 12, 19), (150, 12, 12), (167, 12, 18), (179, 12, 20), (182, 12, 21), (185, 12, 22), (194, 12, 14), (197, 12, 24), (229, 12, 13), (238, 12, 15), (270, 12, 23), (313, 12, 26), (464, 12, 5)]
def fp_RX12 : List Nat := [1120, 1121, 1122, 1123, 1126, 1127, 1128, 1129, 1130, 1131, 1145, 1147, 1124, 1136, 1137, 1139, 1132, 1138, 1140, 1141, 1142, 1134, 1144, 1133, 1135, 1143, 1146, 1125]
theorem fl_RX12_ok : fl_RX12.all (pz_flc RX12) = true := List.all_eq_true.mpr (List.forall_mem_cons.mpr ⟨pz_flm (i := 7) (c := 12) (k := 0) rfl (Nat.le_of_ble_eq_true rfl) (List.mem_append_right _ (pz_ti70 _ (List.mem_of_getElem? (i := 0) rfl))), List.forall_mem_cons.mpr ⟨pz_flm (i := 13) (c := 12) (k := 1) rfl (Nat.le_of_ble_eq_true rfl) (List.mem_append_right _ (pz_ti70 _ (List.mem_of_getElem? (i := 1) rfl))), List.forall_mem_cons.mpr ⟨pz_flm (i := 16) (c := 12) (k := 2) rfl (Nat.le_of_ble_eq_true rfl) (List.mem_append_right _ (pz_ti70 _ (List.mem_of_getElem? (i := 2) rfl))), List.forall_mem_cons.mpr ⟨pz_flm (i := 19) (c := 12) (k := 3) rfl (Nat.le_of_ble_eq_true rfl) (List.mem_append_right _ (pz_ti70 _ (List.mem_of_getElem? (i := 3) rfl))), List.forall_mem_cons.mpr ⟨pz_flm (i := 22) (c := 12) (k := 6) rfl (Nat.le_of_ble_eq_true rfl) (List.mem_append_right _ (pz_ti70 _ (List.mem_of_getElem? (i := 6) rfl))), List.forall_mem_cons.mpr ⟨pz_flm (i := 25) (c := 12) (k := 7) rfl (Nat.le_of_ble_eq_true rfl) (List.mem_append_right _ (pz_ti70 _ (List.mem_of_getElem? (i := 7) rfl))), List.forall_mem_cons.mpr ⟨pz_flm (i := 28) (c := 12) (k := 8) rfl (Nat.le_of_ble_eq_true rfl) (List.mem_append_right _ (pz_ti70 _ (List.mem_of_getElem? (i := 8) rfl))), List.forall_mem_cons.mpr ⟨pz_flm (i := 31) (c := 12) (k := 9) rfl (Nat.le_of_ble_eq_true rfl) (List.mem_append_right _ (pz_ti70 _ (List.mem_of_getElem? (i := 9) rfl))), List.forall_mem_cons.mpr ⟨pz_flm (i := 34) (c := 12) (k := 10) rfl (Nat.le_of_ble_eq_true rfl) (List.mem_append_right _ (pz_ti70 _ (List.mem_of_getElem? (i := 10) rfl))), List.forall_mem_cons.mpr ⟨pz_flm (i := 37) (c := 12) (k := 11) rfl (Nat.le_of_ble_eq_true rfl) (List.mem_append_right _ (pz_ti70 _ (List.mem_of_getElem? (i := 11) rfl))), List.forall_mem_cons.mpr ⟨pz_flm (i := 40) (c := 12) (k := 25) rfl (Nat.le_of_ble_eq_true rfl) (List.mem_append_right _ (pz_ti71 _ (List.mem_of_getElem? (i := 9) rfl))), List.forall_mem_cons.mpr ⟨pz_flm (i := 44) (c := 12) (k := 27) rfl (Nat.le_of_ble_eq_true rfl) (List.mem_append_right _ (pz_ti71 _ (List.mem_of_getElem? (i := 11) rfl))), List.forall_mem_cons.mpr ⟨pz_flm (i := 68) (c := 12) (k := 4) rfl (Nat.le_of_ble_eq_true rfl) (List.mem_append_right _ (pz_ti70 _ (List.mem_of_getElem? (i := 4) rfl))), List.forall_mem_cons.mpr ⟨pz_flm (i := 80) (c := 12) (k := 16) rfl (Nat.le_of_ble_eq_true rfl) (List.mem_append_right _ (pz_ti71 _ (List.mem_of_getElem? (i := 0) rfl))), List.forall_mem_cons.mpr ⟨pz_flm (i := 83) (c := 12) (k := 17) rfl (Nat.le_of_ble_eq_true rfl) (List.mem_append_right _ (pz_ti71 _ (List.mem_of_getElem? (i := 1) rfl))), List.forall_mem_cons.mpr ⟨pz_flm (i := 86) (c := 12) (k := 19) rfl (Nat.le_of_ble_eq_true rfl) (List.mem_append_right _ (pz_ti71 _ (List.mem_of_getElem? (i := 3) rfl))), List.forall_mem_cons.mpr ⟨pz_flm (i := 150) (c := 12) (k := 12) rfl (Nat.le_of_ble_eq_true rfl) (List.mem_append_right _ (pz_ti70 _ (List.mem_of_getElem? (i := 12) rfl))), List.forall_mem_cons.mpr ⟨pz_flm (i := 167) (c := 12) (k := 18) rfl (Nat.le_of_ble_eq_true rfl) (List.mem_append_right _ (pz_ti71 _ (List.mem_of_getElem? (i := 2) rfl))), List.forall_mem_cons.mpr ⟨pz_flm (i := 179) (c := 12) (k := 20) rfl (Nat.le_of_ble_eq_true rfl) (List.mem_append_right _ (pz_ti71 _ (List.mem_of_getElem? (i := 4) rfl))), List.forall_mem_cons.mpr ⟨pz_flm (i := 182) (c := 12) (k := 21) rfl (Nat.le_of_ble_eq_true rfl) (List.mem_append_right _ (pz_ti71 _ (List.mem_of_getElem? (i := 5) rfl))), List.forall_mem_cons.mpr ⟨pz_flm (i := 185) (c := 12) (k := 22) rfl (Nat.le_of_ble_eq_true rfl) (List.mem_append_right _ (pz_ti71 _ (List.mem_of_getElem? (i := 6) rfl))), List.forall_mem_cons.mpr ⟨pz_flm (i := 194) (c := 12) (k := 14) rfl (Nat.le_of_ble_eq_true rfl) (List.mem_append_right _ (pz_ti70 _ (List.mem_of_getElem? (i := 14) rfl))), List.forall_mem_cons.mpr ⟨pz_flm (i := 197) (c := 12) (k := 24) rfl (Nat.le_of_ble_eq_true rfl) (List.mem_append_right _ (pz_ti71 _ (List.mem_of_getElem? (i := 8) rfl))), List.forall_mem_cons.mpr ⟨pz_flm (i := 229) (c := 12) (k := 13) rfl (Nat.le_of_ble_eq_true rfl) (List.mem_append_right _ (pz_ti70 _ (List.mem_of_getElem? (i := 13) rfl))), List.forall_mem_cons.mpr ⟨pz_flm (i := 238) (c := 12) (k := 15) rfl (Nat.le_of_ble_eq_true rfl) (List.mem_append_right _ (pz_ti70 _ (List.mem_of_getElem? (i := 15) rfl))), List.forall_mem_cons.mpr ⟨pz_flm (i := 270) (c := 12) (k := 23) rfl (Nat.le_of_ble_eq_true rfl) (List.mem_append_right _ (pz_ti71 _ (List.mem_of_getElem? (i := 7) rfl))), List.forall_mem_cons.mpr ⟨pz_flm (i := 313) (c := 12) (k := 26) rfl (Nat.le_of_ble_eq_true rfl) (List.mem_append_right _ (pz_ti71 _ (List.mem_of_getElem? (i := 10) rfl))), List.forall_mem_cons.mpr ⟨pz_flm (i := 464) (c := 12) (k := 5) rfl (Nat.le_of_ble_eq_true rfl) (List.mem_append_right _ (pz_ti70 _ (List.mem_of_getElem? (i := 5) rfl))), List.forall_mem_nil _⟩⟩⟩⟩⟩⟩⟩⟩⟩⟩⟩⟩⟩⟩⟩⟩⟩⟩⟩⟩⟩⟩⟩⟩⟩⟩⟩⟩)
def ci_RX0 : List (Nat × pz_V) := [(46, .inl (1664525)), (47, .inl (1013904223))]
theorem ci_RX0_ok : ci_RX0.all (pz_cic RX0) = true := by decide +kernel
def ci_RJ6 : List (Nat × pz_V) := [(265, .inl (1431655765)), (266, .inl (858993459)), (267, .inl (252645135))]
theorem ci_RJ6_ok : ci_RJ6.all (pz_cic RJ6) = true := by decide +kernel
def ci_RX7 : List (Nat × pz_V) := [(52, .inr (.inr (99, 206)))]
theorem ci_RX7_ok : ci_RX7.all (pz_cic RX7) = true := by decide +kernel
def ci_RX11 : List (Nat × pz_V) := [(205, .inl (-100000)), (271, .inl (1000000)), (275, .inl (500000)), (307, .inr (.inl (1000000)))]
theorem ci_RX11_ok : ci_RX11.all (pz_cic RX11) = true := by decide +kernel
def ci_RX4 : List (Nat × pz_V) := [(28, .inl (1000000)), (36, .inr (.inl (1000000)))]
theorem ci_RX4_ok : ci_RX4.all (pz_cic RX4) = true := by decide +kernel
def ci_RX12 : List (Nat × pz_V) := [(74, .inl (1664525)), (75, .inl (1013904223)), (99, .inr (.inr (99, 215))), (105, .inr (.inr (99, 216))), (107, .inr (.inr (99, 217))), (109, .inr (.inr (99, 218))), (111, .inr (.inr (99, 219))), (113, .inr (.inr (99, 220))), (115, .inr (.inr (99, 221))), (117, .inr (.inr (99, 222))), (119, .inr (.inr (99, 223))), (121, .inr (.inr (99, 207))), (123, .inr (.inr (99, 208))), (125, .inr (.inr (99, 209))), (127, .inr (.inr (99, 210))), (129, .inr (.inr (99, 211))), (131, .inr (.inr (99, 212))), (133, .inr (.inr (99, 213))), (135, .inr (.inr (99, 214))), (140, .inr (.inr (99, 224))), (142, .inr (.inr (99, 225))), (144, .inr (.inr (99, 226))), (146, .inr (.inr (99, 227))), (148, .inr (.inr (99, 228))), (159, .inr (.inr (99, 229))), (161, .inr (.inr (99, 230))), (391, .inl (-100000)), (404, .inr (.inl (1000000))), (406, .inr (.inl (1000))), (419, .inr (.inl (500000))), (421, .inl (1000000)), (425, .inr (.inl (-1))), (448, .inl (1000000000))]
theorem ci_RX12_ok : ci_RX12.all (pz_cic RX12) = true := by decide +kernel
end
section
theorem pz_kd0 {a : Nat} (h : pz_kd a = 0) : 71 ≤ a ∧ a < 80 := by
  have key : ∀ a, a < 206 → pz_kd a = 0 → 71 ≤ a ∧ a < 80 := by decide +kernel
  exact key a (pz_kd_lo h (by decide)) h
theorem pz_kd1 {a : Nat} (h : pz_kd a = 1) : a = 2 := by
  have key : ∀ a, a < 206 → pz_kd a = 1 → a = 2 := by decide +kernel
  exact key a (pz_kd_lo h (by decide)) h
theorem pz_kd2 {a : Nat} (h : pz_kd a = 2) : a = 3 := by
  have key : ∀ a, a < 206 → pz_kd a = 2 → a = 3 := by decide +kernel
  exact key a (pz_kd_lo h (by decide)) h
theorem pz_kd3 {a : Nat} (h : pz_kd a = 3) : 10 ≤ a ∧ a < 13 := by
  have key : ∀ a, a < 206 → pz_kd a = 3 → 10 ≤ a ∧ a < 13 := by decide +kernel
  exact key a (pz_kd_lo h (by decide)) h
theorem pz_kd4 {a : Nat} (h : pz_kd a = 4) : a = 6 := by
  have key : ∀ a, a < 206 → pz_kd a = 4 → a = 6 := by decide +kernel
  exact key a (pz_kd_lo h (by decide)) h
theorem pz_kd5 {a : Nat} (h : pz_kd a = 5) : 89 ≤ a ∧ a < 206 := by
  have key : ∀ a, a < 206 → pz_kd a = 5 → 89 ≤ a ∧ a < 206 := by decide +kernel
  exact key a (pz_kd_lo h (by decide)) h
theorem pz_kd6 {a : Nat} (h : pz_kd a = 6) : 13 ≤ a ∧ a < 20 := by
  have key : ∀ a, a < 206 → pz_kd a = 6 → 13 ≤ a ∧ a < 20 := by decide +kernel
  exact key a (pz_kd_lo h (by decide)) h
theorem pz_kd7 {a : Nat} (h : pz_kd a = 7) : a = 4 := by
  have key : ∀ a, a < 206 → pz_kd a = 7 → a = 4 := by decide +kernel
  exact key a (pz_kd_lo h (by decide)) h
theorem pz_kd8 {a : Nat} (h : pz_kd a = 8) : a = 7 := by
  have key : ∀ a, a < 206 → pz_kd a = 8 → a = 7 := by decide +kernel
  exact key a (pz_kd_lo h (by decide)) h
theorem pz_kd9 {a : Nat} (h : pz_kd a = 9) : a = 5 := by
  have key : ∀ a, a < 206 → pz_kd a = 9 → a = 5 := by decide +kernel
  exact key a (pz_kd_lo h (by decide)) h
theorem pz_kd10 {a : Nat} (h : pz_kd a = 10) : 8 ≤ a ∧ a < 10 := by
  have key : ∀ a, a < 206 → pz_kd a = 10 → 8 ≤ a ∧ a < 10 := by decide +kernel
  exact key a (pz_kd_lo h (by decide)) h
theorem pz_kd11 {a : Nat} (h : pz_kd a = 11) : a = 0 := by
  have key : ∀ a, a < 206 → pz_kd a = 11 → a = 0 := by decide +kernel
  exact key a (pz_kd_lo h (by decide)) h
theorem pz_kd12 {a : Nat} (h : pz_kd a = 12) : a = 1 := by
  have key : ∀ a, a < 206 → pz_kd a = 12 → a = 1 := by decide +kernel
  exact key a (pz_kd_lo h (by decide)) h
theorem pz_kd99 {a : Nat} (h : pz_kd a = 99) : 206 ≤ a := by
  rcases Nat.lt_or_ge a 206 with q | q
  · have key : ∀ a, a < 206 → pz_kd a ≠ 99 := by decide +kernel
    exact absurd h (key a q)
  · exact q
/-- what a class' method leaves: the model's memory; and the other way round -/
def pz_mid (b : Nat) : Prop := b = 1 ∨ (60 ≤ b ∧ b < 71)
def pz_ic (M : pz_M) : Prop :=
  (∀ c, 71 ≤ c → c < 80 → 0 ≤ M c 3 ∧ M c 3 ≤ 12 ∧ 0 ≤ M c 7 ∧ M c 7 ≤ 150) ∧ (0 ≤ M 3 1 ∧ M 3 1 ≤ 5) ∧ (∀ r, 13 ≤ r → r < 20 → 0 ≤ M r 0 ∧ M r 0 ≤ 16) ∧ (∀ L, 10 ≤ L → L < 13 → 0 ≤ M L 0 ∧ M L 0 ≤ 16 ∧ 0 ≤ M L 1 ∧ M L 1 ≤ 400) ∧ (0 ≤ M 4 1 ∧ M 4 1 ≤ 400) ∧ (0 ≤ M 7 3 ∧ M 7 3 ≤ 12)
/-- a step of the class: its invariant and the model's memory stay; pz_st: the length of the tape and the number of open ones, too -/
def pz_ko (b j : Nat) : Prop := (b = 0 ∧ j = 13) ∨ b = 3 ∨ (j = 3 ∧ 71 ≤ b ∧ b ≠ 72 ∧ ¬ (102 ≤ b ∧ b < 115)) ∨ (b = 5 ∧ (j = 3 ∨ j = 4)) ∨ b = 48
def pz_kx (b j : Nat) : Prop := (b = 0 ∧ j = 13) ∨ b = 3 ∨ (j = 3 ∧ 71 ≤ b ∧ b ≠ 72 ∧ ¬ (102 ≤ b ∧ b < 115)) ∨ (b = 5 ∧ (j = 3 ∨ j = 4)) ∨ b = 48 ∨ (10 ≤ b ∧ b ≤ 37 ∧ b ≠ 12 ∧ b ≠ 19 ∧ b ≠ 26 ∧ b ≠ 32)
def pz_md (b j : Nat) : Prop := pz_mid b ∨ pz_kx b j
def pz_mq0 (b j : Nat) : Prop := pz_mid b ∨ pz_ko b j
theorem pz_mo_md {b j : Nat} (h : pz_mq0 b j) : pz_md b j := by
  rcases h with h | h
  · exact Or.inl h
  · exact Or.inr (by unfold pz_ko at h; unfold pz_kx; omega)
def pz_sy (M M' : pz_M) : Prop := (pz_ic M → pz_ic M') ∧ ∀ b j : Nat, pz_md b j → M' b j = M b j
def pz_si (M M' : pz_M) : Prop := (pz_ic M → pz_ic M') ∧ (∀ b j : Nat, pz_mid b → M' b j = M b j) ∧ M' 4 1 = M 4 1 ∧ M' 5 9 = M 5 9
theorem pz_si.rf {M : pz_M} : pz_si M M := ⟨id, fun _ _ _ => rfl, rfl, rfl⟩
theorem pz_si.tr {M M' M'' : pz_M} (h : pz_si M M') (h' : pz_si M' M'') : pz_si M M'' := ⟨fun q => h'.1 (h.1 q), fun b j q => (h'.2.1 b j q).trans (h.2.1 b j q), h'.2.2.1.trans h.2.2.1, h'.2.2.2.trans h.2.2.2⟩
def pz_st (M M' : pz_M) : Prop := pz_sy M M' ∧ M' 4 1 = M 4 1 ∧ M' 5 9 = M 5 9
theorem pz_sy.rf {M : pz_M} : pz_sy M M := ⟨id, fun _ _ _ => rfl⟩
theorem pz_sy.tr {M M' M'' : pz_M} (h : pz_sy M M') (h' : pz_sy M' M'') : pz_sy M M'' := ⟨fun q => h'.1 (h.1 q), fun b j q => (h'.2 b j q).trans (h.2 b j q)⟩
theorem pz_st.rf {M : pz_M} : pz_st M M := ⟨pz_sy.rf, rfl, rfl⟩
theorem pz_st.tr {M M' M'' : pz_M} (h : pz_st M M') (h' : pz_st M' M'') : pz_st M M'' := ⟨h.1.tr h'.1, h'.2.1.trans h.2.1, h'.2.2.trans h.2.2⟩
/-- the invariant alone -/
def pz_rt (M M' : pz_M) : Prop := pz_ic M → pz_ic M'
theorem pz_rt.rf {M : pz_M} : pz_rt M M := id
theorem pz_rt.tr {M M' M'' : pz_M} (h : pz_rt M M') (h' : pz_rt M' M'') : pz_rt M M'' := fun q => h' (h q)
theorem pz_st.rt {M M' : pz_M} (h : pz_st M M') : pz_rt M M' := h.1.1
/-- what may be put where -/
def pz_iok (a k : Nat) (v : Int) : Prop :=
  (71 ≤ a → a < 80 → k = 3 → 0 ≤ v ∧ v ≤ 12) ∧ (71 ≤ a → a < 80 → k = 7 → 0 ≤ v ∧ v ≤ 150) ∧ (a = 3 → k = 1 → 0 ≤ v ∧ v ≤ 5) ∧ (13 ≤ a → a < 20 → k = 0 → 0 ≤ v ∧ v ≤ 16) ∧ (10 ≤ a → a < 13 → k = 0 → 0 ≤ v ∧ v ≤ 16) ∧ (10 ≤ a → a < 13 → k = 1 → 0 ≤ v ∧ v ≤ 400) ∧ (a = 4 → k = 1 → 0 ≤ v ∧ v ≤ 400) ∧ (a = 7 → k = 3 → 0 ≤ v ∧ v ≤ 12)
theorem pz_uv (M : pz_M) (a k : Nat) (v : Int) (b j : Nat) : (b = a ∧ j = k ∧ pz_u M a k v b j = v) ∨ (¬ (b = a ∧ j = k) ∧ pz_u M a k v b j = M b j) := by
  unfold pz_u
  by_cases h : b = a ∧ j = k
  · exact Or.inl ⟨h.1, h.2, if_pos h⟩
  · exact Or.inr ⟨h, if_neg h⟩
theorem pz_ic_u {M : pz_M} {a k : Nat} {v : Int} (h : pz_iok a k v) (hI : pz_ic M) : pz_ic (pz_u M a k v) := by
  obtain ⟨i1, i2, i3, i4, i5, i6⟩ := hI
  obtain ⟨o1, o2, o3, o4, o5, o6, o7, o8⟩ := h
  refine ⟨fun c h1 h2 => ?_, ?_, fun r h1 h2 => ?_, fun L h1 h2 => ?_, ?_, ?_⟩
  · have j1 : 0 ≤ pz_u M a k v c 3 ∧ pz_u M a k v c 3 ≤ 12 := by
      rcases pz_uv M a k v c 3 with ⟨ha, hk, hv⟩ | ⟨-, hv⟩
      · rw [hv]
        exact o1 (by omega) (by omega) hk.symm
      · rw [hv]
        exact ⟨(i1 c h1 h2).1, (i1 c h1 h2).2.1⟩
    have j2 : 0 ≤ pz_u M a k v c 7 ∧ pz_u M a k v c 7 ≤ 150 := by
      rcases pz_uv M a k v c 7 with ⟨ha, hk, hv⟩ | ⟨-, hv⟩
      · rw [hv]
        exact o2 (by omega) (by omega) hk.symm
      · rw [hv]
        exact (i1 c h1 h2).2.2
    exact ⟨j1.1, j1.2, j2⟩
  · rcases pz_uv M a k v 3 1 with ⟨ha, hk, hv⟩ | ⟨-, hv⟩
    · rw [hv]
      exact o3 ha.symm hk.symm
    · rw [hv]
      exact i2
  · rcases pz_uv M a k v r 0 with ⟨ha, hk, hv⟩ | ⟨-, hv⟩
    · rw [hv]
      exact o4 (by omega) (by omega) hk.symm
    · rw [hv]
      exact i3 r h1 h2
  · have j1 : 0 ≤ pz_u M a k v L 0 ∧ pz_u M a k v L 0 ≤ 16 := by
      rcases pz_uv M a k v L 0 with ⟨ha, hk, hv⟩ | ⟨-, hv⟩
      · rw [hv]
        exact o5 (by omega) (by omega) hk.symm
      · rw [hv]
        exact ⟨(i4 L h1 h2).1, (i4 L h1 h2).2.1⟩
    have j2 : 0 ≤ pz_u M a k v L 1 ∧ pz_u M a k v L 1 ≤ 400 := by
      rcases pz_uv M a k v L 1 with ⟨ha, hk, hv⟩ | ⟨-, hv⟩
      · rw [hv]
        exact o6 (by omega) (by omega) hk.symm
      · rw [hv]
        exact (i4 L h1 h2).2.2
    exact ⟨j1.1, j1.2, j2⟩
  · rcases pz_uv M a k v 4 1 with ⟨ha, hk, hv⟩ | ⟨-, hv⟩
    · rw [hv]
      exact o7 ha.symm hk.symm
    · rw [hv]
      exact i5
  · rcases pz_uv M a k v 7 3 with ⟨ha, hk, hv⟩ | ⟨-, hv⟩
    · rw [hv]
      exact o8 ha.symm hk.symm
    · rw [hv]
      exact i6
theorem pz_sy_u {M M' : pz_M} {a k : Nat} {v : Int} (hs : pz_sy M M') (hm : ¬ pz_md a k) (h : pz_iok a k v) : pz_sy M (pz_u M' a k v) := by
  refine ⟨fun q => pz_ic_u h (hs.1 q), fun b j hb => ?_⟩
  rcases pz_uv M' a k v b j with ⟨e1, e2, -⟩ | ⟨-, e⟩
  · subst e1; subst e2
    exact absurd hb hm
  · rw [e]
    exact hs.2 b j hb
theorem pz_rt_u {M M' : pz_M} {a k : Nat} {v : Int} (hs : pz_rt M M') (h : pz_iok a k v) : pz_rt M (pz_u M' a k v) := fun q => pz_ic_u h (hs q)
theorem pz_si_u {M M' : pz_M} {a k : Nat} {v : Int} (hs : pz_si M M') (hm : ¬ pz_mid a) (h4 : ¬ (a = 4 ∧ k = 1) ∧ ¬ (a = 5 ∧ k = 9)) (h : pz_iok a k v) : pz_si M (pz_u M' a k v) := by
  refine ⟨fun q => pz_ic_u h (hs.1 q), fun b j hb => ?_, ?_, ?_⟩
  · have hne : b ≠ a := fun e => hm (e ▸ hb)
    rw [pz_una hne]
    exact hs.2.1 b j hb
  · have q1 := pz_uv M' a k v 4 1
    have := hs.2.2.1
    omega
  · have q1 := pz_uv M' a k v 5 9
    have := hs.2.2.2
    omega
theorem pz_st.si {M M' : pz_M} (h : pz_st M M') : pz_si M M' := ⟨h.1.1, fun b j q => h.1.2 b j (Or.inl q), h.2.1, h.2.2⟩
theorem pz_st_u {M M' : pz_M} {a k : Nat} {v : Int} (hs : pz_st M M') (hm : ¬ pz_md a k) (h4 : ¬ (a = 4 ∧ k = 1) ∧ ¬ (a = 5 ∧ k = 9)) (h : pz_iok a k v) : pz_st M (pz_u M' a k v) := by
  refine ⟨pz_sy_u hs.1 hm h, ?_, ?_⟩
  · have q1 := pz_uv M' a k v 4 1
    have := hs.2.1
    omega
  · have q1 := pz_uv M' a k v 5 9
    have := hs.2.2
    omega
def pz_ckm (a k : Nat) : Bool := match pz_rk (pz_kd a) k with
  | some _ => decide (a = 1) || decide (13 ≤ pz_kd a) || decide (pz_rf a k ≠ 1 ∧ (pz_rf a k < 60 ∨ 71 ≤ pz_rf a k))
  | none => true
theorem pz_ckm_ok : ∀ a, a < 206 → ∀ k, k < 28 → pz_ckm a k = true := by decide +kernel
/-- what a thing of the class refers to is no thing of the model -/
theorem pz_nm {z a j k : Nat} (e : z = pz_rf a j) (h : pz_kd a = k) (hk : k < 12) (hj : j < 28) (hr : (pz_rk k j).isSome = true) : z ≠ 1 ∧ (z < 60 ∨ 71 ≤ z) := by
  subst h
  subst e
  have h1 := pz_ckm_ok a (pz_kd_lo rfl (by omega)) j hj
  unfold pz_ckm at h1
  cases hq : pz_rk (pz_kd a) j with
  | none => rw [hq] at hr; cases hr
  | some kr =>
    rw [hq] at h1
    simp only [Bool.or_eq_true, decide_eq_true_eq] at h1
    rcases h1 with (h1 | h1) | h1
    · subst h1
      exact absurd hk (by decide)
    · omega
    · exact h1
theorem pz_kdA {a k : Nat} (h : pz_kd a = k) (h1 : 13 ≤ k) (h2 : k < 29) : 20 ≤ a ∧ a < 71 := by
  have key : ∀ a, a < 206 → 13 ≤ pz_kd a → pz_kd a < 29 → 20 ≤ a ∧ a < 71 := by decide +kernel
  exact key a (pz_kd_lo h (by omega)) (by omega) (by omega)
theorem pz_st_c {M M' : pz_M} {a1 sp a2 dp n : Nat} (hs : pz_st M M') (h1 : 45 ≤ a2 ∧ a2 ≤ 46) (h2 : a2 ≠ 1) : pz_st M (pz_cpy M' a1 sp a2 dp n) := by
  have key : ∀ b j, b ≠ a2 → pz_cpy M' a1 sp a2 dp n b j = M' b j := fun b j hb => by
    unfold pz_cpy
    rw [if_neg (fun z => hb z.1)]
  refine ⟨⟨fun q => ?_, fun b j hb => ?_⟩, ?_, ?_⟩
  · obtain ⟨i1, i2, i3, i4, i5, i6⟩ := hs.1.1 q
    refine ⟨fun c q1 q2 => ?_, ?_, fun r q1 q2 => ?_, fun L q1 q2 => ?_, ?_, ?_⟩
    · rw [key c 3 (by omega), key c 7 (by omega)]; exact i1 c q1 q2
    · rw [key 3 1 (by omega)]; exact i2
    · rw [key r 0 (by omega)]; exact i3 r q1 q2
    · rw [key L 0 (by omega), key L 1 (by omega)]; exact i4 L q1 q2
    · rw [key 4 1 (by omega)]; exact i5
    · rw [key 7 3 (by omega)]; exact i6
  · rw [key b j (by unfold pz_md pz_kx pz_mid at hb; omega)]
    exact hs.1.2 b j hb
  · rw [key 4 1 (by omega)]
    exact hs.2.1
  · rw [key 5 9 (by omega)]
    exact hs.2.2
theorem pz_rt_c {M : pz_M} {a1 sp a2 dp n : Nat} (h1 : 20 ≤ a2 ∧ a2 < 60) : pz_rt M (pz_cpy M a1 sp a2 dp n) := by
  have key : ∀ b j, b ≠ a2 → pz_cpy M a1 sp a2 dp n b j = M b j := fun b j hb => by
    unfold pz_cpy
    rw [if_neg (fun z => hb z.1)]
  intro q
  obtain ⟨i1, i2, i3, i4, i5, i6⟩ := q
  refine ⟨fun c q1 q2 => ?_, ?_, fun r q1 q2 => ?_, fun L q1 q2 => ?_, ?_, ?_⟩
  · rw [key c 3 (by omega), key c 7 (by omega)]; exact i1 c q1 q2
  · rw [key 3 1 (by omega)]; exact i2
  · rw [key r 0 (by omega)]; exact i3 r q1 q2
  · rw [key L 0 (by omega), key L 1 (by omega)]; exact i4 L q1 q2
  · rw [key 4 1 (by omega)]; exact i5
  · rw [key 7 3 (by omega)]; exact i6
theorem pz_shl1 {c : Int} (h0 : 0 ≤ c) (h1 : c ≤ 12) : 1 ≤ (Int32.ofInt 1 <<< (Int32.ofInt c &&& 31)).toInt ∧ (Int32.ofInt 1 <<< (Int32.ofInt c &&& 31)).toInt ≤ 4096 ∧ (c ≤ 11 → (Int32.ofInt 1 <<< (Int32.ofInt c &&& 31)).toInt ≤ 2048) := by
  have h : c = 0 ∨ c = 1 ∨ c = 2 ∨ c = 3 ∨ c = 4 ∨ c = 5 ∨ c = 6 ∨ c = 7 ∨ c = 8 ∨ c = 9 ∨ c = 10 ∨ c = 11 ∨ c = 12 := by omega
  rcases h with rfl | rfl | rfl | rfl | rfl | rfl | rfl | rfl | rfl | rfl | rfl | rfl | rfl <;> decide +kernel
theorem pz_n12 {x : Int} (h0 : 0 ≤ x) (h1 : x < 4096) : (Int32.ofInt x).toBitVec.toNat = x.toNat := by
  have e : (Int32.ofInt x) = Int32.ofNat x.toNat := by rw [← Int32.ofInt_eq_ofNat]; congr 1; omega
  rw [e]
  exact pk_tn (n := x.toNat) (by omega)
theorem pz_xor12 {x y : Int} (hx0 : 0 ≤ x) (hx : x < 4096) (hy0 : 0 ≤ y) (hy : y < 4096) : 0 ≤ (Int32.ofInt x ^^^ Int32.ofInt y).toInt ∧ (Int32.ofInt x ^^^ Int32.ofInt y).toInt < 4096 := by
  have h : (Int32.ofInt x ^^^ Int32.ofInt y).toBitVec.toNat < 2 ^ 12 := by
    show ((Int32.ofInt x).toBitVec ^^^ (Int32.ofInt y).toBitVec).toNat < 2 ^ 12
    rw [BitVec.toNat_xor, pz_n12 hx0 hx, pz_n12 hy0 hy]
    exact Nat.xor_lt_two_pow (by omega) (by omega)
  have e : (Int32.ofInt x ^^^ Int32.ofInt y).toInt = ((Int32.ofInt x ^^^ Int32.ofInt y).toBitVec.toNat : Int) := by
    show (Int32.ofInt x ^^^ Int32.ofInt y).toBitVec.toInt = _
    rw [BitVec.toInt_eq_toNat_cond]
    rw [if_pos (by omega)]
  rw [e]
  omega
end
section
/-! a String's length() and charAt(): by hand, for they read cells that the world doesn't hold -/
def pz_J (y : MethodName) (cc : ByteArray) (maxL : Nat) (ret : Option FieldType) (fr lo : Nat) (av : List Value) (rv : Option Value) (D : va_G) (ad adV : Nat → Nat) (cy : Nat → ClassId) (A : Nat → Prop) (M : pz_M) : Prop :=
  ∀ l : Launch, Met l y (.code y cc maxL ret :: pz_tbl) { frames := fr, cells := 0, slots := 0, locals := lo } (va_Pc av (pz_G D ad adV cy A M)) (fun _ st o t => (o = .returned rv ∧ pz_G D ad adV cy A M t) ∧ va_F A st t) 0 0 A
theorem pz_Jmk {y : MethodName} {cc : ByteArray} {maxL : Nat} {ret : Option FieldType} {fr lo : Nat} {av : List Value} {rv : Option Value} {D : va_G} {ad adV : Nat → Nat} {cy : Nat → ClassId} {A : Nat → Prop} {M : pz_M} (hy : plainFor y = true)
    (vc : ∀ (p : Program) (l : Launch) (e : Env) (s : State) (m : MethodId) (below : List Frame) (meth : Method) (c : Code) (Q : State → Prop), pz_Y p s m av.toArray c cc y.cls maxL D ad adV cy A → va_P D vwCl (pz_ws ad cy M) s.heap → (∀ a k : Nat, pz_c (M a k)) →
      (∀ (v : Int32) (ty : FieldType), ret = some ty → narrow ty (.int v) = .int v → rv = some (.int v) → ∀ (H : Heap) (locs : List Loc) (ls : Array Slot) (pc : Nat), va_P D vwCl (pz_ws ad cy M) H → va_S A s.heap H locs → decode cc pc = .ok (.ireturn, 1) → W p l e { frames := fr, cells := 0, slots := 0, locals := lo } s m av.toArray below meth c H locs 0 0 Q (F0 m pc ls [.int v])) →
      (ret = none → rv = none → ∀ (H : Heap) (locs : List Loc) (ls : Array Slot) (pc : Nat), va_P D vwCl (pz_ws ad cy M) H → va_S A s.heap H locs → decode cc pc = .ok (.return_, 1) → W p l e { frames := fr, cells := 0, slots := 0, locals := lo } s m av.toArray below meth c H locs 0 0 Q (F0 m pc ls [])) →
      W p l e { frames := fr, cells := 0, slots := 0, locals := lo } s m av.toArray below meth c s.heap [] 0 0 Q (F0 m 0 ((lg_sl av ++ List.replicate (maxL - (lg_sl av).length) Slot.unset).toArray) [])) : pz_J y cc maxL ret fr lo av rv D ad adV cy A M := by
  intro l
  refine va_MetF (cc := cc) (maxL := maxL) (ret := ret) hy rfl ?_
  intro p e s m args below meth c s₁ B hml hv
  obtain ⟨rfl, hP, hX, hM⟩ := hv
  have hx := B.exec
  have hb := B.bytes
  have hr := B.returns
  have hts0 := atoms_spec (ws := .code y cc maxL ret :: pz_tbl) B.pre
  have hts : ∀ w ∈ pz_tbl, w.before av.toArray s = true := fun w hw => hts0 w (List.mem_cons_of_mem _ hw)
  have hown2 : s.vm.findClass y.cls = some m.cls := findClass_of_methodNamed B.named
  have hlocks := B.notSynchronized
  have hfin : ∀ (H : Heap) (locs : List Loc), va_P D vwCl (pz_ws ad cy M) H → va_S A s.heap H locs → ∀ t : State, t.heap = H → s.WarmedH t.vm → ((Outcome.returned rv = .returned rv ∧ pz_G D ad adV cy A M t) ∧ va_F A s t) := by
    intro H locs hP' hS' t ht hW
    exact ⟨⟨rfl, by rw [ht]; exact hP', by rw [ht]; exact (hX.kept hS'.2.1).warm hW, hM⟩, by rw [ht]; exact hS'.1, fun q h1 h2 => by rw [ht]; exact hS'.2.1 q h1 h2⟩
  rw [lg_entry_eq]
  refine vc p l e s m below meth c _ ⟨hx, hb, hml, hown2, hts, hX⟩ hP hM ?_ ?_
  · intro v ty h1 h2 h3 H locs ls pc hP' hS' hd
    subst h3
    exact W.zret (v := v) (ty := ty) hx hb (by rw [hr, h1]) h2 (fun t ht hW => hfin H locs hP' hS' t ht hW) hS'.2.2 hd
  · intro h1 h3 H locs ls pc hP' hS' hd
    subst h3
    exact W.vret hx hb (by rw [hr, h1]) (fun t ht hW => hfin H locs hP' hS' t ht hW) hS'.2.2 hd
section PZJ
variable {p : Program} {l : Launch} {e : Env} {R : Room} {s : State} {m : MethodId} {args : Array Value} {below : List Frame} {meth : Method} {c : Code} {cells slots : Nat} {Q : State → Prop}
variable {cc : ByteArray} {own : String} {nL : Nat} {D : va_G} {ad adV : Nat → Nat} {cy : Nat → ClassId} {A : Nat → Prop} {M : pz_M}
theorem pz_JfromRun {H : Heap} {locs : List Loc} {ls : Array Slot} {st0 rest : List Value} {pc : Nat} {rv : Option Value}
    (hr : va_Run p l e R s m args below meth c H locs cells slots 0 0 (F0 m pc ls st0) rest (fun st o t => (o = .returned rv ∧ pz_G D ad adV cy A M t) ∧ va_F A st t) A) (hS : va_S A s.heap H locs)
    (kk : ∀ (H' : Heap) (locs' : List Loc), va_P D vwCl (pz_ws ad cy M) H' → va_S A s.heap H' locs' → W p l e R s m args below meth c H' locs' cells slots Q (F0 m (pc + 3) ls (rv.toList ++ rest))) : W p l e R s m args below meth c H locs cells slots Q (F0 m pc ls st0) := by
  intro T hT X
  obtain ⟨v, st₀, t, T', L, h0, X', hL, e1, e2, ⟨⟨q3, q4⟩, q5⟩, st⟩ := hr T hT X
  have hv : v = rv := by cases q3; rfl
  subst hv
  have hS' : va_S A s.heap T'.heap (locs ++ L) := by
    refine ⟨?_, fun q h1 h2 => ?_, fun x hx => ?_⟩
    · have a1 := hS.1
      have a2 := q5.1
      rw [h0] at a2
      rw [e1]
      omega
    · have a1 := hS.1
      have a3 := q5.2 q (by rw [h0]; omega) h2
      rw [e1, a3, h0]
      exact hS.2.1 q h1 h2
    · rcases List.mem_append.mp hx with hx | hx
      · exact hS.2.2 x hx
      · exact hL x hx
  obtain ⟨t2, a1, b1⟩ := kk T'.heap (locs ++ L) (by rw [e1]; exact q4.1) hS' T' rfl X'
  exact ⟨t2, st t2 a1, b1⟩
theorem pz_JcS (Y : pz_Y p s m args c cc own nL D ad adV cy A) (hM : ∀ a k : Nat, pz_c (M a k)) (hcs : cells ≤ R.cells ∧ slots ≤ R.slots) {i n : Nat} {y : MethodName} {bytes : ByteArray} {maxL fr' lo' : Nat} {ret : Option FieldType} {av : List Value} {rv : Option Value} (hH : pz_J y bytes maxL ret fr' lo' av rv D ad adV cy A M) (hfr : fr' + 1 ≤ R.frames) (hlo : 8 + (maxL + 11) + lo' ≤ R.locals)
    (hn : av.length = n) (hd : y.cls ≠ "java/lang/invoke/MethodHandle" ∧ y.cls ≠ "java/lang/invoke/VarHandle" ∧ (parseMethodDescriptor y.desc).map (fun d => d.parameters.length) = some n) (hw : .code y bytes maxL ret ∈ pz_tbl ∧ .static y ∈ pz_tbl ∧ .initialized y.cls ∈ pz_tbl ∧ .methodLink own i y ∈ pz_tbl)
    {H : Heap} {locs : List Loc} {ls : Array Slot} {rest st0 : List Value} {pc : Nat} (hst : st0 = av.reverse ++ rest) (hdg : decode cc pc = .ok (.invokestatic i, 3)) (hP : va_P D vwCl (pz_ws ad cy M) H) (hS : va_S A s.heap H locs) (hls : ls.size = nL) (hrest : (rest.map fun v => v.category).sum ≤ 8)
    (kk : ∀ (H' : Heap) (locs' : List Loc), va_P D vwCl (pz_ws ad cy M) H' → va_S A s.heap H' locs' → W p l e R s m args below meth c H' locs' cells slots Q (F0 m (pc + 3) ls (rv.toList ++ rest))) : W p l e R s m args below meth c H locs cells slots Q (F0 m pc ls st0) := by
  subst hst
  obtain ⟨hx, hb, hml, hown, hts, hX⟩ := Y
  obtain ⟨w1, w3, w5, w2⟩ := hw
  have hpS : PreS s H (va_Pc av (pz_G D ad adV cy A M)) av := ⟨pz_blind D ad adV cy A _ M, fun U hU hW => ⟨rfl, by rw [hU]; exact hP, by rw [hU]; exact (hX.kept hS.2.1).warm hW, hM⟩⟩
  have hrun := va_runS (p := p) (e := e) (R := R) (s := s) (m := m) (args := args) (below := below) (meth := meth) (c := c) (H := H) (locs := locs) (cells := cells) (slots := slots) (nL := nL) (own := own) (index := i) (n := n) (As := av) (rest := rest) (g := F0 m pc ls (av.reverse ++ rest)) (Ts := pz_tbl)
      ⟨hx, hb, hml, hown, hts⟩ (hH l)
      (va_cwS n hts (pz_good (by
        intro w hw
        rcases List.mem_append.mp hw with hw | hw
        · simp only [List.mem_cons, List.not_mem_nil, or_false] at hw
          rcases hw with rfl | rfl | rfl
          · exact w2
          · exact w3
          · exact w5
        · rcases List.mem_cons.mp hw with rfl | hw
          · exact w1
          · exact hw)) rfl rfl rfl hd ⟨hfr, hlo⟩)
      hpS rfl hn hls rfl (by show 2 * 0 + _ ≤ 8; omega) hdg ⟨by simpa using hcs.1, by simpa using hcs.2⟩
  exact pz_JfromRun hrun hS kk
theorem pz_JcV (Y : pz_Y p s m args c cc own nL D ad adV cy A) (hM : ∀ a k : Nat, pz_c (M a k)) (hcs : cells ≤ R.cells ∧ slots ≤ R.slots) {i n j : Nat} {y : MethodName} {bytes : ByteArray} {maxL fr' lo' : Nat} {ret : Option FieldType} {t : List Value} {rv : Option Value} (hj : j < 25) (hC : y.cls = "java/lang/String") (hH : pz_J y bytes maxL ret fr' lo' (.ref (ad (206 + j)) :: t) rv D ad adV cy A M) (hfr : fr' + 1 ≤ R.frames) (hlo : 8 + (maxL + 11) + lo' ≤ R.locals)
    (hn : t.length = n) (hd : y.cls ≠ "java/lang/invoke/MethodHandle" ∧ y.cls ≠ "java/lang/invoke/VarHandle" ∧ (parseMethodDescriptor y.desc).map (fun d => d.parameters.length) = some n) (hw : .code y bytes maxL ret ∈ pz_tbl ∧ .methodLink own i y ∈ pz_tbl ∧ .instanceMethod y ∈ pz_tbl ∧ .selects y.cls y y ∈ pz_tbl ∧ .initialized y.cls ∈ pz_tbl)
    {H : Heap} {locs : List Loc} {ls : Array Slot} {rest st0 : List Value} {pc : Nat} (hst : st0 = t.reverse ++ .ref (ad (206 + j)) :: rest) (hdg : decode cc pc = .ok (.invokevirtual i, 3)) (hP : va_P D vwCl (pz_ws ad cy M) H) (hS : va_S A s.heap H locs) (hls : ls.size = nL) (hrest : (rest.map fun v => v.category).sum ≤ 8)
    (kk : ∀ (H' : Heap) (locs' : List Loc), va_P D vwCl (pz_ws ad cy M) H' → va_S A s.heap H' locs' → W p l e R s m args below meth c H' locs' cells slots Q (F0 m (pc + 3) ls (rv.toList ++ rest))) : W p l e R s m args below meth c H locs cells slots Q (F0 m pc ls st0) := by
  subst hst
  obtain ⟨hx, hb, hml, hown, hts, hX⟩ := Y
  obtain ⟨w1, w2, w3, w4, w5⟩ := hw
  have hcell : ∃ cellB : Cell, H[ad (206 + j)]? = some cellB ∧ cellB.vm.isStatics = false ∧ s.vm.findClass y.cls = some cellB.cls := by
    have := vk_recv (i := j) (adK := fun i => ad (206 + i)) hX.2.2.2.1 (by omega) hS
    rw [hC]
    exact this
  have hrun := va_runV (p := p) (e := e) (R := R) (s := s) (m := m) (args := args) (below := below) (meth := meth) (c := c) (H := H) (locs := locs) (cells := cells) (slots := slots) (nL := nL) (own := own) (C := y.cls) (index := i) (n := n) (b := ad (206 + j)) (As := t) (rest := rest) (g := F0 m pc ls (t.reverse ++ .ref (ad (206 + j)) :: rest)) (Ts := pz_tbl)
    ⟨hx, hb, hml, hown, hts⟩ (hH l)
    (cwV n hts (pz_good (by
      intro w hw
      rcases List.mem_append.mp hw with hw | hw
      · simp only [List.mem_cons, List.not_mem_nil, or_false] at hw
        rcases hw with rfl | rfl | rfl | rfl
        · exact w2
        · exact w3
        · exact w4
        · exact w5
      · rcases List.mem_cons.mp hw with rfl | hw
        · exact w1
        · exact hw)) rfl rfl rfl ⟨rfl, hd⟩ ⟨hfr, hlo⟩)
    ⟨pz_blind D ad adV cy A _ M, hcell, fun U hU hW => ⟨rfl, by rw [hU]; exact hP, by rw [hU]; exact (hX.kept hS.2.1).warm hW, hM⟩⟩
    rfl hn hls rfl (by show 2 * 0 + _ ≤ 8; omega) hdg ⟨by simpa using hcs.1, by simpa using hcs.2⟩
  exact pz_JfromRun hrun hS kk
end PZJ
theorem pz_gd {l : List Int32} {i : Nat} (h : i < l.length) : l.getD i 0 ∈ l := by
  rw [List.getD_eq_getElem?_getD, List.getElem?_eq_getElem h]
  exact List.getElem_mem _
section PZK
variable {D : va_G} {ad adV : Nat → Nat} {cy : Nat → ClassId} {A : Nat → Prop} {M : pz_M}
theorem pz_jsb : ∀ k, k < 25 → (pz_sb.getD k []).length = pz_stl.getD k 0 ∧ pz_stl.getD k 0 < 200 ∧ ∀ b ∈ pz_sb.getD k [], (((b &&& 255).toUInt32 % 65536).toInt32 = b ∧ narrow .char (.int b) = .int b) ∧ 0 ≤ b.toInt ∧ b.toInt ≤ 255 := by decide +kernel
theorem pz_J_coder {k : Nat} (hk : k < 25) : pz_J yJ0_coder_7d493 cJ0_coder_7d493 1 (some .byte) 0 0 [.ref (ad (206 + k))] (some (.int 0)) D ad adV cy A M := by
  refine pz_Jmk (by decide +kernel) ?_
  intro p l e s m below meth c Q Y hP hM Kr _
  obtain ⟨hx, hb, hml, hown, hts, hX⟩ := Y
  refine va_gets hx hb hX.2.2.2.2.2.1.1 va_S.rf hown (hts (.fieldLink RJ0 38 "java/lang/String" "COMPACT_STRINGS" "Z") (pz_tbl_in (List.mem_append_right _ (pz_ti42 _ (List.mem_of_getElem? (i := 15) rfl))) rfl)) (fun _ h => h) (by decide +kernel) ?_
  refine lv_if_eq (tgt := 13) hx hb (off := 10) (by decide +kernel) (by decide) (fun q => absurd q (by decide)) (fun _ => ?_)
  refine lv_aload_n (i := 0) hx hb (k := 0) (by decide +kernel) rfl rfl ?_
  refine vk_getf hx hb (hX.2.2.2.1.1 k hk).2.1 va_S.rf hown (hts (.fieldLink RJ0 15 "java/lang/String" "coder" "B") (pz_tbl_in (List.mem_append_right _ (pz_ti110 _ (List.mem_of_getElem? (i := 6) rfl))) rfl)) (fun _ h => h) (by decide +kernel) ?_
  refine lv_goto (tgt := 14) (off := 4) hx hb (by decide +kernel) (by decide) ?_
  exact Kr 0 .byte rfl (by decide) rfl s.heap [] _ 14 hP va_S.rf (by decide +kernel)
theorem pz_J_isLatin1 {k : Nat} (hk : k < 25) : pz_J yJ0_isLatin1_aae02 cJ0_isLatin1_aae02 1 (some .boolean) 0 0 [.ref (ad (206 + k))] (some (.int 1)) D ad adV cy A M := by
  refine pz_Jmk (by decide +kernel) ?_
  intro p l e s m below meth c Q Y hP hM Kr _
  obtain ⟨hx, hb, hml, hown, hts, hX⟩ := Y
  refine va_gets hx hb hX.2.2.2.2.2.1.1 va_S.rf hown (hts (.fieldLink RJ0 38 "java/lang/String" "COMPACT_STRINGS" "Z") (pz_tbl_in (List.mem_append_right _ (pz_ti42 _ (List.mem_of_getElem? (i := 15) rfl))) rfl)) (fun _ h => h) (by decide +kernel) ?_
  refine lv_if_eq (tgt := 17) hx hb (off := 14) (by decide +kernel) (by decide) (fun q => absurd q (by decide)) (fun _ => ?_)
  refine lv_aload_n (i := 0) hx hb (k := 0) (by decide +kernel) rfl rfl ?_
  refine vk_getf hx hb (hX.2.2.2.1.1 k hk).2.1 va_S.rf hown (hts (.fieldLink RJ0 15 "java/lang/String" "coder" "B") (pz_tbl_in (List.mem_append_right _ (pz_ti110 _ (List.mem_of_getElem? (i := 6) rfl))) rfl)) (fun _ h => h) (by decide +kernel) ?_
  refine lv_if_ne (tgt := 17) hx hb (off := 7) (by decide +kernel) (by decide) (fun q => absurd rfl q) (fun _ => ?_)
  refine lv_iconst (n := 1) (v := 1) hx hb (by decide +kernel) (by decide) ?_
  refine lv_goto (tgt := 18) (off := 4) hx hb (by decide +kernel) (by decide) ?_
  exact Kr 1 .boolean rfl (by decide) rfl s.heap [] _ 18 hP va_S.rf (by decide +kernel)
theorem pz_J_length {k : Nat} (hk : k < 25) : pz_J yJ0_length_8abf5 cJ0_length_8abf5 1 (some .int) 1 20 [.ref (ad (206 + k))] (some (.int (Int32.ofNat (pz_stl.getD k 0)))) D ad adV cy A M := by
  refine pz_Jmk (by decide +kernel) ?_
  intro p l e s m below meth c Q Y hP hM Kr _
  have Y0 := Y
  obtain ⟨hx, hb, hml, hown, hts, hX⟩ := Y
  refine lv_aload_n (i := 0) hx hb (k := 0) (by decide +kernel) rfl rfl ?_
  refine vk_getf hx hb (hX.2.2.2.1.1 k hk).2.2.1 va_S.rf hown (hts (.fieldLink RJ0 9 "java/lang/String" "value" "[B") (pz_tbl_in (List.mem_append_right _ (pz_ti110 _ (List.mem_of_getElem? (i := 5) rfl))) rfl)) (fun _ h => h) (by decide +kernel) ?_
  refine va_tlen hx hb (hX.2.2.2.1.1 k hk).2.2.2 va_S.rf rfl (by decide +kernel) ?_
  refine lv_aload_n (i := 0) hx hb (k := 0) (by decide +kernel) rfl rfl ?_
  refine pz_JcV (i := 335) (n := 0) Y0 hM ⟨Nat.le_refl 0, Nat.le_refl 0⟩ hk rfl (pz_J_coder hk) (by decide) (by decide) rfl ⟨by decide +kernel, by decide +kernel, by decide +kernel⟩ ⟨(pz_tbl_in (List.mem_append_right _ (pz_ti42 _ (List.mem_of_getElem? (i := 14) rfl))) rfl), (pz_tbl_in (List.mem_append_right _ (pz_ti42 _ (List.mem_of_getElem? (i := 11) rfl))) rfl), (pz_tbl_in (List.mem_append_right _ (pz_ti42 _ (List.mem_of_getElem? (i := 12) rfl))) rfl), (pz_tbl_in (List.mem_append_right _ (pz_ti42 _ (List.mem_of_getElem? (i := 13) rfl))) rfl), (pz_tbl_in (List.mem_append_right _ (pz_ti1 _ (List.mem_of_getElem? (i := 0) rfl))) rfl)⟩ rfl (by decide +kernel) hP va_S.rf rfl (by simp [Value.category]) (fun H' locs' hP' hS' => ?_)
  refine lv_ishr hx hb (by decide +kernel) ?_
  have e0 : Int32.ofNat (pz_stl.getD k 0) >>> ((0 : Int32) &&& 31) = Int32.ofNat (pz_stl.getD k 0) := by
    have key : ∀ k, k < 25 → Int32.ofNat (pz_stl.getD k 0) >>> ((0 : Int32) &&& 31) = Int32.ofNat (pz_stl.getD k 0) := by decide +kernel
    exact key k hk
  rw [e0]
  exact Kr _ .int rfl rfl rfl H' locs' _ 10 hP' hS' (by decide +kernel)
theorem pz_J_check3 {i n : Int32} {z : Value} (hz : z.category = 1) (h0 : ¬ i < 0) (h1 : i < n) : pz_J yJ3_checkIndex_8e157 cJ3_checkIndex_8e157 3 (some .int) 0 0 [.int i, .int n, z] (some (.int i)) D ad adV cy A M := by
  refine pz_Jmk (by decide +kernel) ?_
  have es : lg_sl [.int i, .int n, z] = [.val (.int i), .val (.int n), .val z] := by
    show (if _ then _ else _) ++ ((if _ then _ else _) ++ ((if z.category = 2 then _ else _) ++ [])) = _
    rw [if_neg (show ¬ z.category = 2 by rw [hz]; decide)]
    rfl
  rw [es]
  intro p l e s m below meth c Q Y hP hM Kr _
  obtain ⟨hx, hb, hml, hown, hts, hX⟩ := Y
  refine lv_iload_n (i := 0) hx hb (k := 0) (by decide +kernel) rfl rfl ?_
  refine lv_if_lt (tgt := 9) hx hb (off := 8) (by decide +kernel) (by decide) (fun q => absurd q h0) (fun _ => ?_)
  refine lv_iload_n (i := 0) hx hb (k := 0) (by decide +kernel) rfl rfl ?_
  refine lv_iload_n (i := 1) hx hb (k := 1) (by decide +kernel) rfl rfl ?_
  refine lv_icmp_lt (tgt := 16) hx hb (off := 10) (by decide +kernel) (by decide) (fun _ => ?_) (fun q => absurd h1 q)
  refine lv_iload_n (i := 0) hx hb (k := 0) (by decide +kernel) rfl rfl ?_
  exact Kr i .int rfl rfl rfl s.heap [] _ 17 hP va_S.rf (by decide +kernel)
theorem pz_J_check {i n : Int32} (h0 : ¬ i < 0) (h1 : i < n) : pz_J yJ0_checkIndex_df160 cJ0_checkIndex_df160 2 none 1 22 [.int i, .int n] none D ad adV cy A M := by
  refine pz_Jmk (by decide +kernel) ?_
  intro p l e s m below meth c Q Y hP hM _ Kv
  have Y0 := Y
  obtain ⟨hx, hb, hml, hown, hts, hX⟩ := Y
  refine lv_iload_n (i := 0) hx hb (k := 0) (by decide +kernel) rfl rfl ?_
  refine lv_iload_n (i := 1) hx hb (k := 1) (by decide +kernel) rfl rfl ?_
  have hZ : ∃ z : Value, z.category = 1 ∧ va_Z "jdk/internal/util/Preconditions" "SIOOBE_FORMATTER" "Ljava/util/function/BiFunction;" z A s s.heap := by
    rcases hX.2.2.2.2.2.1.2 with h | ⟨t, h⟩
    · exact ⟨_, rfl, h⟩
    · exact ⟨_, rfl, h⟩
  obtain ⟨z, hz, hZ⟩ := hZ
  refine va_gets hx hb hZ va_S.rf hown (hts (.fieldLink RJ0 1053 "jdk/internal/util/Preconditions" "SIOOBE_FORMATTER" "Ljava/util/function/BiFunction;") (pz_tbl_in (List.mem_append_right _ (pz_ti43 _ (List.mem_of_getElem? (i := 15) rfl))) rfl)) (fun _ h => h) (by decide +kernel) ?_
  refine pz_JcS (i := 1059) (n := 3) Y0 hM ⟨Nat.le_refl 0, Nat.le_refl 0⟩ (pz_J_check3 hz h0 h1) (by decide) (by decide) rfl ⟨by decide +kernel, by decide +kernel, by decide +kernel⟩ ⟨(pz_tbl_in (List.mem_append_right _ (pz_ti44 _ (List.mem_of_getElem? (i := 3) rfl))) rfl), (pz_tbl_in (List.mem_append_right _ (pz_ti44 _ (List.mem_of_getElem? (i := 2) rfl))) rfl), (pz_tbl_in (List.mem_append_right _ (pz_ti1 _ (List.mem_of_getElem? (i := 2) rfl))) rfl), (pz_tbl_in (List.mem_append_right _ (pz_ti44 _ (List.mem_of_getElem? (i := 1) rfl))) rfl)⟩ (rest := []) rfl (by decide +kernel) hP va_S.rf rfl (by decide) (fun H' locs' hP' hS' => ?_)
  refine lv_pop hx hb (by decide +kernel) rfl ?_
  exact Kv rfl rfl H' locs' _ 9 hP' hS' (by decide +kernel)
theorem pz_J_charAt1 {k : Nat} {i : Int32} (hk : k < 25) (h0 : ¬ i < 0) (h1 : i < Int32.ofNat (pz_stl.getD k 0)) (h2 : i.toNatClampNeg < pz_stl.getD k 0) : pz_J yJ1_charAt_3b067 cJ1_charAt_3b067 2 (some .char) 2 43 [.ref (adV k), .int i] (some (.int ((pz_sb.getD k []).getD i.toNatClampNeg 0))) D ad adV cy A M := by
  refine pz_Jmk (by decide +kernel) ?_
  intro p l e s m below meth c Q Y hP hM Kr _
  have Y0 := Y
  obtain ⟨hx, hb, hml, hown, hts, hX⟩ := Y
  have hT := (hX.2.2.2.1.1 k hk).2.2.2
  refine lv_iload_n (i := 1) hx hb (k := 1) (by decide +kernel) rfl rfl ?_
  refine lv_aload_n (i := 0) hx hb (k := 0) (by decide +kernel) rfl rfl ?_
  refine va_tlen hx hb hT va_S.rf rfl (by decide +kernel) ?_
  refine pz_JcS (i := 9) (n := 2) Y0 hM ⟨Nat.le_refl 0, Nat.le_refl 0⟩ (pz_J_check h0 h1) (by decide) (by decide) rfl ⟨by decide +kernel, by decide +kernel, by decide +kernel⟩ ⟨(pz_tbl_in (List.mem_append_right _ (pz_ti43 _ (List.mem_of_getElem? (i := 14) rfl))) rfl), (pz_tbl_in (List.mem_append_right _ (pz_ti43 _ (List.mem_of_getElem? (i := 13) rfl))) rfl), (pz_tbl_in (List.mem_append_right _ (pz_ti1 _ (List.mem_of_getElem? (i := 0) rfl))) rfl), (pz_tbl_in (List.mem_append_right _ (pz_ti43 _ (List.mem_of_getElem? (i := 12) rfl))) rfl)⟩ (rest := []) rfl (by decide +kernel) hP va_S.rf rfl (by decide) (fun H' locs' hP' hS' => ?_)
  refine lv_aload_n (i := 0) hx hb (k := 0) (by decide +kernel) rfl rfl ?_
  refine lv_iload_n (i := 1) hx hb (k := 1) (by decide +kernel) rfl rfl ?_
  refine va_tb hx hb hT hS' (show vp_in i (pz_stl.getD k 0) from fun q => by rcases q with q | q; exact h0 q; omega) rfl (by decide +kernel) ?_
  obtain ⟨g1, g2, g3⟩ := pz_jsb k hk
  have hb9 := g3 ((pz_sb.getD k []).getD i.toNatClampNeg 0) (pz_gd (by omega))
  refine lv_sipush (n := 255) (v := 255) hx hb (by decide +kernel) (by decide) ?_
  refine lv_iand hx hb (by decide +kernel) ?_
  refine lv_i2c hx hb (by decide +kernel) hb9.1.1 ?_
  exact Kr _ .char rfl hb9.1.2 rfl H' locs' _ 14 hP' hS' (by decide +kernel)
theorem pz_J_charAt {k : Nat} {i : Int32} (hk : k < 25) (h0 : ¬ i < 0) (h1 : i < Int32.ofNat (pz_stl.getD k 0)) (h2 : i.toNatClampNeg < pz_stl.getD k 0) : pz_J yJ0_charAt_5068e cJ0_charAt_5068e 2 (some .char) 3 64 [.ref (ad (206 + k)), .int i] (some (.int ((pz_sb.getD k []).getD i.toNatClampNeg 0))) D ad adV cy A M := by
  refine pz_Jmk (by decide +kernel) ?_
  intro p l e s m below meth c Q Y hP hM Kr _
  have Y0 := Y
  obtain ⟨hx, hb, hml, hown, hts, hX⟩ := Y
  refine lv_aload_n (i := 0) hx hb (k := 0) (by decide +kernel) rfl rfl ?_
  refine pz_JcV (i := 492) (n := 0) Y0 hM ⟨Nat.le_refl 0, Nat.le_refl 0⟩ hk rfl (pz_J_isLatin1 hk) (by decide) (by decide) rfl ⟨by decide +kernel, by decide +kernel, by decide +kernel⟩ ⟨(pz_tbl_in (List.mem_append_right _ (pz_ti43 _ (List.mem_of_getElem? (i := 8) rfl))) rfl), (pz_tbl_in (List.mem_append_right _ (pz_ti43 _ (List.mem_of_getElem? (i := 5) rfl))) rfl), (pz_tbl_in (List.mem_append_right _ (pz_ti43 _ (List.mem_of_getElem? (i := 6) rfl))) rfl), (pz_tbl_in (List.mem_append_right _ (pz_ti43 _ (List.mem_of_getElem? (i := 7) rfl))) rfl), (pz_tbl_in (List.mem_append_right _ (pz_ti1 _ (List.mem_of_getElem? (i := 0) rfl))) rfl)⟩ (rest := []) rfl (by decide +kernel) hP va_S.rf rfl (by decide) (fun H' locs' hP' hS' => ?_)
  refine lv_if_eq (tgt := 16) hx hb (off := 12) (by decide +kernel) (by decide) (fun q => absurd q (by decide)) (fun _ => ?_)
  refine lv_aload_n (i := 0) hx hb (k := 0) (by decide +kernel) rfl rfl ?_
  refine vk_getf hx hb (hX.2.2.2.1.1 k hk).2.2.1 hS' hown (hts (.fieldLink RJ0 9 "java/lang/String" "value" "[B") (pz_tbl_in (List.mem_append_right _ (pz_ti110 _ (List.mem_of_getElem? (i := 5) rfl))) rfl)) (fun _ h => h) (by decide +kernel) ?_
  refine lv_iload_n (i := 1) hx hb (k := 1) (by decide +kernel) rfl rfl ?_
  refine pz_JcS (i := 495) (n := 2) Y0 hM ⟨Nat.le_refl 0, Nat.le_refl 0⟩ (pz_J_charAt1 hk h0 h1 h2) (by decide) (by decide) rfl ⟨by decide +kernel, by decide +kernel, by decide +kernel⟩ ⟨(pz_tbl_in (List.mem_append_right _ (pz_ti43 _ (List.mem_of_getElem? (i := 11) rfl))) rfl), (pz_tbl_in (List.mem_append_right _ (pz_ti43 _ (List.mem_of_getElem? (i := 10) rfl))) rfl), (pz_tbl_in (List.mem_append_right _ (pz_ti1 _ (List.mem_of_getElem? (i := 1) rfl))) rfl), (pz_tbl_in (List.mem_append_right _ (pz_ti43 _ (List.mem_of_getElem? (i := 9) rfl))) rfl)⟩ (rest := []) rfl (by decide +kernel) hP' hS' rfl (by decide) (fun H'' locs'' hP'' hS'' => ?_)
  obtain ⟨g1, g2, g3⟩ := pz_jsb k hk
  have hb9 := g3 ((pz_sb.getD k []).getD i.toNatClampNeg 0) (pz_gd (by omega))
  exact Kr _ .char rfl hb9.1.2 rfl H'' locs'' _ 15 hP'' hS'' (by decide +kernel)
end PZK
theorem pz_Met_imp {l : Launch} {y : MethodName} {ws : List Cond} {rm : Room} {Pc : Array Value → State → Prop} {Qc Qc' : Array Value → State → Outcome → State → Prop} {mc ms : Nat} {free : Addr → Prop} (h : Met l y ws rm Pc Qc mc ms free) (hq : ∀ a st o t, Qc a st o t → Qc' a st o t) : Met l y ws rm Pc Qc' mc ms free := by
  intro p e ha hc hk s m args below hf happ hP hK
  obtain ⟨n, o, h1, h2, h3, h4⟩ := h p e ha hc hk s m args below hf happ hP hK
  exact ⟨n, o, h1, h2, h3, hq _ _ _ _ h4.1, h4.2⟩
theorem pz_str {s : Nat} (h : pz_kd s = 99 ∧ s < 231) : ∃ k, k < 25 ∧ s = 206 + k := by
  have h2 : ¬ s < 206 := fun q => by
    have key : ∀ a, a < 206 → pz_kd a ≠ 99 := by decide +kernel
    exact key s q h.1
  exact ⟨s - 206, by have := h.2; omega, by omega⟩
def k_J0_length_8abf5 : pz_C := (1, 1, fun a M => (match a with | [.inr (.inr (99, s))] => True | _ => False), fun a M r M' => (match a, r with | [.inr (.inr (99, s))], some (.inl v) => (v = ((pz_stl.getD (s - 206) 0 : Nat) : Int)) ∧ M = M' | _, _ => False))
theorem h_J0_length_8abf5 : pz_H yJ0_length_8abf5 cJ0_length_8abf5 1 (some .int) k_J0_length_8abf5 1 20 := by
  intro l D ad adV cy A a M hlen hpre hcan
  obtain ⟨s, rfl⟩ : ∃ s, a = [.inr (.inr (99, s))] := by
    have hpre : (match (generalizing := false) a with | [.inr (.inr (99, s))] => True | _ => False) := hpre
    split at hpre
    · exact ⟨_, rfl⟩
    · exact hpre.elim
  obtain ⟨k_s, -⟩ := pz_tlm hcan
  obtain ⟨k, hk, rfl⟩ := pz_str (s := s) k_s
  refine pz_Met_imp (pz_J_length (D := D) (ad := ad) (adV := adV) (cy := cy) (A := A) (M := M) hk l) ?_
  intro a st o t h
  have e : ∀ k, k < 25 → Int32.ofNat (pz_stl.getD k 0) = Int32.ofInt ((pz_stl.getD k 0 : Nat) : Int) ∧ pz_stl.getD k 0 < 200 := by decide +kernel
  refine ⟨⟨some (.inl ((pz_stl.getD k 0 : Nat) : Int)), M, ⟨?_, rfl⟩, ⟨_, rfl, ?_⟩, ?_, h.1.2⟩, h.2⟩
  · rw [show 206 + k - 206 = k by omega]
  · have := (e k hk).2
    unfold pz_c
    omega
  · rw [h.1.1]
    show Outcome.returned (some (.int (Int32.ofNat (pz_stl.getD k 0)))) = .returned (some (.int (Int32.ofInt ((pz_stl.getD k 0 : Nat) : Int))))
    rw [(e k hk).1]
theorem v_J0_length_8abf5 {fr lo i : Nat} {own : String} (h1 : 1 + 1 ≤ fr) (h2 : 8 + (1 + 11) + 20 ≤ lo) (h3 : .methodLink own i yJ0_length_8abf5 ∈ lw_tbl) : pz_cV fr lo own i k_J0_length_8abf5 :=
  pz_cVk (maxL := 1) (fr' := 1) (lo' := 20) 0 99 h_J0_length_8abf5 rfl ⟨by decide +kernel, by decide +kernel, by decide +kernel⟩ ⟨(List.mem_append_right _ (pz_ti42 _ (List.mem_of_getElem? (i := 10) rfl))), (List.mem_append_right _ (pz_ti42 _ (List.mem_of_getElem? (i := 8) rfl))), (List.mem_append_right _ (pz_ti42 _ (List.mem_of_getElem? (i := 9) rfl))), (List.mem_append_right _ (pz_ti1 _ (List.mem_of_getElem? (i := 0) rfl)))⟩ (Or.inr ⟨rfl, rfl⟩) (fun a M _ h => by
    have h : (match (generalizing := false) a with | [.inr (.inr (99, s))] => True | _ => False) := h
    split at h
    · exact ⟨_, _, rfl⟩
    · exact h.elim) h1 h2 h3
def k_J0_charAt_5068e : pz_C := (2, 1, fun a M => (match a with | [.inr (.inr (99, s)), .inl i] => 0 ≤ i ∧ i < ((pz_stl.getD (s - 206) 0 : Nat) : Int) | _ => False), fun a M r M' => (match a, r with | [.inr (.inr (99, s)), .inl i], some (.inl v) => (v = ((pz_sb.getD (s - 206) []).getD i.toNat 0).toInt ∧ 0 ≤ v ∧ v ≤ 255) ∧ M = M' | _, _ => False))
theorem h_J0_charAt_5068e : pz_H yJ0_charAt_5068e cJ0_charAt_5068e 2 (some .char) k_J0_charAt_5068e 3 64 := by
  intro l D ad adV cy A a M hlen hpre hcan
  obtain ⟨s, i, rfl, hp2⟩ : ∃ s i, a = [.inr (.inr (99, s)), .inl i] ∧ (0 ≤ i ∧ i < ((pz_stl.getD (s - 206) 0 : Nat) : Int)) := by
    have hpre : (match (generalizing := false) a with | [.inr (.inr (99, s)), .inl i] => 0 ≤ i ∧ i < ((pz_stl.getD (s - 206) 0 : Nat) : Int) | _ => False) := hpre
    split at hpre
    · exact ⟨_, _, rfl, hpre⟩
    · exact hpre.elim
  obtain ⟨k_s, hc2⟩ := pz_tlm hcan
  obtain ⟨k_i, -⟩ := pz_tlm hc2
  have k_i : pz_c i := k_i
  obtain ⟨k, hk, rfl⟩ := pz_str (s := s) k_s
  rw [show 206 + k - 206 = k by omega] at hp2
  obtain ⟨g1, g2, g3⟩ := pz_jsb k hk
  have e1 : Int32.ofNat (pz_stl.getD k 0) = Int32.ofInt ((pz_stl.getD k 0 : Nat) : Int) := by
    have e : ∀ k, k < 25 → Int32.ofNat (pz_stl.getD k 0) = Int32.ofInt ((pz_stl.getD k 0 : Nat) : Int) := by decide +kernel
    exact e k hk
  have h0 : ¬ Int32.ofInt i < 0 := fun q => by
    have := (pz_lt k_i (show pz_c 0 by unfold pz_c; omega)).mp q
    omega
  have h1 : Int32.ofInt i < Int32.ofNat (pz_stl.getD k 0) := by
    rw [e1]
    exact (pz_lt k_i (show pz_c _ by unfold pz_c; omega)).mpr hp2.2
  have hcl := pz_clamp k_i
  refine pz_Met_imp (pz_J_charAt (D := D) (ad := ad) (adV := adV) (cy := cy) (A := A) (M := M) hk h0 h1 (by rw [hcl]; omega) l) ?_
  intro a st o t h
  rw [hcl] at h
  have hb9 := g3 ((pz_sb.getD k []).getD i.toNat 0) (pz_gd (by omega))
  refine ⟨⟨some (.inl ((pz_sb.getD k []).getD i.toNat 0).toInt), M, ⟨⟨?_, hb9.2⟩, rfl⟩, ⟨_, rfl, ?_⟩, ?_, h.1.2⟩, h.2⟩
  · rw [show 206 + k - 206 = k by omega]
  · unfold pz_c
    have := hb9.2
    omega
  · rw [h.1.1]
    show Outcome.returned (some (.int ((pz_sb.getD k []).getD i.toNat 0))) = .returned (some (.int (Int32.ofInt ((pz_sb.getD k []).getD i.toNat 0).toInt)))
    rw [Int32.ofInt_toInt]
theorem v_J0_charAt_5068e {fr lo i : Nat} {own : String} (h1 : 3 + 1 ≤ fr) (h2 : 8 + (2 + 11) + 64 ≤ lo) (h3 : .methodLink own i yJ0_charAt_5068e ∈ lw_tbl) : pz_cV fr lo own i k_J0_charAt_5068e :=
  pz_cVk (maxL := 2) (fr' := 3) (lo' := 64) 1 99 h_J0_charAt_5068e rfl ⟨by decide +kernel, by decide +kernel, by decide +kernel⟩ ⟨(List.mem_append_right _ (pz_ti43 _ (List.mem_of_getElem? (i := 4) rfl))), (List.mem_append_right _ (pz_ti43 _ (List.mem_of_getElem? (i := 2) rfl))), (List.mem_append_right _ (pz_ti43 _ (List.mem_of_getElem? (i := 3) rfl))), (List.mem_append_right _ (pz_ti1 _ (List.mem_of_getElem? (i := 0) rfl)))⟩ (Or.inr ⟨rfl, rfl⟩) (fun a M _ h => by
    have h : (match (generalizing := false) a with | [.inr (.inr (99, s)), .inl i] => 0 ≤ i ∧ i < ((pz_stl.getD (s - 206) 0 : Nat) : Int) | _ => False) := h
    split at h
    · exact ⟨_, _, rfl⟩
    · exact h.elim) h1 h2 h3
end
section
theorem pz_uve {M M1 : pz_M} {a k : Nat} {v : Int} (e : M1 = pz_u M a k v) (b j : Nat) : (b = a ∧ j = k ∧ M1 b j = v) ∨ (¬ (b = a ∧ j = k) ∧ M1 b j = M b j) := by
  subst e
  exact pz_uv M a k v b j
theorem pz_i2b (x : Int) : -128 ≤ (Int32.ofInt x).toInt8.toInt32.toInt ∧ (Int32.ofInt x).toInt8.toInt32.toInt ≤ 127 := by
  rw [Int8.toInt_toInt32]
  have h1 := Int8.le_toInt (Int32.ofInt x).toInt8
  have h2 := Int8.toInt_lt (Int32.ofInt x).toInt8
  omega
end
section
/-! the model: what stays true of its memory -/
/-- one step of a law's program on its pile: o what, x its number, d how deep before, d' behind -/
def pz_sp1 (o x d d' : Int) : Prop := (o < 23 ∧ 0 ≤ o ∧ o < 10 ∧ d' = d + 1) ∨ (o = 26 ∧ x ≠ 0 ∧ 1 ≤ d ∧ d' = d) ∨ (o = 30 ∧ 1 ≤ d ∧ d' = d) ∨ (23 ≤ o ∧ o ≠ 26 ∧ o ≠ 30 ∧ 2 ≤ d ∧ d' = d - 1)
/-- the steps from s to t leave one number more on the pile -/
def pz_sg (f : Nat → Int) (s t : Int) : Prop := s < t ∧ ∃ d : Int → Int, d s = 0 ∧ d t = 1 ∧ ∀ i, s ≤ i → i < t → 0 ≤ d i ∧ pz_sp1 (f (2 * i).toNat) (f (2 * i + 1).toNat) (d i) (d (i + 1))
theorem pz_sg_cg {f g : Nat → Int} {s t : Int} (h : pz_sg f s t) (h0 : 0 ≤ s) (he : ∀ j : Nat, 2 * s ≤ (j : Int) → (j : Int) < 2 * t → g j = f j) : pz_sg g s t := by
  obtain ⟨h1, d, h2, h3, h4⟩ := h
  refine ⟨h1, d, h2, h3, fun i q1 q2 => ?_⟩
  rw [he _ (by omega) (by omega), he _ (by omega) (by omega)]
  exact h4 i q1 q2
theorem pz_sg_1 {f : Nat → Int} {s : Int} (h : 0 ≤ f (2 * s).toNat ∧ f (2 * s).toNat < 10) : pz_sg f s (s + 1) := by
  refine ⟨by omega, fun i => i - s, by show s - s = 0; omega, by show s + 1 - s = 1; omega, fun i q1 q2 => ?_⟩
  have hi : i = s := by omega
  subst hi
  refine ⟨by show 0 ≤ i - i; omega, Or.inl ⟨by omega, h.1, h.2, ?_⟩⟩
  show i + 1 - i = i - i + 1
  omega
theorem pz_sg_u {f : Nat → Int} {s t : Int} (h : pz_sg f s t) (ho : (f (2 * t).toNat = 26 ∧ f (2 * t + 1).toNat ≠ 0) ∨ f (2 * t).toNat = 30) : pz_sg f s (t + 1) := by
  obtain ⟨h1, d, h2, h3, h4⟩ := h
  refine ⟨by omega, fun i => if i ≤ t then d i else 1, ?_, ?_, fun i q1 q2 => ?_⟩
  · show (if s ≤ t then d s else 1) = 0
    rw [if_pos (by omega), h2]
  · show (if t + 1 ≤ t then d (t + 1) else 1) = 1
    rw [if_neg (by omega)]
  · show 0 ≤ (if i ≤ t then d i else 1) ∧ pz_sp1 _ _ (if i ≤ t then d i else 1) (if i + 1 ≤ t then d (i + 1) else 1)
    rw [if_pos (show i ≤ t by omega)]
    by_cases hi : i < t
    · rw [if_pos (show i + 1 ≤ t by omega)]
      exact h4 i q1 hi
    · have hi : i = t := by omega
      subst hi
      rw [if_neg (by omega), h3]
      refine ⟨by omega, ?_⟩
      rcases ho with ⟨o1, o2⟩ | o1
      · exact Or.inr (Or.inl ⟨o1, o2, by omega, rfl⟩)
      · exact Or.inr (Or.inr (Or.inl ⟨o1, by omega, rfl⟩))
theorem pz_sg_b {f : Nat → Int} {s m t : Int} (h : pz_sg f s m) (h' : pz_sg f m t) (ho : 23 ≤ f (2 * t).toNat ∧ f (2 * t).toNat ≠ 26 ∧ f (2 * t).toNat ≠ 30) : pz_sg f s (t + 1) := by
  obtain ⟨h1, d, h2, h3, h4⟩ := h
  obtain ⟨k1, e, k2, k3, k4⟩ := h'
  refine ⟨by omega, fun i => if i < m then d i else if i ≤ t then 1 + e i else 1, ?_, ?_, fun i q1 q2 => ?_⟩
  · show (if s < m then d s else if s ≤ t then 1 + e s else 1) = 0
    rw [if_pos h1, h2]
  · show (if t + 1 < m then d (t + 1) else if t + 1 ≤ t then 1 + e (t + 1) else 1) = 1
    rw [if_neg (by omega), if_neg (by omega)]
  · show 0 ≤ (if i < m then d i else if i ≤ t then 1 + e i else 1) ∧ pz_sp1 _ _ (if i < m then d i else if i ≤ t then 1 + e i else 1) (if i + 1 < m then d (i + 1) else if i + 1 ≤ t then 1 + e (i + 1) else 1)
    by_cases hi : i < m
    · rw [if_pos hi]
      by_cases hj : i + 1 < m
      · rw [if_pos hj]
        exact h4 i q1 hi
      · have hm : i + 1 = m := by omega
        rw [if_neg hj, if_pos (show i + 1 ≤ t by omega), hm, k2]
        have := h4 i q1 hi
        rw [hm, h3] at this
        exact this
    · rw [if_neg hi, if_neg (show ¬ i + 1 < m by omega), if_pos (show i ≤ t by omega)]
      by_cases hj : i < t
      · rw [if_pos (show i + 1 ≤ t by omega)]
        obtain ⟨g1, g2⟩ := k4 i (by omega) hj
        refine ⟨by omega, ?_⟩
        unfold pz_sp1 at g2 ⊢
        omega
      · have hi : i = t := by omega
        subst hi
        rw [if_neg (show ¬ i + 1 ≤ i by omega), k3]
        exact ⟨by omega, Or.inr (Or.inr (Or.inr ⟨ho.1, ho.2.1, ho.2.2, by omega, by omega⟩))⟩
/-- a law's lines as they lie in w: from, middle, end -/
def pz_lw (M : pz_M) (a : Nat) : Prop := ∀ i : Int, 0 ≤ i → i < M a 89 → 0 ≤ M a (841 + i).toNat ∧ M a (873 + i).toNat ≤ 410 ∧ pz_sg (fun j => M a (905 + j)) (M a (841 + i).toNat) (M a (857 + i).toNat) ∧ (M a (857 + i).toNat = M a (873 + i).toNat ∨ pz_sg (fun j => M a (905 + j)) (M a (857 + i).toNat) (M a (873 + i).toNat))
def pz_iw (M : pz_M) (a : Nat) : Prop := (0 ≤ M a 88 ∧ M a 88 ≤ 12) ∧ (0 ≤ M a 89 ∧ M a 89 ≤ 16) ∧ (0 ≤ M a 90 ∧ M a 90 ≤ 16) ∧ (0 ≤ M a 92 ∧ M a 92 ≤ 16) ∧ (0 ≤ M a 3 ∧ M a 3 ≤ 150)
def pz_ix (M : pz_M) : Prop := (0 ≤ M 1 4 ∧ M 1 4 ≤ 6) ∧ (0 ≤ M 1 16 ∧ M 1 16 ≤ 400) ∧ (0 ≤ M 63 3 ∧ M 63 3 ≤ 150) ∧ (0 ≤ M 1 17 ∧ M 1 17 ≤ 400) ∧ (0 ≤ M 1 19 ∧ M 1 19 ≤ 400) ∧ (0 ≤ M 1 13 ∧ M 1 13 ≤ 16) ∧ (0 ≤ M 1 14 ∧ M 1 14 ≤ 410) ∧ (0 ≤ M 1 15 ∧ M 1 15 ≤ 16) ∧ (∀ j : Nat, j < 6 → 0 ≤ M 62 (88 * j + 3) ∧ M 62 (88 * j + 3) ≤ 150)
def pz_im (M : pz_M) : Prop := pz_iw M 60 ∧ pz_ix M ∧ pz_lw M 60 ∧ pz_iw M 61 ∧ pz_lw M 61
/-- a step of the model: its invariant and the class' memory stay; pz_sm: what is taped, too -/
def pz_mn (b j : Nat) : Prop := pz_mid b ∧ ¬ (b = 1 ∧ (j = 5 ∨ j = 23 ∨ j = 25)) ∧ b ≠ 61 ∧ b ≠ 67 ∧ ¬ (b = 60 ∧ ((88 ≤ j ∧ j ≤ 240) ∨ 841 ≤ j))
theorem pz_mn_a {a k : Nat} (h : 62 ≤ a ∧ a < 71 ∧ a ≠ 67) : pz_mn a k := ⟨Or.inr (by omega), fun q => by omega, by omega, by omega, fun q => by omega⟩
theorem pz_mn_60 {k : Nat} (h : k ≤ 87 ∨ (241 ≤ k ∧ k ≤ 840)) : pz_mn 60 k := ⟨Or.inr (by omega), fun q => by omega, by omega, by omega, fun q => by omega⟩
theorem pz_mn_1 {k : Nat} (h : k ≠ 5 ∧ k ≠ 23 ∧ k ≠ 25) : pz_mn 1 k := ⟨Or.inl rfl, fun q => by omega, by omega, by omega, fun q => by omega⟩
def pz_sn (M M' : pz_M) : Prop := (pz_im M → pz_im M') ∧ ∀ b j : Nat, ¬ pz_mn b j → M' b j = M b j
/-- the same for what may set hasImage -/
def pz_sq (M M' : pz_M) : Prop := (pz_im M → pz_im M') ∧ (∀ b j : Nat, ¬ pz_mid b → M' b j = M b j) ∧ M' 1 16 = M 1 16
def pz_sk (M M' : pz_M) : Prop := pz_sn M M' ∧ M' 1 16 = M 1 16
def pz_sm (M M' : pz_M) : Prop := pz_sk M M' ∧ M' 60 88 = M 60 88
/-- nothing changes but what P says -/
def pz_rl (P : Nat → Nat → Prop) (M M' : pz_M) : Prop := (pz_im M → pz_im M') ∧ ∀ b j : Nat, ¬ P b j → M' b j = M b j
def pz_Q0 (b j : Nat) : Prop := b = 1 ∧ 17 ≤ j ∧ j ≤ 22
def pz_Q1 (b j : Nat) : Prop := (b = 1 ∧ (j = 14 ∨ (17 ≤ j ∧ j ≤ 22) ∨ j = 24)) ∨ b = 65
def pz_Q2 (b j : Nat) : Prop := (b = 1 ∧ (j = 13 ∨ j = 14 ∨ j = 15 ∨ (17 ≤ j ∧ j ≤ 22) ∨ j = 24)) ∨ (64 ≤ b ∧ b ≤ 66)
def pz_Q3 (b j : Nat) : Prop := b = 68
def pz_Q4 (b j : Nat) : Prop := b = 68 ∨ b = 69
def pz_Q9 (b j : Nat) : Prop := b = 60 ∨ (b = 1 ∧ j = 4)
/-- what text, its pieces and feed write -/
def pz_QL (b j : Nat) : Prop := b = 60 ∧ (j = 89 ∨ 841 ≤ j)
def pz_QP (i j k : Int) (b m : Nat) : Prop := b = 60 ∧ ((m : Int) = i ∨ (j ≤ (m : Int) ∧ (m : Int) < j + 16 * k))
def pz_QU (b j : Nat) : Prop := (b = 60 ∧ ((89 ≤ j ∧ j ≤ 92) ∨ (105 ≤ j ∧ j ≤ 240) ∨ 841 ≤ j)) ∨ (b = 1 ∧ j = 4)
def pz_QT (b j : Nat) : Prop := (b = 60 ∧ ((89 ≤ j ∧ j ≤ 92) ∨ (105 ≤ j ∧ j ≤ 240) ∨ 841 ≤ j)) ∨ (b = 1 ∧ (j = 4 ∨ (12 ≤ j ∧ j ≤ 25))) ∨ (64 ≤ b ∧ b ≤ 66)
def pz_QI (b j : Nat) : Prop := b = 60 ∨ b = 61 ∨ (b = 1 ∧ (j = 4 ∨ j = 5))
def pz_QF (b j : Nat) : Prop := (b = 1 ∧ j = 16) ∨ b = 67
theorem pz_sn.rf {M : pz_M} : pz_sn M M := ⟨id, fun _ _ _ => rfl⟩
theorem pz_sn.tr {M M' M'' : pz_M} (h : pz_sn M M') (h' : pz_sn M' M'') : pz_sn M M'' := ⟨fun q => h'.1 (h.1 q), fun b j q => (h'.2 b j q).trans (h.2 b j q)⟩
theorem pz_sk.rf {M : pz_M} : pz_sk M M := ⟨pz_sn.rf, rfl⟩
theorem pz_sk.tr {M M' M'' : pz_M} (h : pz_sk M M') (h' : pz_sk M' M'') : pz_sk M M'' := ⟨h.1.tr h'.1, h'.2.trans h.2⟩
theorem pz_sm.rf {M : pz_M} : pz_sm M M := ⟨pz_sk.rf, rfl⟩
theorem pz_sm.tr {M M' M'' : pz_M} (h : pz_sm M M') (h' : pz_sm M' M'') : pz_sm M M'' := ⟨h.1.tr h'.1, h'.2.trans h.2⟩
/-- what may be put where -/
def pz_iom (a k : Nat) (v : Int) : Prop :=
  a ≠ 61 ∧ (a = 60 → k ≤ 840 ∧ k ≠ 89 ∧ (k = 88 → 0 ≤ v ∧ v ≤ 12) ∧ (k = 90 → 0 ≤ v ∧ v ≤ 16) ∧ (k = 92 → 0 ≤ v ∧ v ≤ 16) ∧ (k = 3 → 0 ≤ v ∧ v ≤ 150)) ∧ (a = 63 → k = 3 → 0 ≤ v ∧ v ≤ 150) ∧ (a = 62 → k % 88 = 3 → 0 ≤ v ∧ v ≤ 150) ∧
  (a = 1 → (k = 4 → 0 ≤ v ∧ v ≤ 6) ∧ (k = 16 → 0 ≤ v ∧ v ≤ 400) ∧ (k = 17 → 0 ≤ v ∧ v ≤ 400) ∧ (k = 19 → 0 ≤ v ∧ v ≤ 400) ∧ (k = 13 → 0 ≤ v ∧ v ≤ 16) ∧ (k = 14 → 0 ≤ v ∧ v ≤ 410) ∧ (k = 15 → 0 ≤ v ∧ v ≤ 16))
theorem pz_lw_cg {M M' : pz_M} {a : Nat} (h : pz_lw M a) (he : ∀ j, j = 89 ∨ 841 ≤ j → M' a j = M a j) : pz_lw M' a := by
  intro i q1 q2
  rw [he 89 (Or.inl rfl)] at q2
  have key := h i q1 q2
  have e : (fun j => M' a (905 + j)) = fun j => M a (905 + j) := by
    funext j
    exact he _ (Or.inr (by omega))
  rw [he _ (Or.inr (by omega)), he _ (Or.inr (by omega)), he _ (Or.inr (by omega)), e]
  exact key
theorem pz_iw_u {M : pz_M} {a k : Nat} {v : Int} (h : pz_iom a k v) (hI : pz_iw M 60) : pz_iw (pz_u M a k v) 60 := by
  obtain ⟨i1, i2, i3, i4, i5⟩ := hI
  obtain ⟨o0, o1, o2, o3, o4⟩ := h
  refine ⟨?_, ?_, ?_, ?_, ?_⟩
  · rcases pz_uv M a k v 60 88 with ⟨ha, hk, hv⟩ | ⟨-, hv⟩
    · rw [hv]
      exact (o1 ha.symm).2.2.1 hk.symm
    · rw [hv]
      exact i1
  · rcases pz_uv M a k v 60 89 with ⟨ha, hk, hv⟩ | ⟨-, hv⟩
    · rw [hv]
      exact absurd hk.symm (o1 ha.symm).2.1
    · rw [hv]
      exact i2
  · rcases pz_uv M a k v 60 90 with ⟨ha, hk, hv⟩ | ⟨-, hv⟩
    · rw [hv]
      exact (o1 ha.symm).2.2.2.1 hk.symm
    · rw [hv]
      exact i3
  · rcases pz_uv M a k v 60 92 with ⟨ha, hk, hv⟩ | ⟨-, hv⟩
    · rw [hv]
      exact (o1 ha.symm).2.2.2.2.1 hk.symm
    · rw [hv]
      exact i4
  · rcases pz_uv M a k v 60 3 with ⟨ha, hk, hv⟩ | ⟨-, hv⟩
    · rw [hv]
      exact (o1 ha.symm).2.2.2.2.2 hk.symm
    · rw [hv]
      exact i5
theorem pz_ix_u {M : pz_M} {a k : Nat} {v : Int} (h : pz_iom a k v) (hI : pz_ix M) : pz_ix (pz_u M a k v) := by
  obtain ⟨i1, i2, i3, i4, i5, i6, i7, i8, i9⟩ := hI
  obtain ⟨o0, o1, o2, o3, o4⟩ := h
  refine ⟨?_, ?_, ?_, ?_, ?_, ?_, ?_, ?_, fun j hj => ?_⟩
  · rcases pz_uv M a k v 1 4 with ⟨ha, hk, hv⟩ | ⟨-, hv⟩
    · rw [hv]
      exact (o4 ha.symm).1 hk.symm
    · rw [hv]
      exact i1
  · rcases pz_uv M a k v 1 16 with ⟨ha, hk, hv⟩ | ⟨-, hv⟩
    · rw [hv]
      exact (o4 ha.symm).2.1 hk.symm
    · rw [hv]
      exact i2
  · rcases pz_uv M a k v 63 3 with ⟨ha, hk, hv⟩ | ⟨-, hv⟩
    · rw [hv]
      exact o2 ha.symm hk.symm
    · rw [hv]
      exact i3
  · rcases pz_uv M a k v 1 17 with ⟨ha, hk, hv⟩ | ⟨-, hv⟩
    · rw [hv]
      exact (o4 ha.symm).2.2.1 hk.symm
    · rw [hv]
      exact i4
  · rcases pz_uv M a k v 1 19 with ⟨ha, hk, hv⟩ | ⟨-, hv⟩
    · rw [hv]
      exact (o4 ha.symm).2.2.2.1 hk.symm
    · rw [hv]
      exact i5
  · rcases pz_uv M a k v 1 13 with ⟨ha, hk, hv⟩ | ⟨-, hv⟩
    · rw [hv]
      exact (o4 ha.symm).2.2.2.2.1 hk.symm
    · rw [hv]
      exact i6
  · rcases pz_uv M a k v 1 14 with ⟨ha, hk, hv⟩ | ⟨-, hv⟩
    · rw [hv]
      exact (o4 ha.symm).2.2.2.2.2.1 hk.symm
    · rw [hv]
      exact i7
  · rcases pz_uv M a k v 1 15 with ⟨ha, hk, hv⟩ | ⟨-, hv⟩
    · rw [hv]
      exact (o4 ha.symm).2.2.2.2.2.2 hk.symm
    · rw [hv]
      exact i8
  · rcases pz_uv M a k v 62 (88 * j + 3) with ⟨ha, hk, hv⟩ | ⟨-, hv⟩
    · rw [hv]
      exact o3 ha.symm (by omega)
    · rw [hv]
      exact i9 j hj
theorem pz_im_u {M : pz_M} {a k : Nat} {v : Int} (h : pz_iom a k v) (hI : pz_im M) : pz_im (pz_u M a k v) := by
  obtain ⟨i1, i2, i3, i4, i5⟩ := hI
  have h61 : ∀ j, pz_u M a k v 61 j = M 61 j := fun j => pz_una (Ne.symm h.1)
  refine ⟨pz_iw_u h i1, pz_ix_u h i2, pz_lw_cg i3 (fun j hj => ?_), ?_, pz_lw_cg i5 (fun j hj => h61 j)⟩
  · rcases pz_uv M a k v 60 j with ⟨ha, hk, -⟩ | ⟨-, hv⟩
    · obtain ⟨p1, p2, -⟩ := h.2.1 ha.symm
      omega
    · exact hv
  · unfold pz_iw
    rw [h61, h61, h61, h61, h61]
    exact i4
theorem pz_sn_u {M M' : pz_M} {a k : Nat} {v : Int} (hs : pz_sn M M') (hm : pz_mn a k) (h : pz_iom a k v) : pz_sn M (pz_u M' a k v) := by
  refine ⟨fun q => pz_im_u h (hs.1 q), fun b j hb => ?_⟩
  rcases pz_uv M' a k v b j with ⟨e1, e2, -⟩ | ⟨-, e⟩
  · subst e1; subst e2
    exact absurd hm hb
  · rw [e]
    exact hs.2 b j hb
theorem pz_sq.rf {M : pz_M} : pz_sq M M := ⟨id, fun _ _ _ => rfl, rfl⟩
theorem pz_sq.tr {M M' M'' : pz_M} (h : pz_sq M M') (h' : pz_sq M' M'') : pz_sq M M'' := ⟨fun q => h'.1 (h.1 q), fun b j q => (h'.2.1 b j q).trans (h.2.1 b j q), h'.2.2.trans h.2.2⟩
theorem pz_sq_u {M M' : pz_M} {a k : Nat} {v : Int} (hs : pz_sq M M') (hm : pz_mid a) (h4 : ¬ (a = 1 ∧ k = 16)) (h : pz_iom a k v) : pz_sq M (pz_u M' a k v) := by
  refine ⟨fun q => pz_im_u h (hs.1 q), fun b j hb => ?_, ?_⟩
  · have hne : b ≠ a := fun e => hb (e ▸ hm)
    rw [pz_una hne]
    exact hs.2.1 b j hb
  · have q1 := pz_uv M' a k v 1 16
    have := hs.2.2
    omega
theorem pz_sk_u {M M' : pz_M} {a k : Nat} {v : Int} (hs : pz_sk M M') (hm : pz_mn a k) (h4 : ¬ (a = 1 ∧ k = 16)) (h : pz_iom a k v) : pz_sk M (pz_u M' a k v) := by
  refine ⟨pz_sn_u hs.1 hm h, ?_⟩
  have q1 := pz_uv M' a k v 1 16
  have := hs.2
  omega
theorem pz_sm_u {M M' : pz_M} {a k : Nat} {v : Int} (hs : pz_sm M M') (hm : pz_mn a k) (h4 : ¬ (a = 1 ∧ k = 16)) (h5 : ¬ (a = 60 ∧ k = 88)) (h : pz_iom a k v) : pz_sm M (pz_u M' a k v) := by
  refine ⟨pz_sk_u hs.1 hm h4 h, ?_⟩
  have q1 := pz_uv M' a k v 60 88
  have := hs.2
  omega
theorem pz_rl.rf {P : Nat → Nat → Prop} {M : pz_M} : pz_rl P M M := ⟨id, fun _ _ _ => rfl⟩
theorem pz_rl.tr {P : Nat → Nat → Prop} {M M' M'' : pz_M} (h : pz_rl P M M') (h' : pz_rl P M' M'') : pz_rl P M M'' := ⟨fun q => h'.1 (h.1 q), fun b j q => (h'.2 b j q).trans (h.2 b j q)⟩
theorem pz_rl_u {P : Nat → Nat → Prop} {M M' : pz_M} {a k : Nat} {v : Int} (hs : pz_rl P M M') (hp : P a k) (h : pz_iom a k v) : pz_rl P M (pz_u M' a k v) := by
  refine ⟨fun q => pz_im_u h (hs.1 q), fun b j hb => ?_⟩
  have q1 := pz_uv M' a k v b j
  rcases q1 with ⟨rfl, rfl, -⟩ | ⟨-, q1⟩
  · exact absurd hp hb
  · rw [q1]
    exact hs.2 b j hb
theorem pz_rl.wk {P P' : Nat → Nat → Prop} {M M' : pz_M} (hp : ∀ b j, P b j → P' b j) (h : pz_rl P M M') : pz_rl P' M M' := ⟨h.1, fun b j q => h.2 b j (fun z => q (hp b j z))⟩
theorem pz_rl.sm {P : Nat → Nat → Prop} {M M' : pz_M} (hp : ∀ b j, P b j → pz_mn b j ∧ ¬ (b = 1 ∧ j = 16) ∧ ¬ (b = 60 ∧ j = 88)) (h : pz_rl P M M') : pz_sm M M' :=
  ⟨⟨⟨h.1, fun b j q => h.2 b j (fun z => q (hp b j z).1)⟩, h.2 1 16 (fun z => (hp _ _ z).2.1 ⟨rfl, rfl⟩)⟩, h.2 60 88 (fun z => (hp _ _ z).2.2 ⟨rfl, rfl⟩)⟩
theorem pz_or12 {x y : Int} (hx0 : 0 ≤ x) (hx : x < 4096) (hy0 : 0 ≤ y) (hy : y < 4096) : 0 ≤ (Int32.ofInt x ||| Int32.ofInt y).toInt ∧ (Int32.ofInt x ||| Int32.ofInt y).toInt < 4096 := by
  have h : (Int32.ofInt x ||| Int32.ofInt y).toBitVec.toNat < 2 ^ 12 := by
    show ((Int32.ofInt x).toBitVec ||| (Int32.ofInt y).toBitVec).toNat < 2 ^ 12
    rw [BitVec.toNat_or, pz_n12 hx0 hx, pz_n12 hy0 hy]
    exact Nat.or_lt_two_pow (by omega) (by omega)
  have e : (Int32.ofInt x ||| Int32.ofInt y).toInt = ((Int32.ofInt x ||| Int32.ofInt y).toBitVec.toNat : Int) := by
    show (Int32.ofInt x ||| Int32.ofInt y).toBitVec.toInt = _
    rw [BitVec.toInt_eq_toNat_cond]
    rw [if_pos (by omega)]
  rw [e]
  omega
theorem pz_and12 {x y : Int} (hx0 : 0 ≤ x) (hx : x < 4096) : 0 ≤ (Int32.ofInt x &&& Int32.ofInt y).toInt ∧ (Int32.ofInt x &&& Int32.ofInt y).toInt < 4096 := by
  have h : (Int32.ofInt x &&& Int32.ofInt y).toBitVec.toNat < 2 ^ 12 := by
    show ((Int32.ofInt x).toBitVec &&& (Int32.ofInt y).toBitVec).toNat < 2 ^ 12
    rw [BitVec.toNat_and, pz_n12 hx0 hx]
    have := @Nat.and_le_left x.toNat (Int32.ofInt y).toBitVec.toNat
    omega
  have e : (Int32.ofInt x &&& Int32.ofInt y).toInt = ((Int32.ofInt x &&& Int32.ofInt y).toBitVec.toNat : Int) := by
    show (Int32.ofInt x &&& Int32.ofInt y).toBitVec.toInt = _
    rw [BitVec.toInt_eq_toNat_cond]
    rw [if_pos (by omega)]
  rw [e]
  omega
theorem pz_sk.sq {M M' : pz_M} (h : pz_sk M M') : pz_sq M M' := ⟨h.1.1, fun b j q => h.1.2 b j (fun z => q z.1), h.2⟩
theorem pz_rlQ9_fg {M M' : pz_M} (e : M' = pz_u M 1 4 0) (h : pz_sm M M') : pz_rl pz_Q9 M M' := ⟨h.1.1.1, fun b j q => by
  rw [e]
  exact if_neg (by unfold pz_Q9 at q; omega)⟩
theorem pz_rl_fg {P : Nat → Nat → Prop} {M M' : pz_M} (hp : P 1 4) (e : M' = pz_u M 1 4 0) (h : pz_sm M M') : pz_rl P M M' := ⟨h.1.1.1, fun b j q => by
  rw [e]
  exact if_neg (fun z => q (by rw [z.1, z.2]; exact hp))⟩
/-- but for one cell of w -/
def pz_zm (k : Nat) (M M' : pz_M) : Prop := (pz_im M → pz_im M') ∧ (∀ b j : Nat, ¬ pz_mn b j → ¬ (b = 60 ∧ j = k) → M' b j = M b j) ∧ M' 1 16 = M 1 16
theorem pz_sm.zm {k : Nat} {M M' : pz_M} (h : pz_sm M M') : pz_zm k M M' := ⟨h.1.1.1, fun b j q _ => h.1.1.2 b j q, h.1.2⟩
theorem pz_zm.tr {k : Nat} {M M' M'' : pz_M} (h : pz_zm k M M') (h' : pz_zm k M' M'') : pz_zm k M M'' := ⟨fun q => h'.1 (h.1 q), fun b j q q2 => (h'.2.1 b j q q2).trans (h.2.1 b j q q2), h'.2.2.trans h.2.2⟩
theorem pz_zm_u {r : Nat} {M M' : pz_M} {a k : Nat} {v : Int} (hs : pz_zm r M M') (h1 : a ≠ 1) (hm : pz_mn a k ∨ (a = 60 ∧ k = r)) (h2 : 60 ≤ a) (h3 : 93 ≤ k) (h : pz_iom a k v) : pz_zm r M (pz_u M' a k v) := by
  refine ⟨fun q => pz_im_u h (hs.1 q), fun b j hb hb2 => ?_, ?_⟩
  · rcases pz_uv M' a k v b j with ⟨e1, e2, -⟩ | ⟨-, e⟩
    · subst e1; subst e2
      exact (hm.elim hb hb2).elim
    · rw [e]
      exact hs.2.1 b j hb hb2
  · rw [pz_una (show (1 : Nat) ≠ a by omega)]
    exact hs.2.2
theorem pz_zm.sm {k : Nat} {M M' : pz_M} (h : pz_zm k M M') (e : M' 60 k = M 60 k) (h88 : M' 60 88 = M 60 88) : pz_sm M M' := by
  refine ⟨⟨⟨h.1, fun b j q => ?_⟩, h.2.2⟩, h88⟩
  by_cases q2 : b = 60 ∧ j = k
  · rw [q2.1, q2.2]
    exact e
  · exact h.2.1 b j q q2
end
section
/-! chains: taking, keeping, going back; what of their shape stays -/
theorem pz_nrc {r k c : Nat} {K : Nat → Prop} (h : r = c) (hk : K c) : pz_nr r k K := fun z e _ => by
  rw [e, h]
  exact hk
theorem pz_une {M : pz_M} {a k b j : Nat} {v : Int} (h : ¬ (b = a ∧ j = k)) : pz_u M a k v b j = M b j := if_neg h
theorem pz_ue {M : pz_M} {a k b j : Nat} {v : Int} (h : b = a ∧ j = k) : pz_u M a k v b j = v := if_pos h
/-- where the Links of a chain lie -/
def pz_lb (c : Nat) : Nat := 89 + 13 * (c - 71)
theorem pz_rf_l {c n : Nat} (h1 : 71 ≤ c) (h2 : c < 80) : pz_rf (pz_rf c 1) n = pz_lb c + n := by
  have e : pz_rf c 1 = c + 9 := by
    unfold pz_rf
    rw [if_neg (by omega), if_pos h2]
    rfl
  rw [e]
  unfold pz_rf pz_lb
  rw [if_neg (by omega), if_neg (by omega)]
  omega
theorem pz_rf_n {c : Nat} (h1 : 71 ≤ c) (h2 : c < 80) : pz_rf c 2 = pz_lb c + 12 := by
  unfold pz_rf pz_lb
  rw [if_neg (by omega), if_pos h2]
  rfl
/-- a new Link -/
def pz_mkl (c : Nat) (p q w z : Int) (M : pz_M) : pz_M := pz_u (pz_u (pz_u (pz_u (pz_u (pz_u (pz_u (pz_u M c 0 p) c 1 q) c 2 w) c 3 z) c 4 0) c 5 0) c 6 0) c 7 (-1)
theorem pz_mkl_o {c b j : Nat} {p q w z : Int} {M : pz_M} (h : b ≠ c) : pz_mkl c p q w z M b j = M b j := by
  unfold pz_mkl
  rw [pz_una h, pz_una h, pz_una h, pz_una h, pz_una h, pz_una h, pz_una h, pz_una h]
theorem pz_mkl_3 {c : Nat} {p q w z : Int} {M : pz_M} : pz_mkl c p q w z M c 3 = z := by
  unfold pz_mkl
  rw [pz_unk (by decide), pz_unk (by decide), pz_unk (by decide), pz_unk (by decide)]
  exact pz_uu
/-- Link c takes n fields of Link d -/
def pz_ltk (c d : Nat) (M : pz_M) (n : Nat) : pz_M := fun b j => if b = c ∧ j < n then M d j else M b j
theorem pz_ltk_0 {c d : Nat} {M : pz_M} : M = pz_ltk c d M 0 := by
  funext b j
  unfold pz_ltk
  rw [if_neg (by omega)]
theorem pz_ltk_s {c d n : Nat} {M N N' : pz_M} {v : Int} (h : N = pz_ltk c d M n) (ev : v = N d n) (e : N' = pz_u N c n v) : N' = pz_ltk c d M (n + 1) := by
  have hv : v = M d n := by
    rw [ev, h]
    unfold pz_ltk
    rw [if_neg (by omega)]
  funext b j
  rw [e, hv, h]
  by_cases q : b = c ∧ j = n
  · rw [pz_ue q]
    unfold pz_ltk
    rw [if_pos (by omega), q.2]
  · rw [pz_une q]
    unfold pz_ltk
    by_cases q2 : b = c ∧ j < n
    · rw [if_pos q2, if_pos (by omega)]
    · rw [if_neg q2, if_neg (by omega)]
/-- chain c takes n Links of chain o, and its fields 3 .. m - 1 -/
def pz_tn (c o : Nat) (M : pz_M) (n m : Nat) : pz_M := fun b j => if pz_lb c ≤ b ∧ b < pz_lb c + n ∧ j < 8 then M (b - pz_lb c + pz_lb o) j else if b = c ∧ 3 ≤ j ∧ j < m then M o j else M b j
def pz_tf (c o : Nat) (M : pz_M) : pz_M := pz_tn c o M 12 8
theorem pz_tn_0 {c o : Nat} {M : pz_M} : M = pz_tn c o M (0 : Int).toNat 3 := by
  funext b j
  unfold pz_tn
  rw [if_neg (by omega), if_neg (by omega)]
theorem pz_tn_l {c o n r s : Nat} {M N : pz_M} (hc : 71 ≤ c ∧ c < 80) (ho : 71 ≤ o ∧ o < 80) (hn : n < 12) (h : N = pz_tn c o M n 3) (er : r = pz_lb c + n) (es : s = pz_lb o + n) : pz_ltk r s N 8 = pz_tn c o M (n + 1) 3 := by
  funext b j
  have e1 : N s j = M s j := by
    rw [h]
    unfold pz_tn
    rw [if_neg (by unfold pz_lb at *; omega), if_neg (by omega)]
  unfold pz_ltk
  by_cases q : b = r ∧ j < 8
  · rw [if_pos q, e1]
    unfold pz_tn
    rw [if_pos (by omega), show b - pz_lb c + pz_lb o = s by omega]
  · rw [if_neg q, h]
    unfold pz_tn
    by_cases q2 : pz_lb c ≤ b ∧ b < pz_lb c + n ∧ j < 8
    · rw [if_pos q2, if_pos (by omega)]
    · rw [if_neg q2, if_neg (show ¬ (pz_lb c ≤ b ∧ b < pz_lb c + (n + 1) ∧ j < 8) by omega)]
theorem pz_tn_s {c o m : Nat} {M N N' : pz_M} {v : Int} (hc : 71 ≤ c ∧ c < 80) (ho : 71 ≤ o ∧ o < 80) (hm : 3 ≤ m) (h : N = pz_tn c o M 12 m) (ev : v = N o m) (e : N' = pz_u N c m v) : N' = pz_tn c o M 12 (m + 1) := by
  have hv : v = M o m := by
    rw [ev, h]
    unfold pz_tn
    rw [if_neg (by unfold pz_lb; omega), if_neg (by omega)]
  funext b j
  rw [e, hv, h]
  by_cases q : b = c ∧ j = m
  · rw [pz_ue q]
    unfold pz_tn
    rw [if_neg (by unfold pz_lb; omega), if_pos (by omega), q.2]
  · rw [pz_une q]
    unfold pz_tn
    by_cases q2 : pz_lb c ≤ b ∧ b < pz_lb c + 12 ∧ j < 8
    · rw [if_pos q2, if_pos q2]
    · rw [if_neg q2, if_neg q2]
      by_cases q3 : b = c ∧ 3 ≤ j ∧ j < m
      · rw [if_pos q3, if_pos (by omega)]
      · rw [if_neg q3, if_neg (by omega)]
theorem pz_tf_o {c o b j : Nat} {M : pz_M} (h : b ≠ c) (h2 : b < pz_lb c ∨ pz_lb c + 12 ≤ b) : pz_tf c o M b j = M b j := by
  unfold pz_tf pz_tn
  rw [if_neg (by omega), if_neg (by omega)]
theorem pz_tf_k {c o j : Nat} {M : pz_M} (hc : 71 ≤ c ∧ c < 80) (h : 3 ≤ j ∧ j < 8) : pz_tf c o M c j = M o j := by
  unfold pz_tf pz_tn
  rw [if_neg (by unfold pz_lb; omega), if_pos (by omega)]
theorem pz_tf_l {c o i j : Nat} {M : pz_M} (hi : i < 12) (h : j < 8) : pz_tf c o M (pz_lb c + i) j = M (pz_lb o + i) j := by
  unfold pz_tf pz_tn
  rw [if_pos (by omega), show pz_lb c + i - pz_lb c + pz_lb o = pz_lb o + i by omega]
/-- a deed is kept; the latest one is undone -/
def pz_kf (M : pz_M) : pz_M := pz_u (pz_u (pz_tf (74 + (M 3 1).toNat) 71 M) 3 1 ((M 3 1 + 1) % 6)) 3 2 (min (pz_w (M 3 2 + 1)) 6)
def pz_bn (M : pz_M) : Int := (M 3 1 + 5) % 6
def pz_bf (M : pz_M) : pz_M := pz_tf 71 (74 + (pz_bn M).toNat) (pz_u (pz_u M 3 2 (pz_w (M 3 2 - 1))) 3 1 (pz_bn M))
/-- a chain of the same shape as the chain -/
def pz_alk (M : pz_M) (q : Nat) : Prop := M q 3 = M 71 3 ∧ ∀ i : Nat, i < 12 → M (pz_lb q + i) 3 = M (89 + i) 3
def pz_kep (M : pz_M) : Prop := (0 ≤ M 3 2 ∧ M 3 2 ≤ 6) ∧ ∀ t : Nat, (t : Int) < M 3 2 → pz_alk M (74 + ((M 3 1 + 5 - t) % 6).toNat)
def pz_fy (b j : Nat) : Prop := pz_mid b ∨ (b = 0 ∧ j = 13) ∨ (j = 3 ∧ (b = 73 ∨ (115 ≤ b ∧ b < 127))) ∨ (b = 5 ∧ (j = 3 ∨ j = 4)) ∨ b = 48 ∨ (10 ≤ b ∧ b ≤ 37 ∧ b ≠ 12 ∧ b ≠ 19 ∧ b ≠ 26 ∧ b ≠ 32)
def pz_fz (b j : Nat) : Prop := j = 3 ∧ (b = 71 ∨ (89 ≤ b ∧ b < 101))
def pz_sx (M M' : pz_M) : Prop := (pz_ic M → pz_ic M') ∧ (∀ b j : Nat, pz_fy b j → M' b j = M b j) ∧ (pz_ic M → pz_kep M → pz_kep M' ∧ ∀ b j : Nat, pz_fz b j → M' b j = M b j)
def pz_sW (M M' : pz_M) : Prop := pz_sx M M' ∧ M' 4 1 = M 4 1
theorem pz_sx.rf {M : pz_M} : pz_sx M M := ⟨id, fun _ _ _ => rfl, fun _ h => ⟨h, fun _ _ _ => rfl⟩⟩
theorem pz_sx.tr {M M' M'' : pz_M} (h : pz_sx M M') (h' : pz_sx M' M'') : pz_sx M M'' :=
  ⟨fun q => h'.1 (h.1 q), fun b j q => (h'.2.1 b j q).trans (h.2.1 b j q), fun q k => ⟨(h'.2.2 (h.1 q) (h.2.2 q k).1).1, fun b j z => ((h'.2.2 (h.1 q) (h.2.2 q k).1).2 b j z).trans ((h.2.2 q k).2 b j z)⟩⟩
theorem pz_sW.rf {M : pz_M} : pz_sW M M := ⟨pz_sx.rf, rfl⟩
theorem pz_sW.tr {M M' M'' : pz_M} (h : pz_sW M M') (h' : pz_sW M' M'') : pz_sW M M'' := ⟨h.1.tr h'.1, h'.2.trans h.2⟩
theorem pz_sW.rt {M M' : pz_M} (h : pz_sW M M') : pz_rt M M' := h.1.1
theorem pz_sx.rt {M M' : pz_M} (h : pz_sx M M') : pz_rt M M' := h.1
/-- what is alike stays so where the shape's cells stay -/
theorem pz_alk_cg {M M' : pz_M} {q : Nat} (hq : 74 ≤ q ∧ q < 80) (h : ∀ b j : Nat, (j = 3 ∧ (b = 71 ∨ b = q ∨ (89 ≤ b ∧ b < 101) ∨ (pz_lb q ≤ b ∧ b < pz_lb q + 12))) → M' b j = M b j) (ha : pz_alk M q) : pz_alk M' q := by
  refine ⟨?_, fun i hi => ?_⟩
  · rw [h q 3 (by omega), h 71 3 (by omega)]
    exact ha.1
  · rw [h _ 3 (by omega), h (89 + i) 3 (by omega)]
    exact ha.2 i hi
theorem pz_kep_cg {M M' : pz_M} (h : ∀ b j : Nat, b = 3 ∨ (j = 3 ∧ (b = 71 ∨ (74 ≤ b ∧ b < 80) ∨ (89 ≤ b ∧ b < 101) ∨ (128 ≤ b ∧ b < 206))) → M' b j = M b j) (hk : pz_kep M) : pz_kep M' := by
  have e1 := h 3 1 (Or.inl rfl)
  have e2 := h 3 2 (Or.inl rfl)
  refine ⟨by rw [e2]; exact hk.1, fun t ht => ?_⟩
  rw [e2] at ht
  rw [e1]
  refine pz_alk_cg (by omega) (fun b j hb => h b j ?_) (hk.2 t ht)
  unfold pz_lb at hb
  omega
theorem pz_sy.sx {M M' : pz_M} (h : pz_sy M M') : pz_sx M M' :=
  ⟨h.1, fun b j q => h.2 b j (by unfold pz_fy pz_mid at q; unfold pz_md pz_kx pz_mid; omega), fun _ hk => ⟨pz_kep_cg (fun b j q => h.2 b j (by unfold pz_md pz_kx; omega)) hk, fun b j q => h.2 b j (by unfold pz_fz at q; unfold pz_md pz_kx; omega)⟩⟩
theorem pz_st.sw {M M' : pz_M} (h : pz_st M M') : pz_sW M M' := ⟨h.1.sx, h.2.1⟩
/-- all is forgotten -/
theorem pz_fg_sW {M : pz_M} (h : pz_rt M (pz_u M 3 2 0)) : pz_sW M (pz_u M 3 2 0) := by
  have e : ∀ b j : Nat, ¬ (b = 3 ∧ j = 2) → pz_u M 3 2 0 b j = M b j := fun b j q => pz_une q
  refine ⟨⟨h, fun b j q => e b j (by unfold pz_fy pz_mid at q; omega), fun _ hk => ⟨⟨?_, fun t ht => ?_⟩, fun b j q => e b j (by unfold pz_fz at q; omega)⟩⟩, e 4 1 (by omega)⟩
  · rw [pz_uu]; omega
  · rw [pz_uu] at ht; omega
theorem pz_kf_o {M : pz_M} {b j : Nat} (hi : pz_ic M) (h : ¬ (b = 3 ∧ (j = 1 ∨ j = 2))) (h1 : b ≠ 74 + (M 3 1).toNat) (h2 : b < pz_lb (74 + (M 3 1).toNat) ∨ pz_lb (74 + (M 3 1).toNat) + 12 ≤ b) : pz_kf M b j = M b j := by
  unfold pz_kf
  rw [pz_une (by omega), pz_une (by omega), pz_tf_o h1 h2]
theorem pz_kf_sW {M : pz_M} (hi : pz_ic M) (h : pz_rt M (pz_kf M)) : pz_sW M (pz_kf M) := by
  have i1 := hi.2.1
  have e : ∀ b j : Nat, ¬ (b = 3 ∧ (j = 1 ∨ j = 2)) → b < 74 ∨ (80 ≤ b ∧ b < 128) → pz_kf M b j = M b j := fun b j q q2 => pz_kf_o hi q (by omega) (by unfold pz_lb; omega)
  refine ⟨⟨h, fun b j q => e b j (by unfold pz_fy pz_mid at q; omega) (by unfold pz_fy pz_mid at q; omega), fun _ hk => ?_⟩, e 4 1 (by omega) (by omega)⟩
  have f : ∀ b j : Nat, pz_fz b j → pz_kf M b j = M b j := fun b j q => e b j (by unfold pz_fz at q; omega) (by unfold pz_fz at q; omega)
  have k0 := hk.1
  have w1 : pz_w (M 3 2 + 1) = M 3 2 + 1 := by unfold pz_w; omega
  have k1 : pz_kf M 3 1 = (M 3 1 + 1) % 6 := by
    unfold pz_kf
    rw [pz_une (by omega), pz_uu]
  have k2 : pz_kf M 3 2 = min (M 3 2 + 1) 6 := by
    unfold pz_kf
    rw [pz_uu, w1]
  refine ⟨⟨by rw [k2]; omega, fun t ht => ?_⟩, f⟩
  rw [k2] at ht
  rw [k1]
  by_cases ht0 : t = 0
  · have eq : 74 + (((M 3 1 + 1) % 6 + 5 - (t : Nat)) % 6).toNat = 74 + (M 3 1).toNat := by omega
    rw [eq]
    have g : ∀ j b, b ≠ 3 → pz_kf M b j = pz_tf (74 + (M 3 1).toNat) 71 M b j := fun j b q => by
      unfold pz_kf
      rw [pz_una q, pz_una q]
    refine ⟨?_, fun i hi2 => ?_⟩
    · rw [f 71 3 (by unfold pz_fz; omega), g 3 _ (by omega)]
      exact pz_tf_k (by omega) (by omega)
    · rw [f (89 + i) 3 (by unfold pz_fz; omega), g 3 _ (by unfold pz_lb; omega), pz_tf_l hi2 (by omega)]
      rfl
  · have eq : 74 + (((M 3 1 + 1) % 6 + 5 - (t : Nat)) % 6).toNat = 74 + ((M 3 1 + 5 - ((t - 1 : Nat) : Int)) % 6).toNat := by omega
    rw [eq]
    have hne : ((M 3 1 + 5 - ((t - 1 : Nat) : Int)) % 6).toNat ≠ (M 3 1).toNat := by omega
    refine pz_alk_cg (by omega) (fun b j q => ?_) (hk.2 (t - 1) (by omega))
    refine pz_kf_o hi (by unfold pz_lb at q; omega) (by unfold pz_lb at q; omega) ?_
    have hy : ((M 3 1 + 5 - ((t - 1 : Nat) : Int)) % 6).toNat < 6 := by omega
    generalize ((M 3 1 + 5 - ((t - 1 : Nat) : Int)) % 6).toNat = y at q hne hy
    generalize (M 3 1).toNat = x at hne ⊢
    unfold pz_lb at q ⊢
    omega
theorem pz_bf_o {M : pz_M} {b j : Nat} (h : ¬ (b = 3 ∧ (j = 1 ∨ j = 2))) (h1 : b ≠ 71) (h2 : b < 89 ∨ 101 ≤ b) : pz_bf M b j = M b j := by
  unfold pz_bf
  rw [pz_tf_o h1 (by unfold pz_lb; omega), pz_une (by omega), pz_une (by omega)]
theorem pz_bf_sW {M : pz_M} (hi : pz_ic M) (hz : M 3 2 ≠ 0) (h : pz_rt M (pz_bf M)) : pz_sW M (pz_bf M) := by
  have i1 := hi.2.1
  refine ⟨⟨h, fun b j q => pz_bf_o (by unfold pz_fy pz_mid at q; omega) (by unfold pz_fy pz_mid at q; omega) (by unfold pz_fy pz_mid at q; omega), fun _ hk => ?_⟩, pz_bf_o (by omega) (by omega) (by omega)⟩
  have k0 := hk.1
  have hbn : pz_bn M = (M 3 1 + 5) % 6 := rfl
  have w1 : pz_w (M 3 2 - 1) = M 3 2 - 1 := by unfold pz_w; omega
  have k1 : pz_bf M 3 1 = pz_bn M := by
    unfold pz_bf
    rw [pz_tf_o (by omega) (by unfold pz_lb; omega), pz_uu]
  have k2 : pz_bf M 3 2 = M 3 2 - 1 := by
    unfold pz_bf
    rw [pz_tf_o (by omega) (by unfold pz_lb; omega), pz_une (by omega), pz_uu, w1]
  have ha := hk.2 0 (by omega)
  rw [show (M 3 1 + 5 - ((0 : Nat) : Int)) % 6 = pz_bn M by rw [hbn]; omega] at ha
  have f : ∀ b j : Nat, pz_fz b j → pz_bf M b j = M b j := fun b j q => by
    unfold pz_fz at q
    unfold pz_bf
    rcases q.2 with q2 | q2
    · rw [q2, q.1, pz_tf_k (by omega) (by omega), pz_una (by omega), pz_una (by omega)]
      exact ha.1
    · rw [show b = pz_lb 71 + (b - 89) by unfold pz_lb; omega, q.1, pz_tf_l (by omega) (by omega), pz_una (by unfold pz_lb; omega), pz_una (by unfold pz_lb; omega), ha.2 (b - 89) (by omega)]
      rfl
  refine ⟨⟨by rw [k2]; omega, fun t ht => ?_⟩, f⟩
  rw [k2] at ht
  rw [k1, show (pz_bn M + 5 - (t : Int)) % 6 = (M 3 1 + 5 - ((t + 1 : Nat) : Int)) % 6 by rw [hbn]; omega]
  refine pz_alk_cg (by omega) (fun b j q => ?_) (hk.2 (t + 1) (by omega))
  by_cases q2 : pz_fz b j
  · exact f b j q2
  · unfold pz_fz at q2
    exact pz_bf_o (by unfold pz_lb at q; omega) (by omega) (by omega)
theorem pz_tf72_st {M M' : pz_M} (e : M' = pz_tf 72 71 M) (h : pz_rt M M') : pz_st M M' := by
  have key : ∀ b j : Nat, b ≠ 72 → ¬ (102 ≤ b ∧ b < 114) → M' b j = M b j := fun b j q q2 => by
    rw [e]
    exact pz_tf_o q (by unfold pz_lb; omega)
  exact ⟨⟨h, fun b j q => key b j (by unfold pz_md pz_kx pz_mid at q; omega) (by unfold pz_md pz_kx pz_mid at q; omega)⟩, key 4 1 (by omega) (by omega), key 5 9 (by omega) (by omega)⟩
/-- but for one Link's slowness -/
def pz_sz (r : Nat) (M M' : pz_M) : Prop := (pz_ic M → pz_ic M') ∧ (∀ b j : Nat, pz_md b j → ¬ (b = r ∧ j = 3) → M' b j = M b j) ∧ M' 4 1 = M 4 1 ∧ M' 5 9 = M 5 9
theorem pz_st.sz {r : Nat} {M M' : pz_M} (h : pz_st M M') : pz_sz r M M' := ⟨h.1.1, fun b j q _ => h.1.2 b j q, h.2.1, h.2.2⟩
theorem pz_sz.tr {r : Nat} {M M' M'' : pz_M} (h : pz_sz r M M') (h' : pz_sz r M' M'') : pz_sz r M M'' := ⟨fun q => h'.1 (h.1 q), fun b j q q2 => (h'.2.1 b j q q2).trans (h.2.1 b j q q2), h'.2.2.1.trans h.2.2.1, h'.2.2.2.trans h.2.2.2⟩
theorem pz_sz_u {r : Nat} {M M' : pz_M} {a k : Nat} {v : Int} (hs : pz_sz r M M') (hm : ¬ pz_md a k ∨ (a = r ∧ k = 3)) (h4 : ¬ (a = 4 ∧ k = 1) ∧ ¬ (a = 5 ∧ k = 9)) (h : pz_iok a k v) : pz_sz r M (pz_u M' a k v) := by
  refine ⟨fun q => pz_ic_u h (hs.1 q), fun b j hb hb2 => ?_, ?_, ?_⟩
  · rcases pz_uv M' a k v b j with ⟨e1, e2, -⟩ | ⟨-, e⟩
    · subst e1; subst e2
      exact absurd hb (hm.resolve_right hb2)
    · rw [e]
      exact hs.2.1 b j hb hb2
  · have q1 := pz_uv M' a k v 4 1
    have := hs.2.2.1
    omega
  · have q1 := pz_uv M' a k v 5 9
    have := hs.2.2.2
    omega
theorem pz_sz.st {r : Nat} {M M' : pz_M} (h : pz_sz r M M') (e : M' r 3 = M r 3) : pz_st M M' := by
  refine ⟨⟨h.1, fun b j q => ?_⟩, h.2.2.1, h.2.2.2⟩
  by_cases q2 : b = r ∧ j = 3
  · rw [q2.1, q2.2]
    exact e
  · exact h.2.1 b j q q2
/-- a LINK, in the class and in the model -/
def pz_lkf (p q w s : Int) (M : pz_M) : pz_M := pz_u (pz_u (pz_u (pz_mkl (89 + (M 71 3).toNat) p q w s M) 71 3 (M 71 3 + 1)) 3 2 0) 7 0 0
def pz_lkm (p q w s : Int) (M : pz_M) : pz_M := pz_u (pz_u (pz_u (pz_u (pz_u (pz_u (pz_u (pz_u (pz_u (pz_u (pz_u (pz_u M 60 (4 + (M 60 88).toNat) p) 60 (16 + (M 60 88).toNat) q) 60 (28 + (M 60 88).toNat) w) 60 (93 + (M 60 88).toNat) s) 60 (40 + (M 60 88).toNat) 0) 60 (52 + (M 60 88).toNat) 0) 60 (64 + (M 60 88).toNat) 0) 60 (76 + (M 60 88).toNat) (-1)) 60 (105 + 2 * (M 60 88).toNat) 0) 60 (106 + 2 * (M 60 88).toNat) 240) 60 88 (M 60 88 + 1)) 1 4 0
def pz_bs (p : Int) : Int := if p = 0 then 4 else if p = 1 then 16 else if p = 2 then 28 else if p = 3 then 93 else 40
def pz_xi (c o : Nat) (M M' : pz_M) : Prop := (pz_ic M → pz_ic M') ∧ (∀ b j : Nat, pz_mq0 b j → ¬ (c = 73 ∧ b = 0 ∧ j = 13) → ¬ (c = 71 ∧ b = 3 ∧ j = 2) → M' b j = pz_tf c o M b j) ∧ M' 4 1 = M 4 1 ∧ M' 5 9 = M 5 9
theorem pz_xi_0 {c o : Nat} {M M' : pz_M} (hc : 71 ≤ c) (e : M' = pz_tf c o M) (h : pz_rt M M') : pz_xi c o M M' :=
  ⟨h, fun b j _ _ _ => by rw [e], by rw [e]; exact pz_tf_o (by omega) (by unfold pz_lb; omega), by rw [e]; exact pz_tf_o (by omega) (by unfold pz_lb; omega)⟩
theorem pz_xi.tr {c o : Nat} {M M' M'' : pz_M} (h : pz_xi c o M M') (h' : pz_st M' M'') : pz_xi c o M M'' :=
  ⟨fun q => h'.1.1 (h.1 q), fun b j q q2 q3 => (h'.1.2 b j (pz_mo_md q)).trans (h.2.1 b j q q2 q3), h'.2.1.trans h.2.2.1, h'.2.2.trans h.2.2.2⟩
theorem pz_xi_u {o : Nat} {M M' : pz_M} {a k : Nat} {v : Int} (hs : pz_xi 73 o M M') (hm : a = 0 ∧ k = 13) (h : pz_iok a k v) : pz_xi 73 o M (pz_u M' a k v) :=
  ⟨fun q => pz_ic_u h (hs.1 q), fun b j q q2 q3 => by rw [pz_une (by omega)]; exact hs.2.1 b j q q2 q3, by rw [pz_une (by omega)]; exact hs.2.2.1, by rw [pz_une (by omega)]; exact hs.2.2.2⟩
theorem pz_xi.fg {o : Nat} {M M' M'' : pz_M} (hs : pz_xi 71 o M M') (e : M'' = pz_u M' 3 2 0) (h : pz_rt M' M'') : pz_xi 71 o M M'' :=
  ⟨fun q => h (hs.1 q), fun b j q q2 q3 => by rw [e, pz_une (by omega)]; exact hs.2.1 b j q q2 q3, by rw [e, pz_une (by omega)]; exact hs.2.2.1, by rw [e, pz_une (by omega)]; exact hs.2.2.2⟩
theorem pz_xi.si {c o : Nat} {M M' : pz_M} (hc : 71 ≤ c ∧ c < 80) (h : pz_xi c o M M') : pz_si M M' :=
  ⟨h.1, fun b j q => by
    have q9 := q
    unfold pz_mid at q
    rw [h.2.1 b j (Or.inl q9) (by omega) (by omega)]
    exact pz_tf_o (by omega) (by unfold pz_lb; omega), h.2.2.1, h.2.2.2⟩
theorem pz_xi.trf {c o : Nat} {M M' M'' : pz_M} (h : pz_xi c o M M') (hr : pz_rt M' M'') (f : ∀ b j : Nat, pz_mq0 b j ∨ (b = 4 ∧ j = 1) ∨ (b = 5 ∧ j = 9) → M'' b j = M' b j) : pz_xi c o M M'' :=
  ⟨fun q => hr (h.1 q), fun b j q q2 q3 => (f b j (Or.inl q)).trans (h.2.1 b j q q2 q3), (f 4 1 (Or.inr (Or.inl ⟨rfl, rfl⟩))).trans h.2.2.1, (f 5 9 (Or.inr (Or.inr ⟨rfl, rfl⟩))).trans h.2.2.2⟩
end
section
/-! how likely one gets ready, reckoned downwards -/
def pz_lf (r : Int) : Nat → Int
  | 0 => 1000000
  | n + 1 => pz_lf r n * (1000 - r) / 1000
theorem pz_lf_b {r : Int} (h0 : 0 ≤ r) (h1 : r ≤ 1000) : ∀ n : Nat, 0 ≤ pz_lf r n ∧ pz_lf r n ≤ 1000000 := by
  intro n
  induction n with
  | zero => exact ⟨by unfold pz_lf; omega, by unfold pz_lf; omega⟩
  | succ n ih =>
    have a1 : 0 ≤ pz_lf r n * (1000 - r) := Int.mul_nonneg ih.1 (by omega)
    have a2 : pz_lf r n * (1000 - r) ≤ 1000000 * 1000 := Int.mul_le_mul ih.2 (by omega) (by omega) (by omega)
    show 0 ≤ pz_lf r n * (1000 - r) / 1000 ∧ pz_lf r n * (1000 - r) / 1000 ≤ 1000000
    omega
theorem pz_m9 {x y a b : Int} (hx0 : 0 ≤ x) (hx : x ≤ a) (hy0 : 0 ≤ y) (hy : y ≤ b) : 0 ≤ x * y ∧ x * y ≤ a * b :=
  ⟨Int.mul_nonneg hx0 hy0, Int.mul_le_mul hx hy hy0 (by omega)⟩
def pz_lnx (x y v : Int) : Prop := 0 ≤ x → x ≤ 1000000 → 0 ≤ y → y ≤ 1000 → v = x * (1000 - y) / 1000
def pz_lax (r d v : Int) : Prop := 0 ≤ r → r ≤ 1000 → 0 ≤ d → v = pz_lf r d.toNat
def pz_chx (r d v : Int) : Prop := 0 ≤ r → r ≤ 1000 → 0 ≤ d → v = 1000000 - pz_lf r d.toNat
def pz_tmx (a b v : Int) : Prop := 0 ≤ a → a ≤ 1000000 → 0 ≤ b → b ≤ 1000000 → v = a * b / 1000000
/-- how many, all with e of a million -/
def pz_mc (e : Int) : Nat → Int → Int → Int
  | 0, _, i => i
  | n + 1, a, i => if a * e / 1000000 < 500000 then i else pz_mc e n (a * e / 1000000) (i + 1)
theorem pz_mc0 {e a i : Int} {n : Nat} (h : n = 0) : pz_mc e n a i = i := by subst h; rfl
theorem pz_mcS {e a i b : Int} {n m : Nat} (h : n = m + 1) (hb : b = a * e / 1000000) (hn : ¬ b < 500000) : pz_mc e n a i = pz_mc e m b (i + 1) := by
  subst h; subst hb
  show (if a * e / 1000000 < 500000 then i else pz_mc e m (a * e / 1000000) (i + 1)) = _
  rw [if_neg hn]
theorem pz_mcR {e a i b : Int} {n m : Nat} (h : n = m + 1) (hb : b = a * e / 1000000) (hn : b < 500000) : pz_mc e n a i = i := by
  subst h; subst hb
  show (if a * e / 1000000 < 500000 then i else pz_mc e m (a * e / 1000000) (i + 1)) = _
  rw [if_pos hn]
/-! MONEY: the last one to have it by a minute -/
def pz_mo (f : Nat → Int) (m : Int) : Nat → Nat → Int → Int → Int
  | 0, _, _, a => a
  | n + 1, i, t, a => pz_mo f m n (i + 1) (pz_w (t + pz_w (10 + f i))) (if pz_w (t + pz_w (10 + f i)) ≤ m then (i : Int) else a)
theorem pz_mo0 {f : Nat → Int} {m : Int} {n i : Nat} {t a : Int} (h : n = 0) : pz_mo f m n i t a = a := by subst h; rfl
theorem pz_moS {f : Nat → Int} {m : Int} {n k i i' : Nat} {t t' a a' : Int} (h : n = k + 1) (hi : i' = i + 1) (e : t' = pz_w (t + pz_w (10 + f i))) (e2 : (t' ≤ m ∧ a' = (i : Int)) ∨ (m < t' ∧ a' = a)) : pz_mo f m k i' t' a' = pz_mo f m n i t a := by
  subst h; subst hi
  show _ = pz_mo f m k (i + 1) (pz_w (t + pz_w (10 + f i))) (if pz_w (t + pz_w (10 + f i)) ≤ m then (i : Int) else a)
  rw [← e]
  rcases e2 with ⟨q1, q2⟩ | ⟨q1, q2⟩
  · rw [if_pos q1, q2]
  · rw [if_neg (by omega), q2]
theorem pz_mo_cg {f g : Nat → Int} {m : Int} : ∀ (n i : Nat) (t a : Int), (∀ k : Nat, k < i + n → f k = g k) → pz_mo f m n i t a = pz_mo g m n i t a := by
  intro n
  induction n with
  | zero => intro i t a _; rfl
  | succ n ih =>
    intro i t a h
    show pz_mo f m n (i + 1) (pz_w (t + pz_w (10 + f i))) _ = pz_mo g m n (i + 1) (pz_w (t + pz_w (10 + g i))) _
    rw [h i (by omega)]
    exact ih _ _ _ (fun k hk => h k (by omega))
/-! the shape is the same in the class and in the model -/
def pz_RS (M : pz_M) : Prop := M 71 3 = M 60 88 ∧ (∀ i : Nat, i < 12 → M (89 + i) 3 = M 60 (93 + i)) ∧ M 73 3 = M 61 88 ∧ (∀ i : Nat, i < 12 → M (115 + i) 3 = M 61 (93 + i)) ∧ ((M 0 13 = 0 ∧ M 1 5 = 0) ∨ (M 0 13 ≠ 0 ∧ M 1 5 ≠ 0)) ∧ pz_kep M
theorem pz_RS_sx {M M' : pz_M} (hI : pz_ic M) (h : pz_RS M) (hs : pz_sx M M') : pz_RS M' := by
  obtain ⟨h1, h2, h3, h4, h5, h6⟩ := h
  obtain ⟨-, s2, s3⟩ := hs
  obtain ⟨s3, s4⟩ := s3 hI h6
  refine ⟨?_, fun i hi => ?_, ?_, fun i hi => ?_, ?_, s3⟩
  · rw [s4 71 3 (by unfold pz_fz; omega), s2 60 88 (by unfold pz_fy pz_mid; omega)]; exact h1
  · rw [s4 (89 + i) 3 (by unfold pz_fz; omega), s2 60 (93 + i) (by unfold pz_fy pz_mid; omega)]; exact h2 i hi
  · rw [s2 73 3 (by unfold pz_fy; omega), s2 61 88 (by unfold pz_fy pz_mid; omega)]; exact h3
  · rw [s2 (115 + i) 3 (by unfold pz_fy; omega), s2 61 (93 + i) (by unfold pz_fy pz_mid; omega)]; exact h4 i hi
  · rw [s2 0 13 (by unfold pz_fy; omega), s2 1 5 (by unfold pz_fy pz_mid; omega)]; exact h5
theorem pz_RS_sn {M M' : pz_M} (h : pz_RS M) (hs : pz_sn M M') : pz_RS M' := by
  obtain ⟨h1, h2, h3, h4, h5, h6⟩ := h
  have s2 := hs.2
  refine ⟨?_, fun i hi => ?_, ?_, fun i hi => ?_, ?_, pz_kep_cg (fun b j q => s2 b j (by unfold pz_mn pz_mid; omega)) h6⟩
  · rw [s2 71 3 (by unfold pz_mn pz_mid; omega), s2 60 88 (by unfold pz_mn pz_mid; omega)]; exact h1
  · rw [s2 (89 + i) 3 (by unfold pz_mn pz_mid; omega), s2 60 (93 + i) (by unfold pz_mn pz_mid; omega)]; exact h2 i hi
  · rw [s2 73 3 (by unfold pz_mn pz_mid; omega), s2 61 88 (by unfold pz_mn pz_mid; omega)]; exact h3
  · rw [s2 (115 + i) 3 (by unfold pz_mn pz_mid; omega), s2 61 (93 + i) (by unfold pz_mn pz_mid; omega)]; exact h4 i hi
  · rw [s2 0 13 (by unfold pz_mn pz_mid; omega), s2 1 5 (by unfold pz_mn pz_mid; omega)]; exact h5
theorem pz_lkf_3 {M : pz_M} {p q w s : Int} {b : Nat} (h0 : 0 ≤ M 71 3 ∧ M 71 3 < 12) (hb : b ≠ 3) (h2 : 60 ≤ b) : pz_lkf p q w s M b 3 = if b = 71 then M 71 3 + 1 else if b = 89 + (M 71 3).toNat then s else M b 3 := by
  unfold pz_lkf
  rw [pz_una (by omega), pz_una hb]
  by_cases h : b = 71
  · rw [if_pos h, h]
    exact pz_uu
  · rw [if_neg h, pz_una h]
    by_cases h9 : b = 89 + (M 71 3).toNat
    · rw [if_pos h9, h9]
      exact pz_mkl_3
    · rw [if_neg h9]
      exact pz_mkl_o h9
theorem pz_lkf_o {M : pz_M} {p q w s : Int} {b j : Nat} (hb : b ≠ 3 ∧ b ≠ 7 ∧ b ≠ 71 ∧ b ≠ 89 + (M 71 3).toNat) : pz_lkf p q w s M b j = M b j := by
  unfold pz_lkf
  rw [pz_una hb.2.1, pz_una hb.1, pz_una hb.2.2.1]
  exact pz_mkl_o hb.2.2.2
theorem pz_lkm_o {M : pz_M} {p q w s : Int} {b j : Nat} (h : b ≠ 60) (h1 : ¬ (b = 1 ∧ j = 4)) : pz_lkm p q w s M b j = M b j := by
  unfold pz_lkm
  rw [pz_une h1, pz_una h, pz_una h, pz_una h, pz_una h, pz_una h, pz_una h, pz_una h, pz_una h, pz_una h, pz_una h, pz_una h]
theorem pz_lkm_88 {M : pz_M} {p q w s : Int} : pz_lkm p q w s M 60 88 = M 60 88 + 1 := by
  unfold pz_lkm
  rw [pz_una (by decide)]
  exact pz_uu
theorem pz_lkm_s {M : pz_M} {p q w s : Int} {i : Nat} (h0 : 0 ≤ M 60 88 ∧ M 60 88 < 12) (hi : i < 12) : pz_lkm p q w s M 60 (93 + i) = if i = (M 60 88).toNat then s else M 60 (93 + i) := by
  unfold pz_lkm
  rw [pz_una (by decide), pz_unk (by omega), pz_unk (by omega), pz_unk (by omega), pz_unk (by omega), pz_unk (by omega), pz_unk (by omega), pz_unk (by omega)]
  by_cases h : i = (M 60 88).toNat
  · rw [if_pos h, h]
    exact pz_uu
  · rw [if_neg h, pz_unk (by omega), pz_unk (by omega), pz_unk (by omega), pz_unk (by omega)]
theorem pz_RS_link {M M1 M2 : pz_M} {p q w s v v' : Int} {C : Prop} (hI : pz_ic M) (hR : pz_RS M) (h : ((M 71 3 < 12 ∧ C) ∧ v = M 71 3 ∧ M1 = pz_lkf p q w s M) ∨ (¬ (M 71 3 < 12 ∧ C) ∧ v = -1 ∧ M1 = M)) (h' : ((M1 60 88 < 12 ∧ C) ∧ v' = M1 60 88 ∧ M2 = pz_lkm p q w s M1) ∨ (¬ (M1 60 88 < 12 ∧ C) ∧ v' = -1 ∧ M2 = M1)) : v = v' ∧ pz_RS M2 := by
  obtain ⟨h1, h2, h3, h4, h5, h6⟩ := id hR
  have i1 := hI.1 71 (by omega) (by omega)
  rcases h with ⟨⟨a1, a2⟩, a3, a4⟩ | ⟨a1, a2, a3⟩
  · have f : ∀ j, M1 60 j = M 60 j := fun j => by
      rw [a4]
      exact pz_lkf_o (by omega)
    rw [f] at h'
    rcases h' with ⟨⟨b1, b2⟩, b3, b4⟩ | ⟨b1, -, -⟩
    · refine ⟨by omega, ?_⟩
      have g : ∀ b j, b ≠ 60 → b ≠ 1 → M2 b j = M1 b j := fun b j q q2 => by
        rw [b4]
        exact pz_lkm_o q (fun z => q2 z.1)
      refine ⟨?_, fun i hi => ?_, ?_, fun i hi => ?_, ?_, ⟨?_, fun t ht => ?_⟩⟩
      · rw [g 71 3 (by omega) (by omega), b4, pz_lkm_88, f, a4, pz_lkf_3 (by omega) (by omega) (by omega), if_pos rfl]
        omega
      · rw [g _ 3 (by omega) (by omega), b4, pz_lkm_s (by rw [f]; omega) hi, f, f, a4, pz_lkf_3 (by omega) (by omega) (by omega), if_neg (by omega), h1]
        by_cases h9 : i = (M 60 88).toNat
        · rw [if_pos h9, if_pos (by omega)]
        · rw [if_neg h9, if_neg (by omega)]
          exact h2 i hi
      · rw [g 73 3 (by omega) (by omega), g 61 88 (by omega) (by omega), a4, pz_lkf_3 (by omega) (by omega) (by omega), if_neg (by omega), if_neg (by omega), pz_lkf_o (by omega)]
        exact h3
      · rw [g _ 3 (by omega) (by omega), g 61 _ (by omega) (by omega), a4, pz_lkf_3 (by omega) (by omega) (by omega), if_neg (by omega), if_neg (by omega), pz_lkf_o (by omega)]
        exact h4 i hi
      · rw [g 0 13 (by omega) (by omega), show M2 1 5 = M1 1 5 by rw [b4]; exact pz_lkm_o (by omega) (by omega), a4, pz_lkf_o (by omega), pz_lkf_o (by omega)]
        exact h5
      · rw [g 3 2 (by omega) (by omega), a4]
        unfold pz_lkf
        rw [pz_una (by omega), pz_uu]
        omega
      · rw [g 3 2 (by omega) (by omega), a4] at ht
        unfold pz_lkf at ht
        rw [pz_una (by omega), pz_uu] at ht
        omega
    · exact absurd ⟨by omega, a2⟩ b1
  · subst a3
    rcases h' with ⟨⟨b1, b2⟩, b3, b4⟩ | ⟨b1, b2, b3⟩
    · exact absurd ⟨by omega, b2⟩ a1
    · subst b3
      exact ⟨by omega, hR⟩
theorem pz_RS_set {M M1 M2 : pz_M} {w i n v v' : Int} {C : Prop} (hC : C → 0 ≤ w ∧ w ≤ 4) (hI : pz_ic M) (hR : pz_RS M) (h : (((0 ≤ i ∧ i < M 71 3) ∧ C) ∧ v = 1 ∧ M1 = pz_u (pz_u M (89 + i.toNat) w.toNat n) 3 2 0) ∨ (¬ ((0 ≤ i ∧ i < M 71 3) ∧ C) ∧ v = 0 ∧ M1 = M)) (h' : (((0 ≤ i ∧ i < M1 60 88) ∧ C) ∧ v' = 1 ∧ M2 = pz_u (pz_u M1 60 (pz_bs w + i).toNat n) 1 4 0) ∨ (¬ ((0 ≤ i ∧ i < M1 60 88) ∧ C) ∧ v' = 0 ∧ M2 = M1)) : v = v' ∧ pz_RS M2 := by
  obtain ⟨h1, h2, h3, h4, h5, h6⟩ := id hR
  have i1 := hI.1 71 (by omega) (by omega)
  rcases h with ⟨⟨a1, a2⟩, a3, a4⟩ | ⟨a1, a2, a3⟩
  · have hw := hC a2
    have f : ∀ b j, b ≠ 3 → ¬ (b = 89 + i.toNat ∧ j = w.toNat) → M1 b j = M b j := fun b j q q2 => by
      rw [a4, pz_una q, pz_une q2]
    rw [f 60 88 (by omega) (by omega)] at h'
    rcases h' with ⟨⟨b1, b2⟩, b3, b4⟩ | ⟨b1, -, -⟩
    · refine ⟨by omega, ?_⟩
      have g : ∀ b j, ¬ (b = 60 ∧ j = (pz_bs w + i).toNat) → ¬ (b = 1 ∧ j = 4) → M2 b j = M1 b j := fun b j q q2 => by
        rw [b4, pz_une q2, pz_une q]
      have hb : (w = 3 ∧ pz_bs w = 93) ∨ (w ≠ 3 ∧ 4 ≤ pz_bs w ∧ pz_bs w ≤ 40) := by
        unfold pz_bs
        repeat' split
        all_goals omega
      refine ⟨?_, fun k hk => ?_, ?_, fun k hk => ?_, ?_, ⟨?_, fun t ht => ?_⟩⟩
      · rw [g 71 3 (by omega) (by omega), g 60 88 (by omega) (by omega), f 71 3 (by omega) (by omega), f 60 88 (by omega) (by omega)]
        exact h1
      · rw [g (89 + k) 3 (by omega) (by omega)]
        by_cases h9 : w = 3 ∧ k = i.toNat
        · have e1 : M1 (89 + k) 3 = n := by
            rw [a4, pz_una (by omega)]
            exact pz_ue (by omega)
          have e2 : M2 60 (93 + k) = n := by
            rw [b4, pz_una (by omega)]
            exact pz_ue (by omega)
          rw [e1, e2]
        · rw [g 60 (93 + k) (by omega) (by omega), f (89 + k) 3 (by omega) (by omega), f 60 (93 + k) (by omega) (by omega)]
          exact h2 k hk
      · rw [g 73 3 (by omega) (by omega), g 61 88 (by omega) (by omega), f 73 3 (by omega) (by omega), f 61 88 (by omega) (by omega)]
        exact h3
      · rw [g _ 3 (by omega) (by omega), g 61 _ (by omega) (by omega), f _ 3 (by omega) (by omega), f 61 _ (by omega) (by omega)]
        exact h4 k hk
      · rw [g 0 13 (by omega) (by omega), g 1 5 (by omega) (by omega), f 0 13 (by omega) (by omega), f 1 5 (by omega) (by omega)]
        exact h5
      · rw [g 3 2 (by omega) (by omega), a4, pz_uu]
        omega
      · rw [g 3 2 (by omega) (by omega), a4, pz_uu] at ht
        omega
    · exact absurd ⟨by omega, a2⟩ b1
  · subst a3
    rcases h' with ⟨⟨b1, b2⟩, b3, b4⟩ | ⟨b1, b2, b3⟩
    · exact absurd ⟨by omega, b2⟩ a1
    · subst b3
      exact ⟨by omega, hR⟩
theorem pz_RS_image {M M1 M2 : pz_M} {t v v' : Int} (hR : pz_RS M) (h : (t = 0 ∧ M 0 13 = 0 ∧ v = 0 ∧ M1 = M) ∨ (t ≠ 0 ∧ v = 1 ∧ M1 0 13 = 1 ∧ pz_xi 73 71 M M1) ∨ (t = 0 ∧ M 0 13 ≠ 0 ∧ v = 1 ∧ M1 0 13 = M 0 13 ∧ M1 3 2 = 0 ∧ pz_xi 71 73 M M1))
    (h' : (t = 0 ∧ M1 1 5 = 0 ∧ v' = 0 ∧ M2 = M1) ∨ ((t ≠ 0 ∨ M1 1 5 ≠ 0) ∧ v' = 1 ∧ M2 1 5 = 1 ∧ ((t = 0 → ∀ k : Nat, (k : Int) < 1725 → M2 60 k = M1 61 k) ∧ (t = 0 → ∀ k, M2 61 k = M1 61 k) ∧ (t ≠ 0 → ∀ k : Nat, (k : Int) < 1725 → M2 61 k = M1 60 k) ∧ (t ≠ 0 → ∀ k, M2 60 k = M1 60 k)))) (hq : pz_sq M1 M2) : v = v' ∧ pz_RS M2 := by
  obtain ⟨h1, h2, h3, h4, h5, h6⟩ := id hR
  have m2 : ∀ b j : Nat, ¬ pz_mid b → M2 b j = M1 b j := fun b j q => hq.2.1 b j q
  have mi : ∀ b : Nat, (b < 60 ∧ b ≠ 1) ∨ 71 ≤ b → ¬ pz_mid b := fun b q => by unfold pz_mid; omega
  rcases h with ⟨a1, a2, a3, a4⟩ | ⟨a1, a2, a3, a4⟩ | ⟨a1, a2, a3, a4, a5, a6⟩
  · subst a4
    rcases h' with ⟨b1, b2, b3, b4⟩ | ⟨b1, b2, b3, b4⟩
    · subst b4
      exact ⟨by omega, hR⟩
    · omega
  · have mc : ∀ b j : Nat, pz_mid b → M1 b j = M b j := fun b j q => by
      have q9 : pz_mid b := q
      unfold pz_mid at q
      rw [a4.2.1 b j (Or.inl q9) (by omega) (by omega)]
      exact pz_tf_o (by omega) (by unfold pz_lb; omega)
    have st : ∀ b j : Nat, (j = 3 ∧ (b = 71 ∨ (74 ≤ b ∧ b < 80) ∨ (89 ≤ b ∧ b < 101) ∨ (128 ≤ b ∧ b < 206))) ∨ b = 3 → M2 b j = M b j := fun b j q => by
      rw [m2 b j (mi b (by omega)), a4.2.1 b j (by unfold pz_mq0 pz_ko; omega) (by omega) (by omega)]
      exact pz_tf_o (by omega) (by unfold pz_lb; omega)
    rcases h' with ⟨b1, -, -, -⟩ | ⟨b1, b2, b3, c1, c2, c3, c4⟩
    · exact absurd b1 a1
    · refine ⟨by omega, ?_, fun i hi => ?_, ?_, fun i hi => ?_, ?_, pz_kep_cg (fun b j q => st b j (by omega)) h6⟩
      · rw [st 71 3 (by omega), c4 a1, mc 60 88 (by unfold pz_mid; omega)]
        exact h1
      · rw [st (89 + i) 3 (by omega), c4 a1, mc 60 _ (by unfold pz_mid; omega)]
        exact h2 i hi
      · rw [m2 73 3 (mi 73 (by omega)), c3 a1 88 (by omega), mc 60 88 (by unfold pz_mid; omega), a4.2.1 73 3 (by unfold pz_mq0 pz_ko; omega) (by omega) (by omega), pz_tf_k (by omega) (by omega)]
        exact h1
      · rw [m2 (115 + i) 3 (mi _ (by omega)), c3 a1 _ (by omega), mc 60 _ (by unfold pz_mid; omega), a4.2.1 (115 + i) 3 (by unfold pz_mq0 pz_ko; omega) (by omega) (by omega), show 115 + i = pz_lb 73 + i by unfold pz_lb; omega, pz_tf_l hi (by omega)]
        exact h2 i hi
      · refine Or.inr ⟨?_, by omega⟩
        rw [m2 0 13 (mi 0 (by omega)), a3]
        omega
  · have mc : ∀ b j : Nat, pz_mid b → M1 b j = M b j := fun b j q => by
      have q9 : pz_mid b := q
      unfold pz_mid at q
      rw [a6.2.1 b j (Or.inl q9) (by omega) (by omega)]
      exact pz_tf_o (by omega) (by unfold pz_lb; omega)
    rcases h' with ⟨b1, b9, -, -⟩ | ⟨b1, b2, b3, c1, c2, c3, c4⟩
    · rw [mc 1 5 (by unfold pz_mid; omega)] at b9
      omega
    · refine ⟨by omega, ?_, fun i hi => ?_, ?_, fun i hi => ?_, ?_, ⟨?_, fun t ht => ?_⟩⟩
      · rw [m2 71 3 (mi _ (by omega)), c1 a1 88 (by omega), mc 61 88 (by unfold pz_mid; omega), a6.2.1 71 3 (by unfold pz_mq0 pz_ko; omega) (by omega) (by omega), pz_tf_k (by omega) (by omega)]
        exact h3
      · rw [m2 (89 + i) 3 (mi _ (by omega)), c1 a1 _ (by omega), mc 61 _ (by unfold pz_mid; omega), a6.2.1 (89 + i) 3 (by unfold pz_mq0 pz_ko; omega) (by omega) (by omega), show 89 + i = pz_lb 71 + i by unfold pz_lb; omega, pz_tf_l hi (by omega)]
        exact h4 i hi
      · rw [m2 73 3 (mi _ (by omega)), c2 a1, mc 61 88 (by unfold pz_mid; omega), a6.2.1 73 3 (by unfold pz_mq0 pz_ko; omega) (by omega) (by omega), pz_tf_o (by omega) (by unfold pz_lb; omega)]
        exact h3
      · rw [m2 (115 + i) 3 (mi _ (by omega)), c2 a1, mc 61 _ (by unfold pz_mid; omega), a6.2.1 (115 + i) 3 (by unfold pz_mq0 pz_ko; omega) (by omega) (by omega), pz_tf_o (by omega) (by unfold pz_lb; omega)]
        exact h4 i hi
      · refine Or.inr ⟨?_, by omega⟩
        rw [m2 0 13 (mi 0 (by omega)), a4]
        exact a2
      · rw [m2 3 2 (mi 3 (by omega)), a5]
        omega
      · rw [m2 3 2 (mi 3 (by omega)), a5] at ht
        omega
theorem pz_lk_mid {M M1 : pz_M} {p q w s v : Int} {C C' : Prop} (hI : pz_ic M) (h : (C ∧ v = M 71 3 ∧ M1 = pz_lkf p q w s M) ∨ (C' ∧ v = -1 ∧ M1 = M)) : ∀ b j : Nat, pz_mid b → M1 b j = M b j := fun b j q => by
  have i1 := hI.1 71 (by omega) (by omega)
  unfold pz_mid at q
  rcases h with ⟨-, -, h⟩ | ⟨-, -, h⟩
  · rw [h]
    exact pz_lkf_o (by omega)
  · rw [h]
theorem pz_set_mid {M M1 : pz_M} {a k : Nat} {n v : Int} {C C' : Prop} (h : (C ∧ v = 1 ∧ M1 = pz_u (pz_u M (89 + a) k n) 3 2 0) ∨ (C' ∧ v = 0 ∧ M1 = M)) : ∀ b j : Nat, pz_mid b → M1 b j = M b j := fun b j q => by
  unfold pz_mid at q
  rcases h with ⟨-, -, h⟩ | ⟨-, -, h⟩
  · rw [h, pz_una (by omega), pz_una (by omega)]
  · rw [h]
theorem pz_xi.mid {c o : Nat} {M M' : pz_M} (hc : 71 ≤ c ∧ c < 80) (h : pz_xi c o M M') : ∀ b j : Nat, pz_mid b → M' b j = M b j := (h.si hc).2.1
theorem pz_img_mid {M M1 : pz_M} {t v : Int} (h : (t = 0 ∧ M 0 13 = 0 ∧ v = 0 ∧ M1 = M) ∨ (t ≠ 0 ∧ v = 1 ∧ M1 0 13 = 1 ∧ pz_xi 73 71 M M1) ∨ (t = 0 ∧ M 0 13 ≠ 0 ∧ v = 1 ∧ M1 0 13 = M 0 13 ∧ M1 3 2 = 0 ∧ pz_xi 71 73 M M1)) : ∀ b j : Nat, pz_mid b → M1 b j = M b j := fun b j q => by
  rcases h with ⟨-, -, -, h⟩ | ⟨-, -, -, h⟩ | ⟨-, -, -, -, -, h⟩
  · rw [h]
  · exact h.mid (by omega) b j q
  · exact h.mid (by omega) b j q
theorem pz_RS_money {M : pz_M} {t m v v' : Int} {C : Prop} [Decidable C] (hI : pz_ic M) (hR : pz_RS M) (h : v = (if C then pz_mo (fun k => M (89 + k) 3) m (M 71 3).toNat 0 t (-1) else -1)) (h' : v' = (if C then pz_mo (fun k => M 60 (93 + k)) m (M 60 88).toNat 0 t (-1) else -1)) : v = v' := by
  have i1 := hI.1 71 (by omega) (by omega)
  rw [h, h', ← hR.1]
  by_cases q : C
  · rw [if_pos q, if_pos q]
    exact pz_mo_cg _ _ _ _ (fun k hk => hR.2.1 k (by omega))
  · rw [if_neg q, if_neg q]
theorem pz_RS_sW {M M' : pz_M} (hI : pz_ic M) (h : pz_RS M) (hs : pz_sW M M') : pz_RS M' := pz_RS_sx hI h hs.1
end
