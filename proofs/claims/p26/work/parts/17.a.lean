/-! the law -/
theorem pz_im_cg {M M' : pz_M} (h : ∀ b j : Nat, pz_mid b → M' b j = M b j) (hI : pz_im M) : pz_im M' := by
  have e1 : M' 1 = M 1 := funext fun j => h 1 j (by unfold pz_mid; omega)
  have e60 : M' 60 = M 60 := funext fun j => h 60 j (by unfold pz_mid; omega)
  have e61 : M' 61 = M 61 := funext fun j => h 61 j (by unfold pz_mid; omega)
  have e62 : M' 62 = M 62 := funext fun j => h 62 j (by unfold pz_mid; omega)
  have e63 : M' 63 = M 63 := funext fun j => h 63 j (by unfold pz_mid; omega)
  unfold pz_im pz_iw pz_ix pz_lw at *
  rw [e1, e60, e61, e62, e63]
  exact hI
theorem pz_ic_cg {M M' : pz_M} (h : ∀ b j : Nat, ¬ pz_mid b → M' b j = M b j) (hI : pz_ic M) : pz_ic M' := by
  obtain ⟨i1, i2, i3, i4, i5, i6⟩ := hI
  refine ⟨fun c q1 q2 => ?_, ?_, fun r q1 q2 => ?_, fun L q1 q2 => ?_, ?_, ?_⟩
  · rw [h c 3 (by unfold pz_mid; omega), h c 7 (by unfold pz_mid; omega)]; exact i1 c q1 q2
  · rw [h 3 1 (by unfold pz_mid; omega)]; exact i2
  · rw [h r 0 (by unfold pz_mid; omega)]; exact i3 r q1 q2
  · rw [h L 0 (by unfold pz_mid; omega), h L 1 (by unfold pz_mid; omega)]; exact i4 L q1 q2
  · rw [h 4 1 (by unfold pz_mid; omega)]; exact i5
  · rw [h 7 3 (by unfold pz_mid; omega)]; exact i6
theorem pz_ix1 {i k : Nat} (h : i + k < 4000) : (Int32.ofNat i + Int32.ofNat k).toNatClampNeg = i + k ∧ ¬ (Int32.ofNat i + Int32.ofNat k < 0) := by
  have e : Int32.ofNat i + Int32.ofNat k = Int32.ofInt ((i + k : Nat) : Int) := by
    rw [← Int32.ofNat_add, Int32.ofInt_eq_ofNat]
  have hc : pz_c ((i + k : Nat) : Int) := by unfold pz_c; omega
  rw [e]
  refine ⟨by rw [pz_clamp hc]; omega, fun q => ?_⟩
  have := (pz_lt hc (show pz_c 0 by unfold pz_c; omega)).mp q
  omega
def pz_R (M : pz_M) : Prop := True
section PZL
variable {p : Program} {l : Launch} {e : Env} {s : State} {m : MethodId} {below : List Frame} {meth : Method} {c : Code} {cells slots : Nat} {Q : State → Prop}
variable {D : va_G} {ad adV : Nat → Nat} {cy : Nat → ClassId} {A : Nat → Prop} {b L : Nat} {xs : Nat → Int32}
/-- an argument is read out of the script -/
theorem pz_la (Y : pz_Y p s m #[Value.ref b] c code R_law 4 D ad adV cy A) (hX : va_X b L xs s s.heap) (hbl : b < s.heap.size) (hbA : ¬ A b) (hL : L ≤ 3072) {i k pc : Nat} (hi : i + k < L) {H : Heap} {locs : List Loc} {ls : Array Slot} {rest : List Value} (hl : lv_has ls 4 [(0, .ref b), (1, .ref (ad 0)), (2, .ref (ad 1)), (3, .int (Int32.ofNat i))]) (hS : va_S A s.heap H locs)
    (d0 : decode code pc = .ok (.aload_n 0, 1)) (d1 : decode code (pc + 1) = .ok (.iload_n 3, 1)) (d2 : decode code (pc + 1 + 1) = .ok (.iconst (k : Int), 1)) (d3 : decode code (pc + 1 + 1 + 1) = .ok (.iadd, 1)) (d4 : decode code (pc + 1 + 1 + 1 + 1) = .ok (.iaload, 1))
    (kk : W p l e room_1 s m #[Value.ref b] below meth c H locs cells slots Q (F0 m (pc + 1 + 1 + 1 + 1 + 1) ls (.int (Int32.ofInt (xs (i + k)).toInt) :: rest))) : W p l e room_1 s m #[Value.ref b] below meth c H locs cells slots Q (F0 m pc ls rest) := by
  obtain ⟨hx, hb, hml, hown, hts, hXX⟩ := Y
  refine lv_aload_n hx hb d0 rfl (lv_at hl 0 rfl) ?_
  refine lv_iload_n hx hb d1 rfl (lv_at hl 3 rfl) ?_
  refine lv_iconst hx hb (v := Int32.ofNat k) d2 (by rw [← Int32.ofInt_eq_ofNat]) ?_
  refine lv_iadd hx hb d3 ?_
  obtain ⟨g1, g2⟩ := pz_ix1 (i := i) (k := k) (by omega)
  refine va_sld hx hb hX hbl hbA hS (fun q => by rcases q with q | q; exact g2 q; rw [g1] at q; omega) d4 ?_
  rw [g1, ← Int32.ofInt_toInt (xs (i + k))]
  rw [Int32.ofInt_toInt] at kk
  rw [Int32.ofInt_toInt]
  exact kk

set_option maxRecDepth 100000 in
set_option maxHeartbeats 4000000 in
theorem pz_case0 (Y : pz_Y p s m #[Value.ref b] c code R_law 4 D ad adV cy A) (hcs : cells ≤ room_1.cells ∧ slots ≤ room_1.slots) (hX : va_X b L xs s s.heap) (hbl : b < s.heap.size) (hbA : ¬ A b) (hL : L ≤ 3072) {i : Nat} (hi : i + 6 ≤ L) {H : Heap} {locs : List Loc} {ls : Array Slot} {M : pz_M} (hl : lv_has ls 4 [(0, .ref b), (1, .ref (ad 0)), (2, .ref (ad 1)), (3, .int (Int32.ofNat i))]) (hP : va_P D vwCl (pz_ws ad cy M) H) (hS : va_S A s.heap H locs) (hM : ∀ a k : Nat, pz_c (M a k)) (hI : pz_ic M) (hJ : pz_im M) (hR : pz_R M) (K : ∀ (M9 : pz_M) (H9 : Heap) (locs9 : List Loc), pz_ic M9 → pz_im M9 → pz_R M9 → va_P D vwCl (pz_ws ad cy M9) H9 → va_S A s.heap H9 locs9 → (∀ a k : Nat, pz_c (M9 a k)) → W p l e room_1 s m #[Value.ref b] below meth c H9 locs9 cells slots Q (F0 m 1407 ls [])) : W p l e room_1 s m #[Value.ref b] below meth c H locs cells slots Q (F0 m 204 ls []) := by
  obtain ⟨hx, hb, hml, hown, hts, hXX⟩ := id Y
  refine lv_aload_n hx hb (k := 1) (by decide +kernel) rfl (lv_at hl 1 rfl) ?_
  refine pz_la Y hX hbl hbA hL (i := i) (k := 1) (by omega) hl hS (by decide +kernel) (by decide +kernel) (by decide +kernel) (by decide +kernel) (by decide +kernel) ?_
  refine pz_crV Y hcs (v_X11_state (Nat.le_of_ble_eq_true rfl) (Nat.le_of_ble_eq_true rfl) (by decide +kernel)) H locs ls M [.inr (.inr (11, 0)), .inl (xs (i + 1)).toInt] [] 210 (by decide +kernel) hP hS hM ?_ hl.1 rfl (Nat.le_of_ble_eq_true rfl) (hI) (fun r210 M210 H210 locs210 hq hr hP hS hM => ?_)
  · skip
    exact (List.forall_mem_cons.mpr ⟨(show pz_kd 0 = 11 ∧ 0 < 231 from by decide), (List.forall_mem_cons.mpr ⟨(pz_tc _), List.forall_mem_nil _⟩)⟩)
  obtain ⟨w210, rfl, C210⟩ := hr
  have hq : _ ∧ _ := hq
  obtain ⟨q210, z210⟩ := hq
  have hJ : pz_im M210 := pz_im_cg z210.1.2 hJ
  have hI : pz_ic M210 := z210.1.1 hI
  refine lv_pop hx hb (by decide +kernel) rfl ?_
  refine lv_aload_n hx hb (k := 2) (by decide +kernel) rfl (lv_at hl 2 rfl) ?_
  refine pz_la Y hX hbl hbA hL (i := i) (k := 1) (by omega) hl hS (by decide +kernel) (by decide +kernel) (by decide +kernel) (by decide +kernel) (by decide +kernel) ?_
  refine pz_crV Y hcs (v_X12_state (Nat.le_of_ble_eq_true rfl) (Nat.le_of_ble_eq_true rfl) (by decide +kernel)) H210 locs210 ls M210 [.inr (.inr (12, 1)), .inl (xs (i + 1)).toInt] [] 220 (by decide +kernel) hP hS hM ?_ hl.1 rfl (Nat.le_of_ble_eq_true rfl) (hJ) (fun r220 M220 H220 locs220 hq hr hP hS hM => ?_)
  · skip
    exact (List.forall_mem_cons.mpr ⟨(show pz_kd 1 = 12 ∧ 1 < 231 from by decide), (List.forall_mem_cons.mpr ⟨(pz_tc _), List.forall_mem_nil _⟩)⟩)
  obtain ⟨w220, rfl, C220⟩ := hr
  have hq : _ ∧ _ := hq
  obtain ⟨q220, z220⟩ := hq
  have hI : pz_ic M220 := pz_ic_cg z220.1.1.2 hI
  have hJ : pz_im M220 := z220.1.1.1 hJ
  refine lv_pop hx hb (by decide +kernel) rfl ?_
  refine lv_goto (tgt := 1407) hx hb (by decide +kernel) (by decide) ?_
  have hR : pz_R M220 := True.intro
  exact K _ _ _ hI hJ hR hP hS hM
set_option maxRecDepth 100000 in
set_option maxHeartbeats 4000000 in
theorem pz_case1 (Y : pz_Y p s m #[Value.ref b] c code R_law 4 D ad adV cy A) (hcs : cells ≤ room_1.cells ∧ slots ≤ room_1.slots) (hX : va_X b L xs s s.heap) (hbl : b < s.heap.size) (hbA : ¬ A b) (hL : L ≤ 3072) {i : Nat} (hi : i + 6 ≤ L) {H : Heap} {locs : List Loc} {ls : Array Slot} {M : pz_M} (hl : lv_has ls 4 [(0, .ref b), (1, .ref (ad 0)), (2, .ref (ad 1)), (3, .int (Int32.ofNat i))]) (hP : va_P D vwCl (pz_ws ad cy M) H) (hS : va_S A s.heap H locs) (hM : ∀ a k : Nat, pz_c (M a k)) (hI : pz_ic M) (hJ : pz_im M) (hR : pz_R M) (K : ∀ (M9 : pz_M) (H9 : Heap) (locs9 : List Loc), pz_ic M9 → pz_im M9 → pz_R M9 → va_P D vwCl (pz_ws ad cy M9) H9 → va_S A s.heap H9 locs9 → (∀ a k : Nat, pz_c (M9 a k)) → W p l e room_1 s m #[Value.ref b] below meth c H9 locs9 cells slots Q (F0 m 1407 ls [])) : W p l e room_1 s m #[Value.ref b] below meth c H locs cells slots Q (F0 m 227 ls []) := by
  obtain ⟨hx, hb, hml, hown, hts, hXX⟩ := id Y
  refine lv_aload_n hx hb (k := 1) (by decide +kernel) rfl (lv_at hl 1 rfl) ?_
  refine pz_la Y hX hbl hbA hL (i := i) (k := 1) (by omega) hl hS (by decide +kernel) (by decide +kernel) (by decide +kernel) (by decide +kernel) (by decide +kernel) ?_
  refine pz_la Y hX hbl hbA hL (i := i) (k := 2) (by omega) hl hS (by decide +kernel) (by decide +kernel) (by decide +kernel) (by decide +kernel) (by decide +kernel) ?_
  refine pz_la Y hX hbl hbA hL (i := i) (k := 3) (by omega) hl hS (by decide +kernel) (by decide +kernel) (by decide +kernel) (by decide +kernel) (by decide +kernel) ?_
  refine pz_la Y hX hbl hbA hL (i := i) (k := 4) (by omega) hl hS (by decide +kernel) (by decide +kernel) (by decide +kernel) (by decide +kernel) (by decide +kernel) ?_
  refine pz_crV Y hcs (v_X11_link (Nat.le_of_ble_eq_true rfl) (Nat.le_of_ble_eq_true rfl) (by decide +kernel)) H locs ls M [.inr (.inr (11, 0)), .inl (xs (i + 1)).toInt, .inl (xs (i + 2)).toInt, .inl (xs (i + 3)).toInt, .inl (xs (i + 4)).toInt] [] 248 (by decide +kernel) hP hS hM ?_ hl.1 rfl (Nat.le_of_ble_eq_true rfl) (hI) (fun r248 M248 H248 locs248 hq hr hP hS hM => ?_)
  · skip
    exact (List.forall_mem_cons.mpr ⟨(show pz_kd 0 = 11 ∧ 0 < 231 from by decide), (List.forall_mem_cons.mpr ⟨(pz_tc _), (List.forall_mem_cons.mpr ⟨(pz_tc _), (List.forall_mem_cons.mpr ⟨(pz_tc _), (List.forall_mem_cons.mpr ⟨(pz_tc _), List.forall_mem_nil _⟩)⟩)⟩)⟩)⟩)
  obtain ⟨w248, rfl, C248⟩ := hr
  have hq : _ ∧ _ := hq
  obtain ⟨q248, z248⟩ := hq
  have hJ : pz_im M248 := pz_im_cg z248.1.2 hJ
  have hI : pz_ic M248 := z248.1.1 hI
  refine lv_pop hx hb (by decide +kernel) rfl ?_
  refine lv_aload_n hx hb (k := 2) (by decide +kernel) rfl (lv_at hl 2 rfl) ?_
  refine pz_la Y hX hbl hbA hL (i := i) (k := 1) (by omega) hl hS (by decide +kernel) (by decide +kernel) (by decide +kernel) (by decide +kernel) (by decide +kernel) ?_
  refine pz_la Y hX hbl hbA hL (i := i) (k := 2) (by omega) hl hS (by decide +kernel) (by decide +kernel) (by decide +kernel) (by decide +kernel) (by decide +kernel) ?_
  refine pz_la Y hX hbl hbA hL (i := i) (k := 3) (by omega) hl hS (by decide +kernel) (by decide +kernel) (by decide +kernel) (by decide +kernel) (by decide +kernel) ?_
  refine pz_la Y hX hbl hbA hL (i := i) (k := 4) (by omega) hl hS (by decide +kernel) (by decide +kernel) (by decide +kernel) (by decide +kernel) (by decide +kernel) ?_
  refine pz_crV Y hcs (v_X12_link (Nat.le_of_ble_eq_true rfl) (Nat.le_of_ble_eq_true rfl) (by decide +kernel)) H248 locs248 ls M248 [.inr (.inr (12, 1)), .inl (xs (i + 1)).toInt, .inl (xs (i + 2)).toInt, .inl (xs (i + 3)).toInt, .inl (xs (i + 4)).toInt] [] 273 (by decide +kernel) hP hS hM ?_ hl.1 rfl (Nat.le_of_ble_eq_true rfl) (hJ) (fun r273 M273 H273 locs273 hq hr hP hS hM => ?_)
  · skip
    exact (List.forall_mem_cons.mpr ⟨(show pz_kd 1 = 12 ∧ 1 < 231 from by decide), (List.forall_mem_cons.mpr ⟨(pz_tc _), (List.forall_mem_cons.mpr ⟨(pz_tc _), (List.forall_mem_cons.mpr ⟨(pz_tc _), (List.forall_mem_cons.mpr ⟨(pz_tc _), List.forall_mem_nil _⟩)⟩)⟩)⟩)⟩)
  obtain ⟨w273, rfl, C273⟩ := hr
  have hq : _ ∧ _ := hq
  obtain ⟨q273, z273⟩ := hq
  have hI : pz_ic M273 := pz_ic_cg z273.1.2 hI
  have hJ : pz_im M273 := z273.1.1 hJ
  refine lv_pop hx hb (by decide +kernel) rfl ?_
  refine lv_goto (tgt := 1407) hx hb (by decide +kernel) (by decide) ?_
  have hR : pz_R M273 := True.intro
  exact K _ _ _ hI hJ hR hP hS hM
set_option maxRecDepth 100000 in
set_option maxHeartbeats 4000000 in
theorem pz_case2 (Y : pz_Y p s m #[Value.ref b] c code R_law 4 D ad adV cy A) (hcs : cells ≤ room_1.cells ∧ slots ≤ room_1.slots) (hX : va_X b L xs s s.heap) (hbl : b < s.heap.size) (hbA : ¬ A b) (hL : L ≤ 3072) {i : Nat} (hi : i + 6 ≤ L) {H : Heap} {locs : List Loc} {ls : Array Slot} {M : pz_M} (hl : lv_has ls 4 [(0, .ref b), (1, .ref (ad 0)), (2, .ref (ad 1)), (3, .int (Int32.ofNat i))]) (hP : va_P D vwCl (pz_ws ad cy M) H) (hS : va_S A s.heap H locs) (hM : ∀ a k : Nat, pz_c (M a k)) (hI : pz_ic M) (hJ : pz_im M) (hR : pz_R M) (K : ∀ (M9 : pz_M) (H9 : Heap) (locs9 : List Loc), pz_ic M9 → pz_im M9 → pz_R M9 → va_P D vwCl (pz_ws ad cy M9) H9 → va_S A s.heap H9 locs9 → (∀ a k : Nat, pz_c (M9 a k)) → W p l e room_1 s m #[Value.ref b] below meth c H9 locs9 cells slots Q (F0 m 1407 ls [])) : W p l e room_1 s m #[Value.ref b] below meth c H locs cells slots Q (F0 m 280 ls []) := by
  obtain ⟨hx, hb, hml, hown, hts, hXX⟩ := id Y
  refine lv_aload_n hx hb (k := 1) (by decide +kernel) rfl (lv_at hl 1 rfl) ?_
  refine pz_la Y hX hbl hbA hL (i := i) (k := 1) (by omega) hl hS (by decide +kernel) (by decide +kernel) (by decide +kernel) (by decide +kernel) (by decide +kernel) ?_
  refine pz_la Y hX hbl hbA hL (i := i) (k := 2) (by omega) hl hS (by decide +kernel) (by decide +kernel) (by decide +kernel) (by decide +kernel) (by decide +kernel) ?_
  refine pz_la Y hX hbl hbA hL (i := i) (k := 3) (by omega) hl hS (by decide +kernel) (by decide +kernel) (by decide +kernel) (by decide +kernel) (by decide +kernel) ?_
  refine pz_crV Y hcs (v_X11_set (Nat.le_of_ble_eq_true rfl) (Nat.le_of_ble_eq_true rfl) (by decide +kernel)) H locs ls M [.inr (.inr (11, 0)), .inl (xs (i + 1)).toInt, .inl (xs (i + 2)).toInt, .inl (xs (i + 3)).toInt] [] 296 (by decide +kernel) hP hS hM ?_ hl.1 rfl (Nat.le_of_ble_eq_true rfl) (hI) (fun r296 M296 H296 locs296 hq hr hP hS hM => ?_)
  · skip
    exact (List.forall_mem_cons.mpr ⟨(show pz_kd 0 = 11 ∧ 0 < 231 from by decide), (List.forall_mem_cons.mpr ⟨(pz_tc _), (List.forall_mem_cons.mpr ⟨(pz_tc _), (List.forall_mem_cons.mpr ⟨(pz_tc _), List.forall_mem_nil _⟩)⟩)⟩)⟩)
  obtain ⟨w296, rfl, C296⟩ := hr
  have hq : _ ∧ _ := hq
  obtain ⟨q296, z296⟩ := hq
  have hJ : pz_im M296 := pz_im_cg z296.1.2 hJ
  have hI : pz_ic M296 := z296.1.1 hI
  refine lv_pop hx hb (by decide +kernel) rfl ?_
  refine lv_aload_n hx hb (k := 2) (by decide +kernel) rfl (lv_at hl 2 rfl) ?_
  refine pz_la Y hX hbl hbA hL (i := i) (k := 1) (by omega) hl hS (by decide +kernel) (by decide +kernel) (by decide +kernel) (by decide +kernel) (by decide +kernel) ?_
  refine pz_la Y hX hbl hbA hL (i := i) (k := 2) (by omega) hl hS (by decide +kernel) (by decide +kernel) (by decide +kernel) (by decide +kernel) (by decide +kernel) ?_
  refine pz_la Y hX hbl hbA hL (i := i) (k := 3) (by omega) hl hS (by decide +kernel) (by decide +kernel) (by decide +kernel) (by decide +kernel) (by decide +kernel) ?_
  refine pz_crV Y hcs (v_X12_set (Nat.le_of_ble_eq_true rfl) (Nat.le_of_ble_eq_true rfl) (by decide +kernel)) H296 locs296 ls M296 [.inr (.inr (12, 1)), .inl (xs (i + 1)).toInt, .inl (xs (i + 2)).toInt, .inl (xs (i + 3)).toInt] [] 316 (by decide +kernel) hP hS hM ?_ hl.1 rfl (Nat.le_of_ble_eq_true rfl) (hJ) (fun r316 M316 H316 locs316 hq hr hP hS hM => ?_)
  · skip
    exact (List.forall_mem_cons.mpr ⟨(show pz_kd 1 = 12 ∧ 1 < 231 from by decide), (List.forall_mem_cons.mpr ⟨(pz_tc _), (List.forall_mem_cons.mpr ⟨(pz_tc _), (List.forall_mem_cons.mpr ⟨(pz_tc _), List.forall_mem_nil _⟩)⟩)⟩)⟩)
  obtain ⟨w316, rfl, C316⟩ := hr
  have hq : _ ∧ _ := hq
  obtain ⟨q316, z316⟩ := hq
  have hI : pz_ic M316 := pz_ic_cg z316.1.1.2 hI
  have hJ : pz_im M316 := z316.1.1.1 hJ
  refine lv_pop hx hb (by decide +kernel) rfl ?_
  refine lv_goto (tgt := 1407) hx hb (by decide +kernel) (by decide) ?_
  have hR : pz_R M316 := True.intro
  exact K _ _ _ hI hJ hR hP hS hM
set_option maxRecDepth 100000 in
set_option maxHeartbeats 4000000 in
theorem pz_case3 (Y : pz_Y p s m #[Value.ref b] c code R_law 4 D ad adV cy A) (hcs : cells ≤ room_1.cells ∧ slots ≤ room_1.slots) (hX : va_X b L xs s s.heap) (hbl : b < s.heap.size) (hbA : ¬ A b) (hL : L ≤ 3072) {i : Nat} (hi : i + 6 ≤ L) {H : Heap} {locs : List Loc} {ls : Array Slot} {M : pz_M} (hl : lv_has ls 4 [(0, .ref b), (1, .ref (ad 0)), (2, .ref (ad 1)), (3, .int (Int32.ofNat i))]) (hP : va_P D vwCl (pz_ws ad cy M) H) (hS : va_S A s.heap H locs) (hM : ∀ a k : Nat, pz_c (M a k)) (hI : pz_ic M) (hJ : pz_im M) (hR : pz_R M) (K : ∀ (M9 : pz_M) (H9 : Heap) (locs9 : List Loc), pz_ic M9 → pz_im M9 → pz_R M9 → va_P D vwCl (pz_ws ad cy M9) H9 → va_S A s.heap H9 locs9 → (∀ a k : Nat, pz_c (M9 a k)) → W p l e room_1 s m #[Value.ref b] below meth c H9 locs9 cells slots Q (F0 m 1407 ls [])) : W p l e room_1 s m #[Value.ref b] below meth c H locs cells slots Q (F0 m 323 ls []) := by
  obtain ⟨hx, hb, hml, hown, hts, hXX⟩ := id Y
  refine lv_aload_n hx hb (k := 1) (by decide +kernel) rfl (lv_at hl 1 rfl) ?_
  refine pz_la Y hX hbl hbA hL (i := i) (k := 1) (by omega) hl hS (by decide +kernel) (by decide +kernel) (by decide +kernel) (by decide +kernel) (by decide +kernel) ?_
  refine pz_la Y hX hbl hbA hL (i := i) (k := 2) (by omega) hl hS (by decide +kernel) (by decide +kernel) (by decide +kernel) (by decide +kernel) (by decide +kernel) ?_
  refine pz_crV Y hcs (v_X11_ask (Nat.le_of_ble_eq_true rfl) (Nat.le_of_ble_eq_true rfl) (by decide +kernel)) H locs ls M [.inr (.inr (11, 0)), .inl (xs (i + 1)).toInt, .inl (xs (i + 2)).toInt] [] 334 (by decide +kernel) hP hS hM ?_ hl.1 rfl (Nat.le_of_ble_eq_true rfl) (hI) (fun r334 M334 H334 locs334 hq hr hP hS hM => ?_)
  · skip
    exact (List.forall_mem_cons.mpr ⟨(show pz_kd 0 = 11 ∧ 0 < 231 from by decide), (List.forall_mem_cons.mpr ⟨(pz_tc _), (List.forall_mem_cons.mpr ⟨(pz_tc _), List.forall_mem_nil _⟩)⟩)⟩)
  obtain ⟨w334, rfl, C334⟩ := hr
  have hq : _ ∧ _ := hq
  obtain ⟨q334, z334⟩ := hq
  have hJ : pz_im M334 := pz_im_cg z334.1.2 hJ
  have hI : pz_ic M334 := z334.1.1 hI
  refine lv_pop hx hb (by decide +kernel) rfl ?_
  refine lv_aload_n hx hb (k := 2) (by decide +kernel) rfl (lv_at hl 2 rfl) ?_
  refine pz_la Y hX hbl hbA hL (i := i) (k := 1) (by omega) hl hS (by decide +kernel) (by decide +kernel) (by decide +kernel) (by decide +kernel) (by decide +kernel) ?_
  refine pz_la Y hX hbl hbA hL (i := i) (k := 2) (by omega) hl hS (by decide +kernel) (by decide +kernel) (by decide +kernel) (by decide +kernel) (by decide +kernel) ?_
  refine pz_crV Y hcs (v_X12_ask (Nat.le_of_ble_eq_true rfl) (Nat.le_of_ble_eq_true rfl) (by decide +kernel)) H334 locs334 ls M334 [.inr (.inr (12, 1)), .inl (xs (i + 1)).toInt, .inl (xs (i + 2)).toInt] [] 349 (by decide +kernel) hP hS hM ?_ hl.1 rfl (Nat.le_of_ble_eq_true rfl) (hJ) (fun r349 M349 H349 locs349 hq hr hP hS hM => ?_)
  · skip
    exact (List.forall_mem_cons.mpr ⟨(show pz_kd 1 = 12 ∧ 1 < 231 from by decide), (List.forall_mem_cons.mpr ⟨(pz_tc _), (List.forall_mem_cons.mpr ⟨(pz_tc _), List.forall_mem_nil _⟩)⟩)⟩)
  obtain ⟨w349, rfl, C349⟩ := hr
  have hq : _ ∧ _ := hq
  obtain ⟨q349, z349⟩ := hq
  have hI : pz_ic M349 := pz_ic_cg z349.1.1.2 hI
  have hJ : pz_im M349 := z349.1.1.1 hJ
  refine lv_pop hx hb (by decide +kernel) rfl ?_
  refine lv_goto (tgt := 1407) hx hb (by decide +kernel) (by decide) ?_
  have hR : pz_R M349 := True.intro
  exact K _ _ _ hI hJ hR hP hS hM
set_option maxRecDepth 100000 in
set_option maxHeartbeats 4000000 in
theorem pz_case4 (Y : pz_Y p s m #[Value.ref b] c code R_law 4 D ad adV cy A) (hcs : cells ≤ room_1.cells ∧ slots ≤ room_1.slots) (hX : va_X b L xs s s.heap) (hbl : b < s.heap.size) (hbA : ¬ A b) (hL : L ≤ 3072) {i : Nat} (hi : i + 6 ≤ L) {H : Heap} {locs : List Loc} {ls : Array Slot} {M : pz_M} (hl : lv_has ls 4 [(0, .ref b), (1, .ref (ad 0)), (2, .ref (ad 1)), (3, .int (Int32.ofNat i))]) (hP : va_P D vwCl (pz_ws ad cy M) H) (hS : va_S A s.heap H locs) (hM : ∀ a k : Nat, pz_c (M a k)) (hI : pz_ic M) (hJ : pz_im M) (hR : pz_R M) (K : ∀ (M9 : pz_M) (H9 : Heap) (locs9 : List Loc), pz_ic M9 → pz_im M9 → pz_R M9 → va_P D vwCl (pz_ws ad cy M9) H9 → va_S A s.heap H9 locs9 → (∀ a k : Nat, pz_c (M9 a k)) → W p l e room_1 s m #[Value.ref b] below meth c H9 locs9 cells slots Q (F0 m 1407 ls [])) : W p l e room_1 s m #[Value.ref b] below meth c H locs cells slots Q (F0 m 356 ls []) := by
  obtain ⟨hx, hb, hml, hown, hts, hXX⟩ := id Y
  refine lv_aload_n hx hb (k := 1) (by decide +kernel) rfl (lv_at hl 1 rfl) ?_
  refine pz_la Y hX hbl hbA hL (i := i) (k := 1) (by omega) hl hS (by decide +kernel) (by decide +kernel) (by decide +kernel) (by decide +kernel) (by decide +kernel) ?_
  refine pz_crV Y hcs (v_X11_bridge (Nat.le_of_ble_eq_true rfl) (Nat.le_of_ble_eq_true rfl) (by decide +kernel)) H locs ls M [.inr (.inr (11, 0)), .inl (xs (i + 1)).toInt] [] 362 (by decide +kernel) hP hS hM ?_ hl.1 rfl (Nat.le_of_ble_eq_true rfl) (hI) (fun r362 M362 H362 locs362 hq hr hP hS hM => ?_)
  · skip
    exact (List.forall_mem_cons.mpr ⟨(show pz_kd 0 = 11 ∧ 0 < 231 from by decide), (List.forall_mem_cons.mpr ⟨(pz_tc _), List.forall_mem_nil _⟩)⟩)
  obtain ⟨w362, rfl, C362⟩ := hr
  have hq : _ ∧ _ := hq
  obtain ⟨q362, z362⟩ := hq
  have hJ : pz_im M362 := pz_im_cg z362.1.2 hJ
  have hI : pz_ic M362 := z362.1.1 hI
  refine lv_pop hx hb (by decide +kernel) rfl ?_
  refine lv_aload_n hx hb (k := 2) (by decide +kernel) rfl (lv_at hl 2 rfl) ?_
  refine pz_la Y hX hbl hbA hL (i := i) (k := 1) (by omega) hl hS (by decide +kernel) (by decide +kernel) (by decide +kernel) (by decide +kernel) (by decide +kernel) ?_
  refine pz_crV Y hcs (v_X12_bridge (Nat.le_of_ble_eq_true rfl) (Nat.le_of_ble_eq_true rfl) (by decide +kernel)) H362 locs362 ls M362 [.inr (.inr (12, 1)), .inl (xs (i + 1)).toInt] [] 372 (by decide +kernel) hP hS hM ?_ hl.1 rfl (Nat.le_of_ble_eq_true rfl) (hJ) (fun r372 M372 H372 locs372 hq hr hP hS hM => ?_)
  · skip
    exact (List.forall_mem_cons.mpr ⟨(show pz_kd 1 = 12 ∧ 1 < 231 from by decide), (List.forall_mem_cons.mpr ⟨(pz_tc _), List.forall_mem_nil _⟩)⟩)
  obtain ⟨w372, rfl, C372⟩ := hr
  have hq : _ ∧ _ := hq
  obtain ⟨q372, z372⟩ := hq
  have hI : pz_ic M372 := pz_ic_cg z372.1.1.2 hI
  have hJ : pz_im M372 := z372.1.1.1 hJ
  refine lv_pop hx hb (by decide +kernel) rfl ?_
  refine lv_goto (tgt := 1407) hx hb (by decide +kernel) (by decide) ?_
  have hR : pz_R M372 := True.intro
  exact K _ _ _ hI hJ hR hP hS hM
set_option maxRecDepth 100000 in
set_option maxHeartbeats 4000000 in
theorem pz_case5 (Y : pz_Y p s m #[Value.ref b] c code R_law 4 D ad adV cy A) (hcs : cells ≤ room_1.cells ∧ slots ≤ room_1.slots) (hX : va_X b L xs s s.heap) (hbl : b < s.heap.size) (hbA : ¬ A b) (hL : L ≤ 3072) {i : Nat} (hi : i + 6 ≤ L) {H : Heap} {locs : List Loc} {ls : Array Slot} {M : pz_M} (hl : lv_has ls 4 [(0, .ref b), (1, .ref (ad 0)), (2, .ref (ad 1)), (3, .int (Int32.ofNat i))]) (hP : va_P D vwCl (pz_ws ad cy M) H) (hS : va_S A s.heap H locs) (hM : ∀ a k : Nat, pz_c (M a k)) (hI : pz_ic M) (hJ : pz_im M) (hR : pz_R M) (K : ∀ (M9 : pz_M) (H9 : Heap) (locs9 : List Loc), pz_ic M9 → pz_im M9 → pz_R M9 → va_P D vwCl (pz_ws ad cy M9) H9 → va_S A s.heap H9 locs9 → (∀ a k : Nat, pz_c (M9 a k)) → W p l e room_1 s m #[Value.ref b] below meth c H9 locs9 cells slots Q (F0 m 1407 ls [])) : W p l e room_1 s m #[Value.ref b] below meth c H locs cells slots Q (F0 m 379 ls []) := by
  obtain ⟨hx, hb, hml, hown, hts, hXX⟩ := id Y
  refine lv_aload_n hx hb (k := 1) (by decide +kernel) rfl (lv_at hl 1 rfl) ?_
  refine pz_la Y hX hbl hbA hL (i := i) (k := 1) (by omega) hl hS (by decide +kernel) (by decide +kernel) (by decide +kernel) (by decide +kernel) (by decide +kernel) ?_
  refine pz_la Y hX hbl hbA hL (i := i) (k := 2) (by omega) hl hS (by decide +kernel) (by decide +kernel) (by decide +kernel) (by decide +kernel) (by decide +kernel) ?_
  refine pz_la Y hX hbl hbA hL (i := i) (k := 3) (by omega) hl hS (by decide +kernel) (by decide +kernel) (by decide +kernel) (by decide +kernel) (by decide +kernel) ?_
  refine pz_crV Y hcs (v_X11_pay (Nat.le_of_ble_eq_true rfl) (Nat.le_of_ble_eq_true rfl) (by decide +kernel)) H locs ls M [.inr (.inr (11, 0)), .inl (xs (i + 1)).toInt, .inl (xs (i + 2)).toInt, .inl (xs (i + 3)).toInt] [] 395 (by decide +kernel) hP hS hM ?_ hl.1 rfl (Nat.le_of_ble_eq_true rfl) (hI) (fun r395 M395 H395 locs395 hq hr hP hS hM => ?_)
  · skip
    exact (List.forall_mem_cons.mpr ⟨(show pz_kd 0 = 11 ∧ 0 < 231 from by decide), (List.forall_mem_cons.mpr ⟨(pz_tc _), (List.forall_mem_cons.mpr ⟨(pz_tc _), (List.forall_mem_cons.mpr ⟨(pz_tc _), List.forall_mem_nil _⟩)⟩)⟩)⟩)
  obtain ⟨w395, rfl, C395⟩ := hr
  have hq : _ ∧ _ := hq
  obtain ⟨q395, z395⟩ := hq
  have hJ : pz_im M395 := pz_im_cg z395.1.2 hJ
  have hI : pz_ic M395 := z395.1.1 hI
  refine lv_pop hx hb (by decide +kernel) rfl ?_
  refine lv_aload_n hx hb (k := 2) (by decide +kernel) rfl (lv_at hl 2 rfl) ?_
  refine pz_la Y hX hbl hbA hL (i := i) (k := 1) (by omega) hl hS (by decide +kernel) (by decide +kernel) (by decide +kernel) (by decide +kernel) (by decide +kernel) ?_
  refine pz_la Y hX hbl hbA hL (i := i) (k := 2) (by omega) hl hS (by decide +kernel) (by decide +kernel) (by decide +kernel) (by decide +kernel) (by decide +kernel) ?_
  refine pz_la Y hX hbl hbA hL (i := i) (k := 3) (by omega) hl hS (by decide +kernel) (by decide +kernel) (by decide +kernel) (by decide +kernel) (by decide +kernel) ?_
  refine pz_crV Y hcs (v_X12_pay (Nat.le_of_ble_eq_true rfl) (Nat.le_of_ble_eq_true rfl) (by decide +kernel)) H395 locs395 ls M395 [.inr (.inr (12, 1)), .inl (xs (i + 1)).toInt, .inl (xs (i + 2)).toInt, .inl (xs (i + 3)).toInt] [] 415 (by decide +kernel) hP hS hM ?_ hl.1 rfl (Nat.le_of_ble_eq_true rfl) (hJ) (fun r415 M415 H415 locs415 hq hr hP hS hM => ?_)
  · skip
    exact (List.forall_mem_cons.mpr ⟨(show pz_kd 1 = 12 ∧ 1 < 231 from by decide), (List.forall_mem_cons.mpr ⟨(pz_tc _), (List.forall_mem_cons.mpr ⟨(pz_tc _), (List.forall_mem_cons.mpr ⟨(pz_tc _), List.forall_mem_nil _⟩)⟩)⟩)⟩)
  obtain ⟨w415, rfl, C415⟩ := hr
  have hq : _ ∧ _ := hq
  obtain ⟨q415, z415⟩ := hq
  have hI : pz_ic M415 := pz_ic_cg z415.1.1.2 hI
  have hJ : pz_im M415 := z415.1.1.1 hJ
  refine lv_pop hx hb (by decide +kernel) rfl ?_
  refine lv_goto (tgt := 1407) hx hb (by decide +kernel) (by decide) ?_
  have hR : pz_R M415 := True.intro
  exact K _ _ _ hI hJ hR hP hS hM
set_option maxRecDepth 100000 in
set_option maxHeartbeats 4000000 in
theorem pz_case6 (Y : pz_Y p s m #[Value.ref b] c code R_law 4 D ad adV cy A) (hcs : cells ≤ room_1.cells ∧ slots ≤ room_1.slots) (hX : va_X b L xs s s.heap) (hbl : b < s.heap.size) (hbA : ¬ A b) (hL : L ≤ 3072) {i : Nat} (hi : i + 6 ≤ L) {H : Heap} {locs : List Loc} {ls : Array Slot} {M : pz_M} (hl : lv_has ls 4 [(0, .ref b), (1, .ref (ad 0)), (2, .ref (ad 1)), (3, .int (Int32.ofNat i))]) (hP : va_P D vwCl (pz_ws ad cy M) H) (hS : va_S A s.heap H locs) (hM : ∀ a k : Nat, pz_c (M a k)) (hI : pz_ic M) (hJ : pz_im M) (hR : pz_R M) (K : ∀ (M9 : pz_M) (H9 : Heap) (locs9 : List Loc), pz_ic M9 → pz_im M9 → pz_R M9 → va_P D vwCl (pz_ws ad cy M9) H9 → va_S A s.heap H9 locs9 → (∀ a k : Nat, pz_c (M9 a k)) → W p l e room_1 s m #[Value.ref b] below meth c H9 locs9 cells slots Q (F0 m 1407 ls [])) : W p l e room_1 s m #[Value.ref b] below meth c H locs cells slots Q (F0 m 422 ls []) := by
  obtain ⟨hx, hb, hml, hown, hts, hXX⟩ := id Y
  refine lv_aload_n hx hb (k := 1) (by decide +kernel) rfl (lv_at hl 1 rfl) ?_
  refine pz_la Y hX hbl hbA hL (i := i) (k := 1) (by omega) hl hS (by decide +kernel) (by decide +kernel) (by decide +kernel) (by decide +kernel) (by decide +kernel) ?_
  refine pz_crV Y hcs (v_X11_paper (Nat.le_of_ble_eq_true rfl) (Nat.le_of_ble_eq_true rfl) (by decide +kernel)) H locs ls M [.inr (.inr (11, 0)), .inl (xs (i + 1)).toInt] [] 428 (by decide +kernel) hP hS hM ?_ hl.1 rfl (Nat.le_of_ble_eq_true rfl) (hI) (fun r428 M428 H428 locs428 hq hr hP hS hM => ?_)
  · skip
    exact (List.forall_mem_cons.mpr ⟨(show pz_kd 0 = 11 ∧ 0 < 231 from by decide), (List.forall_mem_cons.mpr ⟨(pz_tc _), List.forall_mem_nil _⟩)⟩)
  obtain ⟨w428, rfl, C428⟩ := hr
  have hq : _ ∧ _ := hq
  obtain ⟨q428, z428⟩ := hq
  have hJ : pz_im M428 := pz_im_cg z428.1.2 hJ
  have hI : pz_ic M428 := z428.1.1 hI
  refine lv_pop hx hb (by decide +kernel) rfl ?_
  refine lv_aload_n hx hb (k := 2) (by decide +kernel) rfl (lv_at hl 2 rfl) ?_
  refine pz_la Y hX hbl hbA hL (i := i) (k := 1) (by omega) hl hS (by decide +kernel) (by decide +kernel) (by decide +kernel) (by decide +kernel) (by decide +kernel) ?_
  refine pz_crV Y hcs (v_X12_paper (Nat.le_of_ble_eq_true rfl) (Nat.le_of_ble_eq_true rfl) (by decide +kernel)) H428 locs428 ls M428 [.inr (.inr (12, 1)), .inl (xs (i + 1)).toInt] [] 438 (by decide +kernel) hP hS hM ?_ hl.1 rfl (Nat.le_of_ble_eq_true rfl) (hJ) (fun r438 M438 H438 locs438 hq hr hP hS hM => ?_)
  · skip
    exact (List.forall_mem_cons.mpr ⟨(show pz_kd 1 = 12 ∧ 1 < 231 from by decide), (List.forall_mem_cons.mpr ⟨(pz_tc _), List.forall_mem_nil _⟩)⟩)
  obtain ⟨w438, rfl, C438⟩ := hr
  have hq : _ ∧ _ := hq
  obtain ⟨q438, z438⟩ := hq
  have hI : pz_ic M438 := pz_ic_cg z438.1.1.2 hI
  have hJ : pz_im M438 := z438.1.1.1 hJ
  refine lv_pop hx hb (by decide +kernel) rfl ?_
  refine lv_goto (tgt := 1407) hx hb (by decide +kernel) (by decide) ?_
  have hR : pz_R M438 := True.intro
  exact K _ _ _ hI hJ hR hP hS hM
set_option maxRecDepth 100000 in
set_option maxHeartbeats 4000000 in
theorem pz_case7 (Y : pz_Y p s m #[Value.ref b] c code R_law 4 D ad adV cy A) (hcs : cells ≤ room_1.cells ∧ slots ≤ room_1.slots) (hX : va_X b L xs s s.heap) (hbl : b < s.heap.size) (hbA : ¬ A b) (hL : L ≤ 3072) {i : Nat} (hi : i + 6 ≤ L) {H : Heap} {locs : List Loc} {ls : Array Slot} {M : pz_M} (hl : lv_has ls 4 [(0, .ref b), (1, .ref (ad 0)), (2, .ref (ad 1)), (3, .int (Int32.ofNat i))]) (hP : va_P D vwCl (pz_ws ad cy M) H) (hS : va_S A s.heap H locs) (hM : ∀ a k : Nat, pz_c (M a k)) (hI : pz_ic M) (hJ : pz_im M) (hR : pz_R M) (K : ∀ (M9 : pz_M) (H9 : Heap) (locs9 : List Loc), pz_ic M9 → pz_im M9 → pz_R M9 → va_P D vwCl (pz_ws ad cy M9) H9 → va_S A s.heap H9 locs9 → (∀ a k : Nat, pz_c (M9 a k)) → W p l e room_1 s m #[Value.ref b] below meth c H9 locs9 cells slots Q (F0 m 1407 ls [])) : W p l e room_1 s m #[Value.ref b] below meth c H locs cells slots Q (F0 m 445 ls []) := by
  obtain ⟨hx, hb, hml, hown, hts, hXX⟩ := id Y
  refine lv_aload_n hx hb (k := 1) (by decide +kernel) rfl (lv_at hl 1 rfl) ?_
  refine pz_la Y hX hbl hbA hL (i := i) (k := 1) (by omega) hl hS (by decide +kernel) (by decide +kernel) (by decide +kernel) (by decide +kernel) (by decide +kernel) ?_
  refine pz_crV Y hcs (v_X11_join (Nat.le_of_ble_eq_true rfl) (Nat.le_of_ble_eq_true rfl) (by decide +kernel)) H locs ls M [.inr (.inr (11, 0)), .inl (xs (i + 1)).toInt] [] 451 (by decide +kernel) hP hS hM ?_ hl.1 rfl (Nat.le_of_ble_eq_true rfl) (hI) (fun r451 M451 H451 locs451 hq hr hP hS hM => ?_)
  · skip
    exact (List.forall_mem_cons.mpr ⟨(show pz_kd 0 = 11 ∧ 0 < 231 from by decide), (List.forall_mem_cons.mpr ⟨(pz_tc _), List.forall_mem_nil _⟩)⟩)
  obtain ⟨w451, rfl, C451⟩ := hr
  have hq : _ ∧ _ := hq
  obtain ⟨q451, z451⟩ := hq
  have hJ : pz_im M451 := pz_im_cg z451.1.2 hJ
  have hI : pz_ic M451 := z451.1.1 hI
  refine lv_pop hx hb (by decide +kernel) rfl ?_
  refine lv_aload_n hx hb (k := 2) (by decide +kernel) rfl (lv_at hl 2 rfl) ?_
  refine pz_la Y hX hbl hbA hL (i := i) (k := 1) (by omega) hl hS (by decide +kernel) (by decide +kernel) (by decide +kernel) (by decide +kernel) (by decide +kernel) ?_
  refine pz_crV Y hcs (v_X12_join (Nat.le_of_ble_eq_true rfl) (Nat.le_of_ble_eq_true rfl) (by decide +kernel)) H451 locs451 ls M451 [.inr (.inr (12, 1)), .inl (xs (i + 1)).toInt] [] 461 (by decide +kernel) hP hS hM ?_ hl.1 rfl (Nat.le_of_ble_eq_true rfl) (hJ) (fun r461 M461 H461 locs461 hq hr hP hS hM => ?_)
  · skip
    exact (List.forall_mem_cons.mpr ⟨(show pz_kd 1 = 12 ∧ 1 < 231 from by decide), (List.forall_mem_cons.mpr ⟨(pz_tc _), List.forall_mem_nil _⟩)⟩)
  obtain ⟨w461, rfl, C461⟩ := hr
  have hq : _ ∧ _ := hq
  obtain ⟨q461, z461⟩ := hq
  have hI : pz_ic M461 := pz_ic_cg z461.1.1.2 hI
  have hJ : pz_im M461 := z461.1.1.1 hJ
  refine lv_pop hx hb (by decide +kernel) rfl ?_
  refine lv_goto (tgt := 1407) hx hb (by decide +kernel) (by decide) ?_
  have hR : pz_R M461 := True.intro
  exact K _ _ _ hI hJ hR hP hS hM
set_option maxRecDepth 100000 in
set_option maxHeartbeats 4000000 in
theorem pz_case8 (Y : pz_Y p s m #[Value.ref b] c code R_law 4 D ad adV cy A) (hcs : cells ≤ room_1.cells ∧ slots ≤ room_1.slots) (hX : va_X b L xs s s.heap) (hbl : b < s.heap.size) (hbA : ¬ A b) (hL : L ≤ 3072) {i : Nat} (hi : i + 6 ≤ L) {H : Heap} {locs : List Loc} {ls : Array Slot} {M : pz_M} (hl : lv_has ls 4 [(0, .ref b), (1, .ref (ad 0)), (2, .ref (ad 1)), (3, .int (Int32.ofNat i))]) (hP : va_P D vwCl (pz_ws ad cy M) H) (hS : va_S A s.heap H locs) (hM : ∀ a k : Nat, pz_c (M a k)) (hI : pz_ic M) (hJ : pz_im M) (hR : pz_R M) (K : ∀ (M9 : pz_M) (H9 : Heap) (locs9 : List Loc), pz_ic M9 → pz_im M9 → pz_R M9 → va_P D vwCl (pz_ws ad cy M9) H9 → va_S A s.heap H9 locs9 → (∀ a k : Nat, pz_c (M9 a k)) → W p l e room_1 s m #[Value.ref b] below meth c H9 locs9 cells slots Q (F0 m 1407 ls [])) : W p l e room_1 s m #[Value.ref b] below meth c H locs cells slots Q (F0 m 468 ls []) := by
  obtain ⟨hx, hb, hml, hown, hts, hXX⟩ := id Y
  refine lv_aload_n hx hb (k := 1) (by decide +kernel) rfl (lv_at hl 1 rfl) ?_
  refine pz_la Y hX hbl hbA hL (i := i) (k := 1) (by omega) hl hS (by decide +kernel) (by decide +kernel) (by decide +kernel) (by decide +kernel) (by decide +kernel) ?_
  refine pz_crV Y hcs (v_X11_days (Nat.le_of_ble_eq_true rfl) (Nat.le_of_ble_eq_true rfl) (by decide +kernel)) H locs ls M [.inr (.inr (11, 0)), .inl (xs (i + 1)).toInt] [] 474 (by decide +kernel) hP hS hM ?_ hl.1 rfl (Nat.le_of_ble_eq_true rfl) (hI) (fun r474 M474 H474 locs474 hq hr hP hS hM => ?_)
  · skip
    exact (List.forall_mem_cons.mpr ⟨(show pz_kd 0 = 11 ∧ 0 < 231 from by decide), (List.forall_mem_cons.mpr ⟨(pz_tc _), List.forall_mem_nil _⟩)⟩)
  obtain ⟨w474, rfl, C474⟩ := hr
  have hq : _ ∧ _ := hq
  obtain ⟨q474, z474⟩ := hq
  have hJ : pz_im M474 := pz_im_cg z474.1.2 hJ
  have hI : pz_ic M474 := z474.1.1 hI
  refine lv_pop hx hb (by decide +kernel) rfl ?_
  refine lv_aload_n hx hb (k := 2) (by decide +kernel) rfl (lv_at hl 2 rfl) ?_
  refine pz_la Y hX hbl hbA hL (i := i) (k := 1) (by omega) hl hS (by decide +kernel) (by decide +kernel) (by decide +kernel) (by decide +kernel) (by decide +kernel) ?_
  refine pz_crV Y hcs (v_X12_days (Nat.le_of_ble_eq_true rfl) (Nat.le_of_ble_eq_true rfl) (by decide +kernel)) H474 locs474 ls M474 [.inr (.inr (12, 1)), .inl (xs (i + 1)).toInt] [] 484 (by decide +kernel) hP hS hM ?_ hl.1 rfl (Nat.le_of_ble_eq_true rfl) (hJ) (fun r484 M484 H484 locs484 hq hr hP hS hM => ?_)
  · skip
    exact (List.forall_mem_cons.mpr ⟨(show pz_kd 1 = 12 ∧ 1 < 231 from by decide), (List.forall_mem_cons.mpr ⟨(pz_tc _), List.forall_mem_nil _⟩)⟩)
  obtain ⟨w484, rfl, C484⟩ := hr
  have hq : _ ∧ _ := hq
  obtain ⟨q484, z484⟩ := hq
  have hI : pz_ic M484 := pz_ic_cg z484.1.1.2 hI
  have hJ : pz_im M484 := z484.1.1.1 hJ
  refine lv_pop hx hb (by decide +kernel) rfl ?_
  refine lv_goto (tgt := 1407) hx hb (by decide +kernel) (by decide) ?_
  have hR : pz_R M484 := True.intro
  exact K _ _ _ hI hJ hR hP hS hM
set_option maxRecDepth 100000 in
set_option maxHeartbeats 4000000 in
theorem pz_case9 (Y : pz_Y p s m #[Value.ref b] c code R_law 4 D ad adV cy A) (hcs : cells ≤ room_1.cells ∧ slots ≤ room_1.slots) (hX : va_X b L xs s s.heap) (hbl : b < s.heap.size) (hbA : ¬ A b) (hL : L ≤ 3072) {i : Nat} (hi : i + 6 ≤ L) {H : Heap} {locs : List Loc} {ls : Array Slot} {M : pz_M} (hl : lv_has ls 4 [(0, .ref b), (1, .ref (ad 0)), (2, .ref (ad 1)), (3, .int (Int32.ofNat i))]) (hP : va_P D vwCl (pz_ws ad cy M) H) (hS : va_S A s.heap H locs) (hM : ∀ a k : Nat, pz_c (M a k)) (hI : pz_ic M) (hJ : pz_im M) (hR : pz_R M) (K : ∀ (M9 : pz_M) (H9 : Heap) (locs9 : List Loc), pz_ic M9 → pz_im M9 → pz_R M9 → va_P D vwCl (pz_ws ad cy M9) H9 → va_S A s.heap H9 locs9 → (∀ a k : Nat, pz_c (M9 a k)) → W p l e room_1 s m #[Value.ref b] below meth c H9 locs9 cells slots Q (F0 m 1407 ls [])) : W p l e room_1 s m #[Value.ref b] below meth c H locs cells slots Q (F0 m 491 ls []) := by
  obtain ⟨hx, hb, hml, hown, hts, hXX⟩ := id Y
  refine lv_aload_n hx hb (k := 1) (by decide +kernel) rfl (lv_at hl 1 rfl) ?_
  refine pz_la Y hX hbl hbA hL (i := i) (k := 1) (by omega) hl hS (by decide +kernel) (by decide +kernel) (by decide +kernel) (by decide +kernel) (by decide +kernel) ?_
  refine pz_la Y hX hbl hbA hL (i := i) (k := 2) (by omega) hl hS (by decide +kernel) (by decide +kernel) (by decide +kernel) (by decide +kernel) (by decide +kernel) ?_
  refine pz_la Y hX hbl hbA hL (i := i) (k := 3) (by omega) hl hS (by decide +kernel) (by decide +kernel) (by decide +kernel) (by decide +kernel) (by decide +kernel) ?_
  refine pz_la Y hX hbl hbA hL (i := i) (k := 4) (by omega) hl hS (by decide +kernel) (by decide +kernel) (by decide +kernel) (by decide +kernel) (by decide +kernel) ?_
  refine pz_la Y hX hbl hbA hL (i := i) (k := 5) (by omega) hl hS (by decide +kernel) (by decide +kernel) (by decide +kernel) (by decide +kernel) (by decide +kernel) ?_
  refine pz_crV Y hcs (v_X11_feed (Nat.le_of_ble_eq_true rfl) (Nat.le_of_ble_eq_true rfl) (by decide +kernel)) H locs ls M [.inr (.inr (11, 0)), .inl (xs (i + 1)).toInt, .inl (xs (i + 2)).toInt, .inl (xs (i + 3)).toInt, .inl (xs (i + 4)).toInt, .inl (xs (i + 5)).toInt] [] 517 (by decide +kernel) hP hS hM ?_ hl.1 rfl (Nat.le_of_ble_eq_true rfl) (hI) (fun r517 M517 H517 locs517 hq hr hP hS hM => ?_)
  · skip
    exact (List.forall_mem_cons.mpr ⟨(show pz_kd 0 = 11 ∧ 0 < 231 from by decide), (List.forall_mem_cons.mpr ⟨(pz_tc _), (List.forall_mem_cons.mpr ⟨(pz_tc _), (List.forall_mem_cons.mpr ⟨(pz_tc _), (List.forall_mem_cons.mpr ⟨(pz_tc _), (List.forall_mem_cons.mpr ⟨(pz_tc _), List.forall_mem_nil _⟩)⟩)⟩)⟩)⟩)⟩)
  obtain ⟨w517, rfl, C517⟩ := hr
  have hq : _ ∧ _ := hq
  obtain ⟨q517, z517⟩ := hq
  have hJ : pz_im M517 := pz_im_cg z517.2 hJ
  have hI : pz_ic M517 := z517.1 hI
  refine lv_pop hx hb (by decide +kernel) rfl ?_
  refine lv_aload_n hx hb (k := 2) (by decide +kernel) rfl (lv_at hl 2 rfl) ?_
  refine pz_la Y hX hbl hbA hL (i := i) (k := 1) (by omega) hl hS (by decide +kernel) (by decide +kernel) (by decide +kernel) (by decide +kernel) (by decide +kernel) ?_
  refine pz_la Y hX hbl hbA hL (i := i) (k := 2) (by omega) hl hS (by decide +kernel) (by decide +kernel) (by decide +kernel) (by decide +kernel) (by decide +kernel) ?_
  refine pz_la Y hX hbl hbA hL (i := i) (k := 3) (by omega) hl hS (by decide +kernel) (by decide +kernel) (by decide +kernel) (by decide +kernel) (by decide +kernel) ?_
  refine pz_la Y hX hbl hbA hL (i := i) (k := 4) (by omega) hl hS (by decide +kernel) (by decide +kernel) (by decide +kernel) (by decide +kernel) (by decide +kernel) ?_
  refine pz_la Y hX hbl hbA hL (i := i) (k := 5) (by omega) hl hS (by decide +kernel) (by decide +kernel) (by decide +kernel) (by decide +kernel) (by decide +kernel) ?_
  refine pz_crV Y hcs (v_X12_feed (Nat.le_of_ble_eq_true rfl) (Nat.le_of_ble_eq_true rfl) (by decide +kernel)) H517 locs517 ls M517 [.inr (.inr (12, 1)), .inl (xs (i + 1)).toInt, .inl (xs (i + 2)).toInt, .inl (xs (i + 3)).toInt, .inl (xs (i + 4)).toInt, .inl (xs (i + 5)).toInt] [] 547 (by decide +kernel) hP hS hM ?_ hl.1 rfl (Nat.le_of_ble_eq_true rfl) (hJ) (fun r547 M547 H547 locs547 hq hr hP hS hM => ?_)
  · skip
    exact (List.forall_mem_cons.mpr ⟨(show pz_kd 1 = 12 ∧ 1 < 231 from by decide), (List.forall_mem_cons.mpr ⟨(pz_tc _), (List.forall_mem_cons.mpr ⟨(pz_tc _), (List.forall_mem_cons.mpr ⟨(pz_tc _), (List.forall_mem_cons.mpr ⟨(pz_tc _), (List.forall_mem_cons.mpr ⟨(pz_tc _), List.forall_mem_nil _⟩)⟩)⟩)⟩)⟩)⟩)
  obtain ⟨w547, rfl, C547⟩ := hr
  have hq : _ ∧ _ := hq
  obtain ⟨q547, z547⟩ := hq
  have hI : pz_ic M547 := pz_ic_cg z547.2 hI
  have hJ : pz_im M547 := z547.1 hJ
  refine lv_pop hx hb (by decide +kernel) rfl ?_
  refine lv_goto (tgt := 1407) hx hb (by decide +kernel) (by decide) ?_
  have hR : pz_R M547 := True.intro
  exact K _ _ _ hI hJ hR hP hS hM
set_option maxRecDepth 100000 in
set_option maxHeartbeats 4000000 in
theorem pz_case10 (Y : pz_Y p s m #[Value.ref b] c code R_law 4 D ad adV cy A) (hcs : cells ≤ room_1.cells ∧ slots ≤ room_1.slots) (hX : va_X b L xs s s.heap) (hbl : b < s.heap.size) (hbA : ¬ A b) (hL : L ≤ 3072) {i : Nat} (hi : i + 6 ≤ L) {H : Heap} {locs : List Loc} {ls : Array Slot} {M : pz_M} (hl : lv_has ls 4 [(0, .ref b), (1, .ref (ad 0)), (2, .ref (ad 1)), (3, .int (Int32.ofNat i))]) (hP : va_P D vwCl (pz_ws ad cy M) H) (hS : va_S A s.heap H locs) (hM : ∀ a k : Nat, pz_c (M a k)) (hI : pz_ic M) (hJ : pz_im M) (hR : pz_R M) (K : ∀ (M9 : pz_M) (H9 : Heap) (locs9 : List Loc), pz_ic M9 → pz_im M9 → pz_R M9 → va_P D vwCl (pz_ws ad cy M9) H9 → va_S A s.heap H9 locs9 → (∀ a k : Nat, pz_c (M9 a k)) → W p l e room_1 s m #[Value.ref b] below meth c H9 locs9 cells slots Q (F0 m 1407 ls [])) : W p l e room_1 s m #[Value.ref b] below meth c H locs cells slots Q (F0 m 554 ls []) := by
  obtain ⟨hx, hb, hml, hown, hts, hXX⟩ := id Y
  refine lv_aload_n hx hb (k := 1) (by decide +kernel) rfl (lv_at hl 1 rfl) ?_
  refine pz_la Y hX hbl hbA hL (i := i) (k := 1) (by omega) hl hS (by decide +kernel) (by decide +kernel) (by decide +kernel) (by decide +kernel) (by decide +kernel) ?_
  refine pz_crV Y hcs (v_X11_end (Nat.le_of_ble_eq_true rfl) (Nat.le_of_ble_eq_true rfl) (by decide +kernel)) H locs ls M [.inr (.inr (11, 0)), .inl (xs (i + 1)).toInt] [] 560 (by decide +kernel) hP hS hM ?_ hl.1 rfl (Nat.le_of_ble_eq_true rfl) (hI) (fun r560 M560 H560 locs560 hq hr hP hS hM => ?_)
  · skip
    exact (List.forall_mem_cons.mpr ⟨(show pz_kd 0 = 11 ∧ 0 < 231 from by decide), (List.forall_mem_cons.mpr ⟨(pz_tc _), List.forall_mem_nil _⟩)⟩)
  obtain ⟨w560, rfl, C560⟩ := hr
  have hq : _ ∧ _ := hq
  obtain ⟨q560, z560⟩ := hq
  have hJ : pz_im M560 := pz_im_cg z560.2 hJ
  have hI : pz_ic M560 := z560.1 hI
  refine lv_pop hx hb (by decide +kernel) rfl ?_
  refine lv_aload_n hx hb (k := 2) (by decide +kernel) rfl (lv_at hl 2 rfl) ?_
  refine pz_la Y hX hbl hbA hL (i := i) (k := 1) (by omega) hl hS (by decide +kernel) (by decide +kernel) (by decide +kernel) (by decide +kernel) (by decide +kernel) ?_
  refine pz_crV Y hcs (v_X12_end (Nat.le_of_ble_eq_true rfl) (Nat.le_of_ble_eq_true rfl) (by decide +kernel)) H560 locs560 ls M560 [.inr (.inr (12, 1)), .inl (xs (i + 1)).toInt] [] 570 (by decide +kernel) hP hS hM ?_ hl.1 rfl (Nat.le_of_ble_eq_true rfl) (hJ) (fun r570 M570 H570 locs570 hq hr hP hS hM => ?_)
  · skip
    exact (List.forall_mem_cons.mpr ⟨(show pz_kd 1 = 12 ∧ 1 < 231 from by decide), (List.forall_mem_cons.mpr ⟨(pz_tc _), List.forall_mem_nil _⟩)⟩)
  obtain ⟨w570, rfl, C570⟩ := hr
  have hq : _ ∧ _ := hq
  obtain ⟨q570, z570⟩ := hq
  have hI : pz_ic M570 := pz_ic_cg z570.2 hI
  have hJ : pz_im M570 := z570.1 hJ
  refine lv_pop hx hb (by decide +kernel) rfl ?_
  refine lv_goto (tgt := 1407) hx hb (by decide +kernel) (by decide) ?_
  have hR : pz_R M570 := True.intro
  exact K _ _ _ hI hJ hR hP hS hM
set_option maxRecDepth 100000 in
set_option maxHeartbeats 4000000 in
theorem pz_case11 (Y : pz_Y p s m #[Value.ref b] c code R_law 4 D ad adV cy A) (hcs : cells ≤ room_1.cells ∧ slots ≤ room_1.slots) (hX : va_X b L xs s s.heap) (hbl : b < s.heap.size) (hbA : ¬ A b) (hL : L ≤ 3072) {i : Nat} (hi : i + 6 ≤ L) {H : Heap} {locs : List Loc} {ls : Array Slot} {M : pz_M} (hl : lv_has ls 4 [(0, .ref b), (1, .ref (ad 0)), (2, .ref (ad 1)), (3, .int (Int32.ofNat i))]) (hP : va_P D vwCl (pz_ws ad cy M) H) (hS : va_S A s.heap H locs) (hM : ∀ a k : Nat, pz_c (M a k)) (hI : pz_ic M) (hJ : pz_im M) (hR : pz_R M) (K : ∀ (M9 : pz_M) (H9 : Heap) (locs9 : List Loc), pz_ic M9 → pz_im M9 → pz_R M9 → va_P D vwCl (pz_ws ad cy M9) H9 → va_S A s.heap H9 locs9 → (∀ a k : Nat, pz_c (M9 a k)) → W p l e room_1 s m #[Value.ref b] below meth c H9 locs9 cells slots Q (F0 m 1407 ls [])) : W p l e room_1 s m #[Value.ref b] below meth c H locs cells slots Q (F0 m 577 ls []) := by
  obtain ⟨hx, hb, hml, hown, hts, hXX⟩ := id Y
  refine lv_aload_n hx hb (k := 1) (by decide +kernel) rfl (lv_at hl 1 rfl) ?_
  refine pz_la Y hX hbl hbA hL (i := i) (k := 1) (by omega) hl hS (by decide +kernel) (by decide +kernel) (by decide +kernel) (by decide +kernel) (by decide +kernel) ?_
  refine pz_crV Y hcs (v_X11_text (Nat.le_of_ble_eq_true rfl) (Nat.le_of_ble_eq_true rfl) (by decide +kernel)) H locs ls M [.inr (.inr (11, 0)), .inl (xs (i + 1)).toInt] [] 583 (by decide +kernel) hP hS hM ?_ hl.1 rfl (Nat.le_of_ble_eq_true rfl) (hI) (fun r583 M583 H583 locs583 hq hr hP hS hM => ?_)
  · skip
    exact (List.forall_mem_cons.mpr ⟨(show pz_kd 0 = 11 ∧ 0 < 231 from by decide), (List.forall_mem_cons.mpr ⟨(pz_tc _), List.forall_mem_nil _⟩)⟩)
  obtain ⟨w583, rfl, C583⟩ := hr
  have hq : _ ∧ _ := hq
  obtain ⟨q583, z583⟩ := hq
  have hJ : pz_im M583 := pz_im_cg z583.2 hJ
  have hI : pz_ic M583 := z583.1 hI
  refine lv_pop hx hb (by decide +kernel) rfl ?_
  refine lv_aload_n hx hb (k := 2) (by decide +kernel) rfl (lv_at hl 2 rfl) ?_
  refine pz_la Y hX hbl hbA hL (i := i) (k := 1) (by omega) hl hS (by decide +kernel) (by decide +kernel) (by decide +kernel) (by decide +kernel) (by decide +kernel) ?_
  refine pz_crV Y hcs (v_X12_text (Nat.le_of_ble_eq_true rfl) (Nat.le_of_ble_eq_true rfl) (by decide +kernel)) H583 locs583 ls M583 [.inr (.inr (12, 1)), .inl (xs (i + 1)).toInt] [] 593 (by decide +kernel) hP hS hM ?_ hl.1 rfl (Nat.le_of_ble_eq_true rfl) (hJ) (fun r593 M593 H593 locs593 hq hr hP hS hM => ?_)
  · skip
    exact (List.forall_mem_cons.mpr ⟨(show pz_kd 1 = 12 ∧ 1 < 231 from by decide), (List.forall_mem_cons.mpr ⟨(pz_tc _), List.forall_mem_nil _⟩)⟩)
  obtain ⟨w593, rfl, C593⟩ := hr
  have hq : _ ∧ _ := hq
  obtain ⟨q593, z593⟩ := hq
  have hI : pz_ic M593 := pz_ic_cg z593.2 hI
  have hJ : pz_im M593 := z593.1 hJ
  refine lv_pop hx hb (by decide +kernel) rfl ?_
  refine lv_goto (tgt := 1407) hx hb (by decide +kernel) (by decide) ?_
  have hR : pz_R M593 := True.intro
  exact K _ _ _ hI hJ hR hP hS hM
set_option maxRecDepth 100000 in
set_option maxHeartbeats 4000000 in
theorem pz_case12 (Y : pz_Y p s m #[Value.ref b] c code R_law 4 D ad adV cy A) (hcs : cells ≤ room_1.cells ∧ slots ≤ room_1.slots) (hX : va_X b L xs s s.heap) (hbl : b < s.heap.size) (hbA : ¬ A b) (hL : L ≤ 3072) {i : Nat} (hi : i + 6 ≤ L) {H : Heap} {locs : List Loc} {ls : Array Slot} {M : pz_M} (hl : lv_has ls 4 [(0, .ref b), (1, .ref (ad 0)), (2, .ref (ad 1)), (3, .int (Int32.ofNat i))]) (hP : va_P D vwCl (pz_ws ad cy M) H) (hS : va_S A s.heap H locs) (hM : ∀ a k : Nat, pz_c (M a k)) (hI : pz_ic M) (hJ : pz_im M) (hR : pz_R M) (K : ∀ (M9 : pz_M) (H9 : Heap) (locs9 : List Loc), pz_ic M9 → pz_im M9 → pz_R M9 → va_P D vwCl (pz_ws ad cy M9) H9 → va_S A s.heap H9 locs9 → (∀ a k : Nat, pz_c (M9 a k)) → W p l e room_1 s m #[Value.ref b] below meth c H9 locs9 cells slots Q (F0 m 1407 ls [])) : W p l e room_1 s m #[Value.ref b] below meth c H locs cells slots Q (F0 m 600 ls []) := by
  obtain ⟨hx, hb, hml, hown, hts, hXX⟩ := id Y
  refine lv_aload_n hx hb (k := 1) (by decide +kernel) rfl (lv_at hl 1 rfl) ?_
  refine pz_la Y hX hbl hbA hL (i := i) (k := 1) (by omega) hl hS (by decide +kernel) (by decide +kernel) (by decide +kernel) (by decide +kernel) (by decide +kernel) ?_
  refine pz_crV Y hcs (v_X11_fault (Nat.le_of_ble_eq_true rfl) (Nat.le_of_ble_eq_true rfl) (by decide +kernel)) H locs ls M [.inr (.inr (11, 0)), .inl (xs (i + 1)).toInt] [] 606 (by decide +kernel) hP hS hM ?_ hl.1 rfl (Nat.le_of_ble_eq_true rfl) (hI) (fun r606 M606 H606 locs606 hq hr hP hS hM => ?_)
  · skip
    exact (List.forall_mem_cons.mpr ⟨(show pz_kd 0 = 11 ∧ 0 < 231 from by decide), (List.forall_mem_cons.mpr ⟨(pz_tc _), List.forall_mem_nil _⟩)⟩)
  obtain ⟨w606, rfl, C606⟩ := hr
  have hq : _ ∧ _ := hq
  obtain ⟨q606, z606⟩ := hq
  subst z606
  refine lv_pop hx hb (by decide +kernel) rfl ?_
  refine lv_aload_n hx hb (k := 2) (by decide +kernel) rfl (lv_at hl 2 rfl) ?_
  refine pz_la Y hX hbl hbA hL (i := i) (k := 1) (by omega) hl hS (by decide +kernel) (by decide +kernel) (by decide +kernel) (by decide +kernel) (by decide +kernel) ?_
  refine pz_crV Y hcs (v_X12_fault (Nat.le_of_ble_eq_true rfl) (Nat.le_of_ble_eq_true rfl) (by decide +kernel)) H606 locs606 ls M [.inr (.inr (12, 1)), .inl (xs (i + 1)).toInt] [] 616 (by decide +kernel) hP hS hM ?_ hl.1 rfl (Nat.le_of_ble_eq_true rfl) (hJ) (fun r616 M616 H616 locs616 hq hr hP hS hM => ?_)
  · skip
    exact (List.forall_mem_cons.mpr ⟨(show pz_kd 1 = 12 ∧ 1 < 231 from by decide), (List.forall_mem_cons.mpr ⟨(pz_tc _), List.forall_mem_nil _⟩)⟩)
  obtain ⟨w616, rfl, C616⟩ := hr
  have hq : _ ∧ _ := hq
  obtain ⟨q616, z616⟩ := hq
  subst z616
  refine lv_pop hx hb (by decide +kernel) rfl ?_
  refine lv_goto (tgt := 1407) hx hb (by decide +kernel) (by decide) ?_
  have hR : pz_R M := True.intro
  exact K _ _ _ hI hJ hR hP hS hM
set_option maxRecDepth 100000 in
set_option maxHeartbeats 4000000 in
theorem pz_case13 (Y : pz_Y p s m #[Value.ref b] c code R_law 4 D ad adV cy A) (hcs : cells ≤ room_1.cells ∧ slots ≤ room_1.slots) (hX : va_X b L xs s s.heap) (hbl : b < s.heap.size) (hbA : ¬ A b) (hL : L ≤ 3072) {i : Nat} (hi : i + 6 ≤ L) {H : Heap} {locs : List Loc} {ls : Array Slot} {M : pz_M} (hl : lv_has ls 4 [(0, .ref b), (1, .ref (ad 0)), (2, .ref (ad 1)), (3, .int (Int32.ofNat i))]) (hP : va_P D vwCl (pz_ws ad cy M) H) (hS : va_S A s.heap H locs) (hM : ∀ a k : Nat, pz_c (M a k)) (hI : pz_ic M) (hJ : pz_im M) (hR : pz_R M) (K : ∀ (M9 : pz_M) (H9 : Heap) (locs9 : List Loc), pz_ic M9 → pz_im M9 → pz_R M9 → va_P D vwCl (pz_ws ad cy M9) H9 → va_S A s.heap H9 locs9 → (∀ a k : Nat, pz_c (M9 a k)) → W p l e room_1 s m #[Value.ref b] below meth c H9 locs9 cells slots Q (F0 m 1407 ls [])) : W p l e room_1 s m #[Value.ref b] below meth c H locs cells slots Q (F0 m 623 ls []) := by
  obtain ⟨hx, hb, hml, hown, hts, hXX⟩ := id Y
  refine lv_aload_n hx hb (k := 1) (by decide +kernel) rfl (lv_at hl 1 rfl) ?_
  refine pz_la Y hX hbl hbA hL (i := i) (k := 1) (by omega) hl hS (by decide +kernel) (by decide +kernel) (by decide +kernel) (by decide +kernel) (by decide +kernel) ?_
  refine pz_la Y hX hbl hbA hL (i := i) (k := 2) (by omega) hl hS (by decide +kernel) (by decide +kernel) (by decide +kernel) (by decide +kernel) (by decide +kernel) ?_
  refine pz_crV Y hcs (v_X11_of (Nat.le_of_ble_eq_true rfl) (Nat.le_of_ble_eq_true rfl) (by decide +kernel)) H locs ls M [.inr (.inr (11, 0)), .inl (xs (i + 1)).toInt, .inl (xs (i + 2)).toInt] [] 634 (by decide +kernel) hP hS hM ?_ hl.1 rfl (Nat.le_of_ble_eq_true rfl) (hI) (fun r634 M634 H634 locs634 hq hr hP hS hM => ?_)
  · skip
    exact (List.forall_mem_cons.mpr ⟨(show pz_kd 0 = 11 ∧ 0 < 231 from by decide), (List.forall_mem_cons.mpr ⟨(pz_tc _), (List.forall_mem_cons.mpr ⟨(pz_tc _), List.forall_mem_nil _⟩)⟩)⟩)
  obtain ⟨w634, rfl, C634⟩ := hr
  have hq : _ ∧ _ := hq
  obtain ⟨q634, z634⟩ := hq
  have hJ : pz_im M634 := pz_im_cg z634.1.2 hJ
  have hI : pz_ic M634 := z634.1.1 hI
  refine lv_pop hx hb (by decide +kernel) rfl ?_
  refine lv_aload_n hx hb (k := 2) (by decide +kernel) rfl (lv_at hl 2 rfl) ?_
  refine pz_la Y hX hbl hbA hL (i := i) (k := 1) (by omega) hl hS (by decide +kernel) (by decide +kernel) (by decide +kernel) (by decide +kernel) (by decide +kernel) ?_
  refine pz_la Y hX hbl hbA hL (i := i) (k := 2) (by omega) hl hS (by decide +kernel) (by decide +kernel) (by decide +kernel) (by decide +kernel) (by decide +kernel) ?_
  refine pz_crV Y hcs (v_X12_of (Nat.le_of_ble_eq_true rfl) (Nat.le_of_ble_eq_true rfl) (by decide +kernel)) H634 locs634 ls M634 [.inr (.inr (12, 1)), .inl (xs (i + 1)).toInt, .inl (xs (i + 2)).toInt] [] 649 (by decide +kernel) hP hS hM ?_ hl.1 rfl (Nat.le_of_ble_eq_true rfl) (hJ) (fun r649 M649 H649 locs649 hq hr hP hS hM => ?_)
  · skip
    exact (List.forall_mem_cons.mpr ⟨(show pz_kd 1 = 12 ∧ 1 < 231 from by decide), (List.forall_mem_cons.mpr ⟨(pz_tc _), (List.forall_mem_cons.mpr ⟨(pz_tc _), List.forall_mem_nil _⟩)⟩)⟩)
  obtain ⟨w649, rfl, C649⟩ := hr
  have hq : _ ∧ _ := hq
  obtain ⟨q649, z649⟩ := hq
  have hI : pz_ic M649 := pz_ic_cg z649.1.1.2 hI
  have hJ : pz_im M649 := z649.1.1.1 hJ
  refine lv_pop hx hb (by decide +kernel) rfl ?_
  refine lv_goto (tgt := 1407) hx hb (by decide +kernel) (by decide) ?_
  have hR : pz_R M649 := True.intro
  exact K _ _ _ hI hJ hR hP hS hM
set_option maxRecDepth 100000 in
set_option maxHeartbeats 4000000 in
theorem pz_case14 (Y : pz_Y p s m #[Value.ref b] c code R_law 4 D ad adV cy A) (hcs : cells ≤ room_1.cells ∧ slots ≤ room_1.slots) (hX : va_X b L xs s s.heap) (hbl : b < s.heap.size) (hbA : ¬ A b) (hL : L ≤ 3072) {i : Nat} (hi : i + 6 ≤ L) {H : Heap} {locs : List Loc} {ls : Array Slot} {M : pz_M} (hl : lv_has ls 4 [(0, .ref b), (1, .ref (ad 0)), (2, .ref (ad 1)), (3, .int (Int32.ofNat i))]) (hP : va_P D vwCl (pz_ws ad cy M) H) (hS : va_S A s.heap H locs) (hM : ∀ a k : Nat, pz_c (M a k)) (hI : pz_ic M) (hJ : pz_im M) (hR : pz_R M) (K : ∀ (M9 : pz_M) (H9 : Heap) (locs9 : List Loc), pz_ic M9 → pz_im M9 → pz_R M9 → va_P D vwCl (pz_ws ad cy M9) H9 → va_S A s.heap H9 locs9 → (∀ a k : Nat, pz_c (M9 a k)) → W p l e room_1 s m #[Value.ref b] below meth c H9 locs9 cells slots Q (F0 m 1407 ls [])) : W p l e room_1 s m #[Value.ref b] below meth c H locs cells slots Q (F0 m 656 ls []) := by
  obtain ⟨hx, hb, hml, hown, hts, hXX⟩ := id Y
  refine lv_aload_n hx hb (k := 1) (by decide +kernel) rfl (lv_at hl 1 rfl) ?_
  refine pz_la Y hX hbl hbA hL (i := i) (k := 1) (by omega) hl hS (by decide +kernel) (by decide +kernel) (by decide +kernel) (by decide +kernel) (by decide +kernel) ?_
  refine pz_la Y hX hbl hbA hL (i := i) (k := 2) (by omega) hl hS (by decide +kernel) (by decide +kernel) (by decide +kernel) (by decide +kernel) (by decide +kernel) ?_
  refine pz_crV Y hcs (v_X11_phone (Nat.le_of_ble_eq_true rfl) (Nat.le_of_ble_eq_true rfl) (by decide +kernel)) H locs ls M [.inr (.inr (11, 0)), .inl (xs (i + 1)).toInt, .inl (xs (i + 2)).toInt] [] 667 (by decide +kernel) hP hS hM ?_ hl.1 rfl (Nat.le_of_ble_eq_true rfl) (hI) (fun r667 M667 H667 locs667 hq hr hP hS hM => ?_)
  · skip
    exact (List.forall_mem_cons.mpr ⟨(show pz_kd 0 = 11 ∧ 0 < 231 from by decide), (List.forall_mem_cons.mpr ⟨(pz_tc _), (List.forall_mem_cons.mpr ⟨(pz_tc _), List.forall_mem_nil _⟩)⟩)⟩)
  obtain ⟨w667, rfl, C667⟩ := hr
  have hq : _ ∧ _ := hq
  obtain ⟨q667, z667⟩ := hq
  subst z667
  refine lv_pop hx hb (by decide +kernel) rfl ?_
  refine lv_aload_n hx hb (k := 2) (by decide +kernel) rfl (lv_at hl 2 rfl) ?_
  refine pz_la Y hX hbl hbA hL (i := i) (k := 1) (by omega) hl hS (by decide +kernel) (by decide +kernel) (by decide +kernel) (by decide +kernel) (by decide +kernel) ?_
  refine pz_la Y hX hbl hbA hL (i := i) (k := 2) (by omega) hl hS (by decide +kernel) (by decide +kernel) (by decide +kernel) (by decide +kernel) (by decide +kernel) ?_
  refine pz_crV Y hcs (v_X12_phone (Nat.le_of_ble_eq_true rfl) (Nat.le_of_ble_eq_true rfl) (by decide +kernel)) H667 locs667 ls M [.inr (.inr (12, 1)), .inl (xs (i + 1)).toInt, .inl (xs (i + 2)).toInt] [] 682 (by decide +kernel) hP hS hM ?_ hl.1 rfl (Nat.le_of_ble_eq_true rfl) (hJ) (fun r682 M682 H682 locs682 hq hr hP hS hM => ?_)
  · skip
    exact (List.forall_mem_cons.mpr ⟨(show pz_kd 1 = 12 ∧ 1 < 231 from by decide), (List.forall_mem_cons.mpr ⟨(pz_tc _), (List.forall_mem_cons.mpr ⟨(pz_tc _), List.forall_mem_nil _⟩)⟩)⟩)
  obtain ⟨w682, rfl, C682⟩ := hr
  have hq : _ ∧ _ := hq
  obtain ⟨q682, z682⟩ := hq
  subst z682
  refine lv_pop hx hb (by decide +kernel) rfl ?_
  refine lv_goto (tgt := 1407) hx hb (by decide +kernel) (by decide) ?_
  have hR : pz_R M := True.intro
  exact K _ _ _ hI hJ hR hP hS hM
set_option maxRecDepth 100000 in
set_option maxHeartbeats 4000000 in
theorem pz_case15 (Y : pz_Y p s m #[Value.ref b] c code R_law 4 D ad adV cy A) (hcs : cells ≤ room_1.cells ∧ slots ≤ room_1.slots) (hX : va_X b L xs s s.heap) (hbl : b < s.heap.size) (hbA : ¬ A b) (hL : L ≤ 3072) {i : Nat} (hi : i + 6 ≤ L) {H : Heap} {locs : List Loc} {ls : Array Slot} {M : pz_M} (hl : lv_has ls 4 [(0, .ref b), (1, .ref (ad 0)), (2, .ref (ad 1)), (3, .int (Int32.ofNat i))]) (hP : va_P D vwCl (pz_ws ad cy M) H) (hS : va_S A s.heap H locs) (hM : ∀ a k : Nat, pz_c (M a k)) (hI : pz_ic M) (hJ : pz_im M) (hR : pz_R M) (K : ∀ (M9 : pz_M) (H9 : Heap) (locs9 : List Loc), pz_ic M9 → pz_im M9 → pz_R M9 → va_P D vwCl (pz_ws ad cy M9) H9 → va_S A s.heap H9 locs9 → (∀ a k : Nat, pz_c (M9 a k)) → W p l e room_1 s m #[Value.ref b] below meth c H9 locs9 cells slots Q (F0 m 1407 ls [])) : W p l e room_1 s m #[Value.ref b] below meth c H locs cells slots Q (F0 m 689 ls []) := by
  obtain ⟨hx, hb, hml, hown, hts, hXX⟩ := id Y
  refine lv_aload_n hx hb (k := 1) (by decide +kernel) rfl (lv_at hl 1 rfl) ?_
  refine pz_la Y hX hbl hbA hL (i := i) (k := 1) (by omega) hl hS (by decide +kernel) (by decide +kernel) (by decide +kernel) (by decide +kernel) (by decide +kernel) ?_
  refine pz_la Y hX hbl hbA hL (i := i) (k := 2) (by omega) hl hS (by decide +kernel) (by decide +kernel) (by decide +kernel) (by decide +kernel) (by decide +kernel) ?_
  refine pz_crV Y hcs (v_X11_book (Nat.le_of_ble_eq_true rfl) (Nat.le_of_ble_eq_true rfl) (by decide +kernel)) H locs ls M [.inr (.inr (11, 0)), .inl (xs (i + 1)).toInt, .inl (xs (i + 2)).toInt] [] 700 (by decide +kernel) hP hS hM ?_ hl.1 rfl (Nat.le_of_ble_eq_true rfl) (hI) (fun r700 M700 H700 locs700 hq hr hP hS hM => ?_)
  · skip
    exact (List.forall_mem_cons.mpr ⟨(show pz_kd 0 = 11 ∧ 0 < 231 from by decide), (List.forall_mem_cons.mpr ⟨(pz_tc _), (List.forall_mem_cons.mpr ⟨(pz_tc _), List.forall_mem_nil _⟩)⟩)⟩)
  obtain ⟨w700, rfl, C700⟩ := hr
  have hq : _ ∧ _ := hq
  obtain ⟨q700, z700⟩ := hq
  subst z700
  refine lv_pop hx hb (by decide +kernel) rfl ?_
  refine lv_aload_n hx hb (k := 2) (by decide +kernel) rfl (lv_at hl 2 rfl) ?_
  refine pz_la Y hX hbl hbA hL (i := i) (k := 1) (by omega) hl hS (by decide +kernel) (by decide +kernel) (by decide +kernel) (by decide +kernel) (by decide +kernel) ?_
  refine pz_la Y hX hbl hbA hL (i := i) (k := 2) (by omega) hl hS (by decide +kernel) (by decide +kernel) (by decide +kernel) (by decide +kernel) (by decide +kernel) ?_
  refine pz_crV Y hcs (v_X12_book (Nat.le_of_ble_eq_true rfl) (Nat.le_of_ble_eq_true rfl) (by decide +kernel)) H700 locs700 ls M [.inr (.inr (12, 1)), .inl (xs (i + 1)).toInt, .inl (xs (i + 2)).toInt] [] 715 (by decide +kernel) hP hS hM ?_ hl.1 rfl (Nat.le_of_ble_eq_true rfl) (hJ) (fun r715 M715 H715 locs715 hq hr hP hS hM => ?_)
  · skip
    exact (List.forall_mem_cons.mpr ⟨(show pz_kd 1 = 12 ∧ 1 < 231 from by decide), (List.forall_mem_cons.mpr ⟨(pz_tc _), (List.forall_mem_cons.mpr ⟨(pz_tc _), List.forall_mem_nil _⟩)⟩)⟩)
  obtain ⟨w715, rfl, C715⟩ := hr
  have hq : _ ∧ _ := hq
  obtain ⟨q715, z715⟩ := hq
  subst z715
  refine lv_pop hx hb (by decide +kernel) rfl ?_
  refine lv_goto (tgt := 1407) hx hb (by decide +kernel) (by decide) ?_
  have hR : pz_R M := True.intro
  exact K _ _ _ hI hJ hR hP hS hM
set_option maxRecDepth 100000 in
set_option maxHeartbeats 4000000 in
theorem pz_case16 (Y : pz_Y p s m #[Value.ref b] c code R_law 4 D ad adV cy A) (hcs : cells ≤ room_1.cells ∧ slots ≤ room_1.slots) (hX : va_X b L xs s s.heap) (hbl : b < s.heap.size) (hbA : ¬ A b) (hL : L ≤ 3072) {i : Nat} (hi : i + 6 ≤ L) {H : Heap} {locs : List Loc} {ls : Array Slot} {M : pz_M} (hl : lv_has ls 4 [(0, .ref b), (1, .ref (ad 0)), (2, .ref (ad 1)), (3, .int (Int32.ofNat i))]) (hP : va_P D vwCl (pz_ws ad cy M) H) (hS : va_S A s.heap H locs) (hM : ∀ a k : Nat, pz_c (M a k)) (hI : pz_ic M) (hJ : pz_im M) (hR : pz_R M) (K : ∀ (M9 : pz_M) (H9 : Heap) (locs9 : List Loc), pz_ic M9 → pz_im M9 → pz_R M9 → va_P D vwCl (pz_ws ad cy M9) H9 → va_S A s.heap H9 locs9 → (∀ a k : Nat, pz_c (M9 a k)) → W p l e room_1 s m #[Value.ref b] below meth c H9 locs9 cells slots Q (F0 m 1407 ls [])) : W p l e room_1 s m #[Value.ref b] below meth c H locs cells slots Q (F0 m 722 ls []) := by
  obtain ⟨hx, hb, hml, hown, hts, hXX⟩ := id Y
  refine lv_aload_n hx hb (k := 1) (by decide +kernel) rfl (lv_at hl 1 rfl) ?_
  refine pz_la Y hX hbl hbA hL (i := i) (k := 1) (by omega) hl hS (by decide +kernel) (by decide +kernel) (by decide +kernel) (by decide +kernel) (by decide +kernel) ?_
  refine pz_la Y hX hbl hbA hL (i := i) (k := 2) (by omega) hl hS (by decide +kernel) (by decide +kernel) (by decide +kernel) (by decide +kernel) (by decide +kernel) ?_
  refine pz_crV Y hcs (v_X11_goes (Nat.le_of_ble_eq_true rfl) (Nat.le_of_ble_eq_true rfl) (by decide +kernel)) H locs ls M [.inr (.inr (11, 0)), .inl (xs (i + 1)).toInt, .inl (xs (i + 2)).toInt] [] 733 (by decide +kernel) hP hS hM ?_ hl.1 rfl (Nat.le_of_ble_eq_true rfl) (hI) (fun r733 M733 H733 locs733 hq hr hP hS hM => ?_)
  · skip
    exact (List.forall_mem_cons.mpr ⟨(show pz_kd 0 = 11 ∧ 0 < 231 from by decide), (List.forall_mem_cons.mpr ⟨(pz_tc _), (List.forall_mem_cons.mpr ⟨(pz_tc _), List.forall_mem_nil _⟩)⟩)⟩)
  obtain ⟨w733, rfl, C733⟩ := hr
  have hq : _ ∧ _ := hq
  obtain ⟨q733, z733⟩ := hq
  have hJ : pz_im M733 := pz_im_cg z733.1.2 hJ
  have hI : pz_ic M733 := z733.1.1 hI
  refine lv_pop hx hb (by decide +kernel) rfl ?_
  refine lv_aload_n hx hb (k := 2) (by decide +kernel) rfl (lv_at hl 2 rfl) ?_
  refine pz_la Y hX hbl hbA hL (i := i) (k := 1) (by omega) hl hS (by decide +kernel) (by decide +kernel) (by decide +kernel) (by decide +kernel) (by decide +kernel) ?_
  refine pz_la Y hX hbl hbA hL (i := i) (k := 2) (by omega) hl hS (by decide +kernel) (by decide +kernel) (by decide +kernel) (by decide +kernel) (by decide +kernel) ?_
  refine pz_crV Y hcs (v_X12_goes (Nat.le_of_ble_eq_true rfl) (Nat.le_of_ble_eq_true rfl) (by decide +kernel)) H733 locs733 ls M733 [.inr (.inr (12, 1)), .inl (xs (i + 1)).toInt, .inl (xs (i + 2)).toInt] [] 748 (by decide +kernel) hP hS hM ?_ hl.1 rfl (Nat.le_of_ble_eq_true rfl) (hJ) (fun r748 M748 H748 locs748 hq hr hP hS hM => ?_)
  · skip
    exact (List.forall_mem_cons.mpr ⟨(show pz_kd 1 = 12 ∧ 1 < 231 from by decide), (List.forall_mem_cons.mpr ⟨(pz_tc _), (List.forall_mem_cons.mpr ⟨(pz_tc _), List.forall_mem_nil _⟩)⟩)⟩)
  obtain ⟨w748, rfl, C748⟩ := hr
  have hq : _ ∧ _ := hq
  obtain ⟨q748, z748⟩ := hq
  have hI : pz_ic M748 := pz_ic_cg z748.1.1.2 hI
  have hJ : pz_im M748 := z748.1.1.1 hJ
  refine lv_pop hx hb (by decide +kernel) rfl ?_
  refine lv_goto (tgt := 1407) hx hb (by decide +kernel) (by decide) ?_
  have hR : pz_R M748 := True.intro
  exact K _ _ _ hI hJ hR hP hS hM
set_option maxRecDepth 100000 in
set_option maxHeartbeats 4000000 in
theorem pz_case17 (Y : pz_Y p s m #[Value.ref b] c code R_law 4 D ad adV cy A) (hcs : cells ≤ room_1.cells ∧ slots ≤ room_1.slots) (hX : va_X b L xs s s.heap) (hbl : b < s.heap.size) (hbA : ¬ A b) (hL : L ≤ 3072) {i : Nat} (hi : i + 6 ≤ L) {H : Heap} {locs : List Loc} {ls : Array Slot} {M : pz_M} (hl : lv_has ls 4 [(0, .ref b), (1, .ref (ad 0)), (2, .ref (ad 1)), (3, .int (Int32.ofNat i))]) (hP : va_P D vwCl (pz_ws ad cy M) H) (hS : va_S A s.heap H locs) (hM : ∀ a k : Nat, pz_c (M a k)) (hI : pz_ic M) (hJ : pz_im M) (hR : pz_R M) (K : ∀ (M9 : pz_M) (H9 : Heap) (locs9 : List Loc), pz_ic M9 → pz_im M9 → pz_R M9 → va_P D vwCl (pz_ws ad cy M9) H9 → va_S A s.heap H9 locs9 → (∀ a k : Nat, pz_c (M9 a k)) → W p l e room_1 s m #[Value.ref b] below meth c H9 locs9 cells slots Q (F0 m 1407 ls [])) : W p l e room_1 s m #[Value.ref b] below meth c H locs cells slots Q (F0 m 755 ls []) := by
  obtain ⟨hx, hb, hml, hown, hts, hXX⟩ := id Y
  refine lv_aload_n hx hb (k := 1) (by decide +kernel) rfl (lv_at hl 1 rfl) ?_
  refine pz_la Y hX hbl hbA hL (i := i) (k := 1) (by omega) hl hS (by decide +kernel) (by decide +kernel) (by decide +kernel) (by decide +kernel) (by decide +kernel) ?_
  refine pz_crV Y hcs (v_X11_odds (Nat.le_of_ble_eq_true rfl) (Nat.le_of_ble_eq_true rfl) (by decide +kernel)) H locs ls M [.inr (.inr (11, 0)), .inl (xs (i + 1)).toInt] [] 761 (by decide +kernel) hP hS hM ?_ hl.1 rfl (Nat.le_of_ble_eq_true rfl) (hI) (fun r761 M761 H761 locs761 hq hr hP hS hM => ?_)
  · skip
    exact (List.forall_mem_cons.mpr ⟨(show pz_kd 0 = 11 ∧ 0 < 231 from by decide), (List.forall_mem_cons.mpr ⟨(pz_tc _), List.forall_mem_nil _⟩)⟩)
  obtain ⟨w761, rfl, C761⟩ := hr
  have hq : _ ∧ _ := hq
  obtain ⟨q761, z761⟩ := hq
  have hJ : pz_im M761 := pz_im_cg z761.1.2 hJ
  have hI : pz_ic M761 := z761.1.1 hI
  refine lv_pop hx hb (by decide +kernel) rfl ?_
  refine lv_aload_n hx hb (k := 2) (by decide +kernel) rfl (lv_at hl 2 rfl) ?_
  refine pz_la Y hX hbl hbA hL (i := i) (k := 1) (by omega) hl hS (by decide +kernel) (by decide +kernel) (by decide +kernel) (by decide +kernel) (by decide +kernel) ?_
  refine pz_crV Y hcs (v_X12_odds (Nat.le_of_ble_eq_true rfl) (Nat.le_of_ble_eq_true rfl) (by decide +kernel)) H761 locs761 ls M761 [.inr (.inr (12, 1)), .inl (xs (i + 1)).toInt] [] 771 (by decide +kernel) hP hS hM ?_ hl.1 rfl (Nat.le_of_ble_eq_true rfl) (hJ) (fun r771 M771 H771 locs771 hq hr hP hS hM => ?_)
  · skip
    exact (List.forall_mem_cons.mpr ⟨(show pz_kd 1 = 12 ∧ 1 < 231 from by decide), (List.forall_mem_cons.mpr ⟨(pz_tc _), List.forall_mem_nil _⟩)⟩)
  obtain ⟨w771, rfl, C771⟩ := hr
  have hq : _ ∧ _ := hq
  obtain ⟨q771, z771⟩ := hq
  have hI : pz_ic M771 := pz_ic_cg z771.1.1.2 hI
  have hJ : pz_im M771 := z771.1.1.1 hJ
  refine lv_pop hx hb (by decide +kernel) rfl ?_
  refine lv_goto (tgt := 1407) hx hb (by decide +kernel) (by decide) ?_
  have hR : pz_R M771 := True.intro
  exact K _ _ _ hI hJ hR hP hS hM
set_option maxRecDepth 100000 in
set_option maxHeartbeats 4000000 in
theorem pz_case18 (Y : pz_Y p s m #[Value.ref b] c code R_law 4 D ad adV cy A) (hcs : cells ≤ room_1.cells ∧ slots ≤ room_1.slots) (hX : va_X b L xs s s.heap) (hbl : b < s.heap.size) (hbA : ¬ A b) (hL : L ≤ 3072) {i : Nat} (hi : i + 6 ≤ L) {H : Heap} {locs : List Loc} {ls : Array Slot} {M : pz_M} (hl : lv_has ls 4 [(0, .ref b), (1, .ref (ad 0)), (2, .ref (ad 1)), (3, .int (Int32.ofNat i))]) (hP : va_P D vwCl (pz_ws ad cy M) H) (hS : va_S A s.heap H locs) (hM : ∀ a k : Nat, pz_c (M a k)) (hI : pz_ic M) (hJ : pz_im M) (hR : pz_R M) (K : ∀ (M9 : pz_M) (H9 : Heap) (locs9 : List Loc), pz_ic M9 → pz_im M9 → pz_R M9 → va_P D vwCl (pz_ws ad cy M9) H9 → va_S A s.heap H9 locs9 → (∀ a k : Nat, pz_c (M9 a k)) → W p l e room_1 s m #[Value.ref b] below meth c H9 locs9 cells slots Q (F0 m 1407 ls [])) : W p l e room_1 s m #[Value.ref b] below meth c H locs cells slots Q (F0 m 778 ls []) := by
  obtain ⟨hx, hb, hml, hown, hts, hXX⟩ := id Y
  refine lv_aload_n hx hb (k := 1) (by decide +kernel) rfl (lv_at hl 1 rfl) ?_
  refine pz_la Y hX hbl hbA hL (i := i) (k := 1) (by omega) hl hS (by decide +kernel) (by decide +kernel) (by decide +kernel) (by decide +kernel) (by decide +kernel) ?_
  refine pz_la Y hX hbl hbA hL (i := i) (k := 2) (by omega) hl hS (by decide +kernel) (by decide +kernel) (by decide +kernel) (by decide +kernel) (by decide +kernel) ?_
  refine pz_crV Y hcs (v_X11_holds (Nat.le_of_ble_eq_true rfl) (Nat.le_of_ble_eq_true rfl) (by decide +kernel)) H locs ls M [.inr (.inr (11, 0)), .inl (xs (i + 1)).toInt, .inl (xs (i + 2)).toInt] [] 789 (by decide +kernel) hP hS hM ?_ hl.1 rfl (Nat.le_of_ble_eq_true rfl) (hI) (fun r789 M789 H789 locs789 hq hr hP hS hM => ?_)
  · skip
    exact (List.forall_mem_cons.mpr ⟨(show pz_kd 0 = 11 ∧ 0 < 231 from by decide), (List.forall_mem_cons.mpr ⟨(pz_tc _), (List.forall_mem_cons.mpr ⟨(pz_tc _), List.forall_mem_nil _⟩)⟩)⟩)
  obtain ⟨w789, rfl, C789⟩ := hr
  have hq : _ ∧ _ := hq
  obtain ⟨q789, z789⟩ := hq
  have hJ : pz_im M789 := pz_im_cg z789.1.2 hJ
  have hI : pz_ic M789 := z789.1.1 hI
  refine lv_pop hx hb (by decide +kernel) rfl ?_
  refine lv_aload_n hx hb (k := 2) (by decide +kernel) rfl (lv_at hl 2 rfl) ?_
  refine pz_la Y hX hbl hbA hL (i := i) (k := 1) (by omega) hl hS (by decide +kernel) (by decide +kernel) (by decide +kernel) (by decide +kernel) (by decide +kernel) ?_
  refine pz_la Y hX hbl hbA hL (i := i) (k := 2) (by omega) hl hS (by decide +kernel) (by decide +kernel) (by decide +kernel) (by decide +kernel) (by decide +kernel) ?_
  refine pz_crV Y hcs (v_X12_holds (Nat.le_of_ble_eq_true rfl) (Nat.le_of_ble_eq_true rfl) (by decide +kernel)) H789 locs789 ls M789 [.inr (.inr (12, 1)), .inl (xs (i + 1)).toInt, .inl (xs (i + 2)).toInt] [] 804 (by decide +kernel) hP hS hM ?_ hl.1 rfl (Nat.le_of_ble_eq_true rfl) (hJ) (fun r804 M804 H804 locs804 hq hr hP hS hM => ?_)
  · skip
    exact (List.forall_mem_cons.mpr ⟨(show pz_kd 1 = 12 ∧ 1 < 231 from by decide), (List.forall_mem_cons.mpr ⟨(pz_tc _), (List.forall_mem_cons.mpr ⟨(pz_tc _), List.forall_mem_nil _⟩)⟩)⟩)
  obtain ⟨w804, rfl, C804⟩ := hr
  have hq : _ ∧ _ := hq
  obtain ⟨q804, z804⟩ := hq
  have hI : pz_ic M804 := pz_ic_cg z804.1.1.2 hI
  have hJ : pz_im M804 := z804.1.1.1 hJ
  refine lv_pop hx hb (by decide +kernel) rfl ?_
  refine lv_goto (tgt := 1407) hx hb (by decide +kernel) (by decide) ?_
  have hR : pz_R M804 := True.intro
  exact K _ _ _ hI hJ hR hP hS hM
set_option maxRecDepth 100000 in
set_option maxHeartbeats 4000000 in
theorem pz_case19 (Y : pz_Y p s m #[Value.ref b] c code R_law 4 D ad adV cy A) (hcs : cells ≤ room_1.cells ∧ slots ≤ room_1.slots) (hX : va_X b L xs s s.heap) (hbl : b < s.heap.size) (hbA : ¬ A b) (hL : L ≤ 3072) {i : Nat} (hi : i + 6 ≤ L) {H : Heap} {locs : List Loc} {ls : Array Slot} {M : pz_M} (hl : lv_has ls 4 [(0, .ref b), (1, .ref (ad 0)), (2, .ref (ad 1)), (3, .int (Int32.ofNat i))]) (hP : va_P D vwCl (pz_ws ad cy M) H) (hS : va_S A s.heap H locs) (hM : ∀ a k : Nat, pz_c (M a k)) (hI : pz_ic M) (hJ : pz_im M) (hR : pz_R M) (K : ∀ (M9 : pz_M) (H9 : Heap) (locs9 : List Loc), pz_ic M9 → pz_im M9 → pz_R M9 → va_P D vwCl (pz_ws ad cy M9) H9 → va_S A s.heap H9 locs9 → (∀ a k : Nat, pz_c (M9 a k)) → W p l e room_1 s m #[Value.ref b] below meth c H9 locs9 cells slots Q (F0 m 1407 ls [])) : W p l e room_1 s m #[Value.ref b] below meth c H locs cells slots Q (F0 m 811 ls []) := by
  obtain ⟨hx, hb, hml, hown, hts, hXX⟩ := id Y
  refine lv_aload_n hx hb (k := 1) (by decide +kernel) rfl (lv_at hl 1 rfl) ?_
  refine pz_la Y hX hbl hbA hL (i := i) (k := 1) (by omega) hl hS (by decide +kernel) (by decide +kernel) (by decide +kernel) (by decide +kernel) (by decide +kernel) ?_
  refine pz_la Y hX hbl hbA hL (i := i) (k := 2) (by omega) hl hS (by decide +kernel) (by decide +kernel) (by decide +kernel) (by decide +kernel) (by decide +kernel) ?_
  refine pz_crV Y hcs (v_X11_many (Nat.le_of_ble_eq_true rfl) (Nat.le_of_ble_eq_true rfl) (by decide +kernel)) H locs ls M [.inr (.inr (11, 0)), .inl (xs (i + 1)).toInt, .inl (xs (i + 2)).toInt] [] 822 (by decide +kernel) hP hS hM ?_ hl.1 rfl (Nat.le_of_ble_eq_true rfl) (hI) (fun r822 M822 H822 locs822 hq hr hP hS hM => ?_)
  · skip
    exact (List.forall_mem_cons.mpr ⟨(show pz_kd 0 = 11 ∧ 0 < 231 from by decide), (List.forall_mem_cons.mpr ⟨(pz_tc _), (List.forall_mem_cons.mpr ⟨(pz_tc _), List.forall_mem_nil _⟩)⟩)⟩)
  obtain ⟨w822, rfl, C822⟩ := hr
  have hq : _ ∧ _ := hq
  obtain ⟨q822, z822⟩ := hq
  subst z822
  refine lv_pop hx hb (by decide +kernel) rfl ?_
  refine lv_aload_n hx hb (k := 2) (by decide +kernel) rfl (lv_at hl 2 rfl) ?_
  refine pz_la Y hX hbl hbA hL (i := i) (k := 1) (by omega) hl hS (by decide +kernel) (by decide +kernel) (by decide +kernel) (by decide +kernel) (by decide +kernel) ?_
  refine pz_la Y hX hbl hbA hL (i := i) (k := 2) (by omega) hl hS (by decide +kernel) (by decide +kernel) (by decide +kernel) (by decide +kernel) (by decide +kernel) ?_
  refine pz_crV Y hcs (v_X12_many (Nat.le_of_ble_eq_true rfl) (Nat.le_of_ble_eq_true rfl) (by decide +kernel)) H822 locs822 ls M [.inr (.inr (12, 1)), .inl (xs (i + 1)).toInt, .inl (xs (i + 2)).toInt] [] 837 (by decide +kernel) hP hS hM ?_ hl.1 rfl (Nat.le_of_ble_eq_true rfl) (hJ) (fun r837 M837 H837 locs837 hq hr hP hS hM => ?_)
  · skip
    exact (List.forall_mem_cons.mpr ⟨(show pz_kd 1 = 12 ∧ 1 < 231 from by decide), (List.forall_mem_cons.mpr ⟨(pz_tc _), (List.forall_mem_cons.mpr ⟨(pz_tc _), List.forall_mem_nil _⟩)⟩)⟩)
  obtain ⟨w837, rfl, C837⟩ := hr
  have hq : _ ∧ _ := hq
  obtain ⟨q837, z837⟩ := hq
  subst z837
  refine lv_pop hx hb (by decide +kernel) rfl ?_
  refine lv_goto (tgt := 1407) hx hb (by decide +kernel) (by decide) ?_
  have hR : pz_R M := True.intro
  exact K _ _ _ hI hJ hR hP hS hM
set_option maxRecDepth 100000 in
set_option maxHeartbeats 4000000 in
theorem pz_case20 (Y : pz_Y p s m #[Value.ref b] c code R_law 4 D ad adV cy A) (hcs : cells ≤ room_1.cells ∧ slots ≤ room_1.slots) (hX : va_X b L xs s s.heap) (hbl : b < s.heap.size) (hbA : ¬ A b) (hL : L ≤ 3072) {i : Nat} (hi : i + 6 ≤ L) {H : Heap} {locs : List Loc} {ls : Array Slot} {M : pz_M} (hl : lv_has ls 4 [(0, .ref b), (1, .ref (ad 0)), (2, .ref (ad 1)), (3, .int (Int32.ofNat i))]) (hP : va_P D vwCl (pz_ws ad cy M) H) (hS : va_S A s.heap H locs) (hM : ∀ a k : Nat, pz_c (M a k)) (hI : pz_ic M) (hJ : pz_im M) (hR : pz_R M) (K : ∀ (M9 : pz_M) (H9 : Heap) (locs9 : List Loc), pz_ic M9 → pz_im M9 → pz_R M9 → va_P D vwCl (pz_ws ad cy M9) H9 → va_S A s.heap H9 locs9 → (∀ a k : Nat, pz_c (M9 a k)) → W p l e room_1 s m #[Value.ref b] below meth c H9 locs9 cells slots Q (F0 m 1407 ls [])) : W p l e room_1 s m #[Value.ref b] below meth c H locs cells slots Q (F0 m 844 ls []) := by
  obtain ⟨hx, hb, hml, hown, hts, hXX⟩ := id Y
  refine lv_aload_n hx hb (k := 1) (by decide +kernel) rfl (lv_at hl 1 rfl) ?_
  refine pz_la Y hX hbl hbA hL (i := i) (k := 1) (by omega) hl hS (by decide +kernel) (by decide +kernel) (by decide +kernel) (by decide +kernel) (by decide +kernel) ?_
  refine pz_la Y hX hbl hbA hL (i := i) (k := 2) (by omega) hl hS (by decide +kernel) (by decide +kernel) (by decide +kernel) (by decide +kernel) (by decide +kernel) ?_
  refine pz_la Y hX hbl hbA hL (i := i) (k := 3) (by omega) hl hS (by decide +kernel) (by decide +kernel) (by decide +kernel) (by decide +kernel) (by decide +kernel) ?_
  refine pz_crV Y hcs (v_X11_bridges (Nat.le_of_ble_eq_true rfl) (Nat.le_of_ble_eq_true rfl) (by decide +kernel)) H locs ls M [.inr (.inr (11, 0)), .inl (xs (i + 1)).toInt, .inl (xs (i + 2)).toInt, .inl (xs (i + 3)).toInt] [] 860 (by decide +kernel) hP hS hM ?_ hl.1 rfl (Nat.le_of_ble_eq_true rfl) (hI) (fun r860 M860 H860 locs860 hq hr hP hS hM => ?_)
  · skip
    exact (List.forall_mem_cons.mpr ⟨(show pz_kd 0 = 11 ∧ 0 < 231 from by decide), (List.forall_mem_cons.mpr ⟨(pz_tc _), (List.forall_mem_cons.mpr ⟨(pz_tc _), (List.forall_mem_cons.mpr ⟨(pz_tc _), List.forall_mem_nil _⟩)⟩)⟩)⟩)
  obtain ⟨w860, rfl, C860⟩ := hr
  have hq : _ ∧ _ := hq
  obtain ⟨q860, z860⟩ := hq
  have hJ : pz_im M860 := pz_im_cg z860.1.2 hJ
  have hI : pz_ic M860 := z860.1.1 hI
  refine lv_pop hx hb (by decide +kernel) rfl ?_
  refine lv_aload_n hx hb (k := 2) (by decide +kernel) rfl (lv_at hl 2 rfl) ?_
  refine pz_la Y hX hbl hbA hL (i := i) (k := 1) (by omega) hl hS (by decide +kernel) (by decide +kernel) (by decide +kernel) (by decide +kernel) (by decide +kernel) ?_
  refine pz_la Y hX hbl hbA hL (i := i) (k := 2) (by omega) hl hS (by decide +kernel) (by decide +kernel) (by decide +kernel) (by decide +kernel) (by decide +kernel) ?_
  refine pz_la Y hX hbl hbA hL (i := i) (k := 3) (by omega) hl hS (by decide +kernel) (by decide +kernel) (by decide +kernel) (by decide +kernel) (by decide +kernel) ?_
  refine pz_crV Y hcs (v_X12_bridges (Nat.le_of_ble_eq_true rfl) (Nat.le_of_ble_eq_true rfl) (by decide +kernel)) H860 locs860 ls M860 [.inr (.inr (12, 1)), .inl (xs (i + 1)).toInt, .inl (xs (i + 2)).toInt, .inl (xs (i + 3)).toInt] [] 880 (by decide +kernel) hP hS hM ?_ hl.1 rfl (Nat.le_of_ble_eq_true rfl) (hJ) (fun r880 M880 H880 locs880 hq hr hP hS hM => ?_)
  · skip
    exact (List.forall_mem_cons.mpr ⟨(show pz_kd 1 = 12 ∧ 1 < 231 from by decide), (List.forall_mem_cons.mpr ⟨(pz_tc _), (List.forall_mem_cons.mpr ⟨(pz_tc _), (List.forall_mem_cons.mpr ⟨(pz_tc _), List.forall_mem_nil _⟩)⟩)⟩)⟩)
  obtain ⟨w880, rfl, C880⟩ := hr
  have hq : _ ∧ _ := hq
  obtain ⟨q880, z880⟩ := hq
  have hI : pz_ic M880 := pz_ic_cg z880.1.1.2 hI
  have hJ : pz_im M880 := z880.1.1.1 hJ
  refine lv_pop hx hb (by decide +kernel) rfl ?_
  refine lv_goto (tgt := 1407) hx hb (by decide +kernel) (by decide) ?_
  have hR : pz_R M880 := True.intro
  exact K _ _ _ hI hJ hR hP hS hM
set_option maxRecDepth 100000 in
set_option maxHeartbeats 4000000 in
theorem pz_case21 (Y : pz_Y p s m #[Value.ref b] c code R_law 4 D ad adV cy A) (hcs : cells ≤ room_1.cells ∧ slots ≤ room_1.slots) (hX : va_X b L xs s s.heap) (hbl : b < s.heap.size) (hbA : ¬ A b) (hL : L ≤ 3072) {i : Nat} (hi : i + 6 ≤ L) {H : Heap} {locs : List Loc} {ls : Array Slot} {M : pz_M} (hl : lv_has ls 4 [(0, .ref b), (1, .ref (ad 0)), (2, .ref (ad 1)), (3, .int (Int32.ofNat i))]) (hP : va_P D vwCl (pz_ws ad cy M) H) (hS : va_S A s.heap H locs) (hM : ∀ a k : Nat, pz_c (M a k)) (hI : pz_ic M) (hJ : pz_im M) (hR : pz_R M) (K : ∀ (M9 : pz_M) (H9 : Heap) (locs9 : List Loc), pz_ic M9 → pz_im M9 → pz_R M9 → va_P D vwCl (pz_ws ad cy M9) H9 → va_S A s.heap H9 locs9 → (∀ a k : Nat, pz_c (M9 a k)) → W p l e room_1 s m #[Value.ref b] below meth c H9 locs9 cells slots Q (F0 m 1407 ls [])) : W p l e room_1 s m #[Value.ref b] below meth c H locs cells slots Q (F0 m 887 ls []) := by
  obtain ⟨hx, hb, hml, hown, hts, hXX⟩ := id Y
  refine lv_aload_n hx hb (k := 1) (by decide +kernel) rfl (lv_at hl 1 rfl) ?_
  refine pz_la Y hX hbl hbA hL (i := i) (k := 1) (by omega) hl hS (by decide +kernel) (by decide +kernel) (by decide +kernel) (by decide +kernel) (by decide +kernel) ?_
  refine pz_la Y hX hbl hbA hL (i := i) (k := 2) (by omega) hl hS (by decide +kernel) (by decide +kernel) (by decide +kernel) (by decide +kernel) (by decide +kernel) ?_
  refine pz_crV Y hcs (v_X11_share (Nat.le_of_ble_eq_true rfl) (Nat.le_of_ble_eq_true rfl) (by decide +kernel)) H locs ls M [.inr (.inr (11, 0)), .inl (xs (i + 1)).toInt, .inl (xs (i + 2)).toInt] [] 898 (by decide +kernel) hP hS hM ?_ hl.1 rfl (Nat.le_of_ble_eq_true rfl) (hI) (fun r898 M898 H898 locs898 hq hr hP hS hM => ?_)
  · skip
    exact (List.forall_mem_cons.mpr ⟨(show pz_kd 0 = 11 ∧ 0 < 231 from by decide), (List.forall_mem_cons.mpr ⟨(pz_tc _), (List.forall_mem_cons.mpr ⟨(pz_tc _), List.forall_mem_nil _⟩)⟩)⟩)
  obtain ⟨w898, rfl, C898⟩ := hr
  have hq : _ ∧ _ := hq
  obtain ⟨q898, z898⟩ := hq
  subst z898
  refine lv_pop hx hb (by decide +kernel) rfl ?_
  refine lv_aload_n hx hb (k := 2) (by decide +kernel) rfl (lv_at hl 2 rfl) ?_
  refine pz_la Y hX hbl hbA hL (i := i) (k := 1) (by omega) hl hS (by decide +kernel) (by decide +kernel) (by decide +kernel) (by decide +kernel) (by decide +kernel) ?_
  refine pz_la Y hX hbl hbA hL (i := i) (k := 2) (by omega) hl hS (by decide +kernel) (by decide +kernel) (by decide +kernel) (by decide +kernel) (by decide +kernel) ?_
  refine pz_crV Y hcs (v_X12_share (Nat.le_of_ble_eq_true rfl) (Nat.le_of_ble_eq_true rfl) (by decide +kernel)) H898 locs898 ls M [.inr (.inr (12, 1)), .inl (xs (i + 1)).toInt, .inl (xs (i + 2)).toInt] [] 913 (by decide +kernel) hP hS hM ?_ hl.1 rfl (Nat.le_of_ble_eq_true rfl) (hJ) (fun r913 M913 H913 locs913 hq hr hP hS hM => ?_)
  · skip
    exact (List.forall_mem_cons.mpr ⟨(show pz_kd 1 = 12 ∧ 1 < 231 from by decide), (List.forall_mem_cons.mpr ⟨(pz_tc _), (List.forall_mem_cons.mpr ⟨(pz_tc _), List.forall_mem_nil _⟩)⟩)⟩)
  obtain ⟨w913, rfl, C913⟩ := hr
  have hq : _ ∧ _ := hq
  obtain ⟨q913, z913⟩ := hq
  subst z913
  refine lv_pop hx hb (by decide +kernel) rfl ?_
  refine lv_goto (tgt := 1407) hx hb (by decide +kernel) (by decide) ?_
  have hR : pz_R M := True.intro
  exact K _ _ _ hI hJ hR hP hS hM
set_option maxRecDepth 100000 in
set_option maxHeartbeats 4000000 in
theorem pz_case22 (Y : pz_Y p s m #[Value.ref b] c code R_law 4 D ad adV cy A) (hcs : cells ≤ room_1.cells ∧ slots ≤ room_1.slots) (hX : va_X b L xs s s.heap) (hbl : b < s.heap.size) (hbA : ¬ A b) (hL : L ≤ 3072) {i : Nat} (hi : i + 6 ≤ L) {H : Heap} {locs : List Loc} {ls : Array Slot} {M : pz_M} (hl : lv_has ls 4 [(0, .ref b), (1, .ref (ad 0)), (2, .ref (ad 1)), (3, .int (Int32.ofNat i))]) (hP : va_P D vwCl (pz_ws ad cy M) H) (hS : va_S A s.heap H locs) (hM : ∀ a k : Nat, pz_c (M a k)) (hI : pz_ic M) (hJ : pz_im M) (hR : pz_R M) (K : ∀ (M9 : pz_M) (H9 : Heap) (locs9 : List Loc), pz_ic M9 → pz_im M9 → pz_R M9 → va_P D vwCl (pz_ws ad cy M9) H9 → va_S A s.heap H9 locs9 → (∀ a k : Nat, pz_c (M9 a k)) → W p l e room_1 s m #[Value.ref b] below meth c H9 locs9 cells slots Q (F0 m 1407 ls [])) : W p l e room_1 s m #[Value.ref b] below meth c H locs cells slots Q (F0 m 920 ls []) := by
  obtain ⟨hx, hb, hml, hown, hts, hXX⟩ := id Y
  refine lv_aload_n hx hb (k := 1) (by decide +kernel) rfl (lv_at hl 1 rfl) ?_
  refine pz_la Y hX hbl hbA hL (i := i) (k := 1) (by omega) hl hS (by decide +kernel) (by decide +kernel) (by decide +kernel) (by decide +kernel) (by decide +kernel) ?_
  refine pz_la Y hX hbl hbA hL (i := i) (k := 2) (by omega) hl hS (by decide +kernel) (by decide +kernel) (by decide +kernel) (by decide +kernel) (by decide +kernel) ?_
  refine pz_la Y hX hbl hbA hL (i := i) (k := 3) (by omega) hl hS (by decide +kernel) (by decide +kernel) (by decide +kernel) (by decide +kernel) (by decide +kernel) ?_
  refine pz_crV Y hcs (v_X11_along (Nat.le_of_ble_eq_true rfl) (Nat.le_of_ble_eq_true rfl) (by decide +kernel)) H locs ls M [.inr (.inr (11, 0)), .inl (xs (i + 1)).toInt, .inl (xs (i + 2)).toInt, .inl (xs (i + 3)).toInt] [] 936 (by decide +kernel) hP hS hM ?_ hl.1 rfl (Nat.le_of_ble_eq_true rfl) (hI) (fun r936 M936 H936 locs936 hq hr hP hS hM => ?_)
  · skip
    exact (List.forall_mem_cons.mpr ⟨(show pz_kd 0 = 11 ∧ 0 < 231 from by decide), (List.forall_mem_cons.mpr ⟨(pz_tc _), (List.forall_mem_cons.mpr ⟨(pz_tc _), (List.forall_mem_cons.mpr ⟨(pz_tc _), List.forall_mem_nil _⟩)⟩)⟩)⟩)
  obtain ⟨w936, rfl, C936⟩ := hr
  have hq : _ ∧ _ := hq
  obtain ⟨q936, z936⟩ := hq
  have hJ : pz_im M936 := pz_im_cg z936.1.2 hJ
  have hI : pz_ic M936 := z936.1.1 hI
  refine lv_pop hx hb (by decide +kernel) rfl ?_
  refine lv_aload_n hx hb (k := 2) (by decide +kernel) rfl (lv_at hl 2 rfl) ?_
  refine pz_la Y hX hbl hbA hL (i := i) (k := 1) (by omega) hl hS (by decide +kernel) (by decide +kernel) (by decide +kernel) (by decide +kernel) (by decide +kernel) ?_
  refine pz_la Y hX hbl hbA hL (i := i) (k := 2) (by omega) hl hS (by decide +kernel) (by decide +kernel) (by decide +kernel) (by decide +kernel) (by decide +kernel) ?_
  refine pz_la Y hX hbl hbA hL (i := i) (k := 3) (by omega) hl hS (by decide +kernel) (by decide +kernel) (by decide +kernel) (by decide +kernel) (by decide +kernel) ?_
  refine pz_crV Y hcs (v_X12_along (Nat.le_of_ble_eq_true rfl) (Nat.le_of_ble_eq_true rfl) (by decide +kernel)) H936 locs936 ls M936 [.inr (.inr (12, 1)), .inl (xs (i + 1)).toInt, .inl (xs (i + 2)).toInt, .inl (xs (i + 3)).toInt] [] 956 (by decide +kernel) hP hS hM ?_ hl.1 rfl (Nat.le_of_ble_eq_true rfl) (hJ) (fun r956 M956 H956 locs956 hq hr hP hS hM => ?_)
  · skip
    exact (List.forall_mem_cons.mpr ⟨(show pz_kd 1 = 12 ∧ 1 < 231 from by decide), (List.forall_mem_cons.mpr ⟨(pz_tc _), (List.forall_mem_cons.mpr ⟨(pz_tc _), (List.forall_mem_cons.mpr ⟨(pz_tc _), List.forall_mem_nil _⟩)⟩)⟩)⟩)
  obtain ⟨w956, rfl, C956⟩ := hr
  have hq : _ ∧ _ := hq
  obtain ⟨q956, z956⟩ := hq
  have hI : pz_ic M956 := pz_ic_cg z956.1.1.2 hI
  have hJ : pz_im M956 := z956.1.1.1 hJ
  refine lv_pop hx hb (by decide +kernel) rfl ?_
  refine lv_goto (tgt := 1407) hx hb (by decide +kernel) (by decide) ?_
  have hR : pz_R M956 := True.intro
  exact K _ _ _ hI hJ hR hP hS hM
set_option maxRecDepth 100000 in
set_option maxHeartbeats 4000000 in
theorem pz_case23 (Y : pz_Y p s m #[Value.ref b] c code R_law 4 D ad adV cy A) (hcs : cells ≤ room_1.cells ∧ slots ≤ room_1.slots) (hX : va_X b L xs s s.heap) (hbl : b < s.heap.size) (hbA : ¬ A b) (hL : L ≤ 3072) {i : Nat} (hi : i + 6 ≤ L) {H : Heap} {locs : List Loc} {ls : Array Slot} {M : pz_M} (hl : lv_has ls 4 [(0, .ref b), (1, .ref (ad 0)), (2, .ref (ad 1)), (3, .int (Int32.ofNat i))]) (hP : va_P D vwCl (pz_ws ad cy M) H) (hS : va_S A s.heap H locs) (hM : ∀ a k : Nat, pz_c (M a k)) (hI : pz_ic M) (hJ : pz_im M) (hR : pz_R M) (K : ∀ (M9 : pz_M) (H9 : Heap) (locs9 : List Loc), pz_ic M9 → pz_im M9 → pz_R M9 → va_P D vwCl (pz_ws ad cy M9) H9 → va_S A s.heap H9 locs9 → (∀ a k : Nat, pz_c (M9 a k)) → W p l e room_1 s m #[Value.ref b] below meth c H9 locs9 cells slots Q (F0 m 1407 ls [])) : W p l e room_1 s m #[Value.ref b] below meth c H locs cells slots Q (F0 m 963 ls []) := by
  obtain ⟨hx, hb, hml, hown, hts, hXX⟩ := id Y
  refine lv_aload_n hx hb (k := 1) (by decide +kernel) rfl (lv_at hl 1 rfl) ?_
  refine pz_la Y hX hbl hbA hL (i := i) (k := 1) (by omega) hl hS (by decide +kernel) (by decide +kernel) (by decide +kernel) (by decide +kernel) (by decide +kernel) ?_
  refine pz_la Y hX hbl hbA hL (i := i) (k := 2) (by omega) hl hS (by decide +kernel) (by decide +kernel) (by decide +kernel) (by decide +kernel) (by decide +kernel) ?_
  refine pz_la Y hX hbl hbA hL (i := i) (k := 3) (by omega) hl hS (by decide +kernel) (by decide +kernel) (by decide +kernel) (by decide +kernel) (by decide +kernel) ?_
  refine pz_la Y hX hbl hbA hL (i := i) (k := 4) (by omega) hl hS (by decide +kernel) (by decide +kernel) (by decide +kernel) (by decide +kernel) (by decide +kernel) ?_
  refine pz_crV Y hcs (v_X11_choice (Nat.le_of_ble_eq_true rfl) (Nat.le_of_ble_eq_true rfl) (by decide +kernel)) H locs ls M [.inr (.inr (11, 0)), .inl (xs (i + 1)).toInt, .inl (xs (i + 2)).toInt, .inl (xs (i + 3)).toInt, .inl (xs (i + 4)).toInt] [] 984 (by decide +kernel) hP hS hM ?_ hl.1 rfl (Nat.le_of_ble_eq_true rfl) (hI) (fun r984 M984 H984 locs984 hq hr hP hS hM => ?_)
  · skip
    exact (List.forall_mem_cons.mpr ⟨(show pz_kd 0 = 11 ∧ 0 < 231 from by decide), (List.forall_mem_cons.mpr ⟨(pz_tc _), (List.forall_mem_cons.mpr ⟨(pz_tc _), (List.forall_mem_cons.mpr ⟨(pz_tc _), (List.forall_mem_cons.mpr ⟨(pz_tc _), List.forall_mem_nil _⟩)⟩)⟩)⟩)⟩)
  obtain ⟨w984, rfl, C984⟩ := hr
  have hq : _ ∧ _ := hq
  obtain ⟨q984, z984⟩ := hq
  have hJ : pz_im M984 := pz_im_cg z984.1.2 hJ
  have hI : pz_ic M984 := z984.1.1 hI
  refine lv_pop hx hb (by decide +kernel) rfl ?_
  refine lv_aload_n hx hb (k := 2) (by decide +kernel) rfl (lv_at hl 2 rfl) ?_
  refine pz_la Y hX hbl hbA hL (i := i) (k := 1) (by omega) hl hS (by decide +kernel) (by decide +kernel) (by decide +kernel) (by decide +kernel) (by decide +kernel) ?_
  refine pz_la Y hX hbl hbA hL (i := i) (k := 2) (by omega) hl hS (by decide +kernel) (by decide +kernel) (by decide +kernel) (by decide +kernel) (by decide +kernel) ?_
  refine pz_la Y hX hbl hbA hL (i := i) (k := 3) (by omega) hl hS (by decide +kernel) (by decide +kernel) (by decide +kernel) (by decide +kernel) (by decide +kernel) ?_
  refine pz_la Y hX hbl hbA hL (i := i) (k := 4) (by omega) hl hS (by decide +kernel) (by decide +kernel) (by decide +kernel) (by decide +kernel) (by decide +kernel) ?_
  refine pz_crV Y hcs (v_X12_choice (Nat.le_of_ble_eq_true rfl) (Nat.le_of_ble_eq_true rfl) (by decide +kernel)) H984 locs984 ls M984 [.inr (.inr (12, 1)), .inl (xs (i + 1)).toInt, .inl (xs (i + 2)).toInt, .inl (xs (i + 3)).toInt, .inl (xs (i + 4)).toInt] [] 1009 (by decide +kernel) hP hS hM ?_ hl.1 rfl (Nat.le_of_ble_eq_true rfl) (hJ) (fun r1009 M1009 H1009 locs1009 hq hr hP hS hM => ?_)
  · skip
    exact (List.forall_mem_cons.mpr ⟨(show pz_kd 1 = 12 ∧ 1 < 231 from by decide), (List.forall_mem_cons.mpr ⟨(pz_tc _), (List.forall_mem_cons.mpr ⟨(pz_tc _), (List.forall_mem_cons.mpr ⟨(pz_tc _), (List.forall_mem_cons.mpr ⟨(pz_tc _), List.forall_mem_nil _⟩)⟩)⟩)⟩)⟩)
  obtain ⟨w1009, rfl, C1009⟩ := hr
  have hq : _ ∧ _ := hq
  obtain ⟨q1009, z1009⟩ := hq
  have hI : pz_ic M1009 := pz_ic_cg z1009.1.1.2 hI
  have hJ : pz_im M1009 := z1009.1.1.1 hJ
  refine lv_pop hx hb (by decide +kernel) rfl ?_
  refine lv_goto (tgt := 1407) hx hb (by decide +kernel) (by decide) ?_
  have hR : pz_R M1009 := True.intro
  exact K _ _ _ hI hJ hR hP hS hM
set_option maxRecDepth 100000 in
set_option maxHeartbeats 4000000 in
theorem pz_case24 (Y : pz_Y p s m #[Value.ref b] c code R_law 4 D ad adV cy A) (hcs : cells ≤ room_1.cells ∧ slots ≤ room_1.slots) (hX : va_X b L xs s s.heap) (hbl : b < s.heap.size) (hbA : ¬ A b) (hL : L ≤ 3072) {i : Nat} (hi : i + 6 ≤ L) {H : Heap} {locs : List Loc} {ls : Array Slot} {M : pz_M} (hl : lv_has ls 4 [(0, .ref b), (1, .ref (ad 0)), (2, .ref (ad 1)), (3, .int (Int32.ofNat i))]) (hP : va_P D vwCl (pz_ws ad cy M) H) (hS : va_S A s.heap H locs) (hM : ∀ a k : Nat, pz_c (M a k)) (hI : pz_ic M) (hJ : pz_im M) (hR : pz_R M) (K : ∀ (M9 : pz_M) (H9 : Heap) (locs9 : List Loc), pz_ic M9 → pz_im M9 → pz_R M9 → va_P D vwCl (pz_ws ad cy M9) H9 → va_S A s.heap H9 locs9 → (∀ a k : Nat, pz_c (M9 a k)) → W p l e room_1 s m #[Value.ref b] below meth c H9 locs9 cells slots Q (F0 m 1407 ls [])) : W p l e room_1 s m #[Value.ref b] below meth c H locs cells slots Q (F0 m 1016 ls []) := by
  obtain ⟨hx, hb, hml, hown, hts, hXX⟩ := id Y
  refine lv_aload_n hx hb (k := 1) (by decide +kernel) rfl (lv_at hl 1 rfl) ?_
  refine pz_la Y hX hbl hbA hL (i := i) (k := 1) (by omega) hl hS (by decide +kernel) (by decide +kernel) (by decide +kernel) (by decide +kernel) (by decide +kernel) ?_
  refine pz_la Y hX hbl hbA hL (i := i) (k := 2) (by omega) hl hS (by decide +kernel) (by decide +kernel) (by decide +kernel) (by decide +kernel) (by decide +kernel) ?_
  refine pz_la Y hX hbl hbA hL (i := i) (k := 3) (by omega) hl hS (by decide +kernel) (by decide +kernel) (by decide +kernel) (by decide +kernel) (by decide +kernel) ?_
  refine pz_crV Y hcs (v_X11_bluff (Nat.le_of_ble_eq_true rfl) (Nat.le_of_ble_eq_true rfl) (by decide +kernel)) H locs ls M [.inr (.inr (11, 0)), .inl (xs (i + 1)).toInt, .inl (xs (i + 2)).toInt, .inl (xs (i + 3)).toInt] [] 1032 (by decide +kernel) hP hS hM ?_ hl.1 rfl (Nat.le_of_ble_eq_true rfl) (hI) (fun r1032 M1032 H1032 locs1032 hq hr hP hS hM => ?_)
  · skip
    exact (List.forall_mem_cons.mpr ⟨(show pz_kd 0 = 11 ∧ 0 < 231 from by decide), (List.forall_mem_cons.mpr ⟨(pz_tc _), (List.forall_mem_cons.mpr ⟨(pz_tc _), (List.forall_mem_cons.mpr ⟨(pz_tc _), List.forall_mem_nil _⟩)⟩)⟩)⟩)
  obtain ⟨w1032, rfl, C1032⟩ := hr
  have hq : _ ∧ _ := hq
  obtain ⟨q1032, z1032⟩ := hq
  subst z1032
  refine lv_aload_n hx hb (k := 2) (by decide +kernel) rfl (lv_at hl 2 rfl) ?_
  refine pz_la Y hX hbl hbA hL (i := i) (k := 1) (by omega) hl hS (by decide +kernel) (by decide +kernel) (by decide +kernel) (by decide +kernel) (by decide +kernel) ?_
  refine pz_la Y hX hbl hbA hL (i := i) (k := 2) (by omega) hl hS (by decide +kernel) (by decide +kernel) (by decide +kernel) (by decide +kernel) (by decide +kernel) ?_
  refine pz_la Y hX hbl hbA hL (i := i) (k := 3) (by omega) hl hS (by decide +kernel) (by decide +kernel) (by decide +kernel) (by decide +kernel) (by decide +kernel) ?_
  refine pz_crV Y hcs (v_X12_bluff (Nat.le_of_ble_eq_true rfl) (Nat.le_of_ble_eq_true rfl) (by decide +kernel)) H1032 locs1032 ls M [.inr (.inr (12, 1)), .inl (xs (i + 1)).toInt, .inl (xs (i + 2)).toInt, .inl (xs (i + 3)).toInt] [.inl w1032] 1051 (by decide +kernel) hP hS hM ?_ hl.1 rfl (Nat.le_of_ble_eq_true rfl) (hJ) (fun r1051 M1051 H1051 locs1051 hq hr hP hS hM => ?_)
  · skip
    exact (List.forall_mem_cons.mpr ⟨(show pz_kd 1 = 12 ∧ 1 < 231 from by decide), (List.forall_mem_cons.mpr ⟨(pz_tc _), (List.forall_mem_cons.mpr ⟨(pz_tc _), (List.forall_mem_cons.mpr ⟨(pz_tc _), List.forall_mem_nil _⟩)⟩)⟩)⟩)
  obtain ⟨w1051, rfl, C1051⟩ := hr
  have hq : _ ∧ _ := hq
  obtain ⟨q1051, z1051⟩ := hq
  subst z1051
  have E1054 : w1032 = w1051 := q1032.trans q1051.symm
  refine lv_icmp_eq (tgt := 1407) hx hb (by decide +kernel) (by decide) (fun _ => ?_) (fun q9 => absurd (congrArg Int32.ofInt E1054) q9)
  have hR : pz_R M := True.intro
  exact K _ _ _ hI hJ hR hP hS hM
set_option maxRecDepth 100000 in
set_option maxHeartbeats 4000000 in
theorem pz_case25 (Y : pz_Y p s m #[Value.ref b] c code R_law 4 D ad adV cy A) (hcs : cells ≤ room_1.cells ∧ slots ≤ room_1.slots) (hX : va_X b L xs s s.heap) (hbl : b < s.heap.size) (hbA : ¬ A b) (hL : L ≤ 3072) {i : Nat} (hi : i + 6 ≤ L) {H : Heap} {locs : List Loc} {ls : Array Slot} {M : pz_M} (hl : lv_has ls 4 [(0, .ref b), (1, .ref (ad 0)), (2, .ref (ad 1)), (3, .int (Int32.ofNat i))]) (hP : va_P D vwCl (pz_ws ad cy M) H) (hS : va_S A s.heap H locs) (hM : ∀ a k : Nat, pz_c (M a k)) (hI : pz_ic M) (hJ : pz_im M) (hR : pz_R M) (K : ∀ (M9 : pz_M) (H9 : Heap) (locs9 : List Loc), pz_ic M9 → pz_im M9 → pz_R M9 → va_P D vwCl (pz_ws ad cy M9) H9 → va_S A s.heap H9 locs9 → (∀ a k : Nat, pz_c (M9 a k)) → W p l e room_1 s m #[Value.ref b] below meth c H9 locs9 cells slots Q (F0 m 1407 ls [])) : W p l e room_1 s m #[Value.ref b] below meth c H locs cells slots Q (F0 m 1059 ls []) := by
  obtain ⟨hx, hb, hml, hown, hts, hXX⟩ := id Y
  refine lv_aload_n hx hb (k := 1) (by decide +kernel) rfl (lv_at hl 1 rfl) ?_
  refine pz_la Y hX hbl hbA hL (i := i) (k := 1) (by omega) hl hS (by decide +kernel) (by decide +kernel) (by decide +kernel) (by decide +kernel) (by decide +kernel) ?_
  refine pz_crV Y hcs (v_X11_signs (Nat.le_of_ble_eq_true rfl) (Nat.le_of_ble_eq_true rfl) (by decide +kernel)) H locs ls M [.inr (.inr (11, 0)), .inl (xs (i + 1)).toInt] [] 1065 (by decide +kernel) hP hS hM ?_ hl.1 rfl (Nat.le_of_ble_eq_true rfl) (hI) (fun r1065 M1065 H1065 locs1065 hq hr hP hS hM => ?_)
  · skip
    exact (List.forall_mem_cons.mpr ⟨(show pz_kd 0 = 11 ∧ 0 < 231 from by decide), (List.forall_mem_cons.mpr ⟨(pz_tc _), List.forall_mem_nil _⟩)⟩)
  obtain ⟨w1065, rfl, C1065⟩ := hr
  have hq : _ ∧ _ := hq
  obtain ⟨q1065, z1065⟩ := hq
  have hJ : pz_im M1065 := pz_im_cg z1065.1.2 hJ
  have hI : pz_ic M1065 := z1065.1.1 hI
  refine lv_pop hx hb (by decide +kernel) rfl ?_
  refine lv_aload_n hx hb (k := 2) (by decide +kernel) rfl (lv_at hl 2 rfl) ?_
  refine pz_la Y hX hbl hbA hL (i := i) (k := 1) (by omega) hl hS (by decide +kernel) (by decide +kernel) (by decide +kernel) (by decide +kernel) (by decide +kernel) ?_
  refine pz_crV Y hcs (v_X12_signs (Nat.le_of_ble_eq_true rfl) (Nat.le_of_ble_eq_true rfl) (by decide +kernel)) H1065 locs1065 ls M1065 [.inr (.inr (12, 1)), .inl (xs (i + 1)).toInt] [] 1075 (by decide +kernel) hP hS hM ?_ hl.1 rfl (Nat.le_of_ble_eq_true rfl) (hJ) (fun r1075 M1075 H1075 locs1075 hq hr hP hS hM => ?_)
  · skip
    exact (List.forall_mem_cons.mpr ⟨(show pz_kd 1 = 12 ∧ 1 < 231 from by decide), (List.forall_mem_cons.mpr ⟨(pz_tc _), List.forall_mem_nil _⟩)⟩)
  obtain ⟨w1075, rfl, C1075⟩ := hr
  have hq : _ ∧ _ := hq
  obtain ⟨q1075, z1075⟩ := hq
  have hI : pz_ic M1075 := pz_ic_cg z1075.1.1.2 hI
  have hJ : pz_im M1075 := z1075.1.1.1 hJ
  refine lv_pop hx hb (by decide +kernel) rfl ?_
  refine lv_goto (tgt := 1407) hx hb (by decide +kernel) (by decide) ?_
  have hR : pz_R M1075 := True.intro
  exact K _ _ _ hI hJ hR hP hS hM
set_option maxRecDepth 100000 in
set_option maxHeartbeats 4000000 in
theorem pz_case26 (Y : pz_Y p s m #[Value.ref b] c code R_law 4 D ad adV cy A) (hcs : cells ≤ room_1.cells ∧ slots ≤ room_1.slots) (hX : va_X b L xs s s.heap) (hbl : b < s.heap.size) (hbA : ¬ A b) (hL : L ≤ 3072) {i : Nat} (hi : i + 6 ≤ L) {H : Heap} {locs : List Loc} {ls : Array Slot} {M : pz_M} (hl : lv_has ls 4 [(0, .ref b), (1, .ref (ad 0)), (2, .ref (ad 1)), (3, .int (Int32.ofNat i))]) (hP : va_P D vwCl (pz_ws ad cy M) H) (hS : va_S A s.heap H locs) (hM : ∀ a k : Nat, pz_c (M a k)) (hI : pz_ic M) (hJ : pz_im M) (hR : pz_R M) (K : ∀ (M9 : pz_M) (H9 : Heap) (locs9 : List Loc), pz_ic M9 → pz_im M9 → pz_R M9 → va_P D vwCl (pz_ws ad cy M9) H9 → va_S A s.heap H9 locs9 → (∀ a k : Nat, pz_c (M9 a k)) → W p l e room_1 s m #[Value.ref b] below meth c H9 locs9 cells slots Q (F0 m 1407 ls [])) : W p l e room_1 s m #[Value.ref b] below meth c H locs cells slots Q (F0 m 1082 ls []) := by
  obtain ⟨hx, hb, hml, hown, hts, hXX⟩ := id Y
  refine lv_aload_n hx hb (k := 1) (by decide +kernel) rfl (lv_at hl 1 rfl) ?_
  refine pz_la Y hX hbl hbA hL (i := i) (k := 1) (by omega) hl hS (by decide +kernel) (by decide +kernel) (by decide +kernel) (by decide +kernel) (by decide +kernel) ?_
  refine pz_la Y hX hbl hbA hL (i := i) (k := 2) (by omega) hl hS (by decide +kernel) (by decide +kernel) (by decide +kernel) (by decide +kernel) (by decide +kernel) ?_
  refine pz_crV Y hcs (v_X11_money (Nat.le_of_ble_eq_true rfl) (Nat.le_of_ble_eq_true rfl) (by decide +kernel)) H locs ls M [.inr (.inr (11, 0)), .inl (xs (i + 1)).toInt, .inl (xs (i + 2)).toInt] [] 1093 (by decide +kernel) hP hS hM ?_ hl.1 rfl (Nat.le_of_ble_eq_true rfl) (hI) (fun r1093 M1093 H1093 locs1093 hq hr hP hS hM => ?_)
  · skip
    exact (List.forall_mem_cons.mpr ⟨(show pz_kd 0 = 11 ∧ 0 < 231 from by decide), (List.forall_mem_cons.mpr ⟨(pz_tc _), (List.forall_mem_cons.mpr ⟨(pz_tc _), List.forall_mem_nil _⟩)⟩)⟩)
  obtain ⟨w1093, rfl, C1093⟩ := hr
  have hq : _ ∧ _ := hq
  obtain ⟨q1093, z1093⟩ := hq
  subst z1093
  refine lv_pop hx hb (by decide +kernel) rfl ?_
  refine lv_aload_n hx hb (k := 2) (by decide +kernel) rfl (lv_at hl 2 rfl) ?_
  refine pz_la Y hX hbl hbA hL (i := i) (k := 1) (by omega) hl hS (by decide +kernel) (by decide +kernel) (by decide +kernel) (by decide +kernel) (by decide +kernel) ?_
  refine pz_la Y hX hbl hbA hL (i := i) (k := 2) (by omega) hl hS (by decide +kernel) (by decide +kernel) (by decide +kernel) (by decide +kernel) (by decide +kernel) ?_
  refine pz_crV Y hcs (v_X12_money (Nat.le_of_ble_eq_true rfl) (Nat.le_of_ble_eq_true rfl) (by decide +kernel)) H1093 locs1093 ls M [.inr (.inr (12, 1)), .inl (xs (i + 1)).toInt, .inl (xs (i + 2)).toInt] [] 1108 (by decide +kernel) hP hS hM ?_ hl.1 rfl (Nat.le_of_ble_eq_true rfl) (hJ) (fun r1108 M1108 H1108 locs1108 hq hr hP hS hM => ?_)
  · skip
    exact (List.forall_mem_cons.mpr ⟨(show pz_kd 1 = 12 ∧ 1 < 231 from by decide), (List.forall_mem_cons.mpr ⟨(pz_tc _), (List.forall_mem_cons.mpr ⟨(pz_tc _), List.forall_mem_nil _⟩)⟩)⟩)
  obtain ⟨w1108, rfl, C1108⟩ := hr
  have hq : _ ∧ _ := hq
  obtain ⟨q1108, z1108⟩ := hq
  subst z1108
  refine lv_pop hx hb (by decide +kernel) rfl ?_
  refine lv_goto (tgt := 1407) hx hb (by decide +kernel) (by decide) ?_
  have hR : pz_R M := True.intro
  exact K _ _ _ hI hJ hR hP hS hM
set_option maxRecDepth 100000 in
set_option maxHeartbeats 4000000 in
theorem pz_case27 (Y : pz_Y p s m #[Value.ref b] c code R_law 4 D ad adV cy A) (hcs : cells ≤ room_1.cells ∧ slots ≤ room_1.slots) (hX : va_X b L xs s s.heap) (hbl : b < s.heap.size) (hbA : ¬ A b) (hL : L ≤ 3072) {i : Nat} (hi : i + 6 ≤ L) {H : Heap} {locs : List Loc} {ls : Array Slot} {M : pz_M} (hl : lv_has ls 4 [(0, .ref b), (1, .ref (ad 0)), (2, .ref (ad 1)), (3, .int (Int32.ofNat i))]) (hP : va_P D vwCl (pz_ws ad cy M) H) (hS : va_S A s.heap H locs) (hM : ∀ a k : Nat, pz_c (M a k)) (hI : pz_ic M) (hJ : pz_im M) (hR : pz_R M) (K : ∀ (M9 : pz_M) (H9 : Heap) (locs9 : List Loc), pz_ic M9 → pz_im M9 → pz_R M9 → va_P D vwCl (pz_ws ad cy M9) H9 → va_S A s.heap H9 locs9 → (∀ a k : Nat, pz_c (M9 a k)) → W p l e room_1 s m #[Value.ref b] below meth c H9 locs9 cells slots Q (F0 m 1407 ls [])) : W p l e room_1 s m #[Value.ref b] below meth c H locs cells slots Q (F0 m 1115 ls []) := by
  obtain ⟨hx, hb, hml, hown, hts, hXX⟩ := id Y
  refine lv_aload_n hx hb (k := 1) (by decide +kernel) rfl (lv_at hl 1 rfl) ?_
  refine pz_la Y hX hbl hbA hL (i := i) (k := 1) (by omega) hl hS (by decide +kernel) (by decide +kernel) (by decide +kernel) (by decide +kernel) (by decide +kernel) ?_
  refine pz_la Y hX hbl hbA hL (i := i) (k := 2) (by omega) hl hS (by decide +kernel) (by decide +kernel) (by decide +kernel) (by decide +kernel) (by decide +kernel) ?_
  refine pz_crV Y hcs (v_X11_ill (Nat.le_of_ble_eq_true rfl) (Nat.le_of_ble_eq_true rfl) (by decide +kernel)) H locs ls M [.inr (.inr (11, 0)), .inl (xs (i + 1)).toInt, .inl (xs (i + 2)).toInt] [] 1126 (by decide +kernel) hP hS hM ?_ hl.1 rfl (Nat.le_of_ble_eq_true rfl) (hI) (fun r1126 M1126 H1126 locs1126 hq hr hP hS hM => ?_)
  · skip
    exact (List.forall_mem_cons.mpr ⟨(show pz_kd 0 = 11 ∧ 0 < 231 from by decide), (List.forall_mem_cons.mpr ⟨(pz_tc _), (List.forall_mem_cons.mpr ⟨(pz_tc _), List.forall_mem_nil _⟩)⟩)⟩)
  obtain ⟨w1126, rfl, C1126⟩ := hr
  have hq : _ ∧ _ := hq
  obtain ⟨q1126, z1126⟩ := hq
  subst z1126
  refine lv_pop hx hb (by decide +kernel) rfl ?_
  refine lv_aload_n hx hb (k := 2) (by decide +kernel) rfl (lv_at hl 2 rfl) ?_
  refine pz_la Y hX hbl hbA hL (i := i) (k := 1) (by omega) hl hS (by decide +kernel) (by decide +kernel) (by decide +kernel) (by decide +kernel) (by decide +kernel) ?_
  refine pz_la Y hX hbl hbA hL (i := i) (k := 2) (by omega) hl hS (by decide +kernel) (by decide +kernel) (by decide +kernel) (by decide +kernel) (by decide +kernel) ?_
  refine pz_crV Y hcs (v_X12_ill (Nat.le_of_ble_eq_true rfl) (Nat.le_of_ble_eq_true rfl) (by decide +kernel)) H1126 locs1126 ls M [.inr (.inr (12, 1)), .inl (xs (i + 1)).toInt, .inl (xs (i + 2)).toInt] [] 1141 (by decide +kernel) hP hS hM ?_ hl.1 rfl (Nat.le_of_ble_eq_true rfl) (hJ) (fun r1141 M1141 H1141 locs1141 hq hr hP hS hM => ?_)
  · skip
    exact (List.forall_mem_cons.mpr ⟨(show pz_kd 1 = 12 ∧ 1 < 231 from by decide), (List.forall_mem_cons.mpr ⟨(pz_tc _), (List.forall_mem_cons.mpr ⟨(pz_tc _), List.forall_mem_nil _⟩)⟩)⟩)
  obtain ⟨w1141, rfl, C1141⟩ := hr
  have hq : _ ∧ _ := hq
  obtain ⟨q1141, z1141⟩ := hq
  subst z1141
  refine lv_pop hx hb (by decide +kernel) rfl ?_
  refine lv_goto (tgt := 1407) hx hb (by decide +kernel) (by decide) ?_
  have hR : pz_R M := True.intro
  exact K _ _ _ hI hJ hR hP hS hM
set_option maxRecDepth 100000 in
set_option maxHeartbeats 4000000 in
theorem pz_case28 (Y : pz_Y p s m #[Value.ref b] c code R_law 4 D ad adV cy A) (hcs : cells ≤ room_1.cells ∧ slots ≤ room_1.slots) (hX : va_X b L xs s s.heap) (hbl : b < s.heap.size) (hbA : ¬ A b) (hL : L ≤ 3072) {i : Nat} (hi : i + 6 ≤ L) {H : Heap} {locs : List Loc} {ls : Array Slot} {M : pz_M} (hl : lv_has ls 4 [(0, .ref b), (1, .ref (ad 0)), (2, .ref (ad 1)), (3, .int (Int32.ofNat i))]) (hP : va_P D vwCl (pz_ws ad cy M) H) (hS : va_S A s.heap H locs) (hM : ∀ a k : Nat, pz_c (M a k)) (hI : pz_ic M) (hJ : pz_im M) (hR : pz_R M) (K : ∀ (M9 : pz_M) (H9 : Heap) (locs9 : List Loc), pz_ic M9 → pz_im M9 → pz_R M9 → va_P D vwCl (pz_ws ad cy M9) H9 → va_S A s.heap H9 locs9 → (∀ a k : Nat, pz_c (M9 a k)) → W p l e room_1 s m #[Value.ref b] below meth c H9 locs9 cells slots Q (F0 m 1407 ls [])) : W p l e room_1 s m #[Value.ref b] below meth c H locs cells slots Q (F0 m 1148 ls []) := by
  obtain ⟨hx, hb, hml, hown, hts, hXX⟩ := id Y
  refine lv_aload_n hx hb (k := 1) (by decide +kernel) rfl (lv_at hl 1 rfl) ?_
  refine pz_crV Y hcs (v_X11_wrote (Nat.le_of_ble_eq_true rfl) (Nat.le_of_ble_eq_true rfl) (by decide +kernel)) H locs ls M [.inr (.inr (11, 0))] [] 1149 (by decide +kernel) hP hS hM ?_ hl.1 rfl (Nat.le_of_ble_eq_true rfl) (hI) (fun r1149 M1149 H1149 locs1149 hq hr hP hS hM => ?_)
  · skip
    exact (List.forall_mem_cons.mpr ⟨(show pz_kd 0 = 11 ∧ 0 < 231 from by decide), List.forall_mem_nil _⟩)
  obtain ⟨w1149, rfl, C1149⟩ := hr
  have hq : _ ∧ _ := hq
  obtain ⟨q1149, z1149⟩ := hq
  subst z1149
  refine lv_pop hx hb (by decide +kernel) rfl ?_
  refine lv_aload_n hx hb (k := 2) (by decide +kernel) rfl (lv_at hl 2 rfl) ?_
  refine pz_crV Y hcs (v_X12_wrote (Nat.le_of_ble_eq_true rfl) (Nat.le_of_ble_eq_true rfl) (by decide +kernel)) H1149 locs1149 ls M [.inr (.inr (12, 1))] [] 1154 (by decide +kernel) hP hS hM ?_ hl.1 rfl (Nat.le_of_ble_eq_true rfl) (hJ) (fun r1154 M1154 H1154 locs1154 hq hr hP hS hM => ?_)
  · skip
    exact (List.forall_mem_cons.mpr ⟨(show pz_kd 1 = 12 ∧ 1 < 231 from by decide), List.forall_mem_nil _⟩)
  obtain ⟨w1154, rfl, C1154⟩ := hr
  have hq : _ ∧ _ := hq
  obtain ⟨q1154, z1154⟩ := hq
  subst z1154
  refine lv_pop hx hb (by decide +kernel) rfl ?_
  refine lv_goto (tgt := 1407) hx hb (by decide +kernel) (by decide) ?_
  have hR : pz_R M := True.intro
  exact K _ _ _ hI hJ hR hP hS hM
set_option maxRecDepth 100000 in
set_option maxHeartbeats 4000000 in
theorem pz_case29 (Y : pz_Y p s m #[Value.ref b] c code R_law 4 D ad adV cy A) (hcs : cells ≤ room_1.cells ∧ slots ≤ room_1.slots) (hX : va_X b L xs s s.heap) (hbl : b < s.heap.size) (hbA : ¬ A b) (hL : L ≤ 3072) {i : Nat} (hi : i + 6 ≤ L) {H : Heap} {locs : List Loc} {ls : Array Slot} {M : pz_M} (hl : lv_has ls 4 [(0, .ref b), (1, .ref (ad 0)), (2, .ref (ad 1)), (3, .int (Int32.ofNat i))]) (hP : va_P D vwCl (pz_ws ad cy M) H) (hS : va_S A s.heap H locs) (hM : ∀ a k : Nat, pz_c (M a k)) (hI : pz_ic M) (hJ : pz_im M) (hR : pz_R M) (K : ∀ (M9 : pz_M) (H9 : Heap) (locs9 : List Loc), pz_ic M9 → pz_im M9 → pz_R M9 → va_P D vwCl (pz_ws ad cy M9) H9 → va_S A s.heap H9 locs9 → (∀ a k : Nat, pz_c (M9 a k)) → W p l e room_1 s m #[Value.ref b] below meth c H9 locs9 cells slots Q (F0 m 1407 ls [])) : W p l e room_1 s m #[Value.ref b] below meth c H locs cells slots Q (F0 m 1161 ls []) := by
  obtain ⟨hx, hb, hml, hown, hts, hXX⟩ := id Y
  refine lv_aload_n hx hb (k := 1) (by decide +kernel) rfl (lv_at hl 1 rfl) ?_
  refine pz_crV Y hcs (v_X11_slowest (Nat.le_of_ble_eq_true rfl) (Nat.le_of_ble_eq_true rfl) (by decide +kernel)) H locs ls M [.inr (.inr (11, 0))] [] 1162 (by decide +kernel) hP hS hM ?_ hl.1 rfl (Nat.le_of_ble_eq_true rfl) (hI) (fun r1162 M1162 H1162 locs1162 hq hr hP hS hM => ?_)
  · skip
    exact (List.forall_mem_cons.mpr ⟨(show pz_kd 0 = 11 ∧ 0 < 231 from by decide), List.forall_mem_nil _⟩)
  obtain ⟨w1162, rfl, C1162⟩ := hr
  have hq : _ ∧ _ := hq
  obtain ⟨q1162, z1162⟩ := hq
  have hJ : pz_im M1162 := pz_im_cg z1162.1.2 hJ
  have hI : pz_ic M1162 := z1162.1.1 hI
  refine lv_pop hx hb (by decide +kernel) rfl ?_
  refine lv_aload_n hx hb (k := 2) (by decide +kernel) rfl (lv_at hl 2 rfl) ?_
  refine pz_crV Y hcs (v_X12_slowest (Nat.le_of_ble_eq_true rfl) (Nat.le_of_ble_eq_true rfl) (by decide +kernel)) H1162 locs1162 ls M1162 [.inr (.inr (12, 1))] [] 1167 (by decide +kernel) hP hS hM ?_ hl.1 rfl (Nat.le_of_ble_eq_true rfl) (hJ) (fun r1167 M1167 H1167 locs1167 hq hr hP hS hM => ?_)
  · skip
    exact (List.forall_mem_cons.mpr ⟨(show pz_kd 1 = 12 ∧ 1 < 231 from by decide), List.forall_mem_nil _⟩)
  obtain ⟨w1167, rfl, C1167⟩ := hr
  have hq : _ ∧ _ := hq
  obtain ⟨q1167, z1167⟩ := hq
  have hI : pz_ic M1167 := pz_ic_cg z1167.1.1.2 hI
  have hJ : pz_im M1167 := z1167.1.1.1 hJ
  refine lv_pop hx hb (by decide +kernel) rfl ?_
  refine lv_goto (tgt := 1407) hx hb (by decide +kernel) (by decide) ?_
  have hR : pz_R M1167 := True.intro
  exact K _ _ _ hI hJ hR hP hS hM
set_option maxRecDepth 100000 in
set_option maxHeartbeats 4000000 in
theorem pz_case30 (Y : pz_Y p s m #[Value.ref b] c code R_law 4 D ad adV cy A) (hcs : cells ≤ room_1.cells ∧ slots ≤ room_1.slots) (hX : va_X b L xs s s.heap) (hbl : b < s.heap.size) (hbA : ¬ A b) (hL : L ≤ 3072) {i : Nat} (hi : i + 6 ≤ L) {H : Heap} {locs : List Loc} {ls : Array Slot} {M : pz_M} (hl : lv_has ls 4 [(0, .ref b), (1, .ref (ad 0)), (2, .ref (ad 1)), (3, .int (Int32.ofNat i))]) (hP : va_P D vwCl (pz_ws ad cy M) H) (hS : va_S A s.heap H locs) (hM : ∀ a k : Nat, pz_c (M a k)) (hI : pz_ic M) (hJ : pz_im M) (hR : pz_R M) (K : ∀ (M9 : pz_M) (H9 : Heap) (locs9 : List Loc), pz_ic M9 → pz_im M9 → pz_R M9 → va_P D vwCl (pz_ws ad cy M9) H9 → va_S A s.heap H9 locs9 → (∀ a k : Nat, pz_c (M9 a k)) → W p l e room_1 s m #[Value.ref b] below meth c H9 locs9 cells slots Q (F0 m 1407 ls [])) : W p l e room_1 s m #[Value.ref b] below meth c H locs cells slots Q (F0 m 1174 ls []) := by
  obtain ⟨hx, hb, hml, hown, hts, hXX⟩ := id Y
  refine lv_aload_n hx hb (k := 1) (by decide +kernel) rfl (lv_at hl 1 rfl) ?_
  refine pz_la Y hX hbl hbA hL (i := i) (k := 1) (by omega) hl hS (by decide +kernel) (by decide +kernel) (by decide +kernel) (by decide +kernel) (by decide +kernel) ?_
  refine pz_crV Y hcs (v_X11_game (Nat.le_of_ble_eq_true rfl) (Nat.le_of_ble_eq_true rfl) (by decide +kernel)) H locs ls M [.inr (.inr (11, 0)), .inl (xs (i + 1)).toInt] [] 1180 (by decide +kernel) hP hS hM ?_ hl.1 rfl (Nat.le_of_ble_eq_true rfl) (hI) (fun r1180 M1180 H1180 locs1180 hq hr hP hS hM => ?_)
  · skip
    exact (List.forall_mem_cons.mpr ⟨(show pz_kd 0 = 11 ∧ 0 < 231 from by decide), (List.forall_mem_cons.mpr ⟨(pz_tc _), List.forall_mem_nil _⟩)⟩)
  obtain ⟨w1180, rfl, C1180⟩ := hr
  have hq : _ ∧ _ := hq
  obtain ⟨q1180, z1180⟩ := hq
  subst z1180
  refine lv_pop hx hb (by decide +kernel) rfl ?_
  refine lv_aload_n hx hb (k := 2) (by decide +kernel) rfl (lv_at hl 2 rfl) ?_
  refine pz_la Y hX hbl hbA hL (i := i) (k := 1) (by omega) hl hS (by decide +kernel) (by decide +kernel) (by decide +kernel) (by decide +kernel) (by decide +kernel) ?_
  refine pz_crV Y hcs (v_X12_game (Nat.le_of_ble_eq_true rfl) (Nat.le_of_ble_eq_true rfl) (by decide +kernel)) H1180 locs1180 ls M [.inr (.inr (12, 1)), .inl (xs (i + 1)).toInt] [] 1190 (by decide +kernel) hP hS hM ?_ hl.1 rfl (Nat.le_of_ble_eq_true rfl) (hJ) (fun r1190 M1190 H1190 locs1190 hq hr hP hS hM => ?_)
  · skip
    exact (List.forall_mem_cons.mpr ⟨(show pz_kd 1 = 12 ∧ 1 < 231 from by decide), (List.forall_mem_cons.mpr ⟨(pz_tc _), List.forall_mem_nil _⟩)⟩)
  obtain ⟨w1190, rfl, C1190⟩ := hr
  have hq : _ ∧ _ := hq
  obtain ⟨q1190, z1190⟩ := hq
  subst z1190
  refine lv_pop hx hb (by decide +kernel) rfl ?_
  refine lv_goto (tgt := 1407) hx hb (by decide +kernel) (by decide) ?_
  have hR : pz_R M := True.intro
  exact K _ _ _ hI hJ hR hP hS hM
set_option maxRecDepth 100000 in
set_option maxHeartbeats 4000000 in
theorem pz_case31 (Y : pz_Y p s m #[Value.ref b] c code R_law 4 D ad adV cy A) (hcs : cells ≤ room_1.cells ∧ slots ≤ room_1.slots) (hX : va_X b L xs s s.heap) (hbl : b < s.heap.size) (hbA : ¬ A b) (hL : L ≤ 3072) {i : Nat} (hi : i + 6 ≤ L) {H : Heap} {locs : List Loc} {ls : Array Slot} {M : pz_M} (hl : lv_has ls 4 [(0, .ref b), (1, .ref (ad 0)), (2, .ref (ad 1)), (3, .int (Int32.ofNat i))]) (hP : va_P D vwCl (pz_ws ad cy M) H) (hS : va_S A s.heap H locs) (hM : ∀ a k : Nat, pz_c (M a k)) (hI : pz_ic M) (hJ : pz_im M) (hR : pz_R M) (K : ∀ (M9 : pz_M) (H9 : Heap) (locs9 : List Loc), pz_ic M9 → pz_im M9 → pz_R M9 → va_P D vwCl (pz_ws ad cy M9) H9 → va_S A s.heap H9 locs9 → (∀ a k : Nat, pz_c (M9 a k)) → W p l e room_1 s m #[Value.ref b] below meth c H9 locs9 cells slots Q (F0 m 1407 ls [])) : W p l e room_1 s m #[Value.ref b] below meth c H locs cells slots Q (F0 m 1197 ls []) := by
  obtain ⟨hx, hb, hml, hown, hts, hXX⟩ := id Y
  refine lv_aload_n hx hb (k := 1) (by decide +kernel) rfl (lv_at hl 1 rfl) ?_
  refine pz_la Y hX hbl hbA hL (i := i) (k := 1) (by omega) hl hS (by decide +kernel) (by decide +kernel) (by decide +kernel) (by decide +kernel) (by decide +kernel) ?_
  refine pz_crV Y hcs (v_X11_soon (Nat.le_of_ble_eq_true rfl) (Nat.le_of_ble_eq_true rfl) (by decide +kernel)) H locs ls M [.inr (.inr (11, 0)), .inl (xs (i + 1)).toInt] [] 1203 (by decide +kernel) hP hS hM ?_ hl.1 rfl (Nat.le_of_ble_eq_true rfl) (hI) (fun r1203 M1203 H1203 locs1203 hq hr hP hS hM => ?_)
  · skip
    exact (List.forall_mem_cons.mpr ⟨(show pz_kd 0 = 11 ∧ 0 < 231 from by decide), (List.forall_mem_cons.mpr ⟨(pz_tc _), List.forall_mem_nil _⟩)⟩)
  obtain ⟨w1203, rfl, C1203⟩ := hr
  have hq : _ ∧ _ := hq
  obtain ⟨q1203, z1203⟩ := hq
  have hJ : pz_im M1203 := pz_im_cg z1203.1.2 hJ
  have hI : pz_ic M1203 := z1203.1.1 hI
  refine lv_pop hx hb (by decide +kernel) rfl ?_
  refine lv_aload_n hx hb (k := 2) (by decide +kernel) rfl (lv_at hl 2 rfl) ?_
  refine pz_la Y hX hbl hbA hL (i := i) (k := 1) (by omega) hl hS (by decide +kernel) (by decide +kernel) (by decide +kernel) (by decide +kernel) (by decide +kernel) ?_
  refine pz_crV Y hcs (v_X12_soon (Nat.le_of_ble_eq_true rfl) (Nat.le_of_ble_eq_true rfl) (by decide +kernel)) H1203 locs1203 ls M1203 [.inr (.inr (12, 1)), .inl (xs (i + 1)).toInt] [] 1213 (by decide +kernel) hP hS hM ?_ hl.1 rfl (Nat.le_of_ble_eq_true rfl) (hJ) (fun r1213 M1213 H1213 locs1213 hq hr hP hS hM => ?_)
  · skip
    exact (List.forall_mem_cons.mpr ⟨(show pz_kd 1 = 12 ∧ 1 < 231 from by decide), (List.forall_mem_cons.mpr ⟨(pz_tc _), List.forall_mem_nil _⟩)⟩)
  obtain ⟨w1213, rfl, C1213⟩ := hr
  have hq : _ ∧ _ := hq
  obtain ⟨q1213, z1213⟩ := hq
  have hI : pz_ic M1213 := pz_ic_cg z1213.1.1.2 hI
  have hJ : pz_im M1213 := z1213.1.1.1 hJ
  refine lv_pop hx hb (by decide +kernel) rfl ?_
  refine lv_goto (tgt := 1407) hx hb (by decide +kernel) (by decide) ?_
  have hR : pz_R M1213 := True.intro
  exact K _ _ _ hI hJ hR hP hS hM
set_option maxRecDepth 100000 in
set_option maxHeartbeats 4000000 in
theorem pz_case32 (Y : pz_Y p s m #[Value.ref b] c code R_law 4 D ad adV cy A) (hcs : cells ≤ room_1.cells ∧ slots ≤ room_1.slots) (hX : va_X b L xs s s.heap) (hbl : b < s.heap.size) (hbA : ¬ A b) (hL : L ≤ 3072) {i : Nat} (hi : i + 6 ≤ L) {H : Heap} {locs : List Loc} {ls : Array Slot} {M : pz_M} (hl : lv_has ls 4 [(0, .ref b), (1, .ref (ad 0)), (2, .ref (ad 1)), (3, .int (Int32.ofNat i))]) (hP : va_P D vwCl (pz_ws ad cy M) H) (hS : va_S A s.heap H locs) (hM : ∀ a k : Nat, pz_c (M a k)) (hI : pz_ic M) (hJ : pz_im M) (hR : pz_R M) (K : ∀ (M9 : pz_M) (H9 : Heap) (locs9 : List Loc), pz_ic M9 → pz_im M9 → pz_R M9 → va_P D vwCl (pz_ws ad cy M9) H9 → va_S A s.heap H9 locs9 → (∀ a k : Nat, pz_c (M9 a k)) → W p l e room_1 s m #[Value.ref b] below meth c H9 locs9 cells slots Q (F0 m 1407 ls [])) : W p l e room_1 s m #[Value.ref b] below meth c H locs cells slots Q (F0 m 1220 ls []) := by
  obtain ⟨hx, hb, hml, hown, hts, hXX⟩ := id Y
  refine lv_aload_n hx hb (k := 1) (by decide +kernel) rfl (lv_at hl 1 rfl) ?_
  refine pz_la Y hX hbl hbA hL (i := i) (k := 1) (by omega) hl hS (by decide +kernel) (by decide +kernel) (by decide +kernel) (by decide +kernel) (by decide +kernel) ?_
  refine pz_la Y hX hbl hbA hL (i := i) (k := 2) (by omega) hl hS (by decide +kernel) (by decide +kernel) (by decide +kernel) (by decide +kernel) (by decide +kernel) ?_
  refine pz_crV Y hcs (v_X11_hurry (Nat.le_of_ble_eq_true rfl) (Nat.le_of_ble_eq_true rfl) (by decide +kernel)) H locs ls M [.inr (.inr (11, 0)), .inl (xs (i + 1)).toInt, .inl (xs (i + 2)).toInt] [] 1231 (by decide +kernel) hP hS hM ?_ hl.1 rfl (Nat.le_of_ble_eq_true rfl) (hI) (fun r1231 M1231 H1231 locs1231 hq hr hP hS hM => ?_)
  · skip
    exact (List.forall_mem_cons.mpr ⟨(show pz_kd 0 = 11 ∧ 0 < 231 from by decide), (List.forall_mem_cons.mpr ⟨(pz_tc _), (List.forall_mem_cons.mpr ⟨(pz_tc _), List.forall_mem_nil _⟩)⟩)⟩)
  obtain ⟨w1231, rfl, C1231⟩ := hr
  have hq : _ ∧ _ := hq
  obtain ⟨q1231, z1231⟩ := hq
  have hJ : pz_im M1231 := pz_im_cg z1231.1.2 hJ
  have hI : pz_ic M1231 := z1231.1.1 hI
  refine lv_pop hx hb (by decide +kernel) rfl ?_
  refine lv_aload_n hx hb (k := 2) (by decide +kernel) rfl (lv_at hl 2 rfl) ?_
  refine pz_la Y hX hbl hbA hL (i := i) (k := 1) (by omega) hl hS (by decide +kernel) (by decide +kernel) (by decide +kernel) (by decide +kernel) (by decide +kernel) ?_
  refine pz_la Y hX hbl hbA hL (i := i) (k := 2) (by omega) hl hS (by decide +kernel) (by decide +kernel) (by decide +kernel) (by decide +kernel) (by decide +kernel) ?_
  refine pz_crV Y hcs (v_X12_hurry (Nat.le_of_ble_eq_true rfl) (Nat.le_of_ble_eq_true rfl) (by decide +kernel)) H1231 locs1231 ls M1231 [.inr (.inr (12, 1)), .inl (xs (i + 1)).toInt, .inl (xs (i + 2)).toInt] [] 1246 (by decide +kernel) hP hS hM ?_ hl.1 rfl (Nat.le_of_ble_eq_true rfl) (hJ) (fun r1246 M1246 H1246 locs1246 hq hr hP hS hM => ?_)
  · skip
    exact (List.forall_mem_cons.mpr ⟨(show pz_kd 1 = 12 ∧ 1 < 231 from by decide), (List.forall_mem_cons.mpr ⟨(pz_tc _), (List.forall_mem_cons.mpr ⟨(pz_tc _), List.forall_mem_nil _⟩)⟩)⟩)
  obtain ⟨w1246, rfl, C1246⟩ := hr
  have hq : _ ∧ _ := hq
  obtain ⟨q1246, z1246⟩ := hq
  have hI : pz_ic M1246 := pz_ic_cg z1246.1.1.2 hI
  have hJ : pz_im M1246 := z1246.1.1.1 hJ
  refine lv_pop hx hb (by decide +kernel) rfl ?_
  refine lv_goto (tgt := 1407) hx hb (by decide +kernel) (by decide) ?_
  have hR : pz_R M1246 := True.intro
  exact K _ _ _ hI hJ hR hP hS hM
set_option maxRecDepth 100000 in
set_option maxHeartbeats 4000000 in
theorem pz_case33 (Y : pz_Y p s m #[Value.ref b] c code R_law 4 D ad adV cy A) (hcs : cells ≤ room_1.cells ∧ slots ≤ room_1.slots) (hX : va_X b L xs s s.heap) (hbl : b < s.heap.size) (hbA : ¬ A b) (hL : L ≤ 3072) {i : Nat} (hi : i + 6 ≤ L) {H : Heap} {locs : List Loc} {ls : Array Slot} {M : pz_M} (hl : lv_has ls 4 [(0, .ref b), (1, .ref (ad 0)), (2, .ref (ad 1)), (3, .int (Int32.ofNat i))]) (hP : va_P D vwCl (pz_ws ad cy M) H) (hS : va_S A s.heap H locs) (hM : ∀ a k : Nat, pz_c (M a k)) (hI : pz_ic M) (hJ : pz_im M) (hR : pz_R M) (K : ∀ (M9 : pz_M) (H9 : Heap) (locs9 : List Loc), pz_ic M9 → pz_im M9 → pz_R M9 → va_P D vwCl (pz_ws ad cy M9) H9 → va_S A s.heap H9 locs9 → (∀ a k : Nat, pz_c (M9 a k)) → W p l e room_1 s m #[Value.ref b] below meth c H9 locs9 cells slots Q (F0 m 1407 ls [])) : W p l e room_1 s m #[Value.ref b] below meth c H locs cells slots Q (F0 m 1253 ls []) := by
  obtain ⟨hx, hb, hml, hown, hts, hXX⟩ := id Y
  refine lv_aload_n hx hb (k := 1) (by decide +kernel) rfl (lv_at hl 1 rfl) ?_
  refine pz_la Y hX hbl hbA hL (i := i) (k := 1) (by omega) hl hS (by decide +kernel) (by decide +kernel) (by decide +kernel) (by decide +kernel) (by decide +kernel) ?_
  refine pz_la Y hX hbl hbA hL (i := i) (k := 2) (by omega) hl hS (by decide +kernel) (by decide +kernel) (by decide +kernel) (by decide +kernel) (by decide +kernel) ?_
  refine pz_crV Y hcs (v_X11_split (Nat.le_of_ble_eq_true rfl) (Nat.le_of_ble_eq_true rfl) (by decide +kernel)) H locs ls M [.inr (.inr (11, 0)), .inl (xs (i + 1)).toInt, .inl (xs (i + 2)).toInt] [] 1264 (by decide +kernel) hP hS hM ?_ hl.1 rfl (Nat.le_of_ble_eq_true rfl) (hI) (fun r1264 M1264 H1264 locs1264 hq hr hP hS hM => ?_)
  · skip
    exact (List.forall_mem_cons.mpr ⟨(show pz_kd 0 = 11 ∧ 0 < 231 from by decide), (List.forall_mem_cons.mpr ⟨(pz_tc _), (List.forall_mem_cons.mpr ⟨(pz_tc _), List.forall_mem_nil _⟩)⟩)⟩)
  obtain ⟨w1264, rfl, C1264⟩ := hr
  have hq : _ ∧ _ := hq
  obtain ⟨q1264, z1264⟩ := hq
  have hJ : pz_im M1264 := pz_im_cg z1264.1.2 hJ
  have hI : pz_ic M1264 := z1264.1.1 hI
  refine lv_pop hx hb (by decide +kernel) rfl ?_
  refine lv_aload_n hx hb (k := 2) (by decide +kernel) rfl (lv_at hl 2 rfl) ?_
  refine pz_la Y hX hbl hbA hL (i := i) (k := 1) (by omega) hl hS (by decide +kernel) (by decide +kernel) (by decide +kernel) (by decide +kernel) (by decide +kernel) ?_
  refine pz_la Y hX hbl hbA hL (i := i) (k := 2) (by omega) hl hS (by decide +kernel) (by decide +kernel) (by decide +kernel) (by decide +kernel) (by decide +kernel) ?_
  refine pz_crV Y hcs (v_X12_split (Nat.le_of_ble_eq_true rfl) (Nat.le_of_ble_eq_true rfl) (by decide +kernel)) H1264 locs1264 ls M1264 [.inr (.inr (12, 1)), .inl (xs (i + 1)).toInt, .inl (xs (i + 2)).toInt] [] 1279 (by decide +kernel) hP hS hM ?_ hl.1 rfl (Nat.le_of_ble_eq_true rfl) (hJ) (fun r1279 M1279 H1279 locs1279 hq hr hP hS hM => ?_)
  · skip
    exact (List.forall_mem_cons.mpr ⟨(show pz_kd 1 = 12 ∧ 1 < 231 from by decide), (List.forall_mem_cons.mpr ⟨(pz_tc _), (List.forall_mem_cons.mpr ⟨(pz_tc _), List.forall_mem_nil _⟩)⟩)⟩)
  obtain ⟨w1279, rfl, C1279⟩ := hr
  have hq : _ ∧ _ := hq
  obtain ⟨q1279, z1279⟩ := hq
  have hI : pz_ic M1279 := pz_ic_cg z1279.1.1.2 hI
  have hJ : pz_im M1279 := z1279.1.1.1 hJ
  refine lv_pop hx hb (by decide +kernel) rfl ?_
  refine lv_goto (tgt := 1407) hx hb (by decide +kernel) (by decide) ?_
  have hR : pz_R M1279 := True.intro
  exact K _ _ _ hI hJ hR hP hS hM
set_option maxRecDepth 100000 in
set_option maxHeartbeats 4000000 in
theorem pz_case34 (Y : pz_Y p s m #[Value.ref b] c code R_law 4 D ad adV cy A) (hcs : cells ≤ room_1.cells ∧ slots ≤ room_1.slots) (hX : va_X b L xs s s.heap) (hbl : b < s.heap.size) (hbA : ¬ A b) (hL : L ≤ 3072) {i : Nat} (hi : i + 6 ≤ L) {H : Heap} {locs : List Loc} {ls : Array Slot} {M : pz_M} (hl : lv_has ls 4 [(0, .ref b), (1, .ref (ad 0)), (2, .ref (ad 1)), (3, .int (Int32.ofNat i))]) (hP : va_P D vwCl (pz_ws ad cy M) H) (hS : va_S A s.heap H locs) (hM : ∀ a k : Nat, pz_c (M a k)) (hI : pz_ic M) (hJ : pz_im M) (hR : pz_R M) (K : ∀ (M9 : pz_M) (H9 : Heap) (locs9 : List Loc), pz_ic M9 → pz_im M9 → pz_R M9 → va_P D vwCl (pz_ws ad cy M9) H9 → va_S A s.heap H9 locs9 → (∀ a k : Nat, pz_c (M9 a k)) → W p l e room_1 s m #[Value.ref b] below meth c H9 locs9 cells slots Q (F0 m 1407 ls [])) : W p l e room_1 s m #[Value.ref b] below meth c H locs cells slots Q (F0 m 1286 ls []) := by
  obtain ⟨hx, hb, hml, hown, hts, hXX⟩ := id Y
  refine lv_aload_n hx hb (k := 1) (by decide +kernel) rfl (lv_at hl 1 rfl) ?_
  refine pz_la Y hX hbl hbA hL (i := i) (k := 1) (by omega) hl hS (by decide +kernel) (by decide +kernel) (by decide +kernel) (by decide +kernel) (by decide +kernel) ?_
  refine pz_crV Y hcs (v_X11_gap (Nat.le_of_ble_eq_true rfl) (Nat.le_of_ble_eq_true rfl) (by decide +kernel)) H locs ls M [.inr (.inr (11, 0)), .inl (xs (i + 1)).toInt] [] 1292 (by decide +kernel) hP hS hM ?_ hl.1 rfl (Nat.le_of_ble_eq_true rfl) (hI) (fun r1292 M1292 H1292 locs1292 hq hr hP hS hM => ?_)
  · skip
    exact (List.forall_mem_cons.mpr ⟨(show pz_kd 0 = 11 ∧ 0 < 231 from by decide), (List.forall_mem_cons.mpr ⟨(pz_tc _), List.forall_mem_nil _⟩)⟩)
  obtain ⟨w1292, rfl, C1292⟩ := hr
  have hq : _ ∧ _ := hq
  obtain ⟨q1292, z1292⟩ := hq
  subst z1292
  refine lv_pop hx hb (by decide +kernel) rfl ?_
  refine lv_aload_n hx hb (k := 2) (by decide +kernel) rfl (lv_at hl 2 rfl) ?_
  refine pz_la Y hX hbl hbA hL (i := i) (k := 1) (by omega) hl hS (by decide +kernel) (by decide +kernel) (by decide +kernel) (by decide +kernel) (by decide +kernel) ?_
  refine pz_crV Y hcs (v_X12_gap (Nat.le_of_ble_eq_true rfl) (Nat.le_of_ble_eq_true rfl) (by decide +kernel)) H1292 locs1292 ls M [.inr (.inr (12, 1)), .inl (xs (i + 1)).toInt] [] 1302 (by decide +kernel) hP hS hM ?_ hl.1 rfl (Nat.le_of_ble_eq_true rfl) (hJ) (fun r1302 M1302 H1302 locs1302 hq hr hP hS hM => ?_)
  · skip
    exact (List.forall_mem_cons.mpr ⟨(show pz_kd 1 = 12 ∧ 1 < 231 from by decide), (List.forall_mem_cons.mpr ⟨(pz_tc _), List.forall_mem_nil _⟩)⟩)
  obtain ⟨w1302, rfl, C1302⟩ := hr
  have hq : _ ∧ _ := hq
  obtain ⟨q1302, z1302⟩ := hq
  subst z1302
  refine lv_pop hx hb (by decide +kernel) rfl ?_
  refine lv_goto (tgt := 1407) hx hb (by decide +kernel) (by decide) ?_
  have hR : pz_R M := True.intro
  exact K _ _ _ hI hJ hR hP hS hM
set_option maxRecDepth 100000 in
set_option maxHeartbeats 4000000 in
theorem pz_case35 (Y : pz_Y p s m #[Value.ref b] c code R_law 4 D ad adV cy A) (hcs : cells ≤ room_1.cells ∧ slots ≤ room_1.slots) (hX : va_X b L xs s s.heap) (hbl : b < s.heap.size) (hbA : ¬ A b) (hL : L ≤ 3072) {i : Nat} (hi : i + 6 ≤ L) {H : Heap} {locs : List Loc} {ls : Array Slot} {M : pz_M} (hl : lv_has ls 4 [(0, .ref b), (1, .ref (ad 0)), (2, .ref (ad 1)), (3, .int (Int32.ofNat i))]) (hP : va_P D vwCl (pz_ws ad cy M) H) (hS : va_S A s.heap H locs) (hM : ∀ a k : Nat, pz_c (M a k)) (hI : pz_ic M) (hJ : pz_im M) (hR : pz_R M) (K : ∀ (M9 : pz_M) (H9 : Heap) (locs9 : List Loc), pz_ic M9 → pz_im M9 → pz_R M9 → va_P D vwCl (pz_ws ad cy M9) H9 → va_S A s.heap H9 locs9 → (∀ a k : Nat, pz_c (M9 a k)) → W p l e room_1 s m #[Value.ref b] below meth c H9 locs9 cells slots Q (F0 m 1407 ls [])) : W p l e room_1 s m #[Value.ref b] below meth c H locs cells slots Q (F0 m 1309 ls []) := by
  obtain ⟨hx, hb, hml, hown, hts, hXX⟩ := id Y
  refine lv_aload_n hx hb (k := 1) (by decide +kernel) rfl (lv_at hl 1 rfl) ?_
  refine pz_la Y hX hbl hbA hL (i := i) (k := 1) (by omega) hl hS (by decide +kernel) (by decide +kernel) (by decide +kernel) (by decide +kernel) (by decide +kernel) ?_
  refine pz_crV Y hcs (v_X11_runs (Nat.le_of_ble_eq_true rfl) (Nat.le_of_ble_eq_true rfl) (by decide +kernel)) H locs ls M [.inr (.inr (11, 0)), .inl (xs (i + 1)).toInt] [] 1315 (by decide +kernel) hP hS hM ?_ hl.1 rfl (Nat.le_of_ble_eq_true rfl) (hI) (fun r1315 M1315 H1315 locs1315 hq hr hP hS hM => ?_)
  · skip
    exact (List.forall_mem_cons.mpr ⟨(show pz_kd 0 = 11 ∧ 0 < 231 from by decide), (List.forall_mem_cons.mpr ⟨(pz_tc _), List.forall_mem_nil _⟩)⟩)
  obtain ⟨w1315, rfl, C1315⟩ := hr
  have hq : _ ∧ _ := hq
  obtain ⟨q1315, z1315⟩ := hq
  subst z1315
  refine lv_pop hx hb (by decide +kernel) rfl ?_
  refine lv_aload_n hx hb (k := 2) (by decide +kernel) rfl (lv_at hl 2 rfl) ?_
  refine pz_la Y hX hbl hbA hL (i := i) (k := 1) (by omega) hl hS (by decide +kernel) (by decide +kernel) (by decide +kernel) (by decide +kernel) (by decide +kernel) ?_
  refine pz_crV Y hcs (v_X12_runs (Nat.le_of_ble_eq_true rfl) (Nat.le_of_ble_eq_true rfl) (by decide +kernel)) H1315 locs1315 ls M [.inr (.inr (12, 1)), .inl (xs (i + 1)).toInt] [] 1325 (by decide +kernel) hP hS hM ?_ hl.1 rfl (Nat.le_of_ble_eq_true rfl) (hJ) (fun r1325 M1325 H1325 locs1325 hq hr hP hS hM => ?_)
  · skip
    exact (List.forall_mem_cons.mpr ⟨(show pz_kd 1 = 12 ∧ 1 < 231 from by decide), (List.forall_mem_cons.mpr ⟨(pz_tc _), List.forall_mem_nil _⟩)⟩)
  obtain ⟨w1325, rfl, C1325⟩ := hr
  have hq : _ ∧ _ := hq
  obtain ⟨q1325, z1325⟩ := hq
  subst z1325
  refine lv_pop hx hb (by decide +kernel) rfl ?_
  refine lv_goto (tgt := 1407) hx hb (by decide +kernel) (by decide) ?_
  have hR : pz_R M := True.intro
  exact K _ _ _ hI hJ hR hP hS hM
set_option maxRecDepth 100000 in
set_option maxHeartbeats 4000000 in
theorem pz_case36 (Y : pz_Y p s m #[Value.ref b] c code R_law 4 D ad adV cy A) (hcs : cells ≤ room_1.cells ∧ slots ≤ room_1.slots) (hX : va_X b L xs s s.heap) (hbl : b < s.heap.size) (hbA : ¬ A b) (hL : L ≤ 3072) {i : Nat} (hi : i + 6 ≤ L) {H : Heap} {locs : List Loc} {ls : Array Slot} {M : pz_M} (hl : lv_has ls 4 [(0, .ref b), (1, .ref (ad 0)), (2, .ref (ad 1)), (3, .int (Int32.ofNat i))]) (hP : va_P D vwCl (pz_ws ad cy M) H) (hS : va_S A s.heap H locs) (hM : ∀ a k : Nat, pz_c (M a k)) (hI : pz_ic M) (hJ : pz_im M) (hR : pz_R M) (K : ∀ (M9 : pz_M) (H9 : Heap) (locs9 : List Loc), pz_ic M9 → pz_im M9 → pz_R M9 → va_P D vwCl (pz_ws ad cy M9) H9 → va_S A s.heap H9 locs9 → (∀ a k : Nat, pz_c (M9 a k)) → W p l e room_1 s m #[Value.ref b] below meth c H9 locs9 cells slots Q (F0 m 1407 ls [])) : W p l e room_1 s m #[Value.ref b] below meth c H locs cells slots Q (F0 m 1332 ls []) := by
  obtain ⟨hx, hb, hml, hown, hts, hXX⟩ := id Y
  refine lv_aload_n hx hb (k := 1) (by decide +kernel) rfl (lv_at hl 1 rfl) ?_
  refine pz_crV Y hcs (v_X11_undo (Nat.le_of_ble_eq_true rfl) (Nat.le_of_ble_eq_true rfl) (by decide +kernel)) H locs ls M [.inr (.inr (11, 0))] [] 1333 (by decide +kernel) hP hS hM ?_ hl.1 rfl (Nat.le_of_ble_eq_true rfl) (hI) (fun r1333 M1333 H1333 locs1333 hq hr hP hS hM => ?_)
  · skip
    exact (List.forall_mem_cons.mpr ⟨(show pz_kd 0 = 11 ∧ 0 < 231 from by decide), List.forall_mem_nil _⟩)
  obtain ⟨w1333, rfl, C1333⟩ := hr
  have hq : _ ∧ _ := hq
  obtain ⟨q1333, z1333⟩ := hq
  have hJ : pz_im M1333 := pz_im_cg z1333.1.2 hJ
  have hI : pz_ic M1333 := z1333.1.1 hI
  refine lv_pop hx hb (by decide +kernel) rfl ?_
  refine lv_aload_n hx hb (k := 2) (by decide +kernel) rfl (lv_at hl 2 rfl) ?_
  refine pz_crV Y hcs (v_X12_undo (Nat.le_of_ble_eq_true rfl) (Nat.le_of_ble_eq_true rfl) (by decide +kernel)) H1333 locs1333 ls M1333 [.inr (.inr (12, 1))] [] 1338 (by decide +kernel) hP hS hM ?_ hl.1 rfl (Nat.le_of_ble_eq_true rfl) (hJ) (fun r1338 M1338 H1338 locs1338 hq hr hP hS hM => ?_)
  · skip
    exact (List.forall_mem_cons.mpr ⟨(show pz_kd 1 = 12 ∧ 1 < 231 from by decide), List.forall_mem_nil _⟩)
  obtain ⟨w1338, rfl, C1338⟩ := hr
  have hq : _ ∧ _ := hq
  obtain ⟨q1338, z1338⟩ := hq
  have hI : pz_ic M1338 := pz_ic_cg z1338.1.1.2 hI
  have hJ : pz_im M1338 := z1338.1.1.1 hJ
  refine lv_pop hx hb (by decide +kernel) rfl ?_
  refine lv_goto (tgt := 1407) hx hb (by decide +kernel) (by decide) ?_
  have hR : pz_R M1338 := True.intro
  exact K _ _ _ hI hJ hR hP hS hM
set_option maxRecDepth 100000 in
set_option maxHeartbeats 4000000 in
theorem pz_case37 (Y : pz_Y p s m #[Value.ref b] c code R_law 4 D ad adV cy A) (hcs : cells ≤ room_1.cells ∧ slots ≤ room_1.slots) (hX : va_X b L xs s s.heap) (hbl : b < s.heap.size) (hbA : ¬ A b) (hL : L ≤ 3072) {i : Nat} (hi : i + 6 ≤ L) {H : Heap} {locs : List Loc} {ls : Array Slot} {M : pz_M} (hl : lv_has ls 4 [(0, .ref b), (1, .ref (ad 0)), (2, .ref (ad 1)), (3, .int (Int32.ofNat i))]) (hP : va_P D vwCl (pz_ws ad cy M) H) (hS : va_S A s.heap H locs) (hM : ∀ a k : Nat, pz_c (M a k)) (hI : pz_ic M) (hJ : pz_im M) (hR : pz_R M) (K : ∀ (M9 : pz_M) (H9 : Heap) (locs9 : List Loc), pz_ic M9 → pz_im M9 → pz_R M9 → va_P D vwCl (pz_ws ad cy M9) H9 → va_S A s.heap H9 locs9 → (∀ a k : Nat, pz_c (M9 a k)) → W p l e room_1 s m #[Value.ref b] below meth c H9 locs9 cells slots Q (F0 m 1407 ls [])) : W p l e room_1 s m #[Value.ref b] below meth c H locs cells slots Q (F0 m 1345 ls []) := by
  obtain ⟨hx, hb, hml, hown, hts, hXX⟩ := id Y
  refine lv_aload_n hx hb (k := 1) (by decide +kernel) rfl (lv_at hl 1 rfl) ?_
  refine pz_la Y hX hbl hbA hL (i := i) (k := 1) (by omega) hl hS (by decide +kernel) (by decide +kernel) (by decide +kernel) (by decide +kernel) (by decide +kernel) ?_
  refine lv_if_eq (tgt := 1358) hx hb (by decide +kernel) (by decide) (fun g1351 => ?_) (fun g1351 => ?_)
  · skip
    refine lv_iconst hx hb (v := Int32.ofInt 0) (by decide +kernel) rfl ?_
    refine pz_crV Y hcs (v_X11_image (Nat.le_of_ble_eq_true rfl) (Nat.le_of_ble_eq_true rfl) (by decide +kernel)) H locs ls M [.inr (.inr (11, 0)), .inl 0] [] 1359 (by decide +kernel) hP hS hM ?_ hl.1 rfl (Nat.le_of_ble_eq_true rfl) (hI) (fun r1359 M1359 H1359 locs1359 hq hr hP hS hM => ?_)
    · skip
      exact (List.forall_mem_cons.mpr ⟨(show pz_kd 0 = 11 ∧ 0 < 231 from by decide), (List.forall_mem_cons.mpr ⟨(show pz_c _ from by unfold pz_c; omega), List.forall_mem_nil _⟩)⟩)
    obtain ⟨w1359, rfl, C1359⟩ := hr
    have hq : _ ∧ _ := hq
    obtain ⟨q1359, z1359⟩ := hq
    have hJ : pz_im M1359 := pz_im_cg z1359.1.2 hJ
    have hI : pz_ic M1359 := z1359.1.1 hI
    refine lv_pop hx hb (by decide +kernel) rfl ?_
    refine lv_aload_n hx hb (k := 2) (by decide +kernel) rfl (lv_at hl 2 rfl) ?_
    refine pz_la Y hX hbl hbA hL (i := i) (k := 1) (by omega) hl hS (by decide +kernel) (by decide +kernel) (by decide +kernel) (by decide +kernel) (by decide +kernel) ?_
    refine lv_if_eq (tgt := 1376) hx hb (by decide +kernel) (by decide) (fun g1369 => ?_) (fun g1369 => ?_)
    · skip
      refine lv_iconst hx hb (v := Int32.ofInt 0) (by decide +kernel) rfl ?_
      refine pz_crV Y hcs (v_X12_image (Nat.le_of_ble_eq_true rfl) (Nat.le_of_ble_eq_true rfl) (by decide +kernel)) H1359 locs1359 ls M1359 [.inr (.inr (12, 1)), .inl 0] [] 1377 (by decide +kernel) hP hS hM ?_ hl.1 rfl (Nat.le_of_ble_eq_true rfl) (hJ) (fun r1377 M1377 H1377 locs1377 hq hr hP hS hM => ?_)
      · skip
        exact (List.forall_mem_cons.mpr ⟨(show pz_kd 1 = 12 ∧ 1 < 231 from by decide), (List.forall_mem_cons.mpr ⟨(show pz_c _ from by unfold pz_c; omega), List.forall_mem_nil _⟩)⟩)
      obtain ⟨w1377, rfl, C1377⟩ := hr
      have hq : _ ∧ _ := hq
      obtain ⟨q1377, z1377⟩ := hq
      have hI : pz_ic M1377 := pz_ic_cg z1377.1.2 hI
      have hJ : pz_im M1377 := z1377.1.1 hJ
      refine lv_pop hx hb (by decide +kernel) rfl ?_
      refine lv_goto (tgt := 1407) hx hb (by decide +kernel) (by decide) ?_
      have hR : pz_R M1377 := True.intro
      exact K _ _ _ hI hJ hR hP hS hM
    · skip
      refine lv_iconst hx hb (v := Int32.ofInt 1) (by decide +kernel) rfl ?_
      refine lv_goto (tgt := 1377) hx hb (by decide +kernel) (by decide) ?_
      refine pz_crV Y hcs (v_X12_image (Nat.le_of_ble_eq_true rfl) (Nat.le_of_ble_eq_true rfl) (by decide +kernel)) H1359 locs1359 ls M1359 [.inr (.inr (12, 1)), .inl 1] [] 1377 (by decide +kernel) hP hS hM ?_ hl.1 rfl (Nat.le_of_ble_eq_true rfl) (hJ) (fun r1377 M1377 H1377 locs1377 hq hr hP hS hM => ?_)
      · skip
        exact (List.forall_mem_cons.mpr ⟨(show pz_kd 1 = 12 ∧ 1 < 231 from by decide), (List.forall_mem_cons.mpr ⟨(show pz_c _ from by unfold pz_c; omega), List.forall_mem_nil _⟩)⟩)
      obtain ⟨w1377, rfl, C1377⟩ := hr
      have hq : _ ∧ _ := hq
      obtain ⟨q1377, z1377⟩ := hq
      have hI : pz_ic M1377 := pz_ic_cg z1377.1.2 hI
      have hJ : pz_im M1377 := z1377.1.1 hJ
      refine lv_pop hx hb (by decide +kernel) rfl ?_
      refine lv_goto (tgt := 1407) hx hb (by decide +kernel) (by decide) ?_
      have hR : pz_R M1377 := True.intro
      exact K _ _ _ hI hJ hR hP hS hM
  · skip
    refine lv_iconst hx hb (v := Int32.ofInt 1) (by decide +kernel) rfl ?_
    refine lv_goto (tgt := 1359) hx hb (by decide +kernel) (by decide) ?_
    refine pz_crV Y hcs (v_X11_image (Nat.le_of_ble_eq_true rfl) (Nat.le_of_ble_eq_true rfl) (by decide +kernel)) H locs ls M [.inr (.inr (11, 0)), .inl 1] [] 1359 (by decide +kernel) hP hS hM ?_ hl.1 rfl (Nat.le_of_ble_eq_true rfl) (hI) (fun r1359 M1359 H1359 locs1359 hq hr hP hS hM => ?_)
    · skip
      exact (List.forall_mem_cons.mpr ⟨(show pz_kd 0 = 11 ∧ 0 < 231 from by decide), (List.forall_mem_cons.mpr ⟨(show pz_c _ from by unfold pz_c; omega), List.forall_mem_nil _⟩)⟩)
    obtain ⟨w1359, rfl, C1359⟩ := hr
    have hq : _ ∧ _ := hq
    obtain ⟨q1359, z1359⟩ := hq
    have hJ : pz_im M1359 := pz_im_cg z1359.1.2 hJ
    have hI : pz_ic M1359 := z1359.1.1 hI
    refine lv_pop hx hb (by decide +kernel) rfl ?_
    refine lv_aload_n hx hb (k := 2) (by decide +kernel) rfl (lv_at hl 2 rfl) ?_
    refine pz_la Y hX hbl hbA hL (i := i) (k := 1) (by omega) hl hS (by decide +kernel) (by decide +kernel) (by decide +kernel) (by decide +kernel) (by decide +kernel) ?_
    refine lv_if_eq (tgt := 1376) hx hb (by decide +kernel) (by decide) (fun g1369 => ?_) (fun g1369 => ?_)
    · skip
      refine lv_iconst hx hb (v := Int32.ofInt 0) (by decide +kernel) rfl ?_
      refine pz_crV Y hcs (v_X12_image (Nat.le_of_ble_eq_true rfl) (Nat.le_of_ble_eq_true rfl) (by decide +kernel)) H1359 locs1359 ls M1359 [.inr (.inr (12, 1)), .inl 0] [] 1377 (by decide +kernel) hP hS hM ?_ hl.1 rfl (Nat.le_of_ble_eq_true rfl) (hJ) (fun r1377 M1377 H1377 locs1377 hq hr hP hS hM => ?_)
      · skip
        exact (List.forall_mem_cons.mpr ⟨(show pz_kd 1 = 12 ∧ 1 < 231 from by decide), (List.forall_mem_cons.mpr ⟨(show pz_c _ from by unfold pz_c; omega), List.forall_mem_nil _⟩)⟩)
      obtain ⟨w1377, rfl, C1377⟩ := hr
      have hq : _ ∧ _ := hq
      obtain ⟨q1377, z1377⟩ := hq
      have hI : pz_ic M1377 := pz_ic_cg z1377.1.2 hI
      have hJ : pz_im M1377 := z1377.1.1 hJ
      refine lv_pop hx hb (by decide +kernel) rfl ?_
      refine lv_goto (tgt := 1407) hx hb (by decide +kernel) (by decide) ?_
      have hR : pz_R M1377 := True.intro
      exact K _ _ _ hI hJ hR hP hS hM
    · skip
      refine lv_iconst hx hb (v := Int32.ofInt 1) (by decide +kernel) rfl ?_
      refine lv_goto (tgt := 1377) hx hb (by decide +kernel) (by decide) ?_
      refine pz_crV Y hcs (v_X12_image (Nat.le_of_ble_eq_true rfl) (Nat.le_of_ble_eq_true rfl) (by decide +kernel)) H1359 locs1359 ls M1359 [.inr (.inr (12, 1)), .inl 1] [] 1377 (by decide +kernel) hP hS hM ?_ hl.1 rfl (Nat.le_of_ble_eq_true rfl) (hJ) (fun r1377 M1377 H1377 locs1377 hq hr hP hS hM => ?_)
      · skip
        exact (List.forall_mem_cons.mpr ⟨(show pz_kd 1 = 12 ∧ 1 < 231 from by decide), (List.forall_mem_cons.mpr ⟨(show pz_c _ from by unfold pz_c; omega), List.forall_mem_nil _⟩)⟩)
      obtain ⟨w1377, rfl, C1377⟩ := hr
      have hq : _ ∧ _ := hq
      obtain ⟨q1377, z1377⟩ := hq
      have hI : pz_ic M1377 := pz_ic_cg z1377.1.2 hI
      have hJ : pz_im M1377 := z1377.1.1 hJ
      refine lv_pop hx hb (by decide +kernel) rfl ?_
      refine lv_goto (tgt := 1407) hx hb (by decide +kernel) (by decide) ?_
      have hR : pz_R M1377 := True.intro
      exact K _ _ _ hI hJ hR hP hS hM
set_option maxRecDepth 100000 in
set_option maxHeartbeats 4000000 in
theorem pz_case38 (Y : pz_Y p s m #[Value.ref b] c code R_law 4 D ad adV cy A) (hcs : cells ≤ room_1.cells ∧ slots ≤ room_1.slots) (hX : va_X b L xs s s.heap) (hbl : b < s.heap.size) (hbA : ¬ A b) (hL : L ≤ 3072) {i : Nat} (hi : i + 6 ≤ L) {H : Heap} {locs : List Loc} {ls : Array Slot} {M : pz_M} (hl : lv_has ls 4 [(0, .ref b), (1, .ref (ad 0)), (2, .ref (ad 1)), (3, .int (Int32.ofNat i))]) (hP : va_P D vwCl (pz_ws ad cy M) H) (hS : va_S A s.heap H locs) (hM : ∀ a k : Nat, pz_c (M a k)) (hI : pz_ic M) (hJ : pz_im M) (hR : pz_R M) (K : ∀ (M9 : pz_M) (H9 : Heap) (locs9 : List Loc), pz_ic M9 → pz_im M9 → pz_R M9 → va_P D vwCl (pz_ws ad cy M9) H9 → va_S A s.heap H9 locs9 → (∀ a k : Nat, pz_c (M9 a k)) → W p l e room_1 s m #[Value.ref b] below meth c H9 locs9 cells slots Q (F0 m 1407 ls [])) : W p l e room_1 s m #[Value.ref b] below meth c H locs cells slots Q (F0 m 1384 ls []) := by
  obtain ⟨hx, hb, hml, hown, hts, hXX⟩ := id Y
  refine lv_aload_n hx hb (k := 1) (by decide +kernel) rfl (lv_at hl 1 rfl) ?_
  refine pz_la Y hX hbl hbA hL (i := i) (k := 1) (by omega) hl hS (by decide +kernel) (by decide +kernel) (by decide +kernel) (by decide +kernel) (by decide +kernel) ?_
  refine pz_crV Y hcs (v_X11_look (Nat.le_of_ble_eq_true rfl) (Nat.le_of_ble_eq_true rfl) (by decide +kernel)) H locs ls M [.inr (.inr (11, 0)), .inl (xs (i + 1)).toInt] [] 1390 (by decide +kernel) hP hS hM ?_ hl.1 rfl (Nat.le_of_ble_eq_true rfl) (hI) (fun r1390 M1390 H1390 locs1390 hq hr hP hS hM => ?_)
  · skip
    exact (List.forall_mem_cons.mpr ⟨(show pz_kd 0 = 11 ∧ 0 < 231 from by decide), (List.forall_mem_cons.mpr ⟨(pz_tc _), List.forall_mem_nil _⟩)⟩)
  obtain ⟨w1390, rfl, C1390⟩ := hr
  have hq : _ ∧ _ := hq
  obtain ⟨q1390, z1390⟩ := hq
  subst z1390
  refine lv_pop hx hb (by decide +kernel) rfl ?_
  refine lv_aload_n hx hb (k := 2) (by decide +kernel) rfl (lv_at hl 2 rfl) ?_
  refine pz_la Y hX hbl hbA hL (i := i) (k := 1) (by omega) hl hS (by decide +kernel) (by decide +kernel) (by decide +kernel) (by decide +kernel) (by decide +kernel) ?_
  refine pz_crV Y hcs (v_X12_look (Nat.le_of_ble_eq_true rfl) (Nat.le_of_ble_eq_true rfl) (by decide +kernel)) H1390 locs1390 ls M [.inr (.inr (12, 1)), .inl (xs (i + 1)).toInt] [] 1400 (by decide +kernel) hP hS hM ?_ hl.1 rfl (Nat.le_of_ble_eq_true rfl) (hJ) (fun r1400 M1400 H1400 locs1400 hq hr hP hS hM => ?_)
  · skip
    exact (List.forall_mem_cons.mpr ⟨(show pz_kd 1 = 12 ∧ 1 < 231 from by decide), (List.forall_mem_cons.mpr ⟨(pz_tc _), List.forall_mem_nil _⟩)⟩)
  obtain ⟨w1400, rfl, C1400⟩ := hr
  have hq : _ ∧ _ := hq
  obtain ⟨q1400, z1400⟩ := hq
  subst z1400
  refine lv_pop hx hb (by decide +kernel) rfl ?_
  refine lv_goto (tgt := 1407) hx hb (by decide +kernel) (by decide) ?_
  have hR : pz_R M := True.intro
  exact K _ _ _ hI hJ hR hP hS hM
end PZL
