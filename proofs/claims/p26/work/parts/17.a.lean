/-! the law -/
theorem pz_im_cg {M M' : pz_M} (h : ∀ b j : Nat, pz_mid b → M' b j = M b j) (hI : pz_im M) : pz_im M' := by
  have e1 : M' 1 = M 1 := funext fun j => h 1 j (by unfold pz_mid; omega)
  have e60 : M' 60 = M 60 := funext fun j => h 60 j (by unfold pz_mid; omega)
  have e61 : M' 61 = M 61 := funext fun j => h 61 j (by unfold pz_mid; omega)
  have e62 : M' 62 = M 62 := funext fun j => h 62 j (by unfold pz_mid; omega)
  have e63 : M' 63 = M 63 := funext fun j => h 63 j (by unfold pz_mid; omega)
  unfold pz_im pz_iw pz_ix pz_lw at *
  rw [e1, e60, e61, e62, e63]
  exact hI
theorem pz_ic_cg {M M' : pz_M} (h : ∀ b j : Nat, ¬ pz_mid b → M' b j = M b j) (hI : pz_ic M) : pz_ic M' := by
  obtain ⟨i1, i2, i3, i4, i5, i6⟩ := hI
  refine ⟨fun c q1 q2 => ?_, ?_, fun r q1 q2 => ?_, fun L q1 q2 => ?_, ?_, ?_⟩
  · rw [h c 3 (by unfold pz_mid; omega), h c 7 (by unfold pz_mid; omega)]; exact i1 c q1 q2
  · rw [h 3 1 (by unfold pz_mid; omega)]; exact i2
  · rw [h r 0 (by unfold pz_mid; omega)]; exact i3 r q1 q2
  · rw [h L 0 (by unfold pz_mid; omega), h L 1 (by unfold pz_mid; omega)]; exact i4 L q1 q2
  · rw [h 4 1 (by unfold pz_mid; omega)]; exact i5
  · rw [h 7 3 (by unfold pz_mid; omega)]; exact i6
theorem pz_ix1 {i k : Nat} (h : i + k < 4000) : (Int32.ofNat i + Int32.ofNat k).toNatClampNeg = i + k ∧ ¬ (Int32.ofNat i + Int32.ofNat k < 0) := by
  have e : Int32.ofNat i + Int32.ofNat k = Int32.ofInt ((i + k : Nat) : Int) := by
    rw [← Int32.ofNat_add, Int32.ofInt_eq_ofNat]
  have hc : pz_c ((i + k : Nat) : Int) := by unfold pz_c; omega
  rw [e]
  refine ⟨by rw [pz_clamp hc]; omega, fun q => ?_⟩
  have := (pz_lt hc (show pz_c 0 by unfold pz_c; omega)).mp q
  omega
section PZL
variable {p : Program} {l : Launch} {e : Env} {s : State} {m : MethodId} {below : List Frame} {meth : Method} {c : Code} {cells slots : Nat} {Q : State → Prop}
variable {D : va_G} {ad adV : Nat → Nat} {cy : Nat → ClassId} {A : Nat → Prop} {b L : Nat} {xs : Nat → Int32}
/-- an argument is read out of the script -/
theorem pz_la (Y : pz_Y p s m #[Value.ref b] c code R_law 4 D ad adV cy A) (hX : va_X b L xs s s.heap) (hbl : b < s.heap.size) (hbA : ¬ A b) (hL : L ≤ 3072) {i k pc : Nat} (hi : i + k < L) {H : Heap} {locs : List Loc} {ls : Array Slot} {rest : List Value} (hl : lv_has ls 4 [(0, .ref b), (1, .ref (ad 0)), (2, .ref (ad 1)), (3, .int (Int32.ofNat i))]) (hS : va_S A s.heap H locs)
    (d0 : decode code pc = .ok (.aload_n 0, 1)) (d1 : decode code (pc + 1) = .ok (.iload_n 3, 1)) (d2 : decode code (pc + 1 + 1) = .ok (.iconst (k : Int), 1)) (d3 : decode code (pc + 1 + 1 + 1) = .ok (.iadd, 1)) (d4 : decode code (pc + 1 + 1 + 1 + 1) = .ok (.iaload, 1))
    (kk : W p l e room_1 s m #[Value.ref b] below meth c H locs cells slots Q (F0 m (pc + 1 + 1 + 1 + 1 + 1) ls (.int (Int32.ofInt (xs (i + k)).toInt) :: rest))) : W p l e room_1 s m #[Value.ref b] below meth c H locs cells slots Q (F0 m pc ls rest) := by
  obtain ⟨hx, hb, hml, hown, hts, hXX⟩ := Y
  refine lv_aload_n hx hb d0 rfl (lv_at hl 0 rfl) ?_
  refine lv_iload_n hx hb d1 rfl (lv_at hl 3 rfl) ?_
  refine lv_iconst hx hb (v := Int32.ofNat k) d2 (by rw [← Int32.ofInt_eq_ofNat]) ?_
  refine lv_iadd hx hb d3 ?_
  obtain ⟨g1, g2⟩ := pz_ix1 (i := i) (k := k) (by omega)
  refine va_sld hx hb hX hbl hbA hS (fun q => by rcases q with q | q; exact g2 q; rw [g1] at q; omega) d4 ?_
  rw [g1, ← Int32.ofInt_toInt (xs (i + k))]
  rw [Int32.ofInt_toInt] at kk
  rw [Int32.ofInt_toInt]
  exact kk

set_option maxRecDepth 100000 in
set_option maxHeartbeats 4000000 in
theorem pz_case0 (Y : pz_Y p s m #[Value.ref b] c code R_law 4 D ad adV cy A) (hcs : cells ≤ room_1.cells ∧ slots ≤ room_1.slots) (hX : va_X b L xs s s.heap) (hbl : b < s.heap.size) (hbA : ¬ A b) (hL : L ≤ 3072) {i : Nat} (hi : i + 6 ≤ L) {H : Heap} {locs : List Loc} {ls : Array Slot} {M : pz_M} (hl : lv_has ls 4 [(0, .ref b), (1, .ref (ad 0)), (2, .ref (ad 1)), (3, .int (Int32.ofNat i))]) (hP : va_P D vwCl (pz_ws ad cy M) H) (hS : va_S A s.heap H locs) (hM : ∀ a k : Nat, pz_c (M a k)) (hI : pz_ic M) (hJ : pz_im M) (K : ∀ (M9 : pz_M) (H9 : Heap) (locs9 : List Loc), pz_ic M9 → pz_im M9 → va_P D vwCl (pz_ws ad cy M9) H9 → va_S A s.heap H9 locs9 → (∀ a k : Nat, pz_c (M9 a k)) → W p l e room_1 s m #[Value.ref b] below meth c H9 locs9 cells slots Q (F0 m 1407 ls [])) : W p l e room_1 s m #[Value.ref b] below meth c H locs cells slots Q (F0 m 204 ls []) := by
  have Y0 := Y
  obtain ⟨hx, hb, hml, hown, hts, hXX⟩ := Y0
  refine lv_aload_n hx hb (k := 1) (by decide +kernel) rfl (lv_at hl 1 rfl) ?_
  refine pz_la Y hX hbl hbA hL (i := i) (k := 1) (by omega) hl hS (by decide +kernel) (by decide +kernel) (by decide +kernel) (by decide +kernel) (by decide +kernel) ?_
  refine pz_crV Y hcs (v_X11_state (Nat.le_of_ble_eq_true rfl) (Nat.le_of_ble_eq_true rfl) (by decide +kernel)) H locs ls M [.inr (.inr (11, 0)), .inl (xs (i + 1)).toInt] [] 210 (by decide +kernel) hP hS hM ?_ hl.1 rfl (Nat.le_of_ble_eq_true rfl) (hI) (fun r M1 H1 locs1 hq hr hP1 hS1 hM1 => ?_)
  · skip
    exact (List.forall_mem_cons.mpr ⟨(show pz_kd 0 = 11 ∧ 0 < 231 from by decide), (List.forall_mem_cons.mpr ⟨(pz_tc _), List.forall_mem_nil _⟩)⟩)
  obtain ⟨w210, rfl, -⟩ := hr
  have hq : (_) ∧ _ := hq
  obtain ⟨q210, z210⟩ := hq
  have hJ1 : pz_im M1 := pz_im_cg (z210.1).2 hJ
  have hI1 : pz_ic M1 := (z210.1).1 hI
  clear hP hS hM hI hJ
  have hI := hI1
  have hJ := hJ1
  clear hI1 hJ1
  clear q210 z210
  have hP := hP1
  have hS := hS1
  have hM := hM1
  clear hP1 hS1 hM1
  skip
  obtain ⟨H, rfl⟩ : ∃ z, z = H1 := ⟨_, rfl⟩
  obtain ⟨locs, rfl⟩ : ∃ z, z = locs1 := ⟨_, rfl⟩
  obtain ⟨M, rfl⟩ : ∃ z, z = M1 := ⟨_, rfl⟩
  refine lv_pop hx hb (by decide +kernel) rfl ?_
  refine lv_aload_n hx hb (k := 2) (by decide +kernel) rfl (lv_at hl 2 rfl) ?_
  refine pz_la Y hX hbl hbA hL (i := i) (k := 1) (by omega) hl hS (by decide +kernel) (by decide +kernel) (by decide +kernel) (by decide +kernel) (by decide +kernel) ?_
  refine pz_crV Y hcs (v_X12_state (Nat.le_of_ble_eq_true rfl) (Nat.le_of_ble_eq_true rfl) (by decide +kernel)) H locs ls M [.inr (.inr (12, 1)), .inl (xs (i + 1)).toInt] [] 220 (by decide +kernel) hP hS hM ?_ hl.1 rfl (Nat.le_of_ble_eq_true rfl) (hJ) (fun r M1 H1 locs1 hq hr hP1 hS1 hM1 => ?_)
  · skip
    exact (List.forall_mem_cons.mpr ⟨(show pz_kd 1 = 12 ∧ 1 < 231 from by decide), (List.forall_mem_cons.mpr ⟨(pz_tc _), List.forall_mem_nil _⟩)⟩)
  obtain ⟨w220, rfl, -⟩ := hr
  have hq : (_) ∧ _ := hq
  obtain ⟨q220, z220⟩ := hq
  have hI1 : pz_ic M1 := pz_ic_cg (z220.1.1).2 hI
  have hJ1 : pz_im M1 := (z220.1.1).1 hJ
  clear hP hS hM hI hJ
  have hI := hI1
  have hJ := hJ1
  clear hI1 hJ1
  clear q220 z220
  have hP := hP1
  have hS := hS1
  have hM := hM1
  clear hP1 hS1 hM1
  skip
  obtain ⟨H, rfl⟩ : ∃ z, z = H1 := ⟨_, rfl⟩
  obtain ⟨locs, rfl⟩ : ∃ z, z = locs1 := ⟨_, rfl⟩
  obtain ⟨M, rfl⟩ : ∃ z, z = M1 := ⟨_, rfl⟩
  refine lv_pop hx hb (by decide +kernel) rfl ?_
  refine lv_goto (tgt := 1407) hx hb (by decide +kernel) (by decide) ?_
  exact K _ _ _ hI hJ hP hS hM
set_option maxRecDepth 100000 in
set_option maxHeartbeats 4000000 in
theorem pz_case1 (Y : pz_Y p s m #[Value.ref b] c code R_law 4 D ad adV cy A) (hcs : cells ≤ room_1.cells ∧ slots ≤ room_1.slots) (hX : va_X b L xs s s.heap) (hbl : b < s.heap.size) (hbA : ¬ A b) (hL : L ≤ 3072) {i : Nat} (hi : i + 6 ≤ L) {H : Heap} {locs : List Loc} {ls : Array Slot} {M : pz_M} (hl : lv_has ls 4 [(0, .ref b), (1, .ref (ad 0)), (2, .ref (ad 1)), (3, .int (Int32.ofNat i))]) (hP : va_P D vwCl (pz_ws ad cy M) H) (hS : va_S A s.heap H locs) (hM : ∀ a k : Nat, pz_c (M a k)) (hI : pz_ic M) (hJ : pz_im M) (K : ∀ (M9 : pz_M) (H9 : Heap) (locs9 : List Loc), pz_ic M9 → pz_im M9 → va_P D vwCl (pz_ws ad cy M9) H9 → va_S A s.heap H9 locs9 → (∀ a k : Nat, pz_c (M9 a k)) → W p l e room_1 s m #[Value.ref b] below meth c H9 locs9 cells slots Q (F0 m 1407 ls [])) : W p l e room_1 s m #[Value.ref b] below meth c H locs cells slots Q (F0 m 227 ls []) := by
  have Y0 := Y
  obtain ⟨hx, hb, hml, hown, hts, hXX⟩ := Y0
  refine lv_aload_n hx hb (k := 1) (by decide +kernel) rfl (lv_at hl 1 rfl) ?_
  refine pz_la Y hX hbl hbA hL (i := i) (k := 1) (by omega) hl hS (by decide +kernel) (by decide +kernel) (by decide +kernel) (by decide +kernel) (by decide +kernel) ?_
  refine pz_la Y hX hbl hbA hL (i := i) (k := 2) (by omega) hl hS (by decide +kernel) (by decide +kernel) (by decide +kernel) (by decide +kernel) (by decide +kernel) ?_
  refine pz_la Y hX hbl hbA hL (i := i) (k := 3) (by omega) hl hS (by decide +kernel) (by decide +kernel) (by decide +kernel) (by decide +kernel) (by decide +kernel) ?_
  refine pz_la Y hX hbl hbA hL (i := i) (k := 4) (by omega) hl hS (by decide +kernel) (by decide +kernel) (by decide +kernel) (by decide +kernel) (by decide +kernel) ?_
  refine pz_crV Y hcs (v_X11_link (Nat.le_of_ble_eq_true rfl) (Nat.le_of_ble_eq_true rfl) (by decide +kernel)) H locs ls M [.inr (.inr (11, 0)), .inl (xs (i + 1)).toInt, .inl (xs (i + 2)).toInt, .inl (xs (i + 3)).toInt, .inl (xs (i + 4)).toInt] [] 248 (by decide +kernel) hP hS hM ?_ hl.1 rfl (Nat.le_of_ble_eq_true rfl) (hI) (fun r M1 H1 locs1 hq hr hP1 hS1 hM1 => ?_)
  · skip
    exact (List.forall_mem_cons.mpr ⟨(show pz_kd 0 = 11 ∧ 0 < 231 from by decide), (List.forall_mem_cons.mpr ⟨(pz_tc _), (List.forall_mem_cons.mpr ⟨(pz_tc _), (List.forall_mem_cons.mpr ⟨(pz_tc _), (List.forall_mem_cons.mpr ⟨(pz_tc _), List.forall_mem_nil _⟩)⟩)⟩)⟩)⟩)
  obtain ⟨w248, rfl, -⟩ := hr
  have hq : (_) ∧ _ := hq
  obtain ⟨q248, z248⟩ := hq
  have hJ1 : pz_im M1 := pz_im_cg (z248.1).2 hJ
  have hI1 : pz_ic M1 := (z248.1).1 hI
  clear hP hS hM hI hJ
  have hI := hI1
  have hJ := hJ1
  clear hI1 hJ1
  clear q248 z248
  have hP := hP1
  have hS := hS1
  have hM := hM1
  clear hP1 hS1 hM1
  skip
  obtain ⟨H, rfl⟩ : ∃ z, z = H1 := ⟨_, rfl⟩
  obtain ⟨locs, rfl⟩ : ∃ z, z = locs1 := ⟨_, rfl⟩
  obtain ⟨M, rfl⟩ : ∃ z, z = M1 := ⟨_, rfl⟩
  refine lv_pop hx hb (by decide +kernel) rfl ?_
  refine lv_aload_n hx hb (k := 2) (by decide +kernel) rfl (lv_at hl 2 rfl) ?_
  refine pz_la Y hX hbl hbA hL (i := i) (k := 1) (by omega) hl hS (by decide +kernel) (by decide +kernel) (by decide +kernel) (by decide +kernel) (by decide +kernel) ?_
  refine pz_la Y hX hbl hbA hL (i := i) (k := 2) (by omega) hl hS (by decide +kernel) (by decide +kernel) (by decide +kernel) (by decide +kernel) (by decide +kernel) ?_
  refine pz_la Y hX hbl hbA hL (i := i) (k := 3) (by omega) hl hS (by decide +kernel) (by decide +kernel) (by decide +kernel) (by decide +kernel) (by decide +kernel) ?_
  refine pz_la Y hX hbl hbA hL (i := i) (k := 4) (by omega) hl hS (by decide +kernel) (by decide +kernel) (by decide +kernel) (by decide +kernel) (by decide +kernel) ?_
  refine pz_crV Y hcs (v_X12_link (Nat.le_of_ble_eq_true rfl) (Nat.le_of_ble_eq_true rfl) (by decide +kernel)) H locs ls M [.inr (.inr (12, 1)), .inl (xs (i + 1)).toInt, .inl (xs (i + 2)).toInt, .inl (xs (i + 3)).toInt, .inl (xs (i + 4)).toInt] [] 273 (by decide +kernel) hP hS hM ?_ hl.1 rfl (Nat.le_of_ble_eq_true rfl) (hJ) (fun r M1 H1 locs1 hq hr hP1 hS1 hM1 => ?_)
  · skip
    exact (List.forall_mem_cons.mpr ⟨(show pz_kd 1 = 12 ∧ 1 < 231 from by decide), (List.forall_mem_cons.mpr ⟨(pz_tc _), (List.forall_mem_cons.mpr ⟨(pz_tc _), (List.forall_mem_cons.mpr ⟨(pz_tc _), (List.forall_mem_cons.mpr ⟨(pz_tc _), List.forall_mem_nil _⟩)⟩)⟩)⟩)⟩)
  obtain ⟨w273, rfl, -⟩ := hr
  have hq : (_) ∧ _ := hq
  obtain ⟨q273, z273⟩ := hq
  have hI1 : pz_ic M1 := pz_ic_cg (z273.1).2 hI
  have hJ1 : pz_im M1 := (z273.1).1 hJ
  clear hP hS hM hI hJ
  have hI := hI1
  have hJ := hJ1
  clear hI1 hJ1
  clear q273 z273
  have hP := hP1
  have hS := hS1
  have hM := hM1
  clear hP1 hS1 hM1
  skip
  obtain ⟨H, rfl⟩ : ∃ z, z = H1 := ⟨_, rfl⟩
  obtain ⟨locs, rfl⟩ : ∃ z, z = locs1 := ⟨_, rfl⟩
  obtain ⟨M, rfl⟩ : ∃ z, z = M1 := ⟨_, rfl⟩
  refine lv_pop hx hb (by decide +kernel) rfl ?_
  refine lv_goto (tgt := 1407) hx hb (by decide +kernel) (by decide) ?_
  exact K _ _ _ hI hJ hP hS hM
set_option maxRecDepth 100000 in
set_option maxHeartbeats 4000000 in
theorem pz_case2 (Y : pz_Y p s m #[Value.ref b] c code R_law 4 D ad adV cy A) (hcs : cells ≤ room_1.cells ∧ slots ≤ room_1.slots) (hX : va_X b L xs s s.heap) (hbl : b < s.heap.size) (hbA : ¬ A b) (hL : L ≤ 3072) {i : Nat} (hi : i + 6 ≤ L) {H : Heap} {locs : List Loc} {ls : Array Slot} {M : pz_M} (hl : lv_has ls 4 [(0, .ref b), (1, .ref (ad 0)), (2, .ref (ad 1)), (3, .int (Int32.ofNat i))]) (hP : va_P D vwCl (pz_ws ad cy M) H) (hS : va_S A s.heap H locs) (hM : ∀ a k : Nat, pz_c (M a k)) (hI : pz_ic M) (hJ : pz_im M) (K : ∀ (M9 : pz_M) (H9 : Heap) (locs9 : List Loc), pz_ic M9 → pz_im M9 → va_P D vwCl (pz_ws ad cy M9) H9 → va_S A s.heap H9 locs9 → (∀ a k : Nat, pz_c (M9 a k)) → W p l e room_1 s m #[Value.ref b] below meth c H9 locs9 cells slots Q (F0 m 1407 ls [])) : W p l e room_1 s m #[Value.ref b] below meth c H locs cells slots Q (F0 m 280 ls []) := by
  have Y0 := Y
  obtain ⟨hx, hb, hml, hown, hts, hXX⟩ := Y0
  refine lv_aload_n hx hb (k := 1) (by decide +kernel) rfl (lv_at hl 1 rfl) ?_
  refine pz_la Y hX hbl hbA hL (i := i) (k := 1) (by omega) hl hS (by decide +kernel) (by decide +kernel) (by decide +kernel) (by decide +kernel) (by decide +kernel) ?_
  refine pz_la Y hX hbl hbA hL (i := i) (k := 2) (by omega) hl hS (by decide +kernel) (by decide +kernel) (by decide +kernel) (by decide +kernel) (by decide +kernel) ?_
  refine pz_la Y hX hbl hbA hL (i := i) (k := 3) (by omega) hl hS (by decide +kernel) (by decide +kernel) (by decide +kernel) (by decide +kernel) (by decide +kernel) ?_
  refine pz_crV Y hcs (v_X11_set (Nat.le_of_ble_eq_true rfl) (Nat.le_of_ble_eq_true rfl) (by decide +kernel)) H locs ls M [.inr (.inr (11, 0)), .inl (xs (i + 1)).toInt, .inl (xs (i + 2)).toInt, .inl (xs (i + 3)).toInt] [] 296 (by decide +kernel) hP hS hM ?_ hl.1 rfl (Nat.le_of_ble_eq_true rfl) (hI) (fun r M1 H1 locs1 hq hr hP1 hS1 hM1 => ?_)
  · skip
    exact (List.forall_mem_cons.mpr ⟨(show pz_kd 0 = 11 ∧ 0 < 231 from by decide), (List.forall_mem_cons.mpr ⟨(pz_tc _), (List.forall_mem_cons.mpr ⟨(pz_tc _), (List.forall_mem_cons.mpr ⟨(pz_tc _), List.forall_mem_nil _⟩)⟩)⟩)⟩)
  obtain ⟨w296, rfl, -⟩ := hr
  have hq : (_) ∧ _ := hq
  obtain ⟨q296, z296⟩ := hq
  have hJ1 : pz_im M1 := pz_im_cg (z296.1).2 hJ
  have hI1 : pz_ic M1 := (z296.1).1 hI
  clear hP hS hM hI hJ
  have hI := hI1
  have hJ := hJ1
  clear hI1 hJ1
  clear q296 z296
  have hP := hP1
  have hS := hS1
  have hM := hM1
  clear hP1 hS1 hM1
  skip
  obtain ⟨H, rfl⟩ : ∃ z, z = H1 := ⟨_, rfl⟩
  obtain ⟨locs, rfl⟩ : ∃ z, z = locs1 := ⟨_, rfl⟩
  obtain ⟨M, rfl⟩ : ∃ z, z = M1 := ⟨_, rfl⟩
  refine lv_pop hx hb (by decide +kernel) rfl ?_
  refine lv_aload_n hx hb (k := 2) (by decide +kernel) rfl (lv_at hl 2 rfl) ?_
  refine pz_la Y hX hbl hbA hL (i := i) (k := 1) (by omega) hl hS (by decide +kernel) (by decide +kernel) (by decide +kernel) (by decide +kernel) (by decide +kernel) ?_
  refine pz_la Y hX hbl hbA hL (i := i) (k := 2) (by omega) hl hS (by decide +kernel) (by decide +kernel) (by decide +kernel) (by decide +kernel) (by decide +kernel) ?_
  refine pz_la Y hX hbl hbA hL (i := i) (k := 3) (by omega) hl hS (by decide +kernel) (by decide +kernel) (by decide +kernel) (by decide +kernel) (by decide +kernel) ?_
  refine pz_crV Y hcs (v_X12_set (Nat.le_of_ble_eq_true rfl) (Nat.le_of_ble_eq_true rfl) (by decide +kernel)) H locs ls M [.inr (.inr (12, 1)), .inl (xs (i + 1)).toInt, .inl (xs (i + 2)).toInt, .inl (xs (i + 3)).toInt] [] 316 (by decide +kernel) hP hS hM ?_ hl.1 rfl (Nat.le_of_ble_eq_true rfl) (hJ) (fun r M1 H1 locs1 hq hr hP1 hS1 hM1 => ?_)
  · skip
    exact (List.forall_mem_cons.mpr ⟨(show pz_kd 1 = 12 ∧ 1 < 231 from by decide), (List.forall_mem_cons.mpr ⟨(pz_tc _), (List.forall_mem_cons.mpr ⟨(pz_tc _), (List.forall_mem_cons.mpr ⟨(pz_tc _), List.forall_mem_nil _⟩)⟩)⟩)⟩)
  obtain ⟨w316, rfl, -⟩ := hr
  have hq : (_) ∧ _ := hq
  obtain ⟨q316, z316⟩ := hq
  have hI1 : pz_ic M1 := pz_ic_cg (z316.1.1).2 hI
  have hJ1 : pz_im M1 := (z316.1.1).1 hJ
  clear hP hS hM hI hJ
  have hI := hI1
  have hJ := hJ1
  clear hI1 hJ1
  clear q316 z316
  have hP := hP1
  have hS := hS1
  have hM := hM1
  clear hP1 hS1 hM1
  skip
  obtain ⟨H, rfl⟩ : ∃ z, z = H1 := ⟨_, rfl⟩
  obtain ⟨locs, rfl⟩ : ∃ z, z = locs1 := ⟨_, rfl⟩
  obtain ⟨M, rfl⟩ : ∃ z, z = M1 := ⟨_, rfl⟩
  refine lv_pop hx hb (by decide +kernel) rfl ?_
  refine lv_goto (tgt := 1407) hx hb (by decide +kernel) (by decide) ?_
  exact K _ _ _ hI hJ hP hS hM
set_option maxRecDepth 100000 in
set_option maxHeartbeats 4000000 in
theorem pz_case3 (Y : pz_Y p s m #[Value.ref b] c code R_law 4 D ad adV cy A) (hcs : cells ≤ room_1.cells ∧ slots ≤ room_1.slots) (hX : va_X b L xs s s.heap) (hbl : b < s.heap.size) (hbA : ¬ A b) (hL : L ≤ 3072) {i : Nat} (hi : i + 6 ≤ L) {H : Heap} {locs : List Loc} {ls : Array Slot} {M : pz_M} (hl : lv_has ls 4 [(0, .ref b), (1, .ref (ad 0)), (2, .ref (ad 1)), (3, .int (Int32.ofNat i))]) (hP : va_P D vwCl (pz_ws ad cy M) H) (hS : va_S A s.heap H locs) (hM : ∀ a k : Nat, pz_c (M a k)) (hI : pz_ic M) (hJ : pz_im M) (K : ∀ (M9 : pz_M) (H9 : Heap) (locs9 : List Loc), pz_ic M9 → pz_im M9 → va_P D vwCl (pz_ws ad cy M9) H9 → va_S A s.heap H9 locs9 → (∀ a k : Nat, pz_c (M9 a k)) → W p l e room_1 s m #[Value.ref b] below meth c H9 locs9 cells slots Q (F0 m 1407 ls [])) : W p l e room_1 s m #[Value.ref b] below meth c H locs cells slots Q (F0 m 323 ls []) := by
  have Y0 := Y
  obtain ⟨hx, hb, hml, hown, hts, hXX⟩ := Y0
  refine lv_aload_n hx hb (k := 1) (by decide +kernel) rfl (lv_at hl 1 rfl) ?_
  refine pz_la Y hX hbl hbA hL (i := i) (k := 1) (by omega) hl hS (by decide +kernel) (by decide +kernel) (by decide +kernel) (by decide +kernel) (by decide +kernel) ?_
  refine pz_la Y hX hbl hbA hL (i := i) (k := 2) (by omega) hl hS (by decide +kernel) (by decide +kernel) (by decide +kernel) (by decide +kernel) (by decide +kernel) ?_
  refine pz_crV Y hcs (v_X11_ask (Nat.le_of_ble_eq_true rfl) (Nat.le_of_ble_eq_true rfl) (by decide +kernel)) H locs ls M [.inr (.inr (11, 0)), .inl (xs (i + 1)).toInt, .inl (xs (i + 2)).toInt] [] 334 (by decide +kernel) hP hS hM ?_ hl.1 rfl (Nat.le_of_ble_eq_true rfl) (hI) (fun r M1 H1 locs1 hq hr hP1 hS1 hM1 => ?_)
  · skip
    exact (List.forall_mem_cons.mpr ⟨(show pz_kd 0 = 11 ∧ 0 < 231 from by decide), (List.forall_mem_cons.mpr ⟨(pz_tc _), (List.forall_mem_cons.mpr ⟨(pz_tc _), List.forall_mem_nil _⟩)⟩)⟩)
  obtain ⟨w334, rfl, -⟩ := hr
  have hq : (_) ∧ _ := hq
  obtain ⟨q334, z334⟩ := hq
  have hJ1 : pz_im M1 := pz_im_cg (z334.1).2 hJ
  have hI1 : pz_ic M1 := (z334.1).1 hI
  clear hP hS hM hI hJ
  have hI := hI1
  have hJ := hJ1
  clear hI1 hJ1
  clear q334 z334
  have hP := hP1
  have hS := hS1
  have hM := hM1
  clear hP1 hS1 hM1
  skip
  obtain ⟨H, rfl⟩ : ∃ z, z = H1 := ⟨_, rfl⟩
  obtain ⟨locs, rfl⟩ : ∃ z, z = locs1 := ⟨_, rfl⟩
  obtain ⟨M, rfl⟩ : ∃ z, z = M1 := ⟨_, rfl⟩
  refine lv_pop hx hb (by decide +kernel) rfl ?_
  refine lv_aload_n hx hb (k := 2) (by decide +kernel) rfl (lv_at hl 2 rfl) ?_
  refine pz_la Y hX hbl hbA hL (i := i) (k := 1) (by omega) hl hS (by decide +kernel) (by decide +kernel) (by decide +kernel) (by decide +kernel) (by decide +kernel) ?_
  refine pz_la Y hX hbl hbA hL (i := i) (k := 2) (by omega) hl hS (by decide +kernel) (by decide +kernel) (by decide +kernel) (by decide +kernel) (by decide +kernel) ?_
  refine pz_crV Y hcs (v_X12_ask (Nat.le_of_ble_eq_true rfl) (Nat.le_of_ble_eq_true rfl) (by decide +kernel)) H locs ls M [.inr (.inr (12, 1)), .inl (xs (i + 1)).toInt, .inl (xs (i + 2)).toInt] [] 349 (by decide +kernel) hP hS hM ?_ hl.1 rfl (Nat.le_of_ble_eq_true rfl) (hJ) (fun r M1 H1 locs1 hq hr hP1 hS1 hM1 => ?_)
  · skip
    exact (List.forall_mem_cons.mpr ⟨(show pz_kd 1 = 12 ∧ 1 < 231 from by decide), (List.forall_mem_cons.mpr ⟨(pz_tc _), (List.forall_mem_cons.mpr ⟨(pz_tc _), List.forall_mem_nil _⟩)⟩)⟩)
  obtain ⟨w349, rfl, -⟩ := hr
  have hq : (_) ∧ _ := hq
  obtain ⟨q349, z349⟩ := hq
  have hI1 : pz_ic M1 := pz_ic_cg (z349.1.1).2 hI
  have hJ1 : pz_im M1 := (z349.1.1).1 hJ
  clear hP hS hM hI hJ
  have hI := hI1
  have hJ := hJ1
  clear hI1 hJ1
  clear q349 z349
  have hP := hP1
  have hS := hS1
  have hM := hM1
  clear hP1 hS1 hM1
  skip
  obtain ⟨H, rfl⟩ : ∃ z, z = H1 := ⟨_, rfl⟩
  obtain ⟨locs, rfl⟩ : ∃ z, z = locs1 := ⟨_, rfl⟩
  obtain ⟨M, rfl⟩ : ∃ z, z = M1 := ⟨_, rfl⟩
  refine lv_pop hx hb (by decide +kernel) rfl ?_
  refine lv_goto (tgt := 1407) hx hb (by decide +kernel) (by decide) ?_
  exact K _ _ _ hI hJ hP hS hM
set_option maxRecDepth 100000 in
set_option maxHeartbeats 4000000 in
theorem pz_case4 (Y : pz_Y p s m #[Value.ref b] c code R_law 4 D ad adV cy A) (hcs : cells ≤ room_1.cells ∧ slots ≤ room_1.slots) (hX : va_X b L xs s s.heap) (hbl : b < s.heap.size) (hbA : ¬ A b) (hL : L ≤ 3072) {i : Nat} (hi : i + 6 ≤ L) {H : Heap} {locs : List Loc} {ls : Array Slot} {M : pz_M} (hl : lv_has ls 4 [(0, .ref b), (1, .ref (ad 0)), (2, .ref (ad 1)), (3, .int (Int32.ofNat i))]) (hP : va_P D vwCl (pz_ws ad cy M) H) (hS : va_S A s.heap H locs) (hM : ∀ a k : Nat, pz_c (M a k)) (hI : pz_ic M) (hJ : pz_im M) (K : ∀ (M9 : pz_M) (H9 : Heap) (locs9 : List Loc), pz_ic M9 → pz_im M9 → va_P D vwCl (pz_ws ad cy M9) H9 → va_S A s.heap H9 locs9 → (∀ a k : Nat, pz_c (M9 a k)) → W p l e room_1 s m #[Value.ref b] below meth c H9 locs9 cells slots Q (F0 m 1407 ls [])) : W p l e room_1 s m #[Value.ref b] below meth c H locs cells slots Q (F0 m 356 ls []) := by
  have Y0 := Y
  obtain ⟨hx, hb, hml, hown, hts, hXX⟩ := Y0
  refine lv_aload_n hx hb (k := 1) (by decide +kernel) rfl (lv_at hl 1 rfl) ?_
  refine pz_la Y hX hbl hbA hL (i := i) (k := 1) (by omega) hl hS (by decide +kernel) (by decide +kernel) (by decide +kernel) (by decide +kernel) (by decide +kernel) ?_
  refine pz_crV Y hcs (v_X11_bridge (Nat.le_of_ble_eq_true rfl) (Nat.le_of_ble_eq_true rfl) (by decide +kernel)) H locs ls M [.inr (.inr (11, 0)), .inl (xs (i + 1)).toInt] [] 362 (by decide +kernel) hP hS hM ?_ hl.1 rfl (Nat.le_of_ble_eq_true rfl) (hI) (fun r M1 H1 locs1 hq hr hP1 hS1 hM1 => ?_)
  · skip
    exact (List.forall_mem_cons.mpr ⟨(show pz_kd 0 = 11 ∧ 0 < 231 from by decide), (List.forall_mem_cons.mpr ⟨(pz_tc _), List.forall_mem_nil _⟩)⟩)
  obtain ⟨w362, rfl, -⟩ := hr
  have hq : (_) ∧ _ := hq
  obtain ⟨q362, z362⟩ := hq
  have hJ1 : pz_im M1 := pz_im_cg (z362.1).2 hJ
  have hI1 : pz_ic M1 := (z362.1).1 hI
  clear hP hS hM hI hJ
  have hI := hI1
  have hJ := hJ1
  clear hI1 hJ1
  clear q362 z362
  have hP := hP1
  have hS := hS1
  have hM := hM1
  clear hP1 hS1 hM1
  skip
  obtain ⟨H, rfl⟩ : ∃ z, z = H1 := ⟨_, rfl⟩
  obtain ⟨locs, rfl⟩ : ∃ z, z = locs1 := ⟨_, rfl⟩
  obtain ⟨M, rfl⟩ : ∃ z, z = M1 := ⟨_, rfl⟩
  refine lv_pop hx hb (by decide +kernel) rfl ?_
  refine lv_aload_n hx hb (k := 2) (by decide +kernel) rfl (lv_at hl 2 rfl) ?_
  refine pz_la Y hX hbl hbA hL (i := i) (k := 1) (by omega) hl hS (by decide +kernel) (by decide +kernel) (by decide +kernel) (by decide +kernel) (by decide +kernel) ?_
  refine pz_crV Y hcs (v_X12_bridge (Nat.le_of_ble_eq_true rfl) (Nat.le_of_ble_eq_true rfl) (by decide +kernel)) H locs ls M [.inr (.inr (12, 1)), .inl (xs (i + 1)).toInt] [] 372 (by decide +kernel) hP hS hM ?_ hl.1 rfl (Nat.le_of_ble_eq_true rfl) (hJ) (fun r M1 H1 locs1 hq hr hP1 hS1 hM1 => ?_)
  · skip
    exact (List.forall_mem_cons.mpr ⟨(show pz_kd 1 = 12 ∧ 1 < 231 from by decide), (List.forall_mem_cons.mpr ⟨(pz_tc _), List.forall_mem_nil _⟩)⟩)
  obtain ⟨w372, rfl, -⟩ := hr
  have hq : (_) ∧ _ := hq
  obtain ⟨q372, z372⟩ := hq
  have hI1 : pz_ic M1 := pz_ic_cg (z372.1.1).2 hI
  have hJ1 : pz_im M1 := (z372.1.1).1 hJ
  clear hP hS hM hI hJ
  have hI := hI1
  have hJ := hJ1
  clear hI1 hJ1
  clear q372 z372
  have hP := hP1
  have hS := hS1
  have hM := hM1
  clear hP1 hS1 hM1
  skip
  obtain ⟨H, rfl⟩ : ∃ z, z = H1 := ⟨_, rfl⟩
  obtain ⟨locs, rfl⟩ : ∃ z, z = locs1 := ⟨_, rfl⟩
  obtain ⟨M, rfl⟩ : ∃ z, z = M1 := ⟨_, rfl⟩
  refine lv_pop hx hb (by decide +kernel) rfl ?_
  refine lv_goto (tgt := 1407) hx hb (by decide +kernel) (by decide) ?_
  exact K _ _ _ hI hJ hP hS hM
set_option maxRecDepth 100000 in
set_option maxHeartbeats 4000000 in
theorem pz_case5 (Y : pz_Y p s m #[Value.ref b] c code R_law 4 D ad adV cy A) (hcs : cells ≤ room_1.cells ∧ slots ≤ room_1.slots) (hX : va_X b L xs s s.heap) (hbl : b < s.heap.size) (hbA : ¬ A b) (hL : L ≤ 3072) {i : Nat} (hi : i + 6 ≤ L) {H : Heap} {locs : List Loc} {ls : Array Slot} {M : pz_M} (hl : lv_has ls 4 [(0, .ref b), (1, .ref (ad 0)), (2, .ref (ad 1)), (3, .int (Int32.ofNat i))]) (hP : va_P D vwCl (pz_ws ad cy M) H) (hS : va_S A s.heap H locs) (hM : ∀ a k : Nat, pz_c (M a k)) (hI : pz_ic M) (hJ : pz_im M) (K : ∀ (M9 : pz_M) (H9 : Heap) (locs9 : List Loc), pz_ic M9 → pz_im M9 → va_P D vwCl (pz_ws ad cy M9) H9 → va_S A s.heap H9 locs9 → (∀ a k : Nat, pz_c (M9 a k)) → W p l e room_1 s m #[Value.ref b] below meth c H9 locs9 cells slots Q (F0 m 1407 ls [])) : W p l e room_1 s m #[Value.ref b] below meth c H locs cells slots Q (F0 m 379 ls []) := by
  have Y0 := Y
  obtain ⟨hx, hb, hml, hown, hts, hXX⟩ := Y0
  refine lv_aload_n hx hb (k := 1) (by decide +kernel) rfl (lv_at hl 1 rfl) ?_
  refine pz_la Y hX hbl hbA hL (i := i) (k := 1) (by omega) hl hS (by decide +kernel) (by decide +kernel) (by decide +kernel) (by decide +kernel) (by decide +kernel) ?_
  refine pz_la Y hX hbl hbA hL (i := i) (k := 2) (by omega) hl hS (by decide +kernel) (by decide +kernel) (by decide +kernel) (by decide +kernel) (by decide +kernel) ?_
  refine pz_la Y hX hbl hbA hL (i := i) (k := 3) (by omega) hl hS (by decide +kernel) (by decide +kernel) (by decide +kernel) (by decide +kernel) (by decide +kernel) ?_
  refine pz_crV Y hcs (v_X11_pay (Nat.le_of_ble_eq_true rfl) (Nat.le_of_ble_eq_true rfl) (by decide +kernel)) H locs ls M [.inr (.inr (11, 0)), .inl (xs (i + 1)).toInt, .inl (xs (i + 2)).toInt, .inl (xs (i + 3)).toInt] [] 395 (by decide +kernel) hP hS hM ?_ hl.1 rfl (Nat.le_of_ble_eq_true rfl) (hI) (fun r M1 H1 locs1 hq hr hP1 hS1 hM1 => ?_)
  · skip
    exact (List.forall_mem_cons.mpr ⟨(show pz_kd 0 = 11 ∧ 0 < 231 from by decide), (List.forall_mem_cons.mpr ⟨(pz_tc _), (List.forall_mem_cons.mpr ⟨(pz_tc _), (List.forall_mem_cons.mpr ⟨(pz_tc _), List.forall_mem_nil _⟩)⟩)⟩)⟩)
  obtain ⟨w395, rfl, -⟩ := hr
  have hq : (_) ∧ _ := hq
  obtain ⟨q395, z395⟩ := hq
  have hJ1 : pz_im M1 := pz_im_cg (z395.1).2 hJ
  have hI1 : pz_ic M1 := (z395.1).1 hI
  clear hP hS hM hI hJ
  have hI := hI1
  have hJ := hJ1
  clear hI1 hJ1
  clear q395 z395
  have hP := hP1
  have hS := hS1
  have hM := hM1
  clear hP1 hS1 hM1
  skip
  obtain ⟨H, rfl⟩ : ∃ z, z = H1 := ⟨_, rfl⟩
  obtain ⟨locs, rfl⟩ : ∃ z, z = locs1 := ⟨_, rfl⟩
  obtain ⟨M, rfl⟩ : ∃ z, z = M1 := ⟨_, rfl⟩
  refine lv_pop hx hb (by decide +kernel) rfl ?_
  refine lv_aload_n hx hb (k := 2) (by decide +kernel) rfl (lv_at hl 2 rfl) ?_
  refine pz_la Y hX hbl hbA hL (i := i) (k := 1) (by omega) hl hS (by decide +kernel) (by decide +kernel) (by decide +kernel) (by decide +kernel) (by decide +kernel) ?_
  refine pz_la Y hX hbl hbA hL (i := i) (k := 2) (by omega) hl hS (by decide +kernel) (by decide +kernel) (by decide +kernel) (by decide +kernel) (by decide +kernel) ?_
  refine pz_la Y hX hbl hbA hL (i := i) (k := 3) (by omega) hl hS (by decide +kernel) (by decide +kernel) (by decide +kernel) (by decide +kernel) (by decide +kernel) ?_
  refine pz_crV Y hcs (v_X12_pay (Nat.le_of_ble_eq_true rfl) (Nat.le_of_ble_eq_true rfl) (by decide +kernel)) H locs ls M [.inr (.inr (12, 1)), .inl (xs (i + 1)).toInt, .inl (xs (i + 2)).toInt, .inl (xs (i + 3)).toInt] [] 415 (by decide +kernel) hP hS hM ?_ hl.1 rfl (Nat.le_of_ble_eq_true rfl) (hJ) (fun r M1 H1 locs1 hq hr hP1 hS1 hM1 => ?_)
  · skip
    exact (List.forall_mem_cons.mpr ⟨(show pz_kd 1 = 12 ∧ 1 < 231 from by decide), (List.forall_mem_cons.mpr ⟨(pz_tc _), (List.forall_mem_cons.mpr ⟨(pz_tc _), (List.forall_mem_cons.mpr ⟨(pz_tc _), List.forall_mem_nil _⟩)⟩)⟩)⟩)
  obtain ⟨w415, rfl, -⟩ := hr
  have hq : (_) ∧ _ := hq
  obtain ⟨q415, z415⟩ := hq
  have hI1 : pz_ic M1 := pz_ic_cg (z415.1.1).2 hI
  have hJ1 : pz_im M1 := (z415.1.1).1 hJ
  clear hP hS hM hI hJ
  have hI := hI1
  have hJ := hJ1
  clear hI1 hJ1
  clear q415 z415
  have hP := hP1
  have hS := hS1
  have hM := hM1
  clear hP1 hS1 hM1
  skip
  obtain ⟨H, rfl⟩ : ∃ z, z = H1 := ⟨_, rfl⟩
  obtain ⟨locs, rfl⟩ : ∃ z, z = locs1 := ⟨_, rfl⟩
  obtain ⟨M, rfl⟩ : ∃ z, z = M1 := ⟨_, rfl⟩
  refine lv_pop hx hb (by decide +kernel) rfl ?_
  refine lv_goto (tgt := 1407) hx hb (by decide +kernel) (by decide) ?_
  exact K _ _ _ hI hJ hP hS hM
set_option maxRecDepth 100000 in
set_option maxHeartbeats 4000000 in
theorem pz_case6 (Y : pz_Y p s m #[Value.ref b] c code R_law 4 D ad adV cy A) (hcs : cells ≤ room_1.cells ∧ slots ≤ room_1.slots) (hX : va_X b L xs s s.heap) (hbl : b < s.heap.size) (hbA : ¬ A b) (hL : L ≤ 3072) {i : Nat} (hi : i + 6 ≤ L) {H : Heap} {locs : List Loc} {ls : Array Slot} {M : pz_M} (hl : lv_has ls 4 [(0, .ref b), (1, .ref (ad 0)), (2, .ref (ad 1)), (3, .int (Int32.ofNat i))]) (hP : va_P D vwCl (pz_ws ad cy M) H) (hS : va_S A s.heap H locs) (hM : ∀ a k : Nat, pz_c (M a k)) (hI : pz_ic M) (hJ : pz_im M) (K : ∀ (M9 : pz_M) (H9 : Heap) (locs9 : List Loc), pz_ic M9 → pz_im M9 → va_P D vwCl (pz_ws ad cy M9) H9 → va_S A s.heap H9 locs9 → (∀ a k : Nat, pz_c (M9 a k)) → W p l e room_1 s m #[Value.ref b] below meth c H9 locs9 cells slots Q (F0 m 1407 ls [])) : W p l e room_1 s m #[Value.ref b] below meth c H locs cells slots Q (F0 m 422 ls []) := by
  have Y0 := Y
  obtain ⟨hx, hb, hml, hown, hts, hXX⟩ := Y0
  refine lv_aload_n hx hb (k := 1) (by decide +kernel) rfl (lv_at hl 1 rfl) ?_
  refine pz_la Y hX hbl hbA hL (i := i) (k := 1) (by omega) hl hS (by decide +kernel) (by decide +kernel) (by decide +kernel) (by decide +kernel) (by decide +kernel) ?_
  refine pz_crV Y hcs (v_X11_paper (Nat.le_of_ble_eq_true rfl) (Nat.le_of_ble_eq_true rfl) (by decide +kernel)) H locs ls M [.inr (.inr (11, 0)), .inl (xs (i + 1)).toInt] [] 428 (by decide +kernel) hP hS hM ?_ hl.1 rfl (Nat.le_of_ble_eq_true rfl) (hI) (fun r M1 H1 locs1 hq hr hP1 hS1 hM1 => ?_)
  · skip
    exact (List.forall_mem_cons.mpr ⟨(show pz_kd 0 = 11 ∧ 0 < 231 from by decide), (List.forall_mem_cons.mpr ⟨(pz_tc _), List.forall_mem_nil _⟩)⟩)
  obtain ⟨w428, rfl, -⟩ := hr
  have hq : (_) ∧ _ := hq
  obtain ⟨q428, z428⟩ := hq
  have hJ1 : pz_im M1 := pz_im_cg (z428.1).2 hJ
  have hI1 : pz_ic M1 := (z428.1).1 hI
  clear hP hS hM hI hJ
  have hI := hI1
  have hJ := hJ1
  clear hI1 hJ1
  clear q428 z428
  have hP := hP1
  have hS := hS1
  have hM := hM1
  clear hP1 hS1 hM1
  skip
  obtain ⟨H, rfl⟩ : ∃ z, z = H1 := ⟨_, rfl⟩
  obtain ⟨locs, rfl⟩ : ∃ z, z = locs1 := ⟨_, rfl⟩
  obtain ⟨M, rfl⟩ : ∃ z, z = M1 := ⟨_, rfl⟩
  refine lv_pop hx hb (by decide +kernel) rfl ?_
  refine lv_aload_n hx hb (k := 2) (by decide +kernel) rfl (lv_at hl 2 rfl) ?_
  refine pz_la Y hX hbl hbA hL (i := i) (k := 1) (by omega) hl hS (by decide +kernel) (by decide +kernel) (by decide +kernel) (by decide +kernel) (by decide +kernel) ?_
  refine pz_crV Y hcs (v_X12_paper (Nat.le_of_ble_eq_true rfl) (Nat.le_of_ble_eq_true rfl) (by decide +kernel)) H locs ls M [.inr (.inr (12, 1)), .inl (xs (i + 1)).toInt] [] 438 (by decide +kernel) hP hS hM ?_ hl.1 rfl (Nat.le_of_ble_eq_true rfl) (hJ) (fun r M1 H1 locs1 hq hr hP1 hS1 hM1 => ?_)
  · skip
    exact (List.forall_mem_cons.mpr ⟨(show pz_kd 1 = 12 ∧ 1 < 231 from by decide), (List.forall_mem_cons.mpr ⟨(pz_tc _), List.forall_mem_nil _⟩)⟩)
  obtain ⟨w438, rfl, -⟩ := hr
  have hq : (_) ∧ _ := hq
  obtain ⟨q438, z438⟩ := hq
  have hI1 : pz_ic M1 := pz_ic_cg (z438.1.1).2 hI
  have hJ1 : pz_im M1 := (z438.1.1).1 hJ
  clear hP hS hM hI hJ
  have hI := hI1
  have hJ := hJ1
  clear hI1 hJ1
  clear q438 z438
  have hP := hP1
  have hS := hS1
  have hM := hM1
  clear hP1 hS1 hM1
  skip
  obtain ⟨H, rfl⟩ : ∃ z, z = H1 := ⟨_, rfl⟩
  obtain ⟨locs, rfl⟩ : ∃ z, z = locs1 := ⟨_, rfl⟩
  obtain ⟨M, rfl⟩ : ∃ z, z = M1 := ⟨_, rfl⟩
  refine lv_pop hx hb (by decide +kernel) rfl ?_
  refine lv_goto (tgt := 1407) hx hb (by decide +kernel) (by decide) ?_
  exact K _ _ _ hI hJ hP hS hM
set_option maxRecDepth 100000 in
set_option maxHeartbeats 4000000 in
theorem pz_case7 (Y : pz_Y p s m #[Value.ref b] c code R_law 4 D ad adV cy A) (hcs : cells ≤ room_1.cells ∧ slots ≤ room_1.slots) (hX : va_X b L xs s s.heap) (hbl : b < s.heap.size) (hbA : ¬ A b) (hL : L ≤ 3072) {i : Nat} (hi : i + 6 ≤ L) {H : Heap} {locs : List Loc} {ls : Array Slot} {M : pz_M} (hl : lv_has ls 4 [(0, .ref b), (1, .ref (ad 0)), (2, .ref (ad 1)), (3, .int (Int32.ofNat i))]) (hP : va_P D vwCl (pz_ws ad cy M) H) (hS : va_S A s.heap H locs) (hM : ∀ a k : Nat, pz_c (M a k)) (hI : pz_ic M) (hJ : pz_im M) (K : ∀ (M9 : pz_M) (H9 : Heap) (locs9 : List Loc), pz_ic M9 → pz_im M9 → va_P D vwCl (pz_ws ad cy M9) H9 → va_S A s.heap H9 locs9 → (∀ a k : Nat, pz_c (M9 a k)) → W p l e room_1 s m #[Value.ref b] below meth c H9 locs9 cells slots Q (F0 m 1407 ls [])) : W p l e room_1 s m #[Value.ref b] below meth c H locs cells slots Q (F0 m 445 ls []) := by
  have Y0 := Y
  obtain ⟨hx, hb, hml, hown, hts, hXX⟩ := Y0
  refine lv_aload_n hx hb (k := 1) (by decide +kernel) rfl (lv_at hl 1 rfl) ?_
  refine pz_la Y hX hbl hbA hL (i := i) (k := 1) (by omega) hl hS (by decide +kernel) (by decide +kernel) (by decide +kernel) (by decide +kernel) (by decide +kernel) ?_
  refine pz_crV Y hcs (v_X11_join (Nat.le_of_ble_eq_true rfl) (Nat.le_of_ble_eq_true rfl) (by decide +kernel)) H locs ls M [.inr (.inr (11, 0)), .inl (xs (i + 1)).toInt] [] 451 (by decide +kernel) hP hS hM ?_ hl.1 rfl (Nat.le_of_ble_eq_true rfl) (hI) (fun r M1 H1 locs1 hq hr hP1 hS1 hM1 => ?_)
  · skip
    exact (List.forall_mem_cons.mpr ⟨(show pz_kd 0 = 11 ∧ 0 < 231 from by decide), (List.forall_mem_cons.mpr ⟨(pz_tc _), List.forall_mem_nil _⟩)⟩)
  obtain ⟨w451, rfl, -⟩ := hr
  have hq : (_) ∧ _ := hq
  obtain ⟨q451, z451⟩ := hq
  have hJ1 : pz_im M1 := pz_im_cg (z451.1).2 hJ
  have hI1 : pz_ic M1 := (z451.1).1 hI
  clear hP hS hM hI hJ
  have hI := hI1
  have hJ := hJ1
  clear hI1 hJ1
  clear q451 z451
  have hP := hP1
  have hS := hS1
  have hM := hM1
  clear hP1 hS1 hM1
  skip
  obtain ⟨H, rfl⟩ : ∃ z, z = H1 := ⟨_, rfl⟩
  obtain ⟨locs, rfl⟩ : ∃ z, z = locs1 := ⟨_, rfl⟩
  obtain ⟨M, rfl⟩ : ∃ z, z = M1 := ⟨_, rfl⟩
  refine lv_pop hx hb (by decide +kernel) rfl ?_
  refine lv_aload_n hx hb (k := 2) (by decide +kernel) rfl (lv_at hl 2 rfl) ?_
  refine pz_la Y hX hbl hbA hL (i := i) (k := 1) (by omega) hl hS (by decide +kernel) (by decide +kernel) (by decide +kernel) (by decide +kernel) (by decide +kernel) ?_
  refine pz_crV Y hcs (v_X12_join (Nat.le_of_ble_eq_true rfl) (Nat.le_of_ble_eq_true rfl) (by decide +kernel)) H locs ls M [.inr (.inr (12, 1)), .inl (xs (i + 1)).toInt] [] 461 (by decide +kernel) hP hS hM ?_ hl.1 rfl (Nat.le_of_ble_eq_true rfl) (hJ) (fun r M1 H1 locs1 hq hr hP1 hS1 hM1 => ?_)
  · skip
    exact (List.forall_mem_cons.mpr ⟨(show pz_kd 1 = 12 ∧ 1 < 231 from by decide), (List.forall_mem_cons.mpr ⟨(pz_tc _), List.forall_mem_nil _⟩)⟩)
  obtain ⟨w461, rfl, -⟩ := hr
  have hq : (_) ∧ _ := hq
  obtain ⟨q461, z461⟩ := hq
  have hI1 : pz_ic M1 := pz_ic_cg (z461.1.1).2 hI
  have hJ1 : pz_im M1 := (z461.1.1).1 hJ
  clear hP hS hM hI hJ
  have hI := hI1
  have hJ := hJ1
  clear hI1 hJ1
  clear q461 z461
  have hP := hP1
  have hS := hS1
  have hM := hM1
  clear hP1 hS1 hM1
  skip
  obtain ⟨H, rfl⟩ : ∃ z, z = H1 := ⟨_, rfl⟩
  obtain ⟨locs, rfl⟩ : ∃ z, z = locs1 := ⟨_, rfl⟩
  obtain ⟨M, rfl⟩ : ∃ z, z = M1 := ⟨_, rfl⟩
  refine lv_pop hx hb (by decide +kernel) rfl ?_
  refine lv_goto (tgt := 1407) hx hb (by decide +kernel) (by decide) ?_
  exact K _ _ _ hI hJ hP hS hM
set_option maxRecDepth 100000 in
set_option maxHeartbeats 4000000 in
theorem pz_case8 (Y : pz_Y p s m #[Value.ref b] c code R_law 4 D ad adV cy A) (hcs : cells ≤ room_1.cells ∧ slots ≤ room_1.slots) (hX : va_X b L xs s s.heap) (hbl : b < s.heap.size) (hbA : ¬ A b) (hL : L ≤ 3072) {i : Nat} (hi : i + 6 ≤ L) {H : Heap} {locs : List Loc} {ls : Array Slot} {M : pz_M} (hl : lv_has ls 4 [(0, .ref b), (1, .ref (ad 0)), (2, .ref (ad 1)), (3, .int (Int32.ofNat i))]) (hP : va_P D vwCl (pz_ws ad cy M) H) (hS : va_S A s.heap H locs) (hM : ∀ a k : Nat, pz_c (M a k)) (hI : pz_ic M) (hJ : pz_im M) (K : ∀ (M9 : pz_M) (H9 : Heap) (locs9 : List Loc), pz_ic M9 → pz_im M9 → va_P D vwCl (pz_ws ad cy M9) H9 → va_S A s.heap H9 locs9 → (∀ a k : Nat, pz_c (M9 a k)) → W p l e room_1 s m #[Value.ref b] below meth c H9 locs9 cells slots Q (F0 m 1407 ls [])) : W p l e room_1 s m #[Value.ref b] below meth c H locs cells slots Q (F0 m 468 ls []) := by
  have Y0 := Y
  obtain ⟨hx, hb, hml, hown, hts, hXX⟩ := Y0
  refine lv_aload_n hx hb (k := 1) (by decide +kernel) rfl (lv_at hl 1 rfl) ?_
  refine pz_la Y hX hbl hbA hL (i := i) (k := 1) (by omega) hl hS (by decide +kernel) (by decide +kernel) (by decide +kernel) (by decide +kernel) (by decide +kernel) ?_
  refine pz_crV Y hcs (v_X11_days (Nat.le_of_ble_eq_true rfl) (Nat.le_of_ble_eq_true rfl) (by decide +kernel)) H locs ls M [.inr (.inr (11, 0)), .inl (xs (i + 1)).toInt] [] 474 (by decide +kernel) hP hS hM ?_ hl.1 rfl (Nat.le_of_ble_eq_true rfl) (hI) (fun r M1 H1 locs1 hq hr hP1 hS1 hM1 => ?_)
  · skip
    exact (List.forall_mem_cons.mpr ⟨(show pz_kd 0 = 11 ∧ 0 < 231 from by decide), (List.forall_mem_cons.mpr ⟨(pz_tc _), List.forall_mem_nil _⟩)⟩)
  obtain ⟨w474, rfl, -⟩ := hr
  have hq : (_) ∧ _ := hq
  obtain ⟨q474, z474⟩ := hq
  have hJ1 : pz_im M1 := pz_im_cg (z474.1).2 hJ
  have hI1 : pz_ic M1 := (z474.1).1 hI
  clear hP hS hM hI hJ
  have hI := hI1
  have hJ := hJ1
  clear hI1 hJ1
  clear q474 z474
  have hP := hP1
  have hS := hS1
  have hM := hM1
  clear hP1 hS1 hM1
  skip
  obtain ⟨H, rfl⟩ : ∃ z, z = H1 := ⟨_, rfl⟩
  obtain ⟨locs, rfl⟩ : ∃ z, z = locs1 := ⟨_, rfl⟩
  obtain ⟨M, rfl⟩ : ∃ z, z = M1 := ⟨_, rfl⟩
  refine lv_pop hx hb (by decide +kernel) rfl ?_
  refine lv_aload_n hx hb (k := 2) (by decide +kernel) rfl (lv_at hl 2 rfl) ?_
  refine pz_la Y hX hbl hbA hL (i := i) (k := 1) (by omega) hl hS (by decide +kernel) (by decide +kernel) (by decide +kernel) (by decide +kernel) (by decide +kernel) ?_
  refine pz_crV Y hcs (v_X12_days (Nat.le_of_ble_eq_true rfl) (Nat.le_of_ble_eq_true rfl) (by decide +kernel)) H locs ls M [.inr (.inr (12, 1)), .inl (xs (i + 1)).toInt] [] 484 (by decide +kernel) hP hS hM ?_ hl.1 rfl (Nat.le_of_ble_eq_true rfl) (hJ) (fun r M1 H1 locs1 hq hr hP1 hS1 hM1 => ?_)
  · skip
    exact (List.forall_mem_cons.mpr ⟨(show pz_kd 1 = 12 ∧ 1 < 231 from by decide), (List.forall_mem_cons.mpr ⟨(pz_tc _), List.forall_mem_nil _⟩)⟩)
  obtain ⟨w484, rfl, -⟩ := hr
  have hq : (_) ∧ _ := hq
  obtain ⟨q484, z484⟩ := hq
  have hI1 : pz_ic M1 := pz_ic_cg (z484.1.1).2 hI
  have hJ1 : pz_im M1 := (z484.1.1).1 hJ
  clear hP hS hM hI hJ
  have hI := hI1
  have hJ := hJ1
  clear hI1 hJ1
  clear q484 z484
  have hP := hP1
  have hS := hS1
  have hM := hM1
  clear hP1 hS1 hM1
  skip
  obtain ⟨H, rfl⟩ : ∃ z, z = H1 := ⟨_, rfl⟩
  obtain ⟨locs, rfl⟩ : ∃ z, z = locs1 := ⟨_, rfl⟩
  obtain ⟨M, rfl⟩ : ∃ z, z = M1 := ⟨_, rfl⟩
  refine lv_pop hx hb (by decide +kernel) rfl ?_
  refine lv_goto (tgt := 1407) hx hb (by decide +kernel) (by decide) ?_
  exact K _ _ _ hI hJ hP hS hM
set_option maxRecDepth 100000 in
set_option maxHeartbeats 4000000 in
theorem pz_case9 (Y : pz_Y p s m #[Value.ref b] c code R_law 4 D ad adV cy A) (hcs : cells ≤ room_1.cells ∧ slots ≤ room_1.slots) (hX : va_X b L xs s s.heap) (hbl : b < s.heap.size) (hbA : ¬ A b) (hL : L ≤ 3072) {i : Nat} (hi : i + 6 ≤ L) {H : Heap} {locs : List Loc} {ls : Array Slot} {M : pz_M} (hl : lv_has ls 4 [(0, .ref b), (1, .ref (ad 0)), (2, .ref (ad 1)), (3, .int (Int32.ofNat i))]) (hP : va_P D vwCl (pz_ws ad cy M) H) (hS : va_S A s.heap H locs) (hM : ∀ a k : Nat, pz_c (M a k)) (hI : pz_ic M) (hJ : pz_im M) (K : ∀ (M9 : pz_M) (H9 : Heap) (locs9 : List Loc), pz_ic M9 → pz_im M9 → va_P D vwCl (pz_ws ad cy M9) H9 → va_S A s.heap H9 locs9 → (∀ a k : Nat, pz_c (M9 a k)) → W p l e room_1 s m #[Value.ref b] below meth c H9 locs9 cells slots Q (F0 m 1407 ls [])) : W p l e room_1 s m #[Value.ref b] below meth c H locs cells slots Q (F0 m 491 ls []) := by
  have Y0 := Y
  obtain ⟨hx, hb, hml, hown, hts, hXX⟩ := Y0
  refine lv_aload_n hx hb (k := 1) (by decide +kernel) rfl (lv_at hl 1 rfl) ?_
  refine pz_la Y hX hbl hbA hL (i := i) (k := 1) (by omega) hl hS (by decide +kernel) (by decide +kernel) (by decide +kernel) (by decide +kernel) (by decide +kernel) ?_
  refine pz_la Y hX hbl hbA hL (i := i) (k := 2) (by omega) hl hS (by decide +kernel) (by decide +kernel) (by decide +kernel) (by decide +kernel) (by decide +kernel) ?_
  refine pz_la Y hX hbl hbA hL (i := i) (k := 3) (by omega) hl hS (by decide +kernel) (by decide +kernel) (by decide +kernel) (by decide +kernel) (by decide +kernel) ?_
  refine pz_la Y hX hbl hbA hL (i := i) (k := 4) (by omega) hl hS (by decide +kernel) (by decide +kernel) (by decide +kernel) (by decide +kernel) (by decide +kernel) ?_
  refine pz_la Y hX hbl hbA hL (i := i) (k := 5) (by omega) hl hS (by decide +kernel) (by decide +kernel) (by decide +kernel) (by decide +kernel) (by decide +kernel) ?_
  refine pz_crV Y hcs (v_X11_feed (Nat.le_of_ble_eq_true rfl) (Nat.le_of_ble_eq_true rfl) (by decide +kernel)) H locs ls M [.inr (.inr (11, 0)), .inl (xs (i + 1)).toInt, .inl (xs (i + 2)).toInt, .inl (xs (i + 3)).toInt, .inl (xs (i + 4)).toInt, .inl (xs (i + 5)).toInt] [] 517 (by decide +kernel) hP hS hM ?_ hl.1 rfl (Nat.le_of_ble_eq_true rfl) (hI) (fun r M1 H1 locs1 hq hr hP1 hS1 hM1 => ?_)
  · skip
    exact (List.forall_mem_cons.mpr ⟨(show pz_kd 0 = 11 ∧ 0 < 231 from by decide), (List.forall_mem_cons.mpr ⟨(pz_tc _), (List.forall_mem_cons.mpr ⟨(pz_tc _), (List.forall_mem_cons.mpr ⟨(pz_tc _), (List.forall_mem_cons.mpr ⟨(pz_tc _), (List.forall_mem_cons.mpr ⟨(pz_tc _), List.forall_mem_nil _⟩)⟩)⟩)⟩)⟩)⟩)
  obtain ⟨w517, rfl, -⟩ := hr
  have hq : (_) ∧ _ := hq
  obtain ⟨q517, z517⟩ := hq
  have hJ1 : pz_im M1 := pz_im_cg (z517).2 hJ
  have hI1 : pz_ic M1 := (z517).1 hI
  clear hP hS hM hI hJ
  have hI := hI1
  have hJ := hJ1
  clear hI1 hJ1
  clear q517 z517
  have hP := hP1
  have hS := hS1
  have hM := hM1
  clear hP1 hS1 hM1
  skip
  obtain ⟨H, rfl⟩ : ∃ z, z = H1 := ⟨_, rfl⟩
  obtain ⟨locs, rfl⟩ : ∃ z, z = locs1 := ⟨_, rfl⟩
  obtain ⟨M, rfl⟩ : ∃ z, z = M1 := ⟨_, rfl⟩
  refine lv_pop hx hb (by decide +kernel) rfl ?_
  refine lv_aload_n hx hb (k := 2) (by decide +kernel) rfl (lv_at hl 2 rfl) ?_
  refine pz_la Y hX hbl hbA hL (i := i) (k := 1) (by omega) hl hS (by decide +kernel) (by decide +kernel) (by decide +kernel) (by decide +kernel) (by decide +kernel) ?_
  refine pz_la Y hX hbl hbA hL (i := i) (k := 2) (by omega) hl hS (by decide +kernel) (by decide +kernel) (by decide +kernel) (by decide +kernel) (by decide +kernel) ?_
  refine pz_la Y hX hbl hbA hL (i := i) (k := 3) (by omega) hl hS (by decide +kernel) (by decide +kernel) (by decide +kernel) (by decide +kernel) (by decide +kernel) ?_
  refine pz_la Y hX hbl hbA hL (i := i) (k := 4) (by omega) hl hS (by decide +kernel) (by decide +kernel) (by decide +kernel) (by decide +kernel) (by decide +kernel) ?_
  refine pz_la Y hX hbl hbA hL (i := i) (k := 5) (by omega) hl hS (by decide +kernel) (by decide +kernel) (by decide +kernel) (by decide +kernel) (by decide +kernel) ?_
  refine pz_crV Y hcs (v_X12_feed (Nat.le_of_ble_eq_true rfl) (Nat.le_of_ble_eq_true rfl) (by decide +kernel)) H locs ls M [.inr (.inr (12, 1)), .inl (xs (i + 1)).toInt, .inl (xs (i + 2)).toInt, .inl (xs (i + 3)).toInt, .inl (xs (i + 4)).toInt, .inl (xs (i + 5)).toInt] [] 547 (by decide +kernel) hP hS hM ?_ hl.1 rfl (Nat.le_of_ble_eq_true rfl) (hJ) (fun r M1 H1 locs1 hq hr hP1 hS1 hM1 => ?_)
  · skip
    exact (List.forall_mem_cons.mpr ⟨(show pz_kd 1 = 12 ∧ 1 < 231 from by decide), (List.forall_mem_cons.mpr ⟨(pz_tc _), (List.forall_mem_cons.mpr ⟨(pz_tc _), (List.forall_mem_cons.mpr ⟨(pz_tc _), (List.forall_mem_cons.mpr ⟨(pz_tc _), (List.forall_mem_cons.mpr ⟨(pz_tc _), List.forall_mem_nil _⟩)⟩)⟩)⟩)⟩)⟩)
  obtain ⟨w547, rfl, -⟩ := hr
  have hq : (_) ∧ _ := hq
  obtain ⟨q547, z547⟩ := hq
  have hI1 : pz_ic M1 := pz_ic_cg (z547).2 hI
  have hJ1 : pz_im M1 := (z547).1 hJ
  clear hP hS hM hI hJ
  have hI := hI1
  have hJ := hJ1
  clear hI1 hJ1
  clear q547 z547
  have hP := hP1
  have hS := hS1
  have hM := hM1
  clear hP1 hS1 hM1
  skip
  obtain ⟨H, rfl⟩ : ∃ z, z = H1 := ⟨_, rfl⟩
  obtain ⟨locs, rfl⟩ : ∃ z, z = locs1 := ⟨_, rfl⟩
  obtain ⟨M, rfl⟩ : ∃ z, z = M1 := ⟨_, rfl⟩
  refine lv_pop hx hb (by decide +kernel) rfl ?_
  refine lv_goto (tgt := 1407) hx hb (by decide +kernel) (by decide) ?_
  exact K _ _ _ hI hJ hP hS hM
set_option maxRecDepth 100000 in
set_option maxHeartbeats 4000000 in
theorem pz_case10 (Y : pz_Y p s m #[Value.ref b] c code R_law 4 D ad adV cy A) (hcs : cells ≤ room_1.cells ∧ slots ≤ room_1.slots) (hX : va_X b L xs s s.heap) (hbl : b < s.heap.size) (hbA : ¬ A b) (hL : L ≤ 3072) {i : Nat} (hi : i + 6 ≤ L) {H : Heap} {locs : List Loc} {ls : Array Slot} {M : pz_M} (hl : lv_has ls 4 [(0, .ref b), (1, .ref (ad 0)), (2, .ref (ad 1)), (3, .int (Int32.ofNat i))]) (hP : va_P D vwCl (pz_ws ad cy M) H) (hS : va_S A s.heap H locs) (hM : ∀ a k : Nat, pz_c (M a k)) (hI : pz_ic M) (hJ : pz_im M) (K : ∀ (M9 : pz_M) (H9 : Heap) (locs9 : List Loc), pz_ic M9 → pz_im M9 → va_P D vwCl (pz_ws ad cy M9) H9 → va_S A s.heap H9 locs9 → (∀ a k : Nat, pz_c (M9 a k)) → W p l e room_1 s m #[Value.ref b] below meth c H9 locs9 cells slots Q (F0 m 1407 ls [])) : W p l e room_1 s m #[Value.ref b] below meth c H locs cells slots Q (F0 m 554 ls []) := by
  have Y0 := Y
  obtain ⟨hx, hb, hml, hown, hts, hXX⟩ := Y0
  refine lv_aload_n hx hb (k := 1) (by decide +kernel) rfl (lv_at hl 1 rfl) ?_
  refine pz_la Y hX hbl hbA hL (i := i) (k := 1) (by omega) hl hS (by decide +kernel) (by decide +kernel) (by decide +kernel) (by decide +kernel) (by decide +kernel) ?_
  refine pz_crV Y hcs (v_X11_end (Nat.le_of_ble_eq_true rfl) (Nat.le_of_ble_eq_true rfl) (by decide +kernel)) H locs ls M [.inr (.inr (11, 0)), .inl (xs (i + 1)).toInt] [] 560 (by decide +kernel) hP hS hM ?_ hl.1 rfl (Nat.le_of_ble_eq_true rfl) (hI) (fun r M1 H1 locs1 hq hr hP1 hS1 hM1 => ?_)
  · skip
    exact (List.forall_mem_cons.mpr ⟨(show pz_kd 0 = 11 ∧ 0 < 231 from by decide), (List.forall_mem_cons.mpr ⟨(pz_tc _), List.forall_mem_nil _⟩)⟩)
  obtain ⟨w560, rfl, -⟩ := hr
  have hq : (_) ∧ _ := hq
  obtain ⟨q560, z560⟩ := hq
  have hJ1 : pz_im M1 := pz_im_cg (z560).2 hJ
  have hI1 : pz_ic M1 := (z560).1 hI
  clear hP hS hM hI hJ
  have hI := hI1
  have hJ := hJ1
  clear hI1 hJ1
  clear q560 z560
  have hP := hP1
  have hS := hS1
  have hM := hM1
  clear hP1 hS1 hM1
  skip
  obtain ⟨H, rfl⟩ : ∃ z, z = H1 := ⟨_, rfl⟩
  obtain ⟨locs, rfl⟩ : ∃ z, z = locs1 := ⟨_, rfl⟩
  obtain ⟨M, rfl⟩ : ∃ z, z = M1 := ⟨_, rfl⟩
  refine lv_pop hx hb (by decide +kernel) rfl ?_
  refine lv_aload_n hx hb (k := 2) (by decide +kernel) rfl (lv_at hl 2 rfl) ?_
  refine pz_la Y hX hbl hbA hL (i := i) (k := 1) (by omega) hl hS (by decide +kernel) (by decide +kernel) (by decide +kernel) (by decide +kernel) (by decide +kernel) ?_
  refine pz_crV Y hcs (v_X12_end (Nat.le_of_ble_eq_true rfl) (Nat.le_of_ble_eq_true rfl) (by decide +kernel)) H locs ls M [.inr (.inr (12, 1)), .inl (xs (i + 1)).toInt] [] 570 (by decide +kernel) hP hS hM ?_ hl.1 rfl (Nat.le_of_ble_eq_true rfl) (hJ) (fun r M1 H1 locs1 hq hr hP1 hS1 hM1 => ?_)
  · skip
    exact (List.forall_mem_cons.mpr ⟨(show pz_kd 1 = 12 ∧ 1 < 231 from by decide), (List.forall_mem_cons.mpr ⟨(pz_tc _), List.forall_mem_nil _⟩)⟩)
  obtain ⟨w570, rfl, -⟩ := hr
  have hq : (_) ∧ _ := hq
  obtain ⟨q570, z570⟩ := hq
  have hI1 : pz_ic M1 := pz_ic_cg (z570).2 hI
  have hJ1 : pz_im M1 := (z570).1 hJ
  clear hP hS hM hI hJ
  have hI := hI1
  have hJ := hJ1
  clear hI1 hJ1
  clear q570 z570
  have hP := hP1
  have hS := hS1
  have hM := hM1
  clear hP1 hS1 hM1
  skip
  obtain ⟨H, rfl⟩ : ∃ z, z = H1 := ⟨_, rfl⟩
  obtain ⟨locs, rfl⟩ : ∃ z, z = locs1 := ⟨_, rfl⟩
  obtain ⟨M, rfl⟩ : ∃ z, z = M1 := ⟨_, rfl⟩
  refine lv_pop hx hb (by decide +kernel) rfl ?_
  refine lv_goto (tgt := 1407) hx hb (by decide +kernel) (by decide) ?_
  exact K _ _ _ hI hJ hP hS hM
set_option maxRecDepth 100000 in
set_option maxHeartbeats 4000000 in
theorem pz_case11 (Y : pz_Y p s m #[Value.ref b] c code R_law 4 D ad adV cy A) (hcs : cells ≤ room_1.cells ∧ slots ≤ room_1.slots) (hX : va_X b L xs s s.heap) (hbl : b < s.heap.size) (hbA : ¬ A b) (hL : L ≤ 3072) {i : Nat} (hi : i + 6 ≤ L) {H : Heap} {locs : List Loc} {ls : Array Slot} {M : pz_M} (hl : lv_has ls 4 [(0, .ref b), (1, .ref (ad 0)), (2, .ref (ad 1)), (3, .int (Int32.ofNat i))]) (hP : va_P D vwCl (pz_ws ad cy M) H) (hS : va_S A s.heap H locs) (hM : ∀ a k : Nat, pz_c (M a k)) (hI : pz_ic M) (hJ : pz_im M) (K : ∀ (M9 : pz_M) (H9 : Heap) (locs9 : List Loc), pz_ic M9 → pz_im M9 → va_P D vwCl (pz_ws ad cy M9) H9 → va_S A s.heap H9 locs9 → (∀ a k : Nat, pz_c (M9 a k)) → W p l e room_1 s m #[Value.ref b] below meth c H9 locs9 cells slots Q (F0 m 1407 ls [])) : W p l e room_1 s m #[Value.ref b] below meth c H locs cells slots Q (F0 m 577 ls []) := by
  have Y0 := Y
  obtain ⟨hx, hb, hml, hown, hts, hXX⟩ := Y0
  refine lv_aload_n hx hb (k := 1) (by decide +kernel) rfl (lv_at hl 1 rfl) ?_
  refine pz_la Y hX hbl hbA hL (i := i) (k := 1) (by omega) hl hS (by decide +kernel) (by decide +kernel) (by decide +kernel) (by decide +kernel) (by decide +kernel) ?_
  refine pz_crV Y hcs (v_X11_text (Nat.le_of_ble_eq_true rfl) (Nat.le_of_ble_eq_true rfl) (by decide +kernel)) H locs ls M [.inr (.inr (11, 0)), .inl (xs (i + 1)).toInt] [] 583 (by decide +kernel) hP hS hM ?_ hl.1 rfl (Nat.le_of_ble_eq_true rfl) (hI) (fun r M1 H1 locs1 hq hr hP1 hS1 hM1 => ?_)
  · skip
    exact (List.forall_mem_cons.mpr ⟨(show pz_kd 0 = 11 ∧ 0 < 231 from by decide), (List.forall_mem_cons.mpr ⟨(pz_tc _), List.forall_mem_nil _⟩)⟩)
  obtain ⟨w583, rfl, -⟩ := hr
  have hq : (_) ∧ _ := hq
  obtain ⟨q583, z583⟩ := hq
  have hJ1 : pz_im M1 := pz_im_cg (z583).2 hJ
  have hI1 : pz_ic M1 := (z583).1 hI
  clear hP hS hM hI hJ
  have hI := hI1
  have hJ := hJ1
  clear hI1 hJ1
  clear q583 z583
  have hP := hP1
  have hS := hS1
  have hM := hM1
  clear hP1 hS1 hM1
  skip
  obtain ⟨H, rfl⟩ : ∃ z, z = H1 := ⟨_, rfl⟩
  obtain ⟨locs, rfl⟩ : ∃ z, z = locs1 := ⟨_, rfl⟩
  obtain ⟨M, rfl⟩ : ∃ z, z = M1 := ⟨_, rfl⟩
  refine lv_pop hx hb (by decide +kernel) rfl ?_
  refine lv_aload_n hx hb (k := 2) (by decide +kernel) rfl (lv_at hl 2 rfl) ?_
  refine pz_la Y hX hbl hbA hL (i := i) (k := 1) (by omega) hl hS (by decide +kernel) (by decide +kernel) (by decide +kernel) (by decide +kernel) (by decide +kernel) ?_
  refine pz_crV Y hcs (v_X12_text (Nat.le_of_ble_eq_true rfl) (Nat.le_of_ble_eq_true rfl) (by decide +kernel)) H locs ls M [.inr (.inr (12, 1)), .inl (xs (i + 1)).toInt] [] 593 (by decide +kernel) hP hS hM ?_ hl.1 rfl (Nat.le_of_ble_eq_true rfl) (hJ) (fun r M1 H1 locs1 hq hr hP1 hS1 hM1 => ?_)
  · skip
    exact (List.forall_mem_cons.mpr ⟨(show pz_kd 1 = 12 ∧ 1 < 231 from by decide), (List.forall_mem_cons.mpr ⟨(pz_tc _), List.forall_mem_nil _⟩)⟩)
  obtain ⟨w593, rfl, -⟩ := hr
  have hq : (_) ∧ _ := hq
  obtain ⟨q593, z593⟩ := hq
  have hI1 : pz_ic M1 := pz_ic_cg (z593).2 hI
  have hJ1 : pz_im M1 := (z593).1 hJ
  clear hP hS hM hI hJ
  have hI := hI1
  have hJ := hJ1
  clear hI1 hJ1
  clear q593 z593
  have hP := hP1
  have hS := hS1
  have hM := hM1
  clear hP1 hS1 hM1
  skip
  obtain ⟨H, rfl⟩ : ∃ z, z = H1 := ⟨_, rfl⟩
  obtain ⟨locs, rfl⟩ : ∃ z, z = locs1 := ⟨_, rfl⟩
  obtain ⟨M, rfl⟩ : ∃ z, z = M1 := ⟨_, rfl⟩
  refine lv_pop hx hb (by decide +kernel) rfl ?_
  refine lv_goto (tgt := 1407) hx hb (by decide +kernel) (by decide) ?_
  exact K _ _ _ hI hJ hP hS hM
set_option maxRecDepth 100000 in
set_option maxHeartbeats 4000000 in
theorem pz_case12 (Y : pz_Y p s m #[Value.ref b] c code R_law 4 D ad adV cy A) (hcs : cells ≤ room_1.cells ∧ slots ≤ room_1.slots) (hX : va_X b L xs s s.heap) (hbl : b < s.heap.size) (hbA : ¬ A b) (hL : L ≤ 3072) {i : Nat} (hi : i + 6 ≤ L) {H : Heap} {locs : List Loc} {ls : Array Slot} {M : pz_M} (hl : lv_has ls 4 [(0, .ref b), (1, .ref (ad 0)), (2, .ref (ad 1)), (3, .int (Int32.ofNat i))]) (hP : va_P D vwCl (pz_ws ad cy M) H) (hS : va_S A s.heap H locs) (hM : ∀ a k : Nat, pz_c (M a k)) (hI : pz_ic M) (hJ : pz_im M) (K : ∀ (M9 : pz_M) (H9 : Heap) (locs9 : List Loc), pz_ic M9 → pz_im M9 → va_P D vwCl (pz_ws ad cy M9) H9 → va_S A s.heap H9 locs9 → (∀ a k : Nat, pz_c (M9 a k)) → W p l e room_1 s m #[Value.ref b] below meth c H9 locs9 cells slots Q (F0 m 1407 ls [])) : W p l e room_1 s m #[Value.ref b] below meth c H locs cells slots Q (F0 m 600 ls []) := by
  have Y0 := Y
  obtain ⟨hx, hb, hml, hown, hts, hXX⟩ := Y0
  refine lv_aload_n hx hb (k := 1) (by decide +kernel) rfl (lv_at hl 1 rfl) ?_
  refine pz_la Y hX hbl hbA hL (i := i) (k := 1) (by omega) hl hS (by decide +kernel) (by decide +kernel) (by decide +kernel) (by decide +kernel) (by decide +kernel) ?_
  refine pz_crV Y hcs (v_X11_fault (Nat.le_of_ble_eq_true rfl) (Nat.le_of_ble_eq_true rfl) (by decide +kernel)) H locs ls M [.inr (.inr (11, 0)), .inl (xs (i + 1)).toInt] [] 606 (by decide +kernel) hP hS hM ?_ hl.1 rfl (Nat.le_of_ble_eq_true rfl) (hI) (fun r M1 H1 locs1 hq hr hP1 hS1 hM1 => ?_)
  · skip
    exact (List.forall_mem_cons.mpr ⟨(show pz_kd 0 = 11 ∧ 0 < 231 from by decide), (List.forall_mem_cons.mpr ⟨(pz_tc _), List.forall_mem_nil _⟩)⟩)
  obtain ⟨w606, rfl, -⟩ := hr
  have hq : (_) ∧ _ := hq
  obtain ⟨q606, z606⟩ := hq
  subst z606
  clear hP hS hM
  have hP := hP1
  have hS := hS1
  have hM := hM1
  clear hP1 hS1 hM1
  obtain ⟨H, rfl⟩ : ∃ z, z = H1 := ⟨_, rfl⟩
  obtain ⟨locs, rfl⟩ : ∃ z, z = locs1 := ⟨_, rfl⟩
  refine lv_pop hx hb (by decide +kernel) rfl ?_
  refine lv_aload_n hx hb (k := 2) (by decide +kernel) rfl (lv_at hl 2 rfl) ?_
  refine pz_la Y hX hbl hbA hL (i := i) (k := 1) (by omega) hl hS (by decide +kernel) (by decide +kernel) (by decide +kernel) (by decide +kernel) (by decide +kernel) ?_
  refine pz_crV Y hcs (v_X12_fault (Nat.le_of_ble_eq_true rfl) (Nat.le_of_ble_eq_true rfl) (by decide +kernel)) H locs ls M [.inr (.inr (12, 1)), .inl (xs (i + 1)).toInt] [] 616 (by decide +kernel) hP hS hM ?_ hl.1 rfl (Nat.le_of_ble_eq_true rfl) (hJ) (fun r M1 H1 locs1 hq hr hP1 hS1 hM1 => ?_)
  · skip
    exact (List.forall_mem_cons.mpr ⟨(show pz_kd 1 = 12 ∧ 1 < 231 from by decide), (List.forall_mem_cons.mpr ⟨(pz_tc _), List.forall_mem_nil _⟩)⟩)
  obtain ⟨w616, rfl, -⟩ := hr
  have hq : (_) ∧ _ := hq
  obtain ⟨q616, z616⟩ := hq
  subst z616
  clear hP hS hM
  have hP := hP1
  have hS := hS1
  have hM := hM1
  clear hP1 hS1 hM1
  obtain ⟨H, rfl⟩ : ∃ z, z = H1 := ⟨_, rfl⟩
  obtain ⟨locs, rfl⟩ : ∃ z, z = locs1 := ⟨_, rfl⟩
  refine lv_pop hx hb (by decide +kernel) rfl ?_
  refine lv_goto (tgt := 1407) hx hb (by decide +kernel) (by decide) ?_
  exact K _ _ _ hI hJ hP hS hM
set_option maxRecDepth 100000 in
set_option maxHeartbeats 4000000 in
theorem pz_case13 (Y : pz_Y p s m #[Value.ref b] c code R_law 4 D ad adV cy A) (hcs : cells ≤ room_1.cells ∧ slots ≤ room_1.slots) (hX : va_X b L xs s s.heap) (hbl : b < s.heap.size) (hbA : ¬ A b) (hL : L ≤ 3072) {i : Nat} (hi : i + 6 ≤ L) {H : Heap} {locs : List Loc} {ls : Array Slot} {M : pz_M} (hl : lv_has ls 4 [(0, .ref b), (1, .ref (ad 0)), (2, .ref (ad 1)), (3, .int (Int32.ofNat i))]) (hP : va_P D vwCl (pz_ws ad cy M) H) (hS : va_S A s.heap H locs) (hM : ∀ a k : Nat, pz_c (M a k)) (hI : pz_ic M) (hJ : pz_im M) (K : ∀ (M9 : pz_M) (H9 : Heap) (locs9 : List Loc), pz_ic M9 → pz_im M9 → va_P D vwCl (pz_ws ad cy M9) H9 → va_S A s.heap H9 locs9 → (∀ a k : Nat, pz_c (M9 a k)) → W p l e room_1 s m #[Value.ref b] below meth c H9 locs9 cells slots Q (F0 m 1407 ls [])) : W p l e room_1 s m #[Value.ref b] below meth c H locs cells slots Q (F0 m 623 ls []) := by
  have Y0 := Y
  obtain ⟨hx, hb, hml, hown, hts, hXX⟩ := Y0
  refine lv_aload_n hx hb (k := 1) (by decide +kernel) rfl (lv_at hl 1 rfl) ?_
  refine pz_la Y hX hbl hbA hL (i := i) (k := 1) (by omega) hl hS (by decide +kernel) (by decide +kernel) (by decide +kernel) (by decide +kernel) (by decide +kernel) ?_
  refine pz_la Y hX hbl hbA hL (i := i) (k := 2) (by omega) hl hS (by decide +kernel) (by decide +kernel) (by decide +kernel) (by decide +kernel) (by decide +kernel) ?_
  refine pz_crV Y hcs (v_X11_of (Nat.le_of_ble_eq_true rfl) (Nat.le_of_ble_eq_true rfl) (by decide +kernel)) H locs ls M [.inr (.inr (11, 0)), .inl (xs (i + 1)).toInt, .inl (xs (i + 2)).toInt] [] 634 (by decide +kernel) hP hS hM ?_ hl.1 rfl (Nat.le_of_ble_eq_true rfl) (hI) (fun r M1 H1 locs1 hq hr hP1 hS1 hM1 => ?_)
  · skip
    exact (List.forall_mem_cons.mpr ⟨(show pz_kd 0 = 11 ∧ 0 < 231 from by decide), (List.forall_mem_cons.mpr ⟨(pz_tc _), (List.forall_mem_cons.mpr ⟨(pz_tc _), List.forall_mem_nil _⟩)⟩)⟩)
  obtain ⟨w634, rfl, -⟩ := hr
  have hq : (_) ∧ _ := hq
  obtain ⟨q634, z634⟩ := hq
  have hJ1 : pz_im M1 := pz_im_cg (z634.1).2 hJ
  have hI1 : pz_ic M1 := (z634.1).1 hI
  clear hP hS hM hI hJ
  have hI := hI1
  have hJ := hJ1
  clear hI1 hJ1
  clear q634 z634
  have hP := hP1
  have hS := hS1
  have hM := hM1
  clear hP1 hS1 hM1
  skip
  obtain ⟨H, rfl⟩ : ∃ z, z = H1 := ⟨_, rfl⟩
  obtain ⟨locs, rfl⟩ : ∃ z, z = locs1 := ⟨_, rfl⟩
  obtain ⟨M, rfl⟩ : ∃ z, z = M1 := ⟨_, rfl⟩
  refine lv_pop hx hb (by decide +kernel) rfl ?_
  refine lv_aload_n hx hb (k := 2) (by decide +kernel) rfl (lv_at hl 2 rfl) ?_
  refine pz_la Y hX hbl hbA hL (i := i) (k := 1) (by omega) hl hS (by decide +kernel) (by decide +kernel) (by decide +kernel) (by decide +kernel) (by decide +kernel) ?_
  refine pz_la Y hX hbl hbA hL (i := i) (k := 2) (by omega) hl hS (by decide +kernel) (by decide +kernel) (by decide +kernel) (by decide +kernel) (by decide +kernel) ?_
  refine pz_crV Y hcs (v_X12_of (Nat.le_of_ble_eq_true rfl) (Nat.le_of_ble_eq_true rfl) (by decide +kernel)) H locs ls M [.inr (.inr (12, 1)), .inl (xs (i + 1)).toInt, .inl (xs (i + 2)).toInt] [] 649 (by decide +kernel) hP hS hM ?_ hl.1 rfl (Nat.le_of_ble_eq_true rfl) (hJ) (fun r M1 H1 locs1 hq hr hP1 hS1 hM1 => ?_)
  · skip
    exact (List.forall_mem_cons.mpr ⟨(show pz_kd 1 = 12 ∧ 1 < 231 from by decide), (List.forall_mem_cons.mpr ⟨(pz_tc _), (List.forall_mem_cons.mpr ⟨(pz_tc _), List.forall_mem_nil _⟩)⟩)⟩)
  obtain ⟨w649, rfl, -⟩ := hr
  have hq : (_) ∧ _ := hq
  obtain ⟨q649, z649⟩ := hq
  have hI1 : pz_ic M1 := pz_ic_cg (z649.1.1).2 hI
  have hJ1 : pz_im M1 := (z649.1.1).1 hJ
  clear hP hS hM hI hJ
  have hI := hI1
  have hJ := hJ1
  clear hI1 hJ1
  clear q649 z649
  have hP := hP1
  have hS := hS1
  have hM := hM1
  clear hP1 hS1 hM1
  skip
  obtain ⟨H, rfl⟩ : ∃ z, z = H1 := ⟨_, rfl⟩
  obtain ⟨locs, rfl⟩ : ∃ z, z = locs1 := ⟨_, rfl⟩
  obtain ⟨M, rfl⟩ : ∃ z, z = M1 := ⟨_, rfl⟩
  refine lv_pop hx hb (by decide +kernel) rfl ?_
  refine lv_goto (tgt := 1407) hx hb (by decide +kernel) (by decide) ?_
  exact K _ _ _ hI hJ hP hS hM
set_option maxRecDepth 100000 in
set_option maxHeartbeats 4000000 in
theorem pz_case14 (Y : pz_Y p s m #[Value.ref b] c code R_law 4 D ad adV cy A) (hcs : cells ≤ room_1.cells ∧ slots ≤ room_1.slots) (hX : va_X b L xs s s.heap) (hbl : b < s.heap.size) (hbA : ¬ A b) (hL : L ≤ 3072) {i : Nat} (hi : i + 6 ≤ L) {H : Heap} {locs : List Loc} {ls : Array Slot} {M : pz_M} (hl : lv_has ls 4 [(0, .ref b), (1, .ref (ad 0)), (2, .ref (ad 1)), (3, .int (Int32.ofNat i))]) (hP : va_P D vwCl (pz_ws ad cy M) H) (hS : va_S A s.heap H locs) (hM : ∀ a k : Nat, pz_c (M a k)) (hI : pz_ic M) (hJ : pz_im M) (K : ∀ (M9 : pz_M) (H9 : Heap) (locs9 : List Loc), pz_ic M9 → pz_im M9 → va_P D vwCl (pz_ws ad cy M9) H9 → va_S A s.heap H9 locs9 → (∀ a k : Nat, pz_c (M9 a k)) → W p l e room_1 s m #[Value.ref b] below meth c H9 locs9 cells slots Q (F0 m 1407 ls [])) : W p l e room_1 s m #[Value.ref b] below meth c H locs cells slots Q (F0 m 656 ls []) := by
  have Y0 := Y
  obtain ⟨hx, hb, hml, hown, hts, hXX⟩ := Y0
  refine lv_aload_n hx hb (k := 1) (by decide +kernel) rfl (lv_at hl 1 rfl) ?_
  refine pz_la Y hX hbl hbA hL (i := i) (k := 1) (by omega) hl hS (by decide +kernel) (by decide +kernel) (by decide +kernel) (by decide +kernel) (by decide +kernel) ?_
  refine pz_la Y hX hbl hbA hL (i := i) (k := 2) (by omega) hl hS (by decide +kernel) (by decide +kernel) (by decide +kernel) (by decide +kernel) (by decide +kernel) ?_
  refine pz_crV Y hcs (v_X11_phone (Nat.le_of_ble_eq_true rfl) (Nat.le_of_ble_eq_true rfl) (by decide +kernel)) H locs ls M [.inr (.inr (11, 0)), .inl (xs (i + 1)).toInt, .inl (xs (i + 2)).toInt] [] 667 (by decide +kernel) hP hS hM ?_ hl.1 rfl (Nat.le_of_ble_eq_true rfl) (hI) (fun r M1 H1 locs1 hq hr hP1 hS1 hM1 => ?_)
  · skip
    exact (List.forall_mem_cons.mpr ⟨(show pz_kd 0 = 11 ∧ 0 < 231 from by decide), (List.forall_mem_cons.mpr ⟨(pz_tc _), (List.forall_mem_cons.mpr ⟨(pz_tc _), List.forall_mem_nil _⟩)⟩)⟩)
  obtain ⟨w667, rfl, -⟩ := hr
  have hq : (_) ∧ _ := hq
  obtain ⟨q667, z667⟩ := hq
  subst z667
  clear hP hS hM
  have hP := hP1
  have hS := hS1
  have hM := hM1
  clear hP1 hS1 hM1
  obtain ⟨H, rfl⟩ : ∃ z, z = H1 := ⟨_, rfl⟩
  obtain ⟨locs, rfl⟩ : ∃ z, z = locs1 := ⟨_, rfl⟩
  refine lv_pop hx hb (by decide +kernel) rfl ?_
  refine lv_aload_n hx hb (k := 2) (by decide +kernel) rfl (lv_at hl 2 rfl) ?_
  refine pz_la Y hX hbl hbA hL (i := i) (k := 1) (by omega) hl hS (by decide +kernel) (by decide +kernel) (by decide +kernel) (by decide +kernel) (by decide +kernel) ?_
  refine pz_la Y hX hbl hbA hL (i := i) (k := 2) (by omega) hl hS (by decide +kernel) (by decide +kernel) (by decide +kernel) (by decide +kernel) (by decide +kernel) ?_
  refine pz_crV Y hcs (v_X12_phone (Nat.le_of_ble_eq_true rfl) (Nat.le_of_ble_eq_true rfl) (by decide +kernel)) H locs ls M [.inr (.inr (12, 1)), .inl (xs (i + 1)).toInt, .inl (xs (i + 2)).toInt] [] 682 (by decide +kernel) hP hS hM ?_ hl.1 rfl (Nat.le_of_ble_eq_true rfl) (hJ) (fun r M1 H1 locs1 hq hr hP1 hS1 hM1 => ?_)
  · skip
    exact (List.forall_mem_cons.mpr ⟨(show pz_kd 1 = 12 ∧ 1 < 231 from by decide), (List.forall_mem_cons.mpr ⟨(pz_tc _), (List.forall_mem_cons.mpr ⟨(pz_tc _), List.forall_mem_nil _⟩)⟩)⟩)
  obtain ⟨w682, rfl, -⟩ := hr
  have hq : (_) ∧ _ := hq
  obtain ⟨q682, z682⟩ := hq
  subst z682
  clear hP hS hM
  have hP := hP1
  have hS := hS1
  have hM := hM1
  clear hP1 hS1 hM1
  obtain ⟨H, rfl⟩ : ∃ z, z = H1 := ⟨_, rfl⟩
  obtain ⟨locs, rfl⟩ : ∃ z, z = locs1 := ⟨_, rfl⟩
  refine lv_pop hx hb (by decide +kernel) rfl ?_
  refine lv_goto (tgt := 1407) hx hb (by decide +kernel) (by decide) ?_
  exact K _ _ _ hI hJ hP hS hM
set_option maxRecDepth 100000 in
set_option maxHeartbeats 4000000 in
theorem pz_case15 (Y : pz_Y p s m #[Value.ref b] c code R_law 4 D ad adV cy A) (hcs : cells ≤ room_1.cells ∧ slots ≤ room_1.slots) (hX : va_X b L xs s s.heap) (hbl : b < s.heap.size) (hbA : ¬ A b) (hL : L ≤ 3072) {i : Nat} (hi : i + 6 ≤ L) {H : Heap} {locs : List Loc} {ls : Array Slot} {M : pz_M} (hl : lv_has ls 4 [(0, .ref b), (1, .ref (ad 0)), (2, .ref (ad 1)), (3, .int (Int32.ofNat i))]) (hP : va_P D vwCl (pz_ws ad cy M) H) (hS : va_S A s.heap H locs) (hM : ∀ a k : Nat, pz_c (M a k)) (hI : pz_ic M) (hJ : pz_im M) (K : ∀ (M9 : pz_M) (H9 : Heap) (locs9 : List Loc), pz_ic M9 → pz_im M9 → va_P D vwCl (pz_ws ad cy M9) H9 → va_S A s.heap H9 locs9 → (∀ a k : Nat, pz_c (M9 a k)) → W p l e room_1 s m #[Value.ref b] below meth c H9 locs9 cells slots Q (F0 m 1407 ls [])) : W p l e room_1 s m #[Value.ref b] below meth c H locs cells slots Q (F0 m 689 ls []) := by
  have Y0 := Y
  obtain ⟨hx, hb, hml, hown, hts, hXX⟩ := Y0
  refine lv_aload_n hx hb (k := 1) (by decide +kernel) rfl (lv_at hl 1 rfl) ?_
  refine pz_la Y hX hbl hbA hL (i := i) (k := 1) (by omega) hl hS (by decide +kernel) (by decide +kernel) (by decide +kernel) (by decide +kernel) (by decide +kernel) ?_
  refine pz_la Y hX hbl hbA hL (i := i) (k := 2) (by omega) hl hS (by decide +kernel) (by decide +kernel) (by decide +kernel) (by decide +kernel) (by decide +kernel) ?_
  refine pz_crV Y hcs (v_X11_book (Nat.le_of_ble_eq_true rfl) (Nat.le_of_ble_eq_true rfl) (by decide +kernel)) H locs ls M [.inr (.inr (11, 0)), .inl (xs (i + 1)).toInt, .inl (xs (i + 2)).toInt] [] 700 (by decide +kernel) hP hS hM ?_ hl.1 rfl (Nat.le_of_ble_eq_true rfl) (hI) (fun r M1 H1 locs1 hq hr hP1 hS1 hM1 => ?_)
  · skip
    exact (List.forall_mem_cons.mpr ⟨(show pz_kd 0 = 11 ∧ 0 < 231 from by decide), (List.forall_mem_cons.mpr ⟨(pz_tc _), (List.forall_mem_cons.mpr ⟨(pz_tc _), List.forall_mem_nil _⟩)⟩)⟩)
  obtain ⟨w700, rfl, -⟩ := hr
  have hq : (_) ∧ _ := hq
  obtain ⟨q700, z700⟩ := hq
  subst z700
  clear hP hS hM
  have hP := hP1
  have hS := hS1
  have hM := hM1
  clear hP1 hS1 hM1
  obtain ⟨H, rfl⟩ : ∃ z, z = H1 := ⟨_, rfl⟩
  obtain ⟨locs, rfl⟩ : ∃ z, z = locs1 := ⟨_, rfl⟩
  refine lv_pop hx hb (by decide +kernel) rfl ?_
  refine lv_aload_n hx hb (k := 2) (by decide +kernel) rfl (lv_at hl 2 rfl) ?_
  refine pz_la Y hX hbl hbA hL (i := i) (k := 1) (by omega) hl hS (by decide +kernel) (by decide +kernel) (by decide +kernel) (by decide +kernel) (by decide +kernel) ?_
  refine pz_la Y hX hbl hbA hL (i := i) (k := 2) (by omega) hl hS (by decide +kernel) (by decide +kernel) (by decide +kernel) (by decide +kernel) (by decide +kernel) ?_
  refine pz_crV Y hcs (v_X12_book (Nat.le_of_ble_eq_true rfl) (Nat.le_of_ble_eq_true rfl) (by decide +kernel)) H locs ls M [.inr (.inr (12, 1)), .inl (xs (i + 1)).toInt, .inl (xs (i + 2)).toInt] [] 715 (by decide +kernel) hP hS hM ?_ hl.1 rfl (Nat.le_of_ble_eq_true rfl) (hJ) (fun r M1 H1 locs1 hq hr hP1 hS1 hM1 => ?_)
  · skip
    exact (List.forall_mem_cons.mpr ⟨(show pz_kd 1 = 12 ∧ 1 < 231 from by decide), (List.forall_mem_cons.mpr ⟨(pz_tc _), (List.forall_mem_cons.mpr ⟨(pz_tc _), List.forall_mem_nil _⟩)⟩)⟩)
  obtain ⟨w715, rfl, -⟩ := hr
  have hq : (_) ∧ _ := hq
  obtain ⟨q715, z715⟩ := hq
  subst z715
  clear hP hS hM
  have hP := hP1
  have hS := hS1
  have hM := hM1
  clear hP1 hS1 hM1
  obtain ⟨H, rfl⟩ : ∃ z, z = H1 := ⟨_, rfl⟩
  obtain ⟨locs, rfl⟩ : ∃ z, z = locs1 := ⟨_, rfl⟩
  refine lv_pop hx hb (by decide +kernel) rfl ?_
  refine lv_goto (tgt := 1407) hx hb (by decide +kernel) (by decide) ?_
  exact K _ _ _ hI hJ hP hS hM
set_option maxRecDepth 100000 in
set_option maxHeartbeats 4000000 in
theorem pz_case16 (Y : pz_Y p s m #[Value.ref b] c code R_law 4 D ad adV cy A) (hcs : cells ≤ room_1.cells ∧ slots ≤ room_1.slots) (hX : va_X b L xs s s.heap) (hbl : b < s.heap.size) (hbA : ¬ A b) (hL : L ≤ 3072) {i : Nat} (hi : i + 6 ≤ L) {H : Heap} {locs : List Loc} {ls : Array Slot} {M : pz_M} (hl : lv_has ls 4 [(0, .ref b), (1, .ref (ad 0)), (2, .ref (ad 1)), (3, .int (Int32.ofNat i))]) (hP : va_P D vwCl (pz_ws ad cy M) H) (hS : va_S A s.heap H locs) (hM : ∀ a k : Nat, pz_c (M a k)) (hI : pz_ic M) (hJ : pz_im M) (K : ∀ (M9 : pz_M) (H9 : Heap) (locs9 : List Loc), pz_ic M9 → pz_im M9 → va_P D vwCl (pz_ws ad cy M9) H9 → va_S A s.heap H9 locs9 → (∀ a k : Nat, pz_c (M9 a k)) → W p l e room_1 s m #[Value.ref b] below meth c H9 locs9 cells slots Q (F0 m 1407 ls [])) : W p l e room_1 s m #[Value.ref b] below meth c H locs cells slots Q (F0 m 722 ls []) := by
  have Y0 := Y
  obtain ⟨hx, hb, hml, hown, hts, hXX⟩ := Y0
  refine lv_aload_n hx hb (k := 1) (by decide +kernel) rfl (lv_at hl 1 rfl) ?_
  refine pz_la Y hX hbl hbA hL (i := i) (k := 1) (by omega) hl hS (by decide +kernel) (by decide +kernel) (by decide +kernel) (by decide +kernel) (by decide +kernel) ?_
  refine pz_la Y hX hbl hbA hL (i := i) (k := 2) (by omega) hl hS (by decide +kernel) (by decide +kernel) (by decide +kernel) (by decide +kernel) (by decide +kernel) ?_
  refine pz_crV Y hcs (v_X11_goes (Nat.le_of_ble_eq_true rfl) (Nat.le_of_ble_eq_true rfl) (by decide +kernel)) H locs ls M [.inr (.inr (11, 0)), .inl (xs (i + 1)).toInt, .inl (xs (i + 2)).toInt] [] 733 (by decide +kernel) hP hS hM ?_ hl.1 rfl (Nat.le_of_ble_eq_true rfl) (hI) (fun r M1 H1 locs1 hq hr hP1 hS1 hM1 => ?_)
  · skip
    exact (List.forall_mem_cons.mpr ⟨(show pz_kd 0 = 11 ∧ 0 < 231 from by decide), (List.forall_mem_cons.mpr ⟨(pz_tc _), (List.forall_mem_cons.mpr ⟨(pz_tc _), List.forall_mem_nil _⟩)⟩)⟩)
  obtain ⟨w733, rfl, -⟩ := hr
  have hq : (_) ∧ _ := hq
  obtain ⟨q733, z733⟩ := hq
  have hJ1 : pz_im M1 := pz_im_cg (z733.1).2 hJ
  have hI1 : pz_ic M1 := (z733.1).1 hI
  clear hP hS hM hI hJ
  have hI := hI1
  have hJ := hJ1
  clear hI1 hJ1
  clear q733 z733
  have hP := hP1
  have hS := hS1
  have hM := hM1
  clear hP1 hS1 hM1
  skip
  obtain ⟨H, rfl⟩ : ∃ z, z = H1 := ⟨_, rfl⟩
  obtain ⟨locs, rfl⟩ : ∃ z, z = locs1 := ⟨_, rfl⟩
  obtain ⟨M, rfl⟩ : ∃ z, z = M1 := ⟨_, rfl⟩
  refine lv_pop hx hb (by decide +kernel) rfl ?_
  refine lv_aload_n hx hb (k := 2) (by decide +kernel) rfl (lv_at hl 2 rfl) ?_
  refine pz_la Y hX hbl hbA hL (i := i) (k := 1) (by omega) hl hS (by decide +kernel) (by decide +kernel) (by decide +kernel) (by decide +kernel) (by decide +kernel) ?_
  refine pz_la Y hX hbl hbA hL (i := i) (k := 2) (by omega) hl hS (by decide +kernel) (by decide +kernel) (by decide +kernel) (by decide +kernel) (by decide +kernel) ?_
  refine pz_crV Y hcs (v_X12_goes (Nat.le_of_ble_eq_true rfl) (Nat.le_of_ble_eq_true rfl) (by decide +kernel)) H locs ls M [.inr (.inr (12, 1)), .inl (xs (i + 1)).toInt, .inl (xs (i + 2)).toInt] [] 748 (by decide +kernel) hP hS hM ?_ hl.1 rfl (Nat.le_of_ble_eq_true rfl) (hJ) (fun r M1 H1 locs1 hq hr hP1 hS1 hM1 => ?_)
  · skip
    exact (List.forall_mem_cons.mpr ⟨(show pz_kd 1 = 12 ∧ 1 < 231 from by decide), (List.forall_mem_cons.mpr ⟨(pz_tc _), (List.forall_mem_cons.mpr ⟨(pz_tc _), List.forall_mem_nil _⟩)⟩)⟩)
  obtain ⟨w748, rfl, -⟩ := hr
  have hq : (_) ∧ _ := hq
  obtain ⟨q748, z748⟩ := hq
  have hI1 : pz_ic M1 := pz_ic_cg (z748.1.1).2 hI
  have hJ1 : pz_im M1 := (z748.1.1).1 hJ
  clear hP hS hM hI hJ
  have hI := hI1
  have hJ := hJ1
  clear hI1 hJ1
  clear q748 z748
  have hP := hP1
  have hS := hS1
  have hM := hM1
  clear hP1 hS1 hM1
  skip
  obtain ⟨H, rfl⟩ : ∃ z, z = H1 := ⟨_, rfl⟩
  obtain ⟨locs, rfl⟩ : ∃ z, z = locs1 := ⟨_, rfl⟩
  obtain ⟨M, rfl⟩ : ∃ z, z = M1 := ⟨_, rfl⟩
  refine lv_pop hx hb (by decide +kernel) rfl ?_
  refine lv_goto (tgt := 1407) hx hb (by decide +kernel) (by decide) ?_
  exact K _ _ _ hI hJ hP hS hM
set_option maxRecDepth 100000 in
set_option maxHeartbeats 4000000 in
theorem pz_case17 (Y : pz_Y p s m #[Value.ref b] c code R_law 4 D ad adV cy A) (hcs : cells ≤ room_1.cells ∧ slots ≤ room_1.slots) (hX : va_X b L xs s s.heap) (hbl : b < s.heap.size) (hbA : ¬ A b) (hL : L ≤ 3072) {i : Nat} (hi : i + 6 ≤ L) {H : Heap} {locs : List Loc} {ls : Array Slot} {M : pz_M} (hl : lv_has ls 4 [(0, .ref b), (1, .ref (ad 0)), (2, .ref (ad 1)), (3, .int (Int32.ofNat i))]) (hP : va_P D vwCl (pz_ws ad cy M) H) (hS : va_S A s.heap H locs) (hM : ∀ a k : Nat, pz_c (M a k)) (hI : pz_ic M) (hJ : pz_im M) (K : ∀ (M9 : pz_M) (H9 : Heap) (locs9 : List Loc), pz_ic M9 → pz_im M9 → va_P D vwCl (pz_ws ad cy M9) H9 → va_S A s.heap H9 locs9 → (∀ a k : Nat, pz_c (M9 a k)) → W p l e room_1 s m #[Value.ref b] below meth c H9 locs9 cells slots Q (F0 m 1407 ls [])) : W p l e room_1 s m #[Value.ref b] below meth c H locs cells slots Q (F0 m 755 ls []) := by
  have Y0 := Y
  obtain ⟨hx, hb, hml, hown, hts, hXX⟩ := Y0
  refine lv_aload_n hx hb (k := 1) (by decide +kernel) rfl (lv_at hl 1 rfl) ?_
  refine pz_la Y hX hbl hbA hL (i := i) (k := 1) (by omega) hl hS (by decide +kernel) (by decide +kernel) (by decide +kernel) (by decide +kernel) (by decide +kernel) ?_
  refine pz_crV Y hcs (v_X11_odds (Nat.le_of_ble_eq_true rfl) (Nat.le_of_ble_eq_true rfl) (by decide +kernel)) H locs ls M [.inr (.inr (11, 0)), .inl (xs (i + 1)).toInt] [] 761 (by decide +kernel) hP hS hM ?_ hl.1 rfl (Nat.le_of_ble_eq_true rfl) (hI) (fun r M1 H1 locs1 hq hr hP1 hS1 hM1 => ?_)
  · skip
    exact (List.forall_mem_cons.mpr ⟨(show pz_kd 0 = 11 ∧ 0 < 231 from by decide), (List.forall_mem_cons.mpr ⟨(pz_tc _), List.forall_mem_nil _⟩)⟩)
  obtain ⟨w761, rfl, -⟩ := hr
  have hq : (_) ∧ _ := hq
  obtain ⟨q761, z761⟩ := hq
  have hJ1 : pz_im M1 := pz_im_cg (z761.1).2 hJ
  have hI1 : pz_ic M1 := (z761.1).1 hI
  clear hP hS hM hI hJ
  have hI := hI1
  have hJ := hJ1
  clear hI1 hJ1
  clear q761 z761
  have hP := hP1
  have hS := hS1
  have hM := hM1
  clear hP1 hS1 hM1
  skip
  obtain ⟨H, rfl⟩ : ∃ z, z = H1 := ⟨_, rfl⟩
  obtain ⟨locs, rfl⟩ : ∃ z, z = locs1 := ⟨_, rfl⟩
  obtain ⟨M, rfl⟩ : ∃ z, z = M1 := ⟨_, rfl⟩
  refine lv_pop hx hb (by decide +kernel) rfl ?_
  refine lv_aload_n hx hb (k := 2) (by decide +kernel) rfl (lv_at hl 2 rfl) ?_
  refine pz_la Y hX hbl hbA hL (i := i) (k := 1) (by omega) hl hS (by decide +kernel) (by decide +kernel) (by decide +kernel) (by decide +kernel) (by decide +kernel) ?_
  refine pz_crV Y hcs (v_X12_odds (Nat.le_of_ble_eq_true rfl) (Nat.le_of_ble_eq_true rfl) (by decide +kernel)) H locs ls M [.inr (.inr (12, 1)), .inl (xs (i + 1)).toInt] [] 771 (by decide +kernel) hP hS hM ?_ hl.1 rfl (Nat.le_of_ble_eq_true rfl) (hJ) (fun r M1 H1 locs1 hq hr hP1 hS1 hM1 => ?_)
  · skip
    exact (List.forall_mem_cons.mpr ⟨(show pz_kd 1 = 12 ∧ 1 < 231 from by decide), (List.forall_mem_cons.mpr ⟨(pz_tc _), List.forall_mem_nil _⟩)⟩)
  obtain ⟨w771, rfl, -⟩ := hr
  have hq : (_) ∧ _ := hq
  obtain ⟨q771, z771⟩ := hq
  have hI1 : pz_ic M1 := pz_ic_cg (z771.1.1).2 hI
  have hJ1 : pz_im M1 := (z771.1.1).1 hJ
  clear hP hS hM hI hJ
  have hI := hI1
  have hJ := hJ1
  clear hI1 hJ1
  clear q771 z771
  have hP := hP1
  have hS := hS1
  have hM := hM1
  clear hP1 hS1 hM1
  skip
  obtain ⟨H, rfl⟩ : ∃ z, z = H1 := ⟨_, rfl⟩
  obtain ⟨locs, rfl⟩ : ∃ z, z = locs1 := ⟨_, rfl⟩
  obtain ⟨M, rfl⟩ : ∃ z, z = M1 := ⟨_, rfl⟩
  refine lv_pop hx hb (by decide +kernel) rfl ?_
  refine lv_goto (tgt := 1407) hx hb (by decide +kernel) (by decide) ?_
  exact K _ _ _ hI hJ hP hS hM
set_option maxRecDepth 100000 in
set_option maxHeartbeats 4000000 in
theorem pz_case18 (Y : pz_Y p s m #[Value.ref b] c code R_law 4 D ad adV cy A) (hcs : cells ≤ room_1.cells ∧ slots ≤ room_1.slots) (hX : va_X b L xs s s.heap) (hbl : b < s.heap.size) (hbA : ¬ A b) (hL : L ≤ 3072) {i : Nat} (hi : i + 6 ≤ L) {H : Heap} {locs : List Loc} {ls : Array Slot} {M : pz_M} (hl : lv_has ls 4 [(0, .ref b), (1, .ref (ad 0)), (2, .ref (ad 1)), (3, .int (Int32.ofNat i))]) (hP : va_P D vwCl (pz_ws ad cy M) H) (hS : va_S A s.heap H locs) (hM : ∀ a k : Nat, pz_c (M a k)) (hI : pz_ic M) (hJ : pz_im M) (K : ∀ (M9 : pz_M) (H9 : Heap) (locs9 : List Loc), pz_ic M9 → pz_im M9 → va_P D vwCl (pz_ws ad cy M9) H9 → va_S A s.heap H9 locs9 → (∀ a k : Nat, pz_c (M9 a k)) → W p l e room_1 s m #[Value.ref b] below meth c H9 locs9 cells slots Q (F0 m 1407 ls [])) : W p l e room_1 s m #[Value.ref b] below meth c H locs cells slots Q (F0 m 778 ls []) := by
  have Y0 := Y
  obtain ⟨hx, hb, hml, hown, hts, hXX⟩ := Y0
  refine lv_aload_n hx hb (k := 1) (by decide +kernel) rfl (lv_at hl 1 rfl) ?_
  refine pz_la Y hX hbl hbA hL (i := i) (k := 1) (by omega) hl hS (by decide +kernel) (by decide +kernel) (by decide +kernel) (by decide +kernel) (by decide +kernel) ?_
  refine pz_la Y hX hbl hbA hL (i := i) (k := 2) (by omega) hl hS (by decide +kernel) (by decide +kernel) (by decide +kernel) (by decide +kernel) (by decide +kernel) ?_
  refine pz_crV Y hcs (v_X11_holds (Nat.le_of_ble_eq_true rfl) (Nat.le_of_ble_eq_true rfl) (by decide +kernel)) H locs ls M [.inr (.inr (11, 0)), .inl (xs (i + 1)).toInt, .inl (xs (i + 2)).toInt] [] 789 (by decide +kernel) hP hS hM ?_ hl.1 rfl (Nat.le_of_ble_eq_true rfl) (hI) (fun r M1 H1 locs1 hq hr hP1 hS1 hM1 => ?_)
  · skip
    exact (List.forall_mem_cons.mpr ⟨(show pz_kd 0 = 11 ∧ 0 < 231 from by decide), (List.forall_mem_cons.mpr ⟨(pz_tc _), (List.forall_mem_cons.mpr ⟨(pz_tc _), List.forall_mem_nil _⟩)⟩)⟩)
  obtain ⟨w789, rfl, -⟩ := hr
  have hq : (_) ∧ _ := hq
  obtain ⟨q789, z789⟩ := hq
  have hJ1 : pz_im M1 := pz_im_cg (z789.1).2 hJ
  have hI1 : pz_ic M1 := (z789.1).1 hI
  clear hP hS hM hI hJ
  have hI := hI1
  have hJ := hJ1
  clear hI1 hJ1
  clear q789 z789
  have hP := hP1
  have hS := hS1
  have hM := hM1
  clear hP1 hS1 hM1
  skip
  obtain ⟨H, rfl⟩ : ∃ z, z = H1 := ⟨_, rfl⟩
  obtain ⟨locs, rfl⟩ : ∃ z, z = locs1 := ⟨_, rfl⟩
  obtain ⟨M, rfl⟩ : ∃ z, z = M1 := ⟨_, rfl⟩
  refine lv_pop hx hb (by decide +kernel) rfl ?_
  refine lv_aload_n hx hb (k := 2) (by decide +kernel) rfl (lv_at hl 2 rfl) ?_
  refine pz_la Y hX hbl hbA hL (i := i) (k := 1) (by omega) hl hS (by decide +kernel) (by decide +kernel) (by decide +kernel) (by decide +kernel) (by decide +kernel) ?_
  refine pz_la Y hX hbl hbA hL (i := i) (k := 2) (by omega) hl hS (by decide +kernel) (by decide +kernel) (by decide +kernel) (by decide +kernel) (by decide +kernel) ?_
  refine pz_crV Y hcs (v_X12_holds (Nat.le_of_ble_eq_true rfl) (Nat.le_of_ble_eq_true rfl) (by decide +kernel)) H locs ls M [.inr (.inr (12, 1)), .inl (xs (i + 1)).toInt, .inl (xs (i + 2)).toInt] [] 804 (by decide +kernel) hP hS hM ?_ hl.1 rfl (Nat.le_of_ble_eq_true rfl) (hJ) (fun r M1 H1 locs1 hq hr hP1 hS1 hM1 => ?_)
  · skip
    exact (List.forall_mem_cons.mpr ⟨(show pz_kd 1 = 12 ∧ 1 < 231 from by decide), (List.forall_mem_cons.mpr ⟨(pz_tc _), (List.forall_mem_cons.mpr ⟨(pz_tc _), List.forall_mem_nil _⟩)⟩)⟩)
  obtain ⟨w804, rfl, -⟩ := hr
  have hq : (_) ∧ _ := hq
  obtain ⟨q804, z804⟩ := hq
  have hI1 : pz_ic M1 := pz_ic_cg (z804.1.1).2 hI
  have hJ1 : pz_im M1 := (z804.1.1).1 hJ
  clear hP hS hM hI hJ
  have hI := hI1
  have hJ := hJ1
  clear hI1 hJ1
  clear q804 z804
  have hP := hP1
  have hS := hS1
  have hM := hM1
  clear hP1 hS1 hM1
  skip
  obtain ⟨H, rfl⟩ : ∃ z, z = H1 := ⟨_, rfl⟩
  obtain ⟨locs, rfl⟩ : ∃ z, z = locs1 := ⟨_, rfl⟩
  obtain ⟨M, rfl⟩ : ∃ z, z = M1 := ⟨_, rfl⟩
  refine lv_pop hx hb (by decide +kernel) rfl ?_
  refine lv_goto (tgt := 1407) hx hb (by decide +kernel) (by decide) ?_
  exact K _ _ _ hI hJ hP hS hM
set_option maxRecDepth 100000 in
set_option maxHeartbeats 4000000 in
theorem pz_case19 (Y : pz_Y p s m #[Value.ref b] c code R_law 4 D ad adV cy A) (hcs : cells ≤ room_1.cells ∧ slots ≤ room_1.slots) (hX : va_X b L xs s s.heap) (hbl : b < s.heap.size) (hbA : ¬ A b) (hL : L ≤ 3072) {i : Nat} (hi : i + 6 ≤ L) {H : Heap} {locs : List Loc} {ls : Array Slot} {M : pz_M} (hl : lv_has ls 4 [(0, .ref b), (1, .ref (ad 0)), (2, .ref (ad 1)), (3, .int (Int32.ofNat i))]) (hP : va_P D vwCl (pz_ws ad cy M) H) (hS : va_S A s.heap H locs) (hM : ∀ a k : Nat, pz_c (M a k)) (hI : pz_ic M) (hJ : pz_im M) (K : ∀ (M9 : pz_M) (H9 : Heap) (locs9 : List Loc), pz_ic M9 → pz_im M9 → va_P D vwCl (pz_ws ad cy M9) H9 → va_S A s.heap H9 locs9 → (∀ a k : Nat, pz_c (M9 a k)) → W p l e room_1 s m #[Value.ref b] below meth c H9 locs9 cells slots Q (F0 m 1407 ls [])) : W p l e room_1 s m #[Value.ref b] below meth c H locs cells slots Q (F0 m 811 ls []) := by
  have Y0 := Y
  obtain ⟨hx, hb, hml, hown, hts, hXX⟩ := Y0
  refine lv_aload_n hx hb (k := 1) (by decide +kernel) rfl (lv_at hl 1 rfl) ?_
  refine pz_la Y hX hbl hbA hL (i := i) (k := 1) (by omega) hl hS (by decide +kernel) (by decide +kernel) (by decide +kernel) (by decide +kernel) (by decide +kernel) ?_
  refine pz_la Y hX hbl hbA hL (i := i) (k := 2) (by omega) hl hS (by decide +kernel) (by decide +kernel) (by decide +kernel) (by decide +kernel) (by decide +kernel) ?_
  refine pz_crV Y hcs (v_X11_many (Nat.le_of_ble_eq_true rfl) (Nat.le_of_ble_eq_true rfl) (by decide +kernel)) H locs ls M [.inr (.inr (11, 0)), .inl (xs (i + 1)).toInt, .inl (xs (i + 2)).toInt] [] 822 (by decide +kernel) hP hS hM ?_ hl.1 rfl (Nat.le_of_ble_eq_true rfl) (hI) (fun r M1 H1 locs1 hq hr hP1 hS1 hM1 => ?_)
  · skip
    exact (List.forall_mem_cons.mpr ⟨(show pz_kd 0 = 11 ∧ 0 < 231 from by decide), (List.forall_mem_cons.mpr ⟨(pz_tc _), (List.forall_mem_cons.mpr ⟨(pz_tc _), List.forall_mem_nil _⟩)⟩)⟩)
  obtain ⟨w822, rfl, -⟩ := hr
  have hq : (_) ∧ _ := hq
  obtain ⟨q822, z822⟩ := hq
  subst z822
  clear hP hS hM
  have hP := hP1
  have hS := hS1
  have hM := hM1
  clear hP1 hS1 hM1
  obtain ⟨H, rfl⟩ : ∃ z, z = H1 := ⟨_, rfl⟩
  obtain ⟨locs, rfl⟩ : ∃ z, z = locs1 := ⟨_, rfl⟩
  refine lv_pop hx hb (by decide +kernel) rfl ?_
  refine lv_aload_n hx hb (k := 2) (by decide +kernel) rfl (lv_at hl 2 rfl) ?_
  refine pz_la Y hX hbl hbA hL (i := i) (k := 1) (by omega) hl hS (by decide +kernel) (by decide +kernel) (by decide +kernel) (by decide +kernel) (by decide +kernel) ?_
  refine pz_la Y hX hbl hbA hL (i := i) (k := 2) (by omega) hl hS (by decide +kernel) (by decide +kernel) (by decide +kernel) (by decide +kernel) (by decide +kernel) ?_
  refine pz_crV Y hcs (v_X12_many (Nat.le_of_ble_eq_true rfl) (Nat.le_of_ble_eq_true rfl) (by decide +kernel)) H locs ls M [.inr (.inr (12, 1)), .inl (xs (i + 1)).toInt, .inl (xs (i + 2)).toInt] [] 837 (by decide +kernel) hP hS hM ?_ hl.1 rfl (Nat.le_of_ble_eq_true rfl) (hJ) (fun r M1 H1 locs1 hq hr hP1 hS1 hM1 => ?_)
  · skip
    exact (List.forall_mem_cons.mpr ⟨(show pz_kd 1 = 12 ∧ 1 < 231 from by decide), (List.forall_mem_cons.mpr ⟨(pz_tc _), (List.forall_mem_cons.mpr ⟨(pz_tc _), List.forall_mem_nil _⟩)⟩)⟩)
  obtain ⟨w837, rfl, -⟩ := hr
  have hq : (_) ∧ _ := hq
  obtain ⟨q837, z837⟩ := hq
  subst z837
  clear hP hS hM
  have hP := hP1
  have hS := hS1
  have hM := hM1
  clear hP1 hS1 hM1
  obtain ⟨H, rfl⟩ : ∃ z, z = H1 := ⟨_, rfl⟩
  obtain ⟨locs, rfl⟩ : ∃ z, z = locs1 := ⟨_, rfl⟩
  refine lv_pop hx hb (by decide +kernel) rfl ?_
  refine lv_goto (tgt := 1407) hx hb (by decide +kernel) (by decide) ?_
  exact K _ _ _ hI hJ hP hS hM
set_option maxRecDepth 100000 in
set_option maxHeartbeats 4000000 in
theorem pz_case20 (Y : pz_Y p s m #[Value.ref b] c code R_law 4 D ad adV cy A) (hcs : cells ≤ room_1.cells ∧ slots ≤ room_1.slots) (hX : va_X b L xs s s.heap) (hbl : b < s.heap.size) (hbA : ¬ A b) (hL : L ≤ 3072) {i : Nat} (hi : i + 6 ≤ L) {H : Heap} {locs : List Loc} {ls : Array Slot} {M : pz_M} (hl : lv_has ls 4 [(0, .ref b), (1, .ref (ad 0)), (2, .ref (ad 1)), (3, .int (Int32.ofNat i))]) (hP : va_P D vwCl (pz_ws ad cy M) H) (hS : va_S A s.heap H locs) (hM : ∀ a k : Nat, pz_c (M a k)) (hI : pz_ic M) (hJ : pz_im M) (K : ∀ (M9 : pz_M) (H9 : Heap) (locs9 : List Loc), pz_ic M9 → pz_im M9 → va_P D vwCl (pz_ws ad cy M9) H9 → va_S A s.heap H9 locs9 → (∀ a k : Nat, pz_c (M9 a k)) → W p l e room_1 s m #[Value.ref b] below meth c H9 locs9 cells slots Q (F0 m 1407 ls [])) : W p l e room_1 s m #[Value.ref b] below meth c H locs cells slots Q (F0 m 844 ls []) := by
  have Y0 := Y
  obtain ⟨hx, hb, hml, hown, hts, hXX⟩ := Y0
  refine lv_aload_n hx hb (k := 1) (by decide +kernel) rfl (lv_at hl 1 rfl) ?_
  refine pz_la Y hX hbl hbA hL (i := i) (k := 1) (by omega) hl hS (by decide +kernel) (by decide +kernel) (by decide +kernel) (by decide +kernel) (by decide +kernel) ?_
  refine pz_la Y hX hbl hbA hL (i := i) (k := 2) (by omega) hl hS (by decide +kernel) (by decide +kernel) (by decide +kernel) (by decide +kernel) (by decide +kernel) ?_
  refine pz_la Y hX hbl hbA hL (i := i) (k := 3) (by omega) hl hS (by decide +kernel) (by decide +kernel) (by decide +kernel) (by decide +kernel) (by decide +kernel) ?_
  refine pz_crV Y hcs (v_X11_bridges (Nat.le_of_ble_eq_true rfl) (Nat.le_of_ble_eq_true rfl) (by decide +kernel)) H locs ls M [.inr (.inr (11, 0)), .inl (xs (i + 1)).toInt, .inl (xs (i + 2)).toInt, .inl (xs (i + 3)).toInt] [] 860 (by decide +kernel) hP hS hM ?_ hl.1 rfl (Nat.le_of_ble_eq_true rfl) (hI) (fun r M1 H1 locs1 hq hr hP1 hS1 hM1 => ?_)
  · skip
    exact (List.forall_mem_cons.mpr ⟨(show pz_kd 0 = 11 ∧ 0 < 231 from by decide), (List.forall_mem_cons.mpr ⟨(pz_tc _), (List.forall_mem_cons.mpr ⟨(pz_tc _), (List.forall_mem_cons.mpr ⟨(pz_tc _), List.forall_mem_nil _⟩)⟩)⟩)⟩)
  obtain ⟨w860, rfl, -⟩ := hr
  have hq : (_) ∧ _ := hq
  obtain ⟨q860, z860⟩ := hq
  have hJ1 : pz_im M1 := pz_im_cg (z860.1).2 hJ
  have hI1 : pz_ic M1 := (z860.1).1 hI
  clear hP hS hM hI hJ
  have hI := hI1
  have hJ := hJ1
  clear hI1 hJ1
  clear q860 z860
  have hP := hP1
  have hS := hS1
  have hM := hM1
  clear hP1 hS1 hM1
  skip
  obtain ⟨H, rfl⟩ : ∃ z, z = H1 := ⟨_, rfl⟩
  obtain ⟨locs, rfl⟩ : ∃ z, z = locs1 := ⟨_, rfl⟩
  obtain ⟨M, rfl⟩ : ∃ z, z = M1 := ⟨_, rfl⟩
  refine lv_pop hx hb (by decide +kernel) rfl ?_
  refine lv_aload_n hx hb (k := 2) (by decide +kernel) rfl (lv_at hl 2 rfl) ?_
  refine pz_la Y hX hbl hbA hL (i := i) (k := 1) (by omega) hl hS (by decide +kernel) (by decide +kernel) (by decide +kernel) (by decide +kernel) (by decide +kernel) ?_
  refine pz_la Y hX hbl hbA hL (i := i) (k := 2) (by omega) hl hS (by decide +kernel) (by decide +kernel) (by decide +kernel) (by decide +kernel) (by decide +kernel) ?_
  refine pz_la Y hX hbl hbA hL (i := i) (k := 3) (by omega) hl hS (by decide +kernel) (by decide +kernel) (by decide +kernel) (by decide +kernel) (by decide +kernel) ?_
  refine pz_crV Y hcs (v_X12_bridges (Nat.le_of_ble_eq_true rfl) (Nat.le_of_ble_eq_true rfl) (by decide +kernel)) H locs ls M [.inr (.inr (12, 1)), .inl (xs (i + 1)).toInt, .inl (xs (i + 2)).toInt, .inl (xs (i + 3)).toInt] [] 880 (by decide +kernel) hP hS hM ?_ hl.1 rfl (Nat.le_of_ble_eq_true rfl) (hJ) (fun r M1 H1 locs1 hq hr hP1 hS1 hM1 => ?_)
  · skip
    exact (List.forall_mem_cons.mpr ⟨(show pz_kd 1 = 12 ∧ 1 < 231 from by decide), (List.forall_mem_cons.mpr ⟨(pz_tc _), (List.forall_mem_cons.mpr ⟨(pz_tc _), (List.forall_mem_cons.mpr ⟨(pz_tc _), List.forall_mem_nil _⟩)⟩)⟩)⟩)
  obtain ⟨w880, rfl, -⟩ := hr
  have hq : (_) ∧ _ := hq
  obtain ⟨q880, z880⟩ := hq
  have hI1 : pz_ic M1 := pz_ic_cg (z880.1.1).2 hI
  have hJ1 : pz_im M1 := (z880.1.1).1 hJ
  clear hP hS hM hI hJ
  have hI := hI1
  have hJ := hJ1
  clear hI1 hJ1
  clear q880 z880
  have hP := hP1
  have hS := hS1
  have hM := hM1
  clear hP1 hS1 hM1
  skip
  obtain ⟨H, rfl⟩ : ∃ z, z = H1 := ⟨_, rfl⟩
  obtain ⟨locs, rfl⟩ : ∃ z, z = locs1 := ⟨_, rfl⟩
  obtain ⟨M, rfl⟩ : ∃ z, z = M1 := ⟨_, rfl⟩
  refine lv_pop hx hb (by decide +kernel) rfl ?_
  refine lv_goto (tgt := 1407) hx hb (by decide +kernel) (by decide) ?_
  exact K _ _ _ hI hJ hP hS hM
set_option maxRecDepth 100000 in
set_option maxHeartbeats 4000000 in
theorem pz_case21 (Y : pz_Y p s m #[Value.ref b] c code R_law 4 D ad adV cy A) (hcs : cells ≤ room_1.cells ∧ slots ≤ room_1.slots) (hX : va_X b L xs s s.heap) (hbl : b < s.heap.size) (hbA : ¬ A b) (hL : L ≤ 3072) {i : Nat} (hi : i + 6 ≤ L) {H : Heap} {locs : List Loc} {ls : Array Slot} {M : pz_M} (hl : lv_has ls 4 [(0, .ref b), (1, .ref (ad 0)), (2, .ref (ad 1)), (3, .int (Int32.ofNat i))]) (hP : va_P D vwCl (pz_ws ad cy M) H) (hS : va_S A s.heap H locs) (hM : ∀ a k : Nat, pz_c (M a k)) (hI : pz_ic M) (hJ : pz_im M) (K : ∀ (M9 : pz_M) (H9 : Heap) (locs9 : List Loc), pz_ic M9 → pz_im M9 → va_P D vwCl (pz_ws ad cy M9) H9 → va_S A s.heap H9 locs9 → (∀ a k : Nat, pz_c (M9 a k)) → W p l e room_1 s m #[Value.ref b] below meth c H9 locs9 cells slots Q (F0 m 1407 ls [])) : W p l e room_1 s m #[Value.ref b] below meth c H locs cells slots Q (F0 m 887 ls []) := by
  have Y0 := Y
  obtain ⟨hx, hb, hml, hown, hts, hXX⟩ := Y0
  refine lv_aload_n hx hb (k := 1) (by decide +kernel) rfl (lv_at hl 1 rfl) ?_
  refine pz_la Y hX hbl hbA hL (i := i) (k := 1) (by omega) hl hS (by decide +kernel) (by decide +kernel) (by decide +kernel) (by decide +kernel) (by decide +kernel) ?_
  refine pz_la Y hX hbl hbA hL (i := i) (k := 2) (by omega) hl hS (by decide +kernel) (by decide +kernel) (by decide +kernel) (by decide +kernel) (by decide +kernel) ?_
  refine pz_crV Y hcs (v_X11_share (Nat.le_of_ble_eq_true rfl) (Nat.le_of_ble_eq_true rfl) (by decide +kernel)) H locs ls M [.inr (.inr (11, 0)), .inl (xs (i + 1)).toInt, .inl (xs (i + 2)).toInt] [] 898 (by decide +kernel) hP hS hM ?_ hl.1 rfl (Nat.le_of_ble_eq_true rfl) (hI) (fun r M1 H1 locs1 hq hr hP1 hS1 hM1 => ?_)
  · skip
    exact (List.forall_mem_cons.mpr ⟨(show pz_kd 0 = 11 ∧ 0 < 231 from by decide), (List.forall_mem_cons.mpr ⟨(pz_tc _), (List.forall_mem_cons.mpr ⟨(pz_tc _), List.forall_mem_nil _⟩)⟩)⟩)
  obtain ⟨w898, rfl, -⟩ := hr
  have hq : (_) ∧ _ := hq
  obtain ⟨q898, z898⟩ := hq
  subst z898
  clear hP hS hM
  have hP := hP1
  have hS := hS1
  have hM := hM1
  clear hP1 hS1 hM1
  obtain ⟨H, rfl⟩ : ∃ z, z = H1 := ⟨_, rfl⟩
  obtain ⟨locs, rfl⟩ : ∃ z, z = locs1 := ⟨_, rfl⟩
  refine lv_pop hx hb (by decide +kernel) rfl ?_
  refine lv_aload_n hx hb (k := 2) (by decide +kernel) rfl (lv_at hl 2 rfl) ?_
  refine pz_la Y hX hbl hbA hL (i := i) (k := 1) (by omega) hl hS (by decide +kernel) (by decide +kernel) (by decide +kernel) (by decide +kernel) (by decide +kernel) ?_
  refine pz_la Y hX hbl hbA hL (i := i) (k := 2) (by omega) hl hS (by decide +kernel) (by decide +kernel) (by decide +kernel) (by decide +kernel) (by decide +kernel) ?_
  refine pz_crV Y hcs (v_X12_share (Nat.le_of_ble_eq_true rfl) (Nat.le_of_ble_eq_true rfl) (by decide +kernel)) H locs ls M [.inr (.inr (12, 1)), .inl (xs (i + 1)).toInt, .inl (xs (i + 2)).toInt] [] 913 (by decide +kernel) hP hS hM ?_ hl.1 rfl (Nat.le_of_ble_eq_true rfl) (hJ) (fun r M1 H1 locs1 hq hr hP1 hS1 hM1 => ?_)
  · skip
    exact (List.forall_mem_cons.mpr ⟨(show pz_kd 1 = 12 ∧ 1 < 231 from by decide), (List.forall_mem_cons.mpr ⟨(pz_tc _), (List.forall_mem_cons.mpr ⟨(pz_tc _), List.forall_mem_nil _⟩)⟩)⟩)
  obtain ⟨w913, rfl, -⟩ := hr
  have hq : (_) ∧ _ := hq
  obtain ⟨q913, z913⟩ := hq
  subst z913
  clear hP hS hM
  have hP := hP1
  have hS := hS1
  have hM := hM1
  clear hP1 hS1 hM1
  obtain ⟨H, rfl⟩ : ∃ z, z = H1 := ⟨_, rfl⟩
  obtain ⟨locs, rfl⟩ : ∃ z, z = locs1 := ⟨_, rfl⟩
  refine lv_pop hx hb (by decide +kernel) rfl ?_
  refine lv_goto (tgt := 1407) hx hb (by decide +kernel) (by decide) ?_
  exact K _ _ _ hI hJ hP hS hM
set_option maxRecDepth 100000 in
set_option maxHeartbeats 4000000 in
theorem pz_case22 (Y : pz_Y p s m #[Value.ref b] c code R_law 4 D ad adV cy A) (hcs : cells ≤ room_1.cells ∧ slots ≤ room_1.slots) (hX : va_X b L xs s s.heap) (hbl : b < s.heap.size) (hbA : ¬ A b) (hL : L ≤ 3072) {i : Nat} (hi : i + 6 ≤ L) {H : Heap} {locs : List Loc} {ls : Array Slot} {M : pz_M} (hl : lv_has ls 4 [(0, .ref b), (1, .ref (ad 0)), (2, .ref (ad 1)), (3, .int (Int32.ofNat i))]) (hP : va_P D vwCl (pz_ws ad cy M) H) (hS : va_S A s.heap H locs) (hM : ∀ a k : Nat, pz_c (M a k)) (hI : pz_ic M) (hJ : pz_im M) (K : ∀ (M9 : pz_M) (H9 : Heap) (locs9 : List Loc), pz_ic M9 → pz_im M9 → va_P D vwCl (pz_ws ad cy M9) H9 → va_S A s.heap H9 locs9 → (∀ a k : Nat, pz_c (M9 a k)) → W p l e room_1 s m #[Value.ref b] below meth c H9 locs9 cells slots Q (F0 m 1407 ls [])) : W p l e room_1 s m #[Value.ref b] below meth c H locs cells slots Q (F0 m 920 ls []) := by
  have Y0 := Y
  obtain ⟨hx, hb, hml, hown, hts, hXX⟩ := Y0
  refine lv_aload_n hx hb (k := 1) (by decide +kernel) rfl (lv_at hl 1 rfl) ?_
  refine pz_la Y hX hbl hbA hL (i := i) (k := 1) (by omega) hl hS (by decide +kernel) (by decide +kernel) (by decide +kernel) (by decide +kernel) (by decide +kernel) ?_
  refine pz_la Y hX hbl hbA hL (i := i) (k := 2) (by omega) hl hS (by decide +kernel) (by decide +kernel) (by decide +kernel) (by decide +kernel) (by decide +kernel) ?_
  refine pz_la Y hX hbl hbA hL (i := i) (k := 3) (by omega) hl hS (by decide +kernel) (by decide +kernel) (by decide +kernel) (by decide +kernel) (by decide +kernel) ?_
  refine pz_crV Y hcs (v_X11_along (Nat.le_of_ble_eq_true rfl) (Nat.le_of_ble_eq_true rfl) (by decide +kernel)) H locs ls M [.inr (.inr (11, 0)), .inl (xs (i + 1)).toInt, .inl (xs (i + 2)).toInt, .inl (xs (i + 3)).toInt] [] 936 (by decide +kernel) hP hS hM ?_ hl.1 rfl (Nat.le_of_ble_eq_true rfl) (hI) (fun r M1 H1 locs1 hq hr hP1 hS1 hM1 => ?_)
  · skip
    exact (List.forall_mem_cons.mpr ⟨(show pz_kd 0 = 11 ∧ 0 < 231 from by decide), (List.forall_mem_cons.mpr ⟨(pz_tc _), (List.forall_mem_cons.mpr ⟨(pz_tc _), (List.forall_mem_cons.mpr ⟨(pz_tc _), List.forall_mem_nil _⟩)⟩)⟩)⟩)
  obtain ⟨w936, rfl, -⟩ := hr
  have hq : (_) ∧ _ := hq
  obtain ⟨q936, z936⟩ := hq
  have hJ1 : pz_im M1 := pz_im_cg (z936.1).2 hJ
  have hI1 : pz_ic M1 := (z936.1).1 hI
  clear hP hS hM hI hJ
  have hI := hI1
  have hJ := hJ1
  clear hI1 hJ1
  clear q936 z936
  have hP := hP1
  have hS := hS1
  have hM := hM1
  clear hP1 hS1 hM1
  skip
  obtain ⟨H, rfl⟩ : ∃ z, z = H1 := ⟨_, rfl⟩
  obtain ⟨locs, rfl⟩ : ∃ z, z = locs1 := ⟨_, rfl⟩
  obtain ⟨M, rfl⟩ : ∃ z, z = M1 := ⟨_, rfl⟩
  refine lv_pop hx hb (by decide +kernel) rfl ?_
  refine lv_aload_n hx hb (k := 2) (by decide +kernel) rfl (lv_at hl 2 rfl) ?_
  refine pz_la Y hX hbl hbA hL (i := i) (k := 1) (by omega) hl hS (by decide +kernel) (by decide +kernel) (by decide +kernel) (by decide +kernel) (by decide +kernel) ?_
  refine pz_la Y hX hbl hbA hL (i := i) (k := 2) (by omega) hl hS (by decide +kernel) (by decide +kernel) (by decide +kernel) (by decide +kernel) (by decide +kernel) ?_
  refine pz_la Y hX hbl hbA hL (i := i) (k := 3) (by omega) hl hS (by decide +kernel) (by decide +kernel) (by decide +kernel) (by decide +kernel) (by decide +kernel) ?_
  refine pz_crV Y hcs (v_X12_along (Nat.le_of_ble_eq_true rfl) (Nat.le_of_ble_eq_true rfl) (by decide +kernel)) H locs ls M [.inr (.inr (12, 1)), .inl (xs (i + 1)).toInt, .inl (xs (i + 2)).toInt, .inl (xs (i + 3)).toInt] [] 956 (by decide +kernel) hP hS hM ?_ hl.1 rfl (Nat.le_of_ble_eq_true rfl) (hJ) (fun r M1 H1 locs1 hq hr hP1 hS1 hM1 => ?_)
  · skip
    exact (List.forall_mem_cons.mpr ⟨(show pz_kd 1 = 12 ∧ 1 < 231 from by decide), (List.forall_mem_cons.mpr ⟨(pz_tc _), (List.forall_mem_cons.mpr ⟨(pz_tc _), (List.forall_mem_cons.mpr ⟨(pz_tc _), List.forall_mem_nil _⟩)⟩)⟩)⟩)
  obtain ⟨w956, rfl, -⟩ := hr
  have hq : (_) ∧ _ := hq
  obtain ⟨q956, z956⟩ := hq
  have hI1 : pz_ic M1 := pz_ic_cg (z956.1.1).2 hI
  have hJ1 : pz_im M1 := (z956.1.1).1 hJ
  clear hP hS hM hI hJ
  have hI := hI1
  have hJ := hJ1
  clear hI1 hJ1
  clear q956 z956
  have hP := hP1
  have hS := hS1
  have hM := hM1
  clear hP1 hS1 hM1
  skip
  obtain ⟨H, rfl⟩ : ∃ z, z = H1 := ⟨_, rfl⟩
  obtain ⟨locs, rfl⟩ : ∃ z, z = locs1 := ⟨_, rfl⟩
  obtain ⟨M, rfl⟩ : ∃ z, z = M1 := ⟨_, rfl⟩
  refine lv_pop hx hb (by decide +kernel) rfl ?_
  refine lv_goto (tgt := 1407) hx hb (by decide +kernel) (by decide) ?_
  exact K _ _ _ hI hJ hP hS hM
set_option maxRecDepth 100000 in
set_option maxHeartbeats 4000000 in
theorem pz_case23 (Y : pz_Y p s m #[Value.ref b] c code R_law 4 D ad adV cy A) (hcs : cells ≤ room_1.cells ∧ slots ≤ room_1.slots) (hX : va_X b L xs s s.heap) (hbl : b < s.heap.size) (hbA : ¬ A b) (hL : L ≤ 3072) {i : Nat} (hi : i + 6 ≤ L) {H : Heap} {locs : List Loc} {ls : Array Slot} {M : pz_M} (hl : lv_has ls 4 [(0, .ref b), (1, .ref (ad 0)), (2, .ref (ad 1)), (3, .int (Int32.ofNat i))]) (hP : va_P D vwCl (pz_ws ad cy M) H) (hS : va_S A s.heap H locs) (hM : ∀ a k : Nat, pz_c (M a k)) (hI : pz_ic M) (hJ : pz_im M) (K : ∀ (M9 : pz_M) (H9 : Heap) (locs9 : List Loc), pz_ic M9 → pz_im M9 → va_P D vwCl (pz_ws ad cy M9) H9 → va_S A s.heap H9 locs9 → (∀ a k : Nat, pz_c (M9 a k)) → W p l e room_1 s m #[Value.ref b] below meth c H9 locs9 cells slots Q (F0 m 1407 ls [])) : W p l e room_1 s m #[Value.ref b] below meth c H locs cells slots Q (F0 m 963 ls []) := by
  have Y0 := Y
  obtain ⟨hx, hb, hml, hown, hts, hXX⟩ := Y0
  refine lv_aload_n hx hb (k := 1) (by decide +kernel) rfl (lv_at hl 1 rfl) ?_
  refine pz_la Y hX hbl hbA hL (i := i) (k := 1) (by omega) hl hS (by decide +kernel) (by decide +kernel) (by decide +kernel) (by decide +kernel) (by decide +kernel) ?_
  refine pz_la Y hX hbl hbA hL (i := i) (k := 2) (by omega) hl hS (by decide +kernel) (by decide +kernel) (by decide +kernel) (by decide +kernel) (by decide +kernel) ?_
  refine pz_la Y hX hbl hbA hL (i := i) (k := 3) (by omega) hl hS (by decide +kernel) (by decide +kernel) (by decide +kernel) (by decide +kernel) (by decide +kernel) ?_
  refine pz_la Y hX hbl hbA hL (i := i) (k := 4) (by omega) hl hS (by decide +kernel) (by decide +kernel) (by decide +kernel) (by decide +kernel) (by decide +kernel) ?_
  refine pz_crV Y hcs (v_X11_choice (Nat.le_of_ble_eq_true rfl) (Nat.le_of_ble_eq_true rfl) (by decide +kernel)) H locs ls M [.inr (.inr (11, 0)), .inl (xs (i + 1)).toInt, .inl (xs (i + 2)).toInt, .inl (xs (i + 3)).toInt, .inl (xs (i + 4)).toInt] [] 984 (by decide +kernel) hP hS hM ?_ hl.1 rfl (Nat.le_of_ble_eq_true rfl) (hI) (fun r M1 H1 locs1 hq hr hP1 hS1 hM1 => ?_)
  · skip
    exact (List.forall_mem_cons.mpr ⟨(show pz_kd 0 = 11 ∧ 0 < 231 from by decide), (List.forall_mem_cons.mpr ⟨(pz_tc _), (List.forall_mem_cons.mpr ⟨(pz_tc _), (List.forall_mem_cons.mpr ⟨(pz_tc _), (List.forall_mem_cons.mpr ⟨(pz_tc _), List.forall_mem_nil _⟩)⟩)⟩)⟩)⟩)
  obtain ⟨w984, rfl, -⟩ := hr
  have hq : (_) ∧ _ := hq
  obtain ⟨q984, z984⟩ := hq
  have hJ1 : pz_im M1 := pz_im_cg (z984.1).2 hJ
  have hI1 : pz_ic M1 := (z984.1).1 hI
  clear hP hS hM hI hJ
  have hI := hI1
  have hJ := hJ1
  clear hI1 hJ1
  clear q984 z984
  have hP := hP1
  have hS := hS1
  have hM := hM1
  clear hP1 hS1 hM1
  skip
  obtain ⟨H, rfl⟩ : ∃ z, z = H1 := ⟨_, rfl⟩
  obtain ⟨locs, rfl⟩ : ∃ z, z = locs1 := ⟨_, rfl⟩
  obtain ⟨M, rfl⟩ : ∃ z, z = M1 := ⟨_, rfl⟩
  refine lv_pop hx hb (by decide +kernel) rfl ?_
  refine lv_aload_n hx hb (k := 2) (by decide +kernel) rfl (lv_at hl 2 rfl) ?_
  refine pz_la Y hX hbl hbA hL (i := i) (k := 1) (by omega) hl hS (by decide +kernel) (by decide +kernel) (by decide +kernel) (by decide +kernel) (by decide +kernel) ?_
  refine pz_la Y hX hbl hbA hL (i := i) (k := 2) (by omega) hl hS (by decide +kernel) (by decide +kernel) (by decide +kernel) (by decide +kernel) (by decide +kernel) ?_
  refine pz_la Y hX hbl hbA hL (i := i) (k := 3) (by omega) hl hS (by decide +kernel) (by decide +kernel) (by decide +kernel) (by decide +kernel) (by decide +kernel) ?_
  refine pz_la Y hX hbl hbA hL (i := i) (k := 4) (by omega) hl hS (by decide +kernel) (by decide +kernel) (by decide +kernel) (by decide +kernel) (by decide +kernel) ?_
  refine pz_crV Y hcs (v_X12_choice (Nat.le_of_ble_eq_true rfl) (Nat.le_of_ble_eq_true rfl) (by decide +kernel)) H locs ls M [.inr (.inr (12, 1)), .inl (xs (i + 1)).toInt, .inl (xs (i + 2)).toInt, .inl (xs (i + 3)).toInt, .inl (xs (i + 4)).toInt] [] 1009 (by decide +kernel) hP hS hM ?_ hl.1 rfl (Nat.le_of_ble_eq_true rfl) (hJ) (fun r M1 H1 locs1 hq hr hP1 hS1 hM1 => ?_)
  · skip
    exact (List.forall_mem_cons.mpr ⟨(show pz_kd 1 = 12 ∧ 1 < 231 from by decide), (List.forall_mem_cons.mpr ⟨(pz_tc _), (List.forall_mem_cons.mpr ⟨(pz_tc _), (List.forall_mem_cons.mpr ⟨(pz_tc _), (List.forall_mem_cons.mpr ⟨(pz_tc _), List.forall_mem_nil _⟩)⟩)⟩)⟩)⟩)
  obtain ⟨w1009, rfl, -⟩ := hr
  have hq : (_) ∧ _ := hq
  obtain ⟨q1009, z1009⟩ := hq
  have hI1 : pz_ic M1 := pz_ic_cg (z1009.1.1).2 hI
  have hJ1 : pz_im M1 := (z1009.1.1).1 hJ
  clear hP hS hM hI hJ
  have hI := hI1
  have hJ := hJ1
  clear hI1 hJ1
  clear q1009 z1009
  have hP := hP1
  have hS := hS1
  have hM := hM1
  clear hP1 hS1 hM1
  skip
  obtain ⟨H, rfl⟩ : ∃ z, z = H1 := ⟨_, rfl⟩
  obtain ⟨locs, rfl⟩ : ∃ z, z = locs1 := ⟨_, rfl⟩
  obtain ⟨M, rfl⟩ : ∃ z, z = M1 := ⟨_, rfl⟩
  refine lv_pop hx hb (by decide +kernel) rfl ?_
  refine lv_goto (tgt := 1407) hx hb (by decide +kernel) (by decide) ?_
  exact K _ _ _ hI hJ hP hS hM
set_option maxRecDepth 100000 in
set_option maxHeartbeats 4000000 in
theorem pz_case24 (Y : pz_Y p s m #[Value.ref b] c code R_law 4 D ad adV cy A) (hcs : cells ≤ room_1.cells ∧ slots ≤ room_1.slots) (hX : va_X b L xs s s.heap) (hbl : b < s.heap.size) (hbA : ¬ A b) (hL : L ≤ 3072) {i : Nat} (hi : i + 6 ≤ L) {H : Heap} {locs : List Loc} {ls : Array Slot} {M : pz_M} (hl : lv_has ls 4 [(0, .ref b), (1, .ref (ad 0)), (2, .ref (ad 1)), (3, .int (Int32.ofNat i))]) (hP : va_P D vwCl (pz_ws ad cy M) H) (hS : va_S A s.heap H locs) (hM : ∀ a k : Nat, pz_c (M a k)) (hI : pz_ic M) (hJ : pz_im M) (K : ∀ (M9 : pz_M) (H9 : Heap) (locs9 : List Loc), pz_ic M9 → pz_im M9 → va_P D vwCl (pz_ws ad cy M9) H9 → va_S A s.heap H9 locs9 → (∀ a k : Nat, pz_c (M9 a k)) → W p l e room_1 s m #[Value.ref b] below meth c H9 locs9 cells slots Q (F0 m 1407 ls [])) : W p l e room_1 s m #[Value.ref b] below meth c H locs cells slots Q (F0 m 1016 ls []) := by
  have Y0 := Y
  obtain ⟨hx, hb, hml, hown, hts, hXX⟩ := Y0
  refine lv_aload_n hx hb (k := 1) (by decide +kernel) rfl (lv_at hl 1 rfl) ?_
  refine pz_la Y hX hbl hbA hL (i := i) (k := 1) (by omega) hl hS (by decide +kernel) (by decide +kernel) (by decide +kernel) (by decide +kernel) (by decide +kernel) ?_
  refine pz_la Y hX hbl hbA hL (i := i) (k := 2) (by omega) hl hS (by decide +kernel) (by decide +kernel) (by decide +kernel) (by decide +kernel) (by decide +kernel) ?_
  refine pz_la Y hX hbl hbA hL (i := i) (k := 3) (by omega) hl hS (by decide +kernel) (by decide +kernel) (by decide +kernel) (by decide +kernel) (by decide +kernel) ?_
  refine pz_crV Y hcs (v_X11_bluff (Nat.le_of_ble_eq_true rfl) (Nat.le_of_ble_eq_true rfl) (by decide +kernel)) H locs ls M [.inr (.inr (11, 0)), .inl (xs (i + 1)).toInt, .inl (xs (i + 2)).toInt, .inl (xs (i + 3)).toInt] [] 1032 (by decide +kernel) hP hS hM ?_ hl.1 rfl (Nat.le_of_ble_eq_true rfl) (hI) (fun r M1 H1 locs1 hq hr hP1 hS1 hM1 => ?_)
  · skip
    exact (List.forall_mem_cons.mpr ⟨(show pz_kd 0 = 11 ∧ 0 < 231 from by decide), (List.forall_mem_cons.mpr ⟨(pz_tc _), (List.forall_mem_cons.mpr ⟨(pz_tc _), (List.forall_mem_cons.mpr ⟨(pz_tc _), List.forall_mem_nil _⟩)⟩)⟩)⟩)
  obtain ⟨w1032, rfl, -⟩ := hr
  have hq : (_) ∧ _ := hq
  obtain ⟨q1032, z1032⟩ := hq
  subst z1032
  clear hP hS hM
  have hP := hP1
  have hS := hS1
  have hM := hM1
  clear hP1 hS1 hM1
  obtain ⟨H, rfl⟩ : ∃ z, z = H1 := ⟨_, rfl⟩
  obtain ⟨locs, rfl⟩ : ∃ z, z = locs1 := ⟨_, rfl⟩
  refine lv_aload_n hx hb (k := 2) (by decide +kernel) rfl (lv_at hl 2 rfl) ?_
  refine pz_la Y hX hbl hbA hL (i := i) (k := 1) (by omega) hl hS (by decide +kernel) (by decide +kernel) (by decide +kernel) (by decide +kernel) (by decide +kernel) ?_
  refine pz_la Y hX hbl hbA hL (i := i) (k := 2) (by omega) hl hS (by decide +kernel) (by decide +kernel) (by decide +kernel) (by decide +kernel) (by decide +kernel) ?_
  refine pz_la Y hX hbl hbA hL (i := i) (k := 3) (by omega) hl hS (by decide +kernel) (by decide +kernel) (by decide +kernel) (by decide +kernel) (by decide +kernel) ?_
  refine pz_crV Y hcs (v_X12_bluff (Nat.le_of_ble_eq_true rfl) (Nat.le_of_ble_eq_true rfl) (by decide +kernel)) H locs ls M [.inr (.inr (12, 1)), .inl (xs (i + 1)).toInt, .inl (xs (i + 2)).toInt, .inl (xs (i + 3)).toInt] [.inl w1032] 1051 (by decide +kernel) hP hS hM ?_ hl.1 rfl (Nat.le_of_ble_eq_true rfl) (hJ) (fun r M1 H1 locs1 hq hr hP1 hS1 hM1 => ?_)
  · skip
    exact (List.forall_mem_cons.mpr ⟨(show pz_kd 1 = 12 ∧ 1 < 231 from by decide), (List.forall_mem_cons.mpr ⟨(pz_tc _), (List.forall_mem_cons.mpr ⟨(pz_tc _), (List.forall_mem_cons.mpr ⟨(pz_tc _), List.forall_mem_nil _⟩)⟩)⟩)⟩)
  obtain ⟨w1051, rfl, -⟩ := hr
  have hq : (_) ∧ _ := hq
  obtain ⟨q1051, z1051⟩ := hq
  subst z1051
  clear hP hS hM
  have hP := hP1
  have hS := hS1
  have hM := hM1
  clear hP1 hS1 hM1
  obtain ⟨H, rfl⟩ : ∃ z, z = H1 := ⟨_, rfl⟩
  obtain ⟨locs, rfl⟩ : ∃ z, z = locs1 := ⟨_, rfl⟩
  refine lv_icmp_eq (tgt := 1407) hx hb (by decide +kernel) (by decide) (fun _ => ?_) (fun q9 => absurd (by rw [q1032, q1051]) q9)
  exact K _ _ _ hI hJ hP hS hM
set_option maxRecDepth 100000 in
set_option maxHeartbeats 4000000 in
theorem pz_case25 (Y : pz_Y p s m #[Value.ref b] c code R_law 4 D ad adV cy A) (hcs : cells ≤ room_1.cells ∧ slots ≤ room_1.slots) (hX : va_X b L xs s s.heap) (hbl : b < s.heap.size) (hbA : ¬ A b) (hL : L ≤ 3072) {i : Nat} (hi : i + 6 ≤ L) {H : Heap} {locs : List Loc} {ls : Array Slot} {M : pz_M} (hl : lv_has ls 4 [(0, .ref b), (1, .ref (ad 0)), (2, .ref (ad 1)), (3, .int (Int32.ofNat i))]) (hP : va_P D vwCl (pz_ws ad cy M) H) (hS : va_S A s.heap H locs) (hM : ∀ a k : Nat, pz_c (M a k)) (hI : pz_ic M) (hJ : pz_im M) (K : ∀ (M9 : pz_M) (H9 : Heap) (locs9 : List Loc), pz_ic M9 → pz_im M9 → va_P D vwCl (pz_ws ad cy M9) H9 → va_S A s.heap H9 locs9 → (∀ a k : Nat, pz_c (M9 a k)) → W p l e room_1 s m #[Value.ref b] below meth c H9 locs9 cells slots Q (F0 m 1407 ls [])) : W p l e room_1 s m #[Value.ref b] below meth c H locs cells slots Q (F0 m 1059 ls []) := by
  have Y0 := Y
  obtain ⟨hx, hb, hml, hown, hts, hXX⟩ := Y0
  refine lv_aload_n hx hb (k := 1) (by decide +kernel) rfl (lv_at hl 1 rfl) ?_
  refine pz_la Y hX hbl hbA hL (i := i) (k := 1) (by omega) hl hS (by decide +kernel) (by decide +kernel) (by decide +kernel) (by decide +kernel) (by decide +kernel) ?_
  refine pz_crV Y hcs (v_X11_signs (Nat.le_of_ble_eq_true rfl) (Nat.le_of_ble_eq_true rfl) (by decide +kernel)) H locs ls M [.inr (.inr (11, 0)), .inl (xs (i + 1)).toInt] [] 1065 (by decide +kernel) hP hS hM ?_ hl.1 rfl (Nat.le_of_ble_eq_true rfl) (hI) (fun r M1 H1 locs1 hq hr hP1 hS1 hM1 => ?_)
  · skip
    exact (List.forall_mem_cons.mpr ⟨(show pz_kd 0 = 11 ∧ 0 < 231 from by decide), (List.forall_mem_cons.mpr ⟨(pz_tc _), List.forall_mem_nil _⟩)⟩)
  obtain ⟨w1065, rfl, -⟩ := hr
  have hq : (_) ∧ _ := hq
  obtain ⟨q1065, z1065⟩ := hq
  have hJ1 : pz_im M1 := pz_im_cg (z1065.1).2 hJ
  have hI1 : pz_ic M1 := (z1065.1).1 hI
  clear hP hS hM hI hJ
  have hI := hI1
  have hJ := hJ1
  clear hI1 hJ1
  clear q1065 z1065
  have hP := hP1
  have hS := hS1
  have hM := hM1
  clear hP1 hS1 hM1
  skip
  obtain ⟨H, rfl⟩ : ∃ z, z = H1 := ⟨_, rfl⟩
  obtain ⟨locs, rfl⟩ : ∃ z, z = locs1 := ⟨_, rfl⟩
  obtain ⟨M, rfl⟩ : ∃ z, z = M1 := ⟨_, rfl⟩
  refine lv_pop hx hb (by decide +kernel) rfl ?_
  refine lv_aload_n hx hb (k := 2) (by decide +kernel) rfl (lv_at hl 2 rfl) ?_
  refine pz_la Y hX hbl hbA hL (i := i) (k := 1) (by omega) hl hS (by decide +kernel) (by decide +kernel) (by decide +kernel) (by decide +kernel) (by decide +kernel) ?_
  refine pz_crV Y hcs (v_X12_signs (Nat.le_of_ble_eq_true rfl) (Nat.le_of_ble_eq_true rfl) (by decide +kernel)) H locs ls M [.inr (.inr (12, 1)), .inl (xs (i + 1)).toInt] [] 1075 (by decide +kernel) hP hS hM ?_ hl.1 rfl (Nat.le_of_ble_eq_true rfl) (hJ) (fun r M1 H1 locs1 hq hr hP1 hS1 hM1 => ?_)
  · skip
    exact (List.forall_mem_cons.mpr ⟨(show pz_kd 1 = 12 ∧ 1 < 231 from by decide), (List.forall_mem_cons.mpr ⟨(pz_tc _), List.forall_mem_nil _⟩)⟩)
  obtain ⟨w1075, rfl, -⟩ := hr
  have hq : (_) ∧ _ := hq
  obtain ⟨q1075, z1075⟩ := hq
  have hI1 : pz_ic M1 := pz_ic_cg (z1075.1.1).2 hI
  have hJ1 : pz_im M1 := (z1075.1.1).1 hJ
  clear hP hS hM hI hJ
  have hI := hI1
  have hJ := hJ1
  clear hI1 hJ1
  clear q1075 z1075
  have hP := hP1
  have hS := hS1
  have hM := hM1
  clear hP1 hS1 hM1
  skip
  obtain ⟨H, rfl⟩ : ∃ z, z = H1 := ⟨_, rfl⟩
  obtain ⟨locs, rfl⟩ : ∃ z, z = locs1 := ⟨_, rfl⟩
  obtain ⟨M, rfl⟩ : ∃ z, z = M1 := ⟨_, rfl⟩
  refine lv_pop hx hb (by decide +kernel) rfl ?_
  refine lv_goto (tgt := 1407) hx hb (by decide +kernel) (by decide) ?_
  exact K _ _ _ hI hJ hP hS hM
set_option maxRecDepth 100000 in
set_option maxHeartbeats 4000000 in
theorem pz_case26 (Y : pz_Y p s m #[Value.ref b] c code R_law 4 D ad adV cy A) (hcs : cells ≤ room_1.cells ∧ slots ≤ room_1.slots) (hX : va_X b L xs s s.heap) (hbl : b < s.heap.size) (hbA : ¬ A b) (hL : L ≤ 3072) {i : Nat} (hi : i + 6 ≤ L) {H : Heap} {locs : List Loc} {ls : Array Slot} {M : pz_M} (hl : lv_has ls 4 [(0, .ref b), (1, .ref (ad 0)), (2, .ref (ad 1)), (3, .int (Int32.ofNat i))]) (hP : va_P D vwCl (pz_ws ad cy M) H) (hS : va_S A s.heap H locs) (hM : ∀ a k : Nat, pz_c (M a k)) (hI : pz_ic M) (hJ : pz_im M) (K : ∀ (M9 : pz_M) (H9 : Heap) (locs9 : List Loc), pz_ic M9 → pz_im M9 → va_P D vwCl (pz_ws ad cy M9) H9 → va_S A s.heap H9 locs9 → (∀ a k : Nat, pz_c (M9 a k)) → W p l e room_1 s m #[Value.ref b] below meth c H9 locs9 cells slots Q (F0 m 1407 ls [])) : W p l e room_1 s m #[Value.ref b] below meth c H locs cells slots Q (F0 m 1082 ls []) := by
  have Y0 := Y
  obtain ⟨hx, hb, hml, hown, hts, hXX⟩ := Y0
  refine lv_aload_n hx hb (k := 1) (by decide +kernel) rfl (lv_at hl 1 rfl) ?_
  refine pz_la Y hX hbl hbA hL (i := i) (k := 1) (by omega) hl hS (by decide +kernel) (by decide +kernel) (by decide +kernel) (by decide +kernel) (by decide +kernel) ?_
  refine pz_la Y hX hbl hbA hL (i := i) (k := 2) (by omega) hl hS (by decide +kernel) (by decide +kernel) (by decide +kernel) (by decide +kernel) (by decide +kernel) ?_
  refine pz_crV Y hcs (v_X11_money (Nat.le_of_ble_eq_true rfl) (Nat.le_of_ble_eq_true rfl) (by decide +kernel)) H locs ls M [.inr (.inr (11, 0)), .inl (xs (i + 1)).toInt, .inl (xs (i + 2)).toInt] [] 1093 (by decide +kernel) hP hS hM ?_ hl.1 rfl (Nat.le_of_ble_eq_true rfl) (hI) (fun r M1 H1 locs1 hq hr hP1 hS1 hM1 => ?_)
  · skip
    exact (List.forall_mem_cons.mpr ⟨(show pz_kd 0 = 11 ∧ 0 < 231 from by decide), (List.forall_mem_cons.mpr ⟨(pz_tc _), (List.forall_mem_cons.mpr ⟨(pz_tc _), List.forall_mem_nil _⟩)⟩)⟩)
  obtain ⟨w1093, rfl, -⟩ := hr
  have hq : (_) ∧ _ := hq
  obtain ⟨q1093, z1093⟩ := hq
  subst z1093
  clear hP hS hM
  have hP := hP1
  have hS := hS1
  have hM := hM1
  clear hP1 hS1 hM1
  obtain ⟨H, rfl⟩ : ∃ z, z = H1 := ⟨_, rfl⟩
  obtain ⟨locs, rfl⟩ : ∃ z, z = locs1 := ⟨_, rfl⟩
  refine lv_pop hx hb (by decide +kernel) rfl ?_
  refine lv_aload_n hx hb (k := 2) (by decide +kernel) rfl (lv_at hl 2 rfl) ?_
  refine pz_la Y hX hbl hbA hL (i := i) (k := 1) (by omega) hl hS (by decide +kernel) (by decide +kernel) (by decide +kernel) (by decide +kernel) (by decide +kernel) ?_
  refine pz_la Y hX hbl hbA hL (i := i) (k := 2) (by omega) hl hS (by decide +kernel) (by decide +kernel) (by decide +kernel) (by decide +kernel) (by decide +kernel) ?_
  refine pz_crV Y hcs (v_X12_money (Nat.le_of_ble_eq_true rfl) (Nat.le_of_ble_eq_true rfl) (by decide +kernel)) H locs ls M [.inr (.inr (12, 1)), .inl (xs (i + 1)).toInt, .inl (xs (i + 2)).toInt] [] 1108 (by decide +kernel) hP hS hM ?_ hl.1 rfl (Nat.le_of_ble_eq_true rfl) (hJ) (fun r M1 H1 locs1 hq hr hP1 hS1 hM1 => ?_)
  · skip
    exact (List.forall_mem_cons.mpr ⟨(show pz_kd 1 = 12 ∧ 1 < 231 from by decide), (List.forall_mem_cons.mpr ⟨(pz_tc _), (List.forall_mem_cons.mpr ⟨(pz_tc _), List.forall_mem_nil _⟩)⟩)⟩)
  obtain ⟨w1108, rfl, -⟩ := hr
  have hq : (_) ∧ _ := hq
  obtain ⟨q1108, z1108⟩ := hq
  subst z1108
  clear hP hS hM
  have hP := hP1
  have hS := hS1
  have hM := hM1
  clear hP1 hS1 hM1
  obtain ⟨H, rfl⟩ : ∃ z, z = H1 := ⟨_, rfl⟩
  obtain ⟨locs, rfl⟩ : ∃ z, z = locs1 := ⟨_, rfl⟩
  refine lv_pop hx hb (by decide +kernel) rfl ?_
  refine lv_goto (tgt := 1407) hx hb (by decide +kernel) (by decide) ?_
  exact K _ _ _ hI hJ hP hS hM
set_option maxRecDepth 100000 in
set_option maxHeartbeats 4000000 in
theorem pz_case27 (Y : pz_Y p s m #[Value.ref b] c code R_law 4 D ad adV cy A) (hcs : cells ≤ room_1.cells ∧ slots ≤ room_1.slots) (hX : va_X b L xs s s.heap) (hbl : b < s.heap.size) (hbA : ¬ A b) (hL : L ≤ 3072) {i : Nat} (hi : i + 6 ≤ L) {H : Heap} {locs : List Loc} {ls : Array Slot} {M : pz_M} (hl : lv_has ls 4 [(0, .ref b), (1, .ref (ad 0)), (2, .ref (ad 1)), (3, .int (Int32.ofNat i))]) (hP : va_P D vwCl (pz_ws ad cy M) H) (hS : va_S A s.heap H locs) (hM : ∀ a k : Nat, pz_c (M a k)) (hI : pz_ic M) (hJ : pz_im M) (K : ∀ (M9 : pz_M) (H9 : Heap) (locs9 : List Loc), pz_ic M9 → pz_im M9 → va_P D vwCl (pz_ws ad cy M9) H9 → va_S A s.heap H9 locs9 → (∀ a k : Nat, pz_c (M9 a k)) → W p l e room_1 s m #[Value.ref b] below meth c H9 locs9 cells slots Q (F0 m 1407 ls [])) : W p l e room_1 s m #[Value.ref b] below meth c H locs cells slots Q (F0 m 1115 ls []) := by
  have Y0 := Y
  obtain ⟨hx, hb, hml, hown, hts, hXX⟩ := Y0
  refine lv_aload_n hx hb (k := 1) (by decide +kernel) rfl (lv_at hl 1 rfl) ?_
  refine pz_la Y hX hbl hbA hL (i := i) (k := 1) (by omega) hl hS (by decide +kernel) (by decide +kernel) (by decide +kernel) (by decide +kernel) (by decide +kernel) ?_
  refine pz_la Y hX hbl hbA hL (i := i) (k := 2) (by omega) hl hS (by decide +kernel) (by decide +kernel) (by decide +kernel) (by decide +kernel) (by decide +kernel) ?_
  refine pz_crV Y hcs (v_X11_ill (Nat.le_of_ble_eq_true rfl) (Nat.le_of_ble_eq_true rfl) (by decide +kernel)) H locs ls M [.inr (.inr (11, 0)), .inl (xs (i + 1)).toInt, .inl (xs (i + 2)).toInt] [] 1126 (by decide +kernel) hP hS hM ?_ hl.1 rfl (Nat.le_of_ble_eq_true rfl) (hI) (fun r M1 H1 locs1 hq hr hP1 hS1 hM1 => ?_)
  · skip
    exact (List.forall_mem_cons.mpr ⟨(show pz_kd 0 = 11 ∧ 0 < 231 from by decide), (List.forall_mem_cons.mpr ⟨(pz_tc _), (List.forall_mem_cons.mpr ⟨(pz_tc _), List.forall_mem_nil _⟩)⟩)⟩)
  obtain ⟨w1126, rfl, -⟩ := hr
  have hq : (_) ∧ _ := hq
  obtain ⟨q1126, z1126⟩ := hq
  subst z1126
  clear hP hS hM
  have hP := hP1
  have hS := hS1
  have hM := hM1
  clear hP1 hS1 hM1
  obtain ⟨H, rfl⟩ : ∃ z, z = H1 := ⟨_, rfl⟩
  obtain ⟨locs, rfl⟩ : ∃ z, z = locs1 := ⟨_, rfl⟩
  refine lv_pop hx hb (by decide +kernel) rfl ?_
  refine lv_aload_n hx hb (k := 2) (by decide +kernel) rfl (lv_at hl 2 rfl) ?_
  refine pz_la Y hX hbl hbA hL (i := i) (k := 1) (by omega) hl hS (by decide +kernel) (by decide +kernel) (by decide +kernel) (by decide +kernel) (by decide +kernel) ?_
  refine pz_la Y hX hbl hbA hL (i := i) (k := 2) (by omega) hl hS (by decide +kernel) (by decide +kernel) (by decide +kernel) (by decide +kernel) (by decide +kernel) ?_
  refine pz_crV Y hcs (v_X12_ill (Nat.le_of_ble_eq_true rfl) (Nat.le_of_ble_eq_true rfl) (by decide +kernel)) H locs ls M [.inr (.inr (12, 1)), .inl (xs (i + 1)).toInt, .inl (xs (i + 2)).toInt] [] 1141 (by decide +kernel) hP hS hM ?_ hl.1 rfl (Nat.le_of_ble_eq_true rfl) (hJ) (fun r M1 H1 locs1 hq hr hP1 hS1 hM1 => ?_)
  · skip
    exact (List.forall_mem_cons.mpr ⟨(show pz_kd 1 = 12 ∧ 1 < 231 from by decide), (List.forall_mem_cons.mpr ⟨(pz_tc _), (List.forall_mem_cons.mpr ⟨(pz_tc _), List.forall_mem_nil _⟩)⟩)⟩)
  obtain ⟨w1141, rfl, -⟩ := hr
  have hq : (_) ∧ _ := hq
  obtain ⟨q1141, z1141⟩ := hq
  subst z1141
  clear hP hS hM
  have hP := hP1
  have hS := hS1
  have hM := hM1
  clear hP1 hS1 hM1
  obtain ⟨H, rfl⟩ : ∃ z, z = H1 := ⟨_, rfl⟩
  obtain ⟨locs, rfl⟩ : ∃ z, z = locs1 := ⟨_, rfl⟩
  refine lv_pop hx hb (by decide +kernel) rfl ?_
  refine lv_goto (tgt := 1407) hx hb (by decide +kernel) (by decide) ?_
  exact K _ _ _ hI hJ hP hS hM
set_option maxRecDepth 100000 in
set_option maxHeartbeats 4000000 in
theorem pz_case28 (Y : pz_Y p s m #[Value.ref b] c code R_law 4 D ad adV cy A) (hcs : cells ≤ room_1.cells ∧ slots ≤ room_1.slots) (hX : va_X b L xs s s.heap) (hbl : b < s.heap.size) (hbA : ¬ A b) (hL : L ≤ 3072) {i : Nat} (hi : i + 6 ≤ L) {H : Heap} {locs : List Loc} {ls : Array Slot} {M : pz_M} (hl : lv_has ls 4 [(0, .ref b), (1, .ref (ad 0)), (2, .ref (ad 1)), (3, .int (Int32.ofNat i))]) (hP : va_P D vwCl (pz_ws ad cy M) H) (hS : va_S A s.heap H locs) (hM : ∀ a k : Nat, pz_c (M a k)) (hI : pz_ic M) (hJ : pz_im M) (K : ∀ (M9 : pz_M) (H9 : Heap) (locs9 : List Loc), pz_ic M9 → pz_im M9 → va_P D vwCl (pz_ws ad cy M9) H9 → va_S A s.heap H9 locs9 → (∀ a k : Nat, pz_c (M9 a k)) → W p l e room_1 s m #[Value.ref b] below meth c H9 locs9 cells slots Q (F0 m 1407 ls [])) : W p l e room_1 s m #[Value.ref b] below meth c H locs cells slots Q (F0 m 1148 ls []) := by
  have Y0 := Y
  obtain ⟨hx, hb, hml, hown, hts, hXX⟩ := Y0
  refine lv_aload_n hx hb (k := 1) (by decide +kernel) rfl (lv_at hl 1 rfl) ?_
  refine pz_crV Y hcs (v_X11_wrote (Nat.le_of_ble_eq_true rfl) (Nat.le_of_ble_eq_true rfl) (by decide +kernel)) H locs ls M [.inr (.inr (11, 0))] [] 1149 (by decide +kernel) hP hS hM ?_ hl.1 rfl (Nat.le_of_ble_eq_true rfl) (hI) (fun r M1 H1 locs1 hq hr hP1 hS1 hM1 => ?_)
  · skip
    exact (List.forall_mem_cons.mpr ⟨(show pz_kd 0 = 11 ∧ 0 < 231 from by decide), List.forall_mem_nil _⟩)
  obtain ⟨w1149, rfl, -⟩ := hr
  have hq : (_) ∧ _ := hq
  obtain ⟨q1149, z1149⟩ := hq
  subst z1149
  clear hP hS hM
  have hP := hP1
  have hS := hS1
  have hM := hM1
  clear hP1 hS1 hM1
  obtain ⟨H, rfl⟩ : ∃ z, z = H1 := ⟨_, rfl⟩
  obtain ⟨locs, rfl⟩ : ∃ z, z = locs1 := ⟨_, rfl⟩
  refine lv_pop hx hb (by decide +kernel) rfl ?_
  refine lv_aload_n hx hb (k := 2) (by decide +kernel) rfl (lv_at hl 2 rfl) ?_
  refine pz_crV Y hcs (v_X12_wrote (Nat.le_of_ble_eq_true rfl) (Nat.le_of_ble_eq_true rfl) (by decide +kernel)) H locs ls M [.inr (.inr (12, 1))] [] 1154 (by decide +kernel) hP hS hM ?_ hl.1 rfl (Nat.le_of_ble_eq_true rfl) (hJ) (fun r M1 H1 locs1 hq hr hP1 hS1 hM1 => ?_)
  · skip
    exact (List.forall_mem_cons.mpr ⟨(show pz_kd 1 = 12 ∧ 1 < 231 from by decide), List.forall_mem_nil _⟩)
  obtain ⟨w1154, rfl, -⟩ := hr
  have hq : (_) ∧ _ := hq
  obtain ⟨q1154, z1154⟩ := hq
  subst z1154
  clear hP hS hM
  have hP := hP1
  have hS := hS1
  have hM := hM1
  clear hP1 hS1 hM1
  obtain ⟨H, rfl⟩ : ∃ z, z = H1 := ⟨_, rfl⟩
  obtain ⟨locs, rfl⟩ : ∃ z, z = locs1 := ⟨_, rfl⟩
  refine lv_pop hx hb (by decide +kernel) rfl ?_
  refine lv_goto (tgt := 1407) hx hb (by decide +kernel) (by decide) ?_
  exact K _ _ _ hI hJ hP hS hM
set_option maxRecDepth 100000 in
set_option maxHeartbeats 4000000 in
theorem pz_case29 (Y : pz_Y p s m #[Value.ref b] c code R_law 4 D ad adV cy A) (hcs : cells ≤ room_1.cells ∧ slots ≤ room_1.slots) (hX : va_X b L xs s s.heap) (hbl : b < s.heap.size) (hbA : ¬ A b) (hL : L ≤ 3072) {i : Nat} (hi : i + 6 ≤ L) {H : Heap} {locs : List Loc} {ls : Array Slot} {M : pz_M} (hl : lv_has ls 4 [(0, .ref b), (1, .ref (ad 0)), (2, .ref (ad 1)), (3, .int (Int32.ofNat i))]) (hP : va_P D vwCl (pz_ws ad cy M) H) (hS : va_S A s.heap H locs) (hM : ∀ a k : Nat, pz_c (M a k)) (hI : pz_ic M) (hJ : pz_im M) (K : ∀ (M9 : pz_M) (H9 : Heap) (locs9 : List Loc), pz_ic M9 → pz_im M9 → va_P D vwCl (pz_ws ad cy M9) H9 → va_S A s.heap H9 locs9 → (∀ a k : Nat, pz_c (M9 a k)) → W p l e room_1 s m #[Value.ref b] below meth c H9 locs9 cells slots Q (F0 m 1407 ls [])) : W p l e room_1 s m #[Value.ref b] below meth c H locs cells slots Q (F0 m 1161 ls []) := by
  have Y0 := Y
  obtain ⟨hx, hb, hml, hown, hts, hXX⟩ := Y0
  refine lv_aload_n hx hb (k := 1) (by decide +kernel) rfl (lv_at hl 1 rfl) ?_
  refine pz_crV Y hcs (v_X11_slowest (Nat.le_of_ble_eq_true rfl) (Nat.le_of_ble_eq_true rfl) (by decide +kernel)) H locs ls M [.inr (.inr (11, 0))] [] 1162 (by decide +kernel) hP hS hM ?_ hl.1 rfl (Nat.le_of_ble_eq_true rfl) (hI) (fun r M1 H1 locs1 hq hr hP1 hS1 hM1 => ?_)
  · skip
    exact (List.forall_mem_cons.mpr ⟨(show pz_kd 0 = 11 ∧ 0 < 231 from by decide), List.forall_mem_nil _⟩)
  obtain ⟨w1162, rfl, -⟩ := hr
  have hq : (_) ∧ _ := hq
  obtain ⟨q1162, z1162⟩ := hq
  have hJ1 : pz_im M1 := pz_im_cg (z1162.1).2 hJ
  have hI1 : pz_ic M1 := (z1162.1).1 hI
  clear hP hS hM hI hJ
  have hI := hI1
  have hJ := hJ1
  clear hI1 hJ1
  clear q1162 z1162
  have hP := hP1
  have hS := hS1
  have hM := hM1
  clear hP1 hS1 hM1
  skip
  obtain ⟨H, rfl⟩ : ∃ z, z = H1 := ⟨_, rfl⟩
  obtain ⟨locs, rfl⟩ : ∃ z, z = locs1 := ⟨_, rfl⟩
  obtain ⟨M, rfl⟩ : ∃ z, z = M1 := ⟨_, rfl⟩
  refine lv_pop hx hb (by decide +kernel) rfl ?_
  refine lv_aload_n hx hb (k := 2) (by decide +kernel) rfl (lv_at hl 2 rfl) ?_
  refine pz_crV Y hcs (v_X12_slowest (Nat.le_of_ble_eq_true rfl) (Nat.le_of_ble_eq_true rfl) (by decide +kernel)) H locs ls M [.inr (.inr (12, 1))] [] 1167 (by decide +kernel) hP hS hM ?_ hl.1 rfl (Nat.le_of_ble_eq_true rfl) (hJ) (fun r M1 H1 locs1 hq hr hP1 hS1 hM1 => ?_)
  · skip
    exact (List.forall_mem_cons.mpr ⟨(show pz_kd 1 = 12 ∧ 1 < 231 from by decide), List.forall_mem_nil _⟩)
  obtain ⟨w1167, rfl, -⟩ := hr
  have hq : (_) ∧ _ := hq
  obtain ⟨q1167, z1167⟩ := hq
  have hI1 : pz_ic M1 := pz_ic_cg (z1167.1.1).2 hI
  have hJ1 : pz_im M1 := (z1167.1.1).1 hJ
  clear hP hS hM hI hJ
  have hI := hI1
  have hJ := hJ1
  clear hI1 hJ1
  clear q1167 z1167
  have hP := hP1
  have hS := hS1
  have hM := hM1
  clear hP1 hS1 hM1
  skip
  obtain ⟨H, rfl⟩ : ∃ z, z = H1 := ⟨_, rfl⟩
  obtain ⟨locs, rfl⟩ : ∃ z, z = locs1 := ⟨_, rfl⟩
  obtain ⟨M, rfl⟩ : ∃ z, z = M1 := ⟨_, rfl⟩
  refine lv_pop hx hb (by decide +kernel) rfl ?_
  refine lv_goto (tgt := 1407) hx hb (by decide +kernel) (by decide) ?_
  exact K _ _ _ hI hJ hP hS hM
set_option maxRecDepth 100000 in
set_option maxHeartbeats 4000000 in
theorem pz_case30 (Y : pz_Y p s m #[Value.ref b] c code R_law 4 D ad adV cy A) (hcs : cells ≤ room_1.cells ∧ slots ≤ room_1.slots) (hX : va_X b L xs s s.heap) (hbl : b < s.heap.size) (hbA : ¬ A b) (hL : L ≤ 3072) {i : Nat} (hi : i + 6 ≤ L) {H : Heap} {locs : List Loc} {ls : Array Slot} {M : pz_M} (hl : lv_has ls 4 [(0, .ref b), (1, .ref (ad 0)), (2, .ref (ad 1)), (3, .int (Int32.ofNat i))]) (hP : va_P D vwCl (pz_ws ad cy M) H) (hS : va_S A s.heap H locs) (hM : ∀ a k : Nat, pz_c (M a k)) (hI : pz_ic M) (hJ : pz_im M) (K : ∀ (M9 : pz_M) (H9 : Heap) (locs9 : List Loc), pz_ic M9 → pz_im M9 → va_P D vwCl (pz_ws ad cy M9) H9 → va_S A s.heap H9 locs9 → (∀ a k : Nat, pz_c (M9 a k)) → W p l e room_1 s m #[Value.ref b] below meth c H9 locs9 cells slots Q (F0 m 1407 ls [])) : W p l e room_1 s m #[Value.ref b] below meth c H locs cells slots Q (F0 m 1174 ls []) := by
  have Y0 := Y
  obtain ⟨hx, hb, hml, hown, hts, hXX⟩ := Y0
  refine lv_aload_n hx hb (k := 1) (by decide +kernel) rfl (lv_at hl 1 rfl) ?_
  refine pz_la Y hX hbl hbA hL (i := i) (k := 1) (by omega) hl hS (by decide +kernel) (by decide +kernel) (by decide +kernel) (by decide +kernel) (by decide +kernel) ?_
  refine pz_crV Y hcs (v_X11_game (Nat.le_of_ble_eq_true rfl) (Nat.le_of_ble_eq_true rfl) (by decide +kernel)) H locs ls M [.inr (.inr (11, 0)), .inl (xs (i + 1)).toInt] [] 1180 (by decide +kernel) hP hS hM ?_ hl.1 rfl (Nat.le_of_ble_eq_true rfl) (hI) (fun r M1 H1 locs1 hq hr hP1 hS1 hM1 => ?_)
  · skip
    exact (List.forall_mem_cons.mpr ⟨(show pz_kd 0 = 11 ∧ 0 < 231 from by decide), (List.forall_mem_cons.mpr ⟨(pz_tc _), List.forall_mem_nil _⟩)⟩)
  obtain ⟨w1180, rfl, -⟩ := hr
  have hq : (_) ∧ _ := hq
  obtain ⟨q1180, z1180⟩ := hq
  subst z1180
  clear hP hS hM
  have hP := hP1
  have hS := hS1
  have hM := hM1
  clear hP1 hS1 hM1
  obtain ⟨H, rfl⟩ : ∃ z, z = H1 := ⟨_, rfl⟩
  obtain ⟨locs, rfl⟩ : ∃ z, z = locs1 := ⟨_, rfl⟩
  refine lv_pop hx hb (by decide +kernel) rfl ?_
  refine lv_aload_n hx hb (k := 2) (by decide +kernel) rfl (lv_at hl 2 rfl) ?_
  refine pz_la Y hX hbl hbA hL (i := i) (k := 1) (by omega) hl hS (by decide +kernel) (by decide +kernel) (by decide +kernel) (by decide +kernel) (by decide +kernel) ?_
  refine pz_crV Y hcs (v_X12_game (Nat.le_of_ble_eq_true rfl) (Nat.le_of_ble_eq_true rfl) (by decide +kernel)) H locs ls M [.inr (.inr (12, 1)), .inl (xs (i + 1)).toInt] [] 1190 (by decide +kernel) hP hS hM ?_ hl.1 rfl (Nat.le_of_ble_eq_true rfl) (hJ) (fun r M1 H1 locs1 hq hr hP1 hS1 hM1 => ?_)
  · skip
    exact (List.forall_mem_cons.mpr ⟨(show pz_kd 1 = 12 ∧ 1 < 231 from by decide), (List.forall_mem_cons.mpr ⟨(pz_tc _), List.forall_mem_nil _⟩)⟩)
  obtain ⟨w1190, rfl, -⟩ := hr
  have hq : (_) ∧ _ := hq
  obtain ⟨q1190, z1190⟩ := hq
  subst z1190
  clear hP hS hM
  have hP := hP1
  have hS := hS1
  have hM := hM1
  clear hP1 hS1 hM1
  obtain ⟨H, rfl⟩ : ∃ z, z = H1 := ⟨_, rfl⟩
  obtain ⟨locs, rfl⟩ : ∃ z, z = locs1 := ⟨_, rfl⟩
  refine lv_pop hx hb (by decide +kernel) rfl ?_
  refine lv_goto (tgt := 1407) hx hb (by decide +kernel) (by decide) ?_
  exact K _ _ _ hI hJ hP hS hM
set_option maxRecDepth 100000 in
set_option maxHeartbeats 4000000 in
theorem pz_case31 (Y : pz_Y p s m #[Value.ref b] c code R_law 4 D ad adV cy A) (hcs : cells ≤ room_1.cells ∧ slots ≤ room_1.slots) (hX : va_X b L xs s s.heap) (hbl : b < s.heap.size) (hbA : ¬ A b) (hL : L ≤ 3072) {i : Nat} (hi : i + 6 ≤ L) {H : Heap} {locs : List Loc} {ls : Array Slot} {M : pz_M} (hl : lv_has ls 4 [(0, .ref b), (1, .ref (ad 0)), (2, .ref (ad 1)), (3, .int (Int32.ofNat i))]) (hP : va_P D vwCl (pz_ws ad cy M) H) (hS : va_S A s.heap H locs) (hM : ∀ a k : Nat, pz_c (M a k)) (hI : pz_ic M) (hJ : pz_im M) (K : ∀ (M9 : pz_M) (H9 : Heap) (locs9 : List Loc), pz_ic M9 → pz_im M9 → va_P D vwCl (pz_ws ad cy M9) H9 → va_S A s.heap H9 locs9 → (∀ a k : Nat, pz_c (M9 a k)) → W p l e room_1 s m #[Value.ref b] below meth c H9 locs9 cells slots Q (F0 m 1407 ls [])) : W p l e room_1 s m #[Value.ref b] below meth c H locs cells slots Q (F0 m 1197 ls []) := by
  have Y0 := Y
  obtain ⟨hx, hb, hml, hown, hts, hXX⟩ := Y0
  refine lv_aload_n hx hb (k := 1) (by decide +kernel) rfl (lv_at hl 1 rfl) ?_
  refine pz_la Y hX hbl hbA hL (i := i) (k := 1) (by omega) hl hS (by decide +kernel) (by decide +kernel) (by decide +kernel) (by decide +kernel) (by decide +kernel) ?_
  refine pz_crV Y hcs (v_X11_soon (Nat.le_of_ble_eq_true rfl) (Nat.le_of_ble_eq_true rfl) (by decide +kernel)) H locs ls M [.inr (.inr (11, 0)), .inl (xs (i + 1)).toInt] [] 1203 (by decide +kernel) hP hS hM ?_ hl.1 rfl (Nat.le_of_ble_eq_true rfl) (hI) (fun r M1 H1 locs1 hq hr hP1 hS1 hM1 => ?_)
  · skip
    exact (List.forall_mem_cons.mpr ⟨(show pz_kd 0 = 11 ∧ 0 < 231 from by decide), (List.forall_mem_cons.mpr ⟨(pz_tc _), List.forall_mem_nil _⟩)⟩)
  obtain ⟨w1203, rfl, -⟩ := hr
  have hq : (_) ∧ _ := hq
  obtain ⟨q1203, z1203⟩ := hq
  have hJ1 : pz_im M1 := pz_im_cg (z1203.1).2 hJ
  have hI1 : pz_ic M1 := (z1203.1).1 hI
  clear hP hS hM hI hJ
  have hI := hI1
  have hJ := hJ1
  clear hI1 hJ1
  clear q1203 z1203
  have hP := hP1
  have hS := hS1
  have hM := hM1
  clear hP1 hS1 hM1
  skip
  obtain ⟨H, rfl⟩ : ∃ z, z = H1 := ⟨_, rfl⟩
  obtain ⟨locs, rfl⟩ : ∃ z, z = locs1 := ⟨_, rfl⟩
  obtain ⟨M, rfl⟩ : ∃ z, z = M1 := ⟨_, rfl⟩
  refine lv_pop hx hb (by decide +kernel) rfl ?_
  refine lv_aload_n hx hb (k := 2) (by decide +kernel) rfl (lv_at hl 2 rfl) ?_
  refine pz_la Y hX hbl hbA hL (i := i) (k := 1) (by omega) hl hS (by decide +kernel) (by decide +kernel) (by decide +kernel) (by decide +kernel) (by decide +kernel) ?_
  refine pz_crV Y hcs (v_X12_soon (Nat.le_of_ble_eq_true rfl) (Nat.le_of_ble_eq_true rfl) (by decide +kernel)) H locs ls M [.inr (.inr (12, 1)), .inl (xs (i + 1)).toInt] [] 1213 (by decide +kernel) hP hS hM ?_ hl.1 rfl (Nat.le_of_ble_eq_true rfl) (hJ) (fun r M1 H1 locs1 hq hr hP1 hS1 hM1 => ?_)
  · skip
    exact (List.forall_mem_cons.mpr ⟨(show pz_kd 1 = 12 ∧ 1 < 231 from by decide), (List.forall_mem_cons.mpr ⟨(pz_tc _), List.forall_mem_nil _⟩)⟩)
  obtain ⟨w1213, rfl, -⟩ := hr
  have hq : (_) ∧ _ := hq
  obtain ⟨q1213, z1213⟩ := hq
  have hI1 : pz_ic M1 := pz_ic_cg (z1213.1.1).2 hI
  have hJ1 : pz_im M1 := (z1213.1.1).1 hJ
  clear hP hS hM hI hJ
  have hI := hI1
  have hJ := hJ1
  clear hI1 hJ1
  clear q1213 z1213
  have hP := hP1
  have hS := hS1
  have hM := hM1
  clear hP1 hS1 hM1
  skip
  obtain ⟨H, rfl⟩ : ∃ z, z = H1 := ⟨_, rfl⟩
  obtain ⟨locs, rfl⟩ : ∃ z, z = locs1 := ⟨_, rfl⟩
  obtain ⟨M, rfl⟩ : ∃ z, z = M1 := ⟨_, rfl⟩
  refine lv_pop hx hb (by decide +kernel) rfl ?_
  refine lv_goto (tgt := 1407) hx hb (by decide +kernel) (by decide) ?_
  exact K _ _ _ hI hJ hP hS hM
set_option maxRecDepth 100000 in
set_option maxHeartbeats 4000000 in
theorem pz_case32 (Y : pz_Y p s m #[Value.ref b] c code R_law 4 D ad adV cy A) (hcs : cells ≤ room_1.cells ∧ slots ≤ room_1.slots) (hX : va_X b L xs s s.heap) (hbl : b < s.heap.size) (hbA : ¬ A b) (hL : L ≤ 3072) {i : Nat} (hi : i + 6 ≤ L) {H : Heap} {locs : List Loc} {ls : Array Slot} {M : pz_M} (hl : lv_has ls 4 [(0, .ref b), (1, .ref (ad 0)), (2, .ref (ad 1)), (3, .int (Int32.ofNat i))]) (hP : va_P D vwCl (pz_ws ad cy M) H) (hS : va_S A s.heap H locs) (hM : ∀ a k : Nat, pz_c (M a k)) (hI : pz_ic M) (hJ : pz_im M) (K : ∀ (M9 : pz_M) (H9 : Heap) (locs9 : List Loc), pz_ic M9 → pz_im M9 → va_P D vwCl (pz_ws ad cy M9) H9 → va_S A s.heap H9 locs9 → (∀ a k : Nat, pz_c (M9 a k)) → W p l e room_1 s m #[Value.ref b] below meth c H9 locs9 cells slots Q (F0 m 1407 ls [])) : W p l e room_1 s m #[Value.ref b] below meth c H locs cells slots Q (F0 m 1220 ls []) := by
  have Y0 := Y
  obtain ⟨hx, hb, hml, hown, hts, hXX⟩ := Y0
  refine lv_aload_n hx hb (k := 1) (by decide +kernel) rfl (lv_at hl 1 rfl) ?_
  refine pz_la Y hX hbl hbA hL (i := i) (k := 1) (by omega) hl hS (by decide +kernel) (by decide +kernel) (by decide +kernel) (by decide +kernel) (by decide +kernel) ?_
  refine pz_la Y hX hbl hbA hL (i := i) (k := 2) (by omega) hl hS (by decide +kernel) (by decide +kernel) (by decide +kernel) (by decide +kernel) (by decide +kernel) ?_
  refine pz_crV Y hcs (v_X11_hurry (Nat.le_of_ble_eq_true rfl) (Nat.le_of_ble_eq_true rfl) (by decide +kernel)) H locs ls M [.inr (.inr (11, 0)), .inl (xs (i + 1)).toInt, .inl (xs (i + 2)).toInt] [] 1231 (by decide +kernel) hP hS hM ?_ hl.1 rfl (Nat.le_of_ble_eq_true rfl) (hI) (fun r M1 H1 locs1 hq hr hP1 hS1 hM1 => ?_)
  · skip
    exact (List.forall_mem_cons.mpr ⟨(show pz_kd 0 = 11 ∧ 0 < 231 from by decide), (List.forall_mem_cons.mpr ⟨(pz_tc _), (List.forall_mem_cons.mpr ⟨(pz_tc _), List.forall_mem_nil _⟩)⟩)⟩)
  obtain ⟨w1231, rfl, -⟩ := hr
  have hq : (_) ∧ _ := hq
  obtain ⟨q1231, z1231⟩ := hq
  have hJ1 : pz_im M1 := pz_im_cg (z1231.1).2 hJ
  have hI1 : pz_ic M1 := (z1231.1).1 hI
  clear hP hS hM hI hJ
  have hI := hI1
  have hJ := hJ1
  clear hI1 hJ1
  clear q1231 z1231
  have hP := hP1
  have hS := hS1
  have hM := hM1
  clear hP1 hS1 hM1
  skip
  obtain ⟨H, rfl⟩ : ∃ z, z = H1 := ⟨_, rfl⟩
  obtain ⟨locs, rfl⟩ : ∃ z, z = locs1 := ⟨_, rfl⟩
  obtain ⟨M, rfl⟩ : ∃ z, z = M1 := ⟨_, rfl⟩
  refine lv_pop hx hb (by decide +kernel) rfl ?_
  refine lv_aload_n hx hb (k := 2) (by decide +kernel) rfl (lv_at hl 2 rfl) ?_
  refine pz_la Y hX hbl hbA hL (i := i) (k := 1) (by omega) hl hS (by decide +kernel) (by decide +kernel) (by decide +kernel) (by decide +kernel) (by decide +kernel) ?_
  refine pz_la Y hX hbl hbA hL (i := i) (k := 2) (by omega) hl hS (by decide +kernel) (by decide +kernel) (by decide +kernel) (by decide +kernel) (by decide +kernel) ?_
  refine pz_crV Y hcs (v_X12_hurry (Nat.le_of_ble_eq_true rfl) (Nat.le_of_ble_eq_true rfl) (by decide +kernel)) H locs ls M [.inr (.inr (12, 1)), .inl (xs (i + 1)).toInt, .inl (xs (i + 2)).toInt] [] 1246 (by decide +kernel) hP hS hM ?_ hl.1 rfl (Nat.le_of_ble_eq_true rfl) (hJ) (fun r M1 H1 locs1 hq hr hP1 hS1 hM1 => ?_)
  · skip
    exact (List.forall_mem_cons.mpr ⟨(show pz_kd 1 = 12 ∧ 1 < 231 from by decide), (List.forall_mem_cons.mpr ⟨(pz_tc _), (List.forall_mem_cons.mpr ⟨(pz_tc _), List.forall_mem_nil _⟩)⟩)⟩)
  obtain ⟨w1246, rfl, -⟩ := hr
  have hq : (_) ∧ _ := hq
  obtain ⟨q1246, z1246⟩ := hq
  have hI1 : pz_ic M1 := pz_ic_cg (z1246.1.1).2 hI
  have hJ1 : pz_im M1 := (z1246.1.1).1 hJ
  clear hP hS hM hI hJ
  have hI := hI1
  have hJ := hJ1
  clear hI1 hJ1
  clear q1246 z1246
  have hP := hP1
  have hS := hS1
  have hM := hM1
  clear hP1 hS1 hM1
  skip
  obtain ⟨H, rfl⟩ : ∃ z, z = H1 := ⟨_, rfl⟩
  obtain ⟨locs, rfl⟩ : ∃ z, z = locs1 := ⟨_, rfl⟩
  obtain ⟨M, rfl⟩ : ∃ z, z = M1 := ⟨_, rfl⟩
  refine lv_pop hx hb (by decide +kernel) rfl ?_
  refine lv_goto (tgt := 1407) hx hb (by decide +kernel) (by decide) ?_
  exact K _ _ _ hI hJ hP hS hM
set_option maxRecDepth 100000 in
set_option maxHeartbeats 4000000 in
theorem pz_case33 (Y : pz_Y p s m #[Value.ref b] c code R_law 4 D ad adV cy A) (hcs : cells ≤ room_1.cells ∧ slots ≤ room_1.slots) (hX : va_X b L xs s s.heap) (hbl : b < s.heap.size) (hbA : ¬ A b) (hL : L ≤ 3072) {i : Nat} (hi : i + 6 ≤ L) {H : Heap} {locs : List Loc} {ls : Array Slot} {M : pz_M} (hl : lv_has ls 4 [(0, .ref b), (1, .ref (ad 0)), (2, .ref (ad 1)), (3, .int (Int32.ofNat i))]) (hP : va_P D vwCl (pz_ws ad cy M) H) (hS : va_S A s.heap H locs) (hM : ∀ a k : Nat, pz_c (M a k)) (hI : pz_ic M) (hJ : pz_im M) (K : ∀ (M9 : pz_M) (H9 : Heap) (locs9 : List Loc), pz_ic M9 → pz_im M9 → va_P D vwCl (pz_ws ad cy M9) H9 → va_S A s.heap H9 locs9 → (∀ a k : Nat, pz_c (M9 a k)) → W p l e room_1 s m #[Value.ref b] below meth c H9 locs9 cells slots Q (F0 m 1407 ls [])) : W p l e room_1 s m #[Value.ref b] below meth c H locs cells slots Q (F0 m 1253 ls []) := by
  have Y0 := Y
  obtain ⟨hx, hb, hml, hown, hts, hXX⟩ := Y0
  refine lv_aload_n hx hb (k := 1) (by decide +kernel) rfl (lv_at hl 1 rfl) ?_
  refine pz_la Y hX hbl hbA hL (i := i) (k := 1) (by omega) hl hS (by decide +kernel) (by decide +kernel) (by decide +kernel) (by decide +kernel) (by decide +kernel) ?_
  refine pz_la Y hX hbl hbA hL (i := i) (k := 2) (by omega) hl hS (by decide +kernel) (by decide +kernel) (by decide +kernel) (by decide +kernel) (by decide +kernel) ?_
  refine pz_crV Y hcs (v_X11_split (Nat.le_of_ble_eq_true rfl) (Nat.le_of_ble_eq_true rfl) (by decide +kernel)) H locs ls M [.inr (.inr (11, 0)), .inl (xs (i + 1)).toInt, .inl (xs (i + 2)).toInt] [] 1264 (by decide +kernel) hP hS hM ?_ hl.1 rfl (Nat.le_of_ble_eq_true rfl) (hI) (fun r M1 H1 locs1 hq hr hP1 hS1 hM1 => ?_)
  · skip
    exact (List.forall_mem_cons.mpr ⟨(show pz_kd 0 = 11 ∧ 0 < 231 from by decide), (List.forall_mem_cons.mpr ⟨(pz_tc _), (List.forall_mem_cons.mpr ⟨(pz_tc _), List.forall_mem_nil _⟩)⟩)⟩)
  obtain ⟨w1264, rfl, -⟩ := hr
  have hq : (_) ∧ _ := hq
  obtain ⟨q1264, z1264⟩ := hq
  have hJ1 : pz_im M1 := pz_im_cg (z1264.1).2 hJ
  have hI1 : pz_ic M1 := (z1264.1).1 hI
  clear hP hS hM hI hJ
  have hI := hI1
  have hJ := hJ1
  clear hI1 hJ1
  clear q1264 z1264
  have hP := hP1
  have hS := hS1
  have hM := hM1
  clear hP1 hS1 hM1
  skip
  obtain ⟨H, rfl⟩ : ∃ z, z = H1 := ⟨_, rfl⟩
  obtain ⟨locs, rfl⟩ : ∃ z, z = locs1 := ⟨_, rfl⟩
  obtain ⟨M, rfl⟩ : ∃ z, z = M1 := ⟨_, rfl⟩
  refine lv_pop hx hb (by decide +kernel) rfl ?_
  refine lv_aload_n hx hb (k := 2) (by decide +kernel) rfl (lv_at hl 2 rfl) ?_
  refine pz_la Y hX hbl hbA hL (i := i) (k := 1) (by omega) hl hS (by decide +kernel) (by decide +kernel) (by decide +kernel) (by decide +kernel) (by decide +kernel) ?_
  refine pz_la Y hX hbl hbA hL (i := i) (k := 2) (by omega) hl hS (by decide +kernel) (by decide +kernel) (by decide +kernel) (by decide +kernel) (by decide +kernel) ?_
  refine pz_crV Y hcs (v_X12_split (Nat.le_of_ble_eq_true rfl) (Nat.le_of_ble_eq_true rfl) (by decide +kernel)) H locs ls M [.inr (.inr (12, 1)), .inl (xs (i + 1)).toInt, .inl (xs (i + 2)).toInt] [] 1279 (by decide +kernel) hP hS hM ?_ hl.1 rfl (Nat.le_of_ble_eq_true rfl) (hJ) (fun r M1 H1 locs1 hq hr hP1 hS1 hM1 => ?_)
  · skip
    exact (List.forall_mem_cons.mpr ⟨(show pz_kd 1 = 12 ∧ 1 < 231 from by decide), (List.forall_mem_cons.mpr ⟨(pz_tc _), (List.forall_mem_cons.mpr ⟨(pz_tc _), List.forall_mem_nil _⟩)⟩)⟩)
  obtain ⟨w1279, rfl, -⟩ := hr
  have hq : (_) ∧ _ := hq
  obtain ⟨q1279, z1279⟩ := hq
  have hI1 : pz_ic M1 := pz_ic_cg (z1279.1.1).2 hI
  have hJ1 : pz_im M1 := (z1279.1.1).1 hJ
  clear hP hS hM hI hJ
  have hI := hI1
  have hJ := hJ1
  clear hI1 hJ1
  clear q1279 z1279
  have hP := hP1
  have hS := hS1
  have hM := hM1
  clear hP1 hS1 hM1
  skip
  obtain ⟨H, rfl⟩ : ∃ z, z = H1 := ⟨_, rfl⟩
  obtain ⟨locs, rfl⟩ : ∃ z, z = locs1 := ⟨_, rfl⟩
  obtain ⟨M, rfl⟩ : ∃ z, z = M1 := ⟨_, rfl⟩
  refine lv_pop hx hb (by decide +kernel) rfl ?_
  refine lv_goto (tgt := 1407) hx hb (by decide +kernel) (by decide) ?_
  exact K _ _ _ hI hJ hP hS hM
set_option maxRecDepth 100000 in
set_option maxHeartbeats 4000000 in
theorem pz_case34 (Y : pz_Y p s m #[Value.ref b] c code R_law 4 D ad adV cy A) (hcs : cells ≤ room_1.cells ∧ slots ≤ room_1.slots) (hX : va_X b L xs s s.heap) (hbl : b < s.heap.size) (hbA : ¬ A b) (hL : L ≤ 3072) {i : Nat} (hi : i + 6 ≤ L) {H : Heap} {locs : List Loc} {ls : Array Slot} {M : pz_M} (hl : lv_has ls 4 [(0, .ref b), (1, .ref (ad 0)), (2, .ref (ad 1)), (3, .int (Int32.ofNat i))]) (hP : va_P D vwCl (pz_ws ad cy M) H) (hS : va_S A s.heap H locs) (hM : ∀ a k : Nat, pz_c (M a k)) (hI : pz_ic M) (hJ : pz_im M) (K : ∀ (M9 : pz_M) (H9 : Heap) (locs9 : List Loc), pz_ic M9 → pz_im M9 → va_P D vwCl (pz_ws ad cy M9) H9 → va_S A s.heap H9 locs9 → (∀ a k : Nat, pz_c (M9 a k)) → W p l e room_1 s m #[Value.ref b] below meth c H9 locs9 cells slots Q (F0 m 1407 ls [])) : W p l e room_1 s m #[Value.ref b] below meth c H locs cells slots Q (F0 m 1286 ls []) := by
  have Y0 := Y
  obtain ⟨hx, hb, hml, hown, hts, hXX⟩ := Y0
  refine lv_aload_n hx hb (k := 1) (by decide +kernel) rfl (lv_at hl 1 rfl) ?_
  refine pz_la Y hX hbl hbA hL (i := i) (k := 1) (by omega) hl hS (by decide +kernel) (by decide +kernel) (by decide +kernel) (by decide +kernel) (by decide +kernel) ?_
  refine pz_crV Y hcs (v_X11_gap (Nat.le_of_ble_eq_true rfl) (Nat.le_of_ble_eq_true rfl) (by decide +kernel)) H locs ls M [.inr (.inr (11, 0)), .inl (xs (i + 1)).toInt] [] 1292 (by decide +kernel) hP hS hM ?_ hl.1 rfl (Nat.le_of_ble_eq_true rfl) (hI) (fun r M1 H1 locs1 hq hr hP1 hS1 hM1 => ?_)
  · skip
    exact (List.forall_mem_cons.mpr ⟨(show pz_kd 0 = 11 ∧ 0 < 231 from by decide), (List.forall_mem_cons.mpr ⟨(pz_tc _), List.forall_mem_nil _⟩)⟩)
  obtain ⟨w1292, rfl, -⟩ := hr
  have hq : (_) ∧ _ := hq
  obtain ⟨q1292, z1292⟩ := hq
  subst z1292
  clear hP hS hM
  have hP := hP1
  have hS := hS1
  have hM := hM1
  clear hP1 hS1 hM1
  obtain ⟨H, rfl⟩ : ∃ z, z = H1 := ⟨_, rfl⟩
  obtain ⟨locs, rfl⟩ : ∃ z, z = locs1 := ⟨_, rfl⟩
  refine lv_pop hx hb (by decide +kernel) rfl ?_
  refine lv_aload_n hx hb (k := 2) (by decide +kernel) rfl (lv_at hl 2 rfl) ?_
  refine pz_la Y hX hbl hbA hL (i := i) (k := 1) (by omega) hl hS (by decide +kernel) (by decide +kernel) (by decide +kernel) (by decide +kernel) (by decide +kernel) ?_
  refine pz_crV Y hcs (v_X12_gap (Nat.le_of_ble_eq_true rfl) (Nat.le_of_ble_eq_true rfl) (by decide +kernel)) H locs ls M [.inr (.inr (12, 1)), .inl (xs (i + 1)).toInt] [] 1302 (by decide +kernel) hP hS hM ?_ hl.1 rfl (Nat.le_of_ble_eq_true rfl) (hJ) (fun r M1 H1 locs1 hq hr hP1 hS1 hM1 => ?_)
  · skip
    exact (List.forall_mem_cons.mpr ⟨(show pz_kd 1 = 12 ∧ 1 < 231 from by decide), (List.forall_mem_cons.mpr ⟨(pz_tc _), List.forall_mem_nil _⟩)⟩)
  obtain ⟨w1302, rfl, -⟩ := hr
  have hq : (_) ∧ _ := hq
  obtain ⟨q1302, z1302⟩ := hq
  subst z1302
  clear hP hS hM
  have hP := hP1
  have hS := hS1
  have hM := hM1
  clear hP1 hS1 hM1
  obtain ⟨H, rfl⟩ : ∃ z, z = H1 := ⟨_, rfl⟩
  obtain ⟨locs, rfl⟩ : ∃ z, z = locs1 := ⟨_, rfl⟩
  refine lv_pop hx hb (by decide +kernel) rfl ?_
  refine lv_goto (tgt := 1407) hx hb (by decide +kernel) (by decide) ?_
  exact K _ _ _ hI hJ hP hS hM
set_option maxRecDepth 100000 in
set_option maxHeartbeats 4000000 in
theorem pz_case35 (Y : pz_Y p s m #[Value.ref b] c code R_law 4 D ad adV cy A) (hcs : cells ≤ room_1.cells ∧ slots ≤ room_1.slots) (hX : va_X b L xs s s.heap) (hbl : b < s.heap.size) (hbA : ¬ A b) (hL : L ≤ 3072) {i : Nat} (hi : i + 6 ≤ L) {H : Heap} {locs : List Loc} {ls : Array Slot} {M : pz_M} (hl : lv_has ls 4 [(0, .ref b), (1, .ref (ad 0)), (2, .ref (ad 1)), (3, .int (Int32.ofNat i))]) (hP : va_P D vwCl (pz_ws ad cy M) H) (hS : va_S A s.heap H locs) (hM : ∀ a k : Nat, pz_c (M a k)) (hI : pz_ic M) (hJ : pz_im M) (K : ∀ (M9 : pz_M) (H9 : Heap) (locs9 : List Loc), pz_ic M9 → pz_im M9 → va_P D vwCl (pz_ws ad cy M9) H9 → va_S A s.heap H9 locs9 → (∀ a k : Nat, pz_c (M9 a k)) → W p l e room_1 s m #[Value.ref b] below meth c H9 locs9 cells slots Q (F0 m 1407 ls [])) : W p l e room_1 s m #[Value.ref b] below meth c H locs cells slots Q (F0 m 1309 ls []) := by
  have Y0 := Y
  obtain ⟨hx, hb, hml, hown, hts, hXX⟩ := Y0
  refine lv_aload_n hx hb (k := 1) (by decide +kernel) rfl (lv_at hl 1 rfl) ?_
  refine pz_la Y hX hbl hbA hL (i := i) (k := 1) (by omega) hl hS (by decide +kernel) (by decide +kernel) (by decide +kernel) (by decide +kernel) (by decide +kernel) ?_
  refine pz_crV Y hcs (v_X11_runs (Nat.le_of_ble_eq_true rfl) (Nat.le_of_ble_eq_true rfl) (by decide +kernel)) H locs ls M [.inr (.inr (11, 0)), .inl (xs (i + 1)).toInt] [] 1315 (by decide +kernel) hP hS hM ?_ hl.1 rfl (Nat.le_of_ble_eq_true rfl) (hI) (fun r M1 H1 locs1 hq hr hP1 hS1 hM1 => ?_)
  · skip
    exact (List.forall_mem_cons.mpr ⟨(show pz_kd 0 = 11 ∧ 0 < 231 from by decide), (List.forall_mem_cons.mpr ⟨(pz_tc _), List.forall_mem_nil _⟩)⟩)
  obtain ⟨w1315, rfl, -⟩ := hr
  have hq : (_) ∧ _ := hq
  obtain ⟨q1315, z1315⟩ := hq
  subst z1315
  clear hP hS hM
  have hP := hP1
  have hS := hS1
  have hM := hM1
  clear hP1 hS1 hM1
  obtain ⟨H, rfl⟩ : ∃ z, z = H1 := ⟨_, rfl⟩
  obtain ⟨locs, rfl⟩ : ∃ z, z = locs1 := ⟨_, rfl⟩
  refine lv_pop hx hb (by decide +kernel) rfl ?_
  refine lv_aload_n hx hb (k := 2) (by decide +kernel) rfl (lv_at hl 2 rfl) ?_
  refine pz_la Y hX hbl hbA hL (i := i) (k := 1) (by omega) hl hS (by decide +kernel) (by decide +kernel) (by decide +kernel) (by decide +kernel) (by decide +kernel) ?_
  refine pz_crV Y hcs (v_X12_runs (Nat.le_of_ble_eq_true rfl) (Nat.le_of_ble_eq_true rfl) (by decide +kernel)) H locs ls M [.inr (.inr (12, 1)), .inl (xs (i + 1)).toInt] [] 1325 (by decide +kernel) hP hS hM ?_ hl.1 rfl (Nat.le_of_ble_eq_true rfl) (hJ) (fun r M1 H1 locs1 hq hr hP1 hS1 hM1 => ?_)
  · skip
    exact (List.forall_mem_cons.mpr ⟨(show pz_kd 1 = 12 ∧ 1 < 231 from by decide), (List.forall_mem_cons.mpr ⟨(pz_tc _), List.forall_mem_nil _⟩)⟩)
  obtain ⟨w1325, rfl, -⟩ := hr
  have hq : (_) ∧ _ := hq
  obtain ⟨q1325, z1325⟩ := hq
  subst z1325
  clear hP hS hM
  have hP := hP1
  have hS := hS1
  have hM := hM1
  clear hP1 hS1 hM1
  obtain ⟨H, rfl⟩ : ∃ z, z = H1 := ⟨_, rfl⟩
  obtain ⟨locs, rfl⟩ : ∃ z, z = locs1 := ⟨_, rfl⟩
  refine lv_pop hx hb (by decide +kernel) rfl ?_
  refine lv_goto (tgt := 1407) hx hb (by decide +kernel) (by decide) ?_
  exact K _ _ _ hI hJ hP hS hM
set_option maxRecDepth 100000 in
set_option maxHeartbeats 4000000 in
theorem pz_case36 (Y : pz_Y p s m #[Value.ref b] c code R_law 4 D ad adV cy A) (hcs : cells ≤ room_1.cells ∧ slots ≤ room_1.slots) (hX : va_X b L xs s s.heap) (hbl : b < s.heap.size) (hbA : ¬ A b) (hL : L ≤ 3072) {i : Nat} (hi : i + 6 ≤ L) {H : Heap} {locs : List Loc} {ls : Array Slot} {M : pz_M} (hl : lv_has ls 4 [(0, .ref b), (1, .ref (ad 0)), (2, .ref (ad 1)), (3, .int (Int32.ofNat i))]) (hP : va_P D vwCl (pz_ws ad cy M) H) (hS : va_S A s.heap H locs) (hM : ∀ a k : Nat, pz_c (M a k)) (hI : pz_ic M) (hJ : pz_im M) (K : ∀ (M9 : pz_M) (H9 : Heap) (locs9 : List Loc), pz_ic M9 → pz_im M9 → va_P D vwCl (pz_ws ad cy M9) H9 → va_S A s.heap H9 locs9 → (∀ a k : Nat, pz_c (M9 a k)) → W p l e room_1 s m #[Value.ref b] below meth c H9 locs9 cells slots Q (F0 m 1407 ls [])) : W p l e room_1 s m #[Value.ref b] below meth c H locs cells slots Q (F0 m 1332 ls []) := by
  have Y0 := Y
  obtain ⟨hx, hb, hml, hown, hts, hXX⟩ := Y0
  refine lv_aload_n hx hb (k := 1) (by decide +kernel) rfl (lv_at hl 1 rfl) ?_
  refine pz_crV Y hcs (v_X11_undo (Nat.le_of_ble_eq_true rfl) (Nat.le_of_ble_eq_true rfl) (by decide +kernel)) H locs ls M [.inr (.inr (11, 0))] [] 1333 (by decide +kernel) hP hS hM ?_ hl.1 rfl (Nat.le_of_ble_eq_true rfl) (hI) (fun r M1 H1 locs1 hq hr hP1 hS1 hM1 => ?_)
  · skip
    exact (List.forall_mem_cons.mpr ⟨(show pz_kd 0 = 11 ∧ 0 < 231 from by decide), List.forall_mem_nil _⟩)
  obtain ⟨w1333, rfl, -⟩ := hr
  have hq : (_) ∧ _ := hq
  obtain ⟨q1333, z1333⟩ := hq
  have hJ1 : pz_im M1 := pz_im_cg (z1333.1).2 hJ
  have hI1 : pz_ic M1 := (z1333.1).1 hI
  clear hP hS hM hI hJ
  have hI := hI1
  have hJ := hJ1
  clear hI1 hJ1
  clear q1333 z1333
  have hP := hP1
  have hS := hS1
  have hM := hM1
  clear hP1 hS1 hM1
  skip
  obtain ⟨H, rfl⟩ : ∃ z, z = H1 := ⟨_, rfl⟩
  obtain ⟨locs, rfl⟩ : ∃ z, z = locs1 := ⟨_, rfl⟩
  obtain ⟨M, rfl⟩ : ∃ z, z = M1 := ⟨_, rfl⟩
  refine lv_pop hx hb (by decide +kernel) rfl ?_
  refine lv_aload_n hx hb (k := 2) (by decide +kernel) rfl (lv_at hl 2 rfl) ?_
  refine pz_crV Y hcs (v_X12_undo (Nat.le_of_ble_eq_true rfl) (Nat.le_of_ble_eq_true rfl) (by decide +kernel)) H locs ls M [.inr (.inr (12, 1))] [] 1338 (by decide +kernel) hP hS hM ?_ hl.1 rfl (Nat.le_of_ble_eq_true rfl) (hJ) (fun r M1 H1 locs1 hq hr hP1 hS1 hM1 => ?_)
  · skip
    exact (List.forall_mem_cons.mpr ⟨(show pz_kd 1 = 12 ∧ 1 < 231 from by decide), List.forall_mem_nil _⟩)
  obtain ⟨w1338, rfl, -⟩ := hr
  have hq : (_) ∧ _ := hq
  obtain ⟨q1338, z1338⟩ := hq
  have hI1 : pz_ic M1 := pz_ic_cg (z1338.1.1).2 hI
  have hJ1 : pz_im M1 := (z1338.1.1).1 hJ
  clear hP hS hM hI hJ
  have hI := hI1
  have hJ := hJ1
  clear hI1 hJ1
  clear q1338 z1338
  have hP := hP1
  have hS := hS1
  have hM := hM1
  clear hP1 hS1 hM1
  skip
  obtain ⟨H, rfl⟩ : ∃ z, z = H1 := ⟨_, rfl⟩
  obtain ⟨locs, rfl⟩ : ∃ z, z = locs1 := ⟨_, rfl⟩
  obtain ⟨M, rfl⟩ : ∃ z, z = M1 := ⟨_, rfl⟩
  refine lv_pop hx hb (by decide +kernel) rfl ?_
  refine lv_goto (tgt := 1407) hx hb (by decide +kernel) (by decide) ?_
  exact K _ _ _ hI hJ hP hS hM
set_option maxRecDepth 100000 in
set_option maxHeartbeats 4000000 in
theorem pz_case37 (Y : pz_Y p s m #[Value.ref b] c code R_law 4 D ad adV cy A) (hcs : cells ≤ room_1.cells ∧ slots ≤ room_1.slots) (hX : va_X b L xs s s.heap) (hbl : b < s.heap.size) (hbA : ¬ A b) (hL : L ≤ 3072) {i : Nat} (hi : i + 6 ≤ L) {H : Heap} {locs : List Loc} {ls : Array Slot} {M : pz_M} (hl : lv_has ls 4 [(0, .ref b), (1, .ref (ad 0)), (2, .ref (ad 1)), (3, .int (Int32.ofNat i))]) (hP : va_P D vwCl (pz_ws ad cy M) H) (hS : va_S A s.heap H locs) (hM : ∀ a k : Nat, pz_c (M a k)) (hI : pz_ic M) (hJ : pz_im M) (K : ∀ (M9 : pz_M) (H9 : Heap) (locs9 : List Loc), pz_ic M9 → pz_im M9 → va_P D vwCl (pz_ws ad cy M9) H9 → va_S A s.heap H9 locs9 → (∀ a k : Nat, pz_c (M9 a k)) → W p l e room_1 s m #[Value.ref b] below meth c H9 locs9 cells slots Q (F0 m 1407 ls [])) : W p l e room_1 s m #[Value.ref b] below meth c H locs cells slots Q (F0 m 1345 ls []) := by
  have Y0 := Y
  obtain ⟨hx, hb, hml, hown, hts, hXX⟩ := Y0
  refine lv_aload_n hx hb (k := 1) (by decide +kernel) rfl (lv_at hl 1 rfl) ?_
  refine pz_la Y hX hbl hbA hL (i := i) (k := 1) (by omega) hl hS (by decide +kernel) (by decide +kernel) (by decide +kernel) (by decide +kernel) (by decide +kernel) ?_
  refine lv_if_eq (tgt := 1358) hx hb (by decide +kernel) (by decide) (fun _ => ?_) (fun _ => ?_)
  · skip
    refine lv_iconst hx hb (v := Int32.ofInt 0) (by decide +kernel) rfl ?_
    refine pz_crV Y hcs (v_X11_image (Nat.le_of_ble_eq_true rfl) (Nat.le_of_ble_eq_true rfl) (by decide +kernel)) H locs ls M [.inr (.inr (11, 0)), .inl 0] [] 1359 (by decide +kernel) hP hS hM ?_ hl.1 rfl (Nat.le_of_ble_eq_true rfl) (hI) (fun r M1 H1 locs1 hq hr hP1 hS1 hM1 => ?_)
    · skip
      exact (List.forall_mem_cons.mpr ⟨(show pz_kd 0 = 11 ∧ 0 < 231 from by decide), (List.forall_mem_cons.mpr ⟨(show pz_c _ from by unfold pz_c; omega), List.forall_mem_nil _⟩)⟩)
    obtain ⟨w1359, rfl, -⟩ := hr
    have hq : (_) ∧ _ := hq
    obtain ⟨q1359, z1359⟩ := hq
    have hJ1 : pz_im M1 := pz_im_cg (z1359.1).2 hJ
    have hI1 : pz_ic M1 := (z1359.1).1 hI
    clear hP hS hM hI hJ
    have hI := hI1
    have hJ := hJ1
    clear hI1 hJ1
    clear q1359 z1359
    have hP := hP1
    have hS := hS1
    have hM := hM1
    clear hP1 hS1 hM1
    skip
    obtain ⟨H, rfl⟩ : ∃ z, z = H1 := ⟨_, rfl⟩
    obtain ⟨locs, rfl⟩ : ∃ z, z = locs1 := ⟨_, rfl⟩
    obtain ⟨M, rfl⟩ : ∃ z, z = M1 := ⟨_, rfl⟩
    refine lv_pop hx hb (by decide +kernel) rfl ?_
    refine lv_aload_n hx hb (k := 2) (by decide +kernel) rfl (lv_at hl 2 rfl) ?_
    refine pz_la Y hX hbl hbA hL (i := i) (k := 1) (by omega) hl hS (by decide +kernel) (by decide +kernel) (by decide +kernel) (by decide +kernel) (by decide +kernel) ?_
    refine lv_if_eq (tgt := 1376) hx hb (by decide +kernel) (by decide) (fun _ => ?_) (fun _ => ?_)
    · skip
      refine lv_iconst hx hb (v := Int32.ofInt 0) (by decide +kernel) rfl ?_
      refine pz_crV Y hcs (v_X12_image (Nat.le_of_ble_eq_true rfl) (Nat.le_of_ble_eq_true rfl) (by decide +kernel)) H locs ls M [.inr (.inr (12, 1)), .inl 0] [] 1377 (by decide +kernel) hP hS hM ?_ hl.1 rfl (Nat.le_of_ble_eq_true rfl) (hJ) (fun r M1 H1 locs1 hq hr hP1 hS1 hM1 => ?_)
      · skip
        exact (List.forall_mem_cons.mpr ⟨(show pz_kd 1 = 12 ∧ 1 < 231 from by decide), (List.forall_mem_cons.mpr ⟨(show pz_c _ from by unfold pz_c; omega), List.forall_mem_nil _⟩)⟩)
      obtain ⟨w1377, rfl, -⟩ := hr
      have hq : (_) ∧ _ := hq
      obtain ⟨q1377, z1377⟩ := hq
      have hI1 : pz_ic M1 := pz_ic_cg (z1377.1).2 hI
      have hJ1 : pz_im M1 := (z1377.1).1 hJ
      clear hP hS hM hI hJ
      have hI := hI1
      have hJ := hJ1
      clear hI1 hJ1
      clear q1377 z1377
      have hP := hP1
      have hS := hS1
      have hM := hM1
      clear hP1 hS1 hM1
      skip
      obtain ⟨H, rfl⟩ : ∃ z, z = H1 := ⟨_, rfl⟩
      obtain ⟨locs, rfl⟩ : ∃ z, z = locs1 := ⟨_, rfl⟩
      obtain ⟨M, rfl⟩ : ∃ z, z = M1 := ⟨_, rfl⟩
      refine lv_pop hx hb (by decide +kernel) rfl ?_
      refine lv_goto (tgt := 1407) hx hb (by decide +kernel) (by decide) ?_
      exact K _ _ _ hI hJ hP hS hM
    · skip
      refine lv_iconst hx hb (v := Int32.ofInt 1) (by decide +kernel) rfl ?_
      refine lv_goto (tgt := 1377) hx hb (by decide +kernel) (by decide) ?_
      refine pz_crV Y hcs (v_X12_image (Nat.le_of_ble_eq_true rfl) (Nat.le_of_ble_eq_true rfl) (by decide +kernel)) H locs ls M [.inr (.inr (12, 1)), .inl 1] [] 1377 (by decide +kernel) hP hS hM ?_ hl.1 rfl (Nat.le_of_ble_eq_true rfl) (hJ) (fun r M1 H1 locs1 hq hr hP1 hS1 hM1 => ?_)
      · skip
        exact (List.forall_mem_cons.mpr ⟨(show pz_kd 1 = 12 ∧ 1 < 231 from by decide), (List.forall_mem_cons.mpr ⟨(show pz_c _ from by unfold pz_c; omega), List.forall_mem_nil _⟩)⟩)
      obtain ⟨w1377, rfl, -⟩ := hr
      have hq : (_) ∧ _ := hq
      obtain ⟨q1377, z1377⟩ := hq
      have hI1 : pz_ic M1 := pz_ic_cg (z1377.1).2 hI
      have hJ1 : pz_im M1 := (z1377.1).1 hJ
      clear hP hS hM hI hJ
      have hI := hI1
      have hJ := hJ1
      clear hI1 hJ1
      clear q1377 z1377
      have hP := hP1
      have hS := hS1
      have hM := hM1
      clear hP1 hS1 hM1
      skip
      obtain ⟨H, rfl⟩ : ∃ z, z = H1 := ⟨_, rfl⟩
      obtain ⟨locs, rfl⟩ : ∃ z, z = locs1 := ⟨_, rfl⟩
      obtain ⟨M, rfl⟩ : ∃ z, z = M1 := ⟨_, rfl⟩
      refine lv_pop hx hb (by decide +kernel) rfl ?_
      refine lv_goto (tgt := 1407) hx hb (by decide +kernel) (by decide) ?_
      exact K _ _ _ hI hJ hP hS hM
  · skip
    refine lv_iconst hx hb (v := Int32.ofInt 1) (by decide +kernel) rfl ?_
    refine lv_goto (tgt := 1359) hx hb (by decide +kernel) (by decide) ?_
    refine pz_crV Y hcs (v_X11_image (Nat.le_of_ble_eq_true rfl) (Nat.le_of_ble_eq_true rfl) (by decide +kernel)) H locs ls M [.inr (.inr (11, 0)), .inl 1] [] 1359 (by decide +kernel) hP hS hM ?_ hl.1 rfl (Nat.le_of_ble_eq_true rfl) (hI) (fun r M1 H1 locs1 hq hr hP1 hS1 hM1 => ?_)
    · skip
      exact (List.forall_mem_cons.mpr ⟨(show pz_kd 0 = 11 ∧ 0 < 231 from by decide), (List.forall_mem_cons.mpr ⟨(show pz_c _ from by unfold pz_c; omega), List.forall_mem_nil _⟩)⟩)
    obtain ⟨w1359, rfl, -⟩ := hr
    have hq : (_) ∧ _ := hq
    obtain ⟨q1359, z1359⟩ := hq
    have hJ1 : pz_im M1 := pz_im_cg (z1359.1).2 hJ
    have hI1 : pz_ic M1 := (z1359.1).1 hI
    clear hP hS hM hI hJ
    have hI := hI1
    have hJ := hJ1
    clear hI1 hJ1
    clear q1359 z1359
    have hP := hP1
    have hS := hS1
    have hM := hM1
    clear hP1 hS1 hM1
    skip
    obtain ⟨H, rfl⟩ : ∃ z, z = H1 := ⟨_, rfl⟩
    obtain ⟨locs, rfl⟩ : ∃ z, z = locs1 := ⟨_, rfl⟩
    obtain ⟨M, rfl⟩ : ∃ z, z = M1 := ⟨_, rfl⟩
    refine lv_pop hx hb (by decide +kernel) rfl ?_
    refine lv_aload_n hx hb (k := 2) (by decide +kernel) rfl (lv_at hl 2 rfl) ?_
    refine pz_la Y hX hbl hbA hL (i := i) (k := 1) (by omega) hl hS (by decide +kernel) (by decide +kernel) (by decide +kernel) (by decide +kernel) (by decide +kernel) ?_
    refine lv_if_eq (tgt := 1376) hx hb (by decide +kernel) (by decide) (fun _ => ?_) (fun _ => ?_)
    · skip
      refine lv_iconst hx hb (v := Int32.ofInt 0) (by decide +kernel) rfl ?_
      refine pz_crV Y hcs (v_X12_image (Nat.le_of_ble_eq_true rfl) (Nat.le_of_ble_eq_true rfl) (by decide +kernel)) H locs ls M [.inr (.inr (12, 1)), .inl 0] [] 1377 (by decide +kernel) hP hS hM ?_ hl.1 rfl (Nat.le_of_ble_eq_true rfl) (hJ) (fun r M1 H1 locs1 hq hr hP1 hS1 hM1 => ?_)
      · skip
        exact (List.forall_mem_cons.mpr ⟨(show pz_kd 1 = 12 ∧ 1 < 231 from by decide), (List.forall_mem_cons.mpr ⟨(show pz_c _ from by unfold pz_c; omega), List.forall_mem_nil _⟩)⟩)
      obtain ⟨w1377, rfl, -⟩ := hr
      have hq : (_) ∧ _ := hq
      obtain ⟨q1377, z1377⟩ := hq
      have hI1 : pz_ic M1 := pz_ic_cg (z1377.1).2 hI
      have hJ1 : pz_im M1 := (z1377.1).1 hJ
      clear hP hS hM hI hJ
      have hI := hI1
      have hJ := hJ1
      clear hI1 hJ1
      clear q1377 z1377
      have hP := hP1
      have hS := hS1
      have hM := hM1
      clear hP1 hS1 hM1
      skip
      obtain ⟨H, rfl⟩ : ∃ z, z = H1 := ⟨_, rfl⟩
      obtain ⟨locs, rfl⟩ : ∃ z, z = locs1 := ⟨_, rfl⟩
      obtain ⟨M, rfl⟩ : ∃ z, z = M1 := ⟨_, rfl⟩
      refine lv_pop hx hb (by decide +kernel) rfl ?_
      refine lv_goto (tgt := 1407) hx hb (by decide +kernel) (by decide) ?_
      exact K _ _ _ hI hJ hP hS hM
    · skip
      refine lv_iconst hx hb (v := Int32.ofInt 1) (by decide +kernel) rfl ?_
      refine lv_goto (tgt := 1377) hx hb (by decide +kernel) (by decide) ?_
      refine pz_crV Y hcs (v_X12_image (Nat.le_of_ble_eq_true rfl) (Nat.le_of_ble_eq_true rfl) (by decide +kernel)) H locs ls M [.inr (.inr (12, 1)), .inl 1] [] 1377 (by decide +kernel) hP hS hM ?_ hl.1 rfl (Nat.le_of_ble_eq_true rfl) (hJ) (fun r M1 H1 locs1 hq hr hP1 hS1 hM1 => ?_)
      · skip
        exact (List.forall_mem_cons.mpr ⟨(show pz_kd 1 = 12 ∧ 1 < 231 from by decide), (List.forall_mem_cons.mpr ⟨(show pz_c _ from by unfold pz_c; omega), List.forall_mem_nil _⟩)⟩)
      obtain ⟨w1377, rfl, -⟩ := hr
      have hq : (_) ∧ _ := hq
      obtain ⟨q1377, z1377⟩ := hq
      have hI1 : pz_ic M1 := pz_ic_cg (z1377.1).2 hI
      have hJ1 : pz_im M1 := (z1377.1).1 hJ
      clear hP hS hM hI hJ
      have hI := hI1
      have hJ := hJ1
      clear hI1 hJ1
      clear q1377 z1377
      have hP := hP1
      have hS := hS1
      have hM := hM1
      clear hP1 hS1 hM1
      skip
      obtain ⟨H, rfl⟩ : ∃ z, z = H1 := ⟨_, rfl⟩
      obtain ⟨locs, rfl⟩ : ∃ z, z = locs1 := ⟨_, rfl⟩
      obtain ⟨M, rfl⟩ : ∃ z, z = M1 := ⟨_, rfl⟩
      refine lv_pop hx hb (by decide +kernel) rfl ?_
      refine lv_goto (tgt := 1407) hx hb (by decide +kernel) (by decide) ?_
      exact K _ _ _ hI hJ hP hS hM
set_option maxRecDepth 100000 in
set_option maxHeartbeats 4000000 in
theorem pz_case38 (Y : pz_Y p s m #[Value.ref b] c code R_law 4 D ad adV cy A) (hcs : cells ≤ room_1.cells ∧ slots ≤ room_1.slots) (hX : va_X b L xs s s.heap) (hbl : b < s.heap.size) (hbA : ¬ A b) (hL : L ≤ 3072) {i : Nat} (hi : i + 6 ≤ L) {H : Heap} {locs : List Loc} {ls : Array Slot} {M : pz_M} (hl : lv_has ls 4 [(0, .ref b), (1, .ref (ad 0)), (2, .ref (ad 1)), (3, .int (Int32.ofNat i))]) (hP : va_P D vwCl (pz_ws ad cy M) H) (hS : va_S A s.heap H locs) (hM : ∀ a k : Nat, pz_c (M a k)) (hI : pz_ic M) (hJ : pz_im M) (K : ∀ (M9 : pz_M) (H9 : Heap) (locs9 : List Loc), pz_ic M9 → pz_im M9 → va_P D vwCl (pz_ws ad cy M9) H9 → va_S A s.heap H9 locs9 → (∀ a k : Nat, pz_c (M9 a k)) → W p l e room_1 s m #[Value.ref b] below meth c H9 locs9 cells slots Q (F0 m 1407 ls [])) : W p l e room_1 s m #[Value.ref b] below meth c H locs cells slots Q (F0 m 1384 ls []) := by
  have Y0 := Y
  obtain ⟨hx, hb, hml, hown, hts, hXX⟩ := Y0
  refine lv_aload_n hx hb (k := 1) (by decide +kernel) rfl (lv_at hl 1 rfl) ?_
  refine pz_la Y hX hbl hbA hL (i := i) (k := 1) (by omega) hl hS (by decide +kernel) (by decide +kernel) (by decide +kernel) (by decide +kernel) (by decide +kernel) ?_
  refine pz_crV Y hcs (v_X11_look (Nat.le_of_ble_eq_true rfl) (Nat.le_of_ble_eq_true rfl) (by decide +kernel)) H locs ls M [.inr (.inr (11, 0)), .inl (xs (i + 1)).toInt] [] 1390 (by decide +kernel) hP hS hM ?_ hl.1 rfl (Nat.le_of_ble_eq_true rfl) (hI) (fun r M1 H1 locs1 hq hr hP1 hS1 hM1 => ?_)
  · skip
    exact (List.forall_mem_cons.mpr ⟨(show pz_kd 0 = 11 ∧ 0 < 231 from by decide), (List.forall_mem_cons.mpr ⟨(pz_tc _), List.forall_mem_nil _⟩)⟩)
  obtain ⟨w1390, rfl, -⟩ := hr
  have hq : (_) ∧ _ := hq
  obtain ⟨q1390, z1390⟩ := hq
  subst z1390
  clear hP hS hM
  have hP := hP1
  have hS := hS1
  have hM := hM1
  clear hP1 hS1 hM1
  obtain ⟨H, rfl⟩ : ∃ z, z = H1 := ⟨_, rfl⟩
  obtain ⟨locs, rfl⟩ : ∃ z, z = locs1 := ⟨_, rfl⟩
  refine lv_pop hx hb (by decide +kernel) rfl ?_
  refine lv_aload_n hx hb (k := 2) (by decide +kernel) rfl (lv_at hl 2 rfl) ?_
  refine pz_la Y hX hbl hbA hL (i := i) (k := 1) (by omega) hl hS (by decide +kernel) (by decide +kernel) (by decide +kernel) (by decide +kernel) (by decide +kernel) ?_
  refine pz_crV Y hcs (v_X12_look (Nat.le_of_ble_eq_true rfl) (Nat.le_of_ble_eq_true rfl) (by decide +kernel)) H locs ls M [.inr (.inr (12, 1)), .inl (xs (i + 1)).toInt] [] 1400 (by decide +kernel) hP hS hM ?_ hl.1 rfl (Nat.le_of_ble_eq_true rfl) (hJ) (fun r M1 H1 locs1 hq hr hP1 hS1 hM1 => ?_)
  · skip
    exact (List.forall_mem_cons.mpr ⟨(show pz_kd 1 = 12 ∧ 1 < 231 from by decide), (List.forall_mem_cons.mpr ⟨(pz_tc _), List.forall_mem_nil _⟩)⟩)
  obtain ⟨w1400, rfl, -⟩ := hr
  have hq : (_) ∧ _ := hq
  obtain ⟨q1400, z1400⟩ := hq
  subst z1400
  clear hP hS hM
  have hP := hP1
  have hS := hS1
  have hM := hM1
  clear hP1 hS1 hM1
  obtain ⟨H, rfl⟩ : ∃ z, z = H1 := ⟨_, rfl⟩
  obtain ⟨locs, rfl⟩ : ∃ z, z = locs1 := ⟨_, rfl⟩
  refine lv_pop hx hb (by decide +kernel) rfl ?_
  refine lv_goto (tgt := 1407) hx hb (by decide +kernel) (by decide) ?_
  exact K _ _ _ hI hJ hP hS hM
end PZL
