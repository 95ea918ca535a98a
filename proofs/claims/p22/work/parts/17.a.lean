/-! the law -/
theorem pz_im_cg {M M' : pz_M} (h : ∀ b j : Nat, pz_mid b → M' b j = M b j) (hI : pz_im M) : pz_im M' := by
  have e1 : M' 1 = M 1 := funext fun j => h 1 j (by unfold pz_mid; first | decide | omega)
  have e60 : M' 60 = M 60 := funext fun j => h 60 j (by unfold pz_mid; first | decide | omega)
  have e61 : M' 61 = M 61 := funext fun j => h 61 j (by unfold pz_mid; first | decide | omega)
  have e62 : M' 62 = M 62 := funext fun j => h 62 j (by unfold pz_mid; first | decide | omega)
  have e63 : M' 63 = M 63 := funext fun j => h 63 j (by unfold pz_mid; first | decide | omega)
  unfold pz_im pz_iw pz_ix pz_lw at *
  rw [e1, e60, e61, e62, e63]
  exact hI
theorem pz_ic_cg {M M' : pz_M} (h : ∀ b j : Nat, ¬ pz_mid b → M' b j = M b j) (hI : pz_ic M) : pz_ic M' := by
  obtain ⟨i1, i2, i3, i4, i5, i6⟩ := hI
  refine ⟨fun c q1 q2 => ?_, ?_, fun r q1 q2 => ?_, fun L q1 q2 => ?_, ?_, ?_⟩
  · rw [h c 3 (by unfold pz_mid; first | decide | omega), h c 7 (by unfold pz_mid; first | decide | omega)]; exact i1 c q1 q2
  · rw [h 3 1 (by unfold pz_mid; first | decide | omega)]; exact i2
  · rw [h r 0 (by unfold pz_mid; first | decide | omega)]; exact i3 r q1 q2
  · rw [h L 0 (by unfold pz_mid; first | decide | omega), h L 1 (by unfold pz_mid; first | decide | omega)]; exact i4 L q1 q2
  · rw [h 4 1 (by unfold pz_mid; first | decide | omega)]; exact i5
  · rw [h 7 3 (by unfold pz_mid; first | decide | omega)]; exact i6
theorem pz_ix1 {i k : Nat} (h : i + k < 4000) : (Int32.ofNat i + Int32.ofNat k).toNatClampNeg = i + k ∧ ¬ (Int32.ofNat i + Int32.ofNat k < 0) := by
  have e : Int32.ofNat i + Int32.ofNat k = Int32.ofInt ((i + k : Nat) : Int) := by
    rw [← Int32.ofNat_add, Int32.ofInt_eq_ofNat]
  have hc : pz_c ((i + k : Nat) : Int) := by unfold pz_c; omega
  rw [e]
  refine ⟨by rw [pz_clamp hc]; omega, fun q => ?_⟩
  have := (pz_lt hc (show pz_c 0 by unfold pz_c; omega)).mp q
  omega
def pz_R (M : pz_M) : Prop := pz_RZ M
section PZL
variable {p : Program} {l : Launch} {e : Env} {s : State} {m : MethodId} {below : List Frame} {meth : Method} {c : Code} {cells slots : Nat} {Q : State → Prop}
variable {D : va_G} {ad adV : Nat → Nat} {cy : Nat → ClassId} {A : Nat → Prop} {b L : Nat} {xs : Nat → Int32}
/-- an argument is read out of the script -/
theorem pz_la (Y : pz_Y p s m #[Value.ref b] c code R_law 4 D ad adV cy A) (hX : va_X b L xs s s.heap) (hbl : b < s.heap.size) (hbA : ¬ A b) (hL : L ≤ 3072) {i k pc : Nat} (hi : i + k < L) {H : Heap} {locs : List Loc} {ls : Array Slot} {rest : List Value} (hl : lv_has ls 4 [(0, .ref b), (1, .ref (ad 0)), (2, .ref (ad 1)), (3, .int (Int32.ofNat i))]) (hS : va_S A s.heap H locs)
    (d0 : decode code pc = .ok (.aload_n 0, 1)) (d1 : decode code (pc + 1) = .ok (.iload_n 3, 1)) (d2 : decode code (pc + 1 + 1) = .ok (.iconst (k : Int), 1)) (d3 : decode code (pc + 1 + 1 + 1) = .ok (.iadd, 1)) (d4 : decode code (pc + 1 + 1 + 1 + 1) = .ok (.iaload, 1))
    (kk : W p l e room_1 s m #[Value.ref b] below meth c H locs cells slots Q (F0 m (pc + 1 + 1 + 1 + 1 + 1) ls (.int (Int32.ofInt (xs (i + k)).toInt) :: rest))) : W p l e room_1 s m #[Value.ref b] below meth c H locs cells slots Q (F0 m pc ls rest) := by
  obtain ⟨hx, hb, hml, hown, hts, hXX⟩ := Y
  refine lv_aload_n hx hb d0 rfl (lv_at hl 0 rfl) ?_
  refine lv_iload_n hx hb d1 rfl (lv_at hl 3 rfl) ?_
  refine lv_iconst hx hb (v := Int32.ofNat k) d2 (by rw [← Int32.ofInt_eq_ofNat]) ?_
  refine lv_iadd hx hb d3 ?_
  obtain ⟨g1, g2⟩ := pz_ix1 (i := i) (k := k) (by first | decide | omega)
  refine va_sld hx hb hX hbl hbA hS (fun q => by rcases q with q | q; exact g2 q; rw [g1] at q; omega) d4 ?_
  rw [g1, ← Int32.ofInt_toInt (xs (i + k))]
  rw [Int32.ofInt_toInt] at kk
  rw [Int32.ofInt_toInt]
  exact kk

set_option maxRecDepth 100000 in
set_option maxHeartbeats 4000000 in
theorem pz_case0 (Y : pz_Y p s m #[Value.ref b] c code R_law 4 D ad adV cy A) (hcs : cells ≤ room_1.cells ∧ slots ≤ room_1.slots) (hX : va_X b L xs s s.heap) (hbl : b < s.heap.size) (hbA : ¬ A b) (hL : L ≤ 3072) {i : Nat} (hi : i + 6 ≤ L) {H : Heap} {locs : List Loc} {ls : Array Slot} {M : pz_M} (hl : lv_has ls 4 [(0, .ref b), (1, .ref (ad 0)), (2, .ref (ad 1)), (3, .int (Int32.ofNat i))]) (hP : va_P D vwCl (pz_ws ad cy M) H) (hS : va_S A s.heap H locs) (hM : ∀ a k : Nat, pz_c (M a k)) (hI : pz_ic M) (hJ : pz_im M) (hR : pz_R M) (K : ∀ (M9 : pz_M) (H9 : Heap) (locs9 : List Loc), pz_ic M9 → pz_im M9 → pz_R M9 → va_P D vwCl (pz_ws ad cy M9) H9 → va_S A s.heap H9 locs9 → (∀ a k : Nat, pz_c (M9 a k)) → W p l e room_1 s m #[Value.ref b] below meth c H9 locs9 cells slots Q (F0 m 1407 ls [])) : W p l e room_1 s m #[Value.ref b] below meth c H locs cells slots Q (F0 m 204 ls []) := by
  obtain ⟨hx, hb, hml, hown, hts, hXX⟩ := id Y
  refine lv_aload_n hx hb (k := 1) (show decode code 204 = .ok (.aload_n 1, 1) from pz_dlL1 (204, .aload_n 1, 1, 205, []) (List.mem_of_getElem? (i := 6) rfl)) rfl (lv_at hl 1 rfl) ?_
  refine pz_la Y hX hbl hbA hL (i := i) (k := 1) (by first | decide | omega) hl hS (show decode code 205 = .ok (.aload_n 0, 1) from pz_dlL1 (205, .aload_n 0, 1, 206, []) (List.mem_of_getElem? (i := 7) rfl)) (show decode code 206 = .ok (.iload_n 3, 1) from pz_dlL1 (206, .iload_n 3, 1, 207, []) (List.mem_of_getElem? (i := 8) rfl)) (show decode code 207 = .ok (.iconst 1, 1) from pz_dlL1 (207, .iconst 1, 1, 208, []) (List.mem_of_getElem? (i := 9) rfl)) (show decode code 208 = .ok (.iadd, 1) from pz_dlL1 (208, .iadd, 1, 209, []) (List.mem_of_getElem? (i := 10) rfl)) (show decode code 209 = .ok (.iaload, 1) from pz_dlL1 (209, .iaload, 1, 210, []) (List.mem_of_getElem? (i := 11) rfl)) ?_
  refine pz_crV Y hcs (v3_X11_state (Nat.le_of_ble_eq_true rfl) (Nat.le_of_ble_eq_true rfl) pz_wq410) H locs ls M [.inr (.inr (11, 0)), .inl (xs (i + 1)).toInt] [] 210 (show decode code 210 = .ok (.invokevirtual 13, 3) from pz_dlL1 (210, .invokevirtual 13, 3, 213, []) (List.mem_of_getElem? (i := 12) rfl)) hP hS hM ?_ hl.1 rfl (Nat.le_of_ble_eq_true rfl) (hI) (fun r210 M210 H210 locs210 hq hr hP hS hM => ?_)
  · skip
    exact (List.forall_mem_cons.mpr ⟨(show pz_kd 0 = 11 ∧ 0 < 231 from by decide), (List.forall_mem_cons.mpr ⟨(pz_tc _), List.forall_mem_nil _⟩)⟩)
  obtain ⟨w210, rfl, C210⟩ := hr
  have hq : _ ∧ _ := hq
  obtain ⟨q210, z210⟩ := hq
  have hI8 := hI
  have hR8 : pz_RZ M := hR
  have hJ : pz_im M210 := pz_im_cg (fun b j q => z210.1.2.1 b j (Or.inl q)) hJ
  have hI : pz_ic M210 := z210.1.1 hI
  refine lv_pop hx hb (show decode code 213 = .ok (.pop, 1) from pz_dlL1 (213, .pop, 1, 214, []) (List.mem_of_getElem? (i := 13) rfl)) rfl ?_
  refine lv_aload_n hx hb (k := 2) (show decode code 214 = .ok (.aload_n 2, 1) from pz_dlL1 (214, .aload_n 2, 1, 215, []) (List.mem_of_getElem? (i := 14) rfl)) rfl (lv_at hl 2 rfl) ?_
  refine pz_la Y hX hbl hbA hL (i := i) (k := 1) (by first | decide | omega) hl hS (show decode code 215 = .ok (.aload_n 0, 1) from pz_dlL1 (215, .aload_n 0, 1, 216, []) (List.mem_of_getElem? (i := 15) rfl)) (show decode code 216 = .ok (.iload_n 3, 1) from pz_dlL2 (216, .iload_n 3, 1, 217, []) (List.mem_of_getElem? (i := 0) rfl)) (show decode code 217 = .ok (.iconst 1, 1) from pz_dlL2 (217, .iconst 1, 1, 218, []) (List.mem_of_getElem? (i := 1) rfl)) (show decode code 218 = .ok (.iadd, 1) from pz_dlL2 (218, .iadd, 1, 219, []) (List.mem_of_getElem? (i := 2) rfl)) (show decode code 219 = .ok (.iaload, 1) from pz_dlL2 (219, .iaload, 1, 220, []) (List.mem_of_getElem? (i := 3) rfl)) ?_
  refine pz_crV Y hcs (v3_X12_state (Nat.le_of_ble_eq_true rfl) (Nat.le_of_ble_eq_true rfl) pz_wq1205) H210 locs210 ls M210 [.inr (.inr (12, 1)), .inl (xs (i + 1)).toInt] [] 220 (show decode code 220 = .ok (.invokevirtual 17, 3) from pz_dlL2 (220, .invokevirtual 17, 3, 223, []) (List.mem_of_getElem? (i := 4) rfl)) hP hS hM ?_ hl.1 rfl (Nat.le_of_ble_eq_true rfl) (hJ) (fun r220 M220 H220 locs220 hq hr hP hS hM => ?_)
  · skip
    exact (List.forall_mem_cons.mpr ⟨(show pz_kd 1 = 12 ∧ 1 < 231 from by decide), (List.forall_mem_cons.mpr ⟨(pz_tc _), List.forall_mem_nil _⟩)⟩)
  obtain ⟨w220, rfl, C220⟩ := hr
  have hq : _ ∧ _ := hq
  obtain ⟨q220, z220⟩ := hq
  obtain ⟨E8, hR⟩ := pz_RZ_state hI8 hR8 q210 z210 q220 z220
  have hI : pz_ic M220 := pz_ic_cg (fun b j q => z220.2 b j (by unfold pz_QX; unfold pz_mid at q; omega)) hI
  have hJ : pz_im M220 := z220.1 hJ
  refine lv_pop hx hb (show decode code 223 = .ok (.pop, 1) from pz_dlL2 (223, .pop, 1, 224, []) (List.mem_of_getElem? (i := 5) rfl)) rfl ?_
  refine lv_goto (tgt := 1407) hx hb (show decode code 224 = .ok (.goto 1183, 3) from pz_dlL2 (224, .goto 1183, 3, 227, [1407]) (List.mem_of_getElem? (i := 6) rfl)) (by decide) ?_
  have hR : pz_R M220 := by
    exact hR
  exact K _ _ _ hI hJ hR hP hS hM
set_option maxRecDepth 100000 in
set_option maxHeartbeats 4000000 in
theorem pz_case1 (Y : pz_Y p s m #[Value.ref b] c code R_law 4 D ad adV cy A) (hcs : cells ≤ room_1.cells ∧ slots ≤ room_1.slots) (hX : va_X b L xs s s.heap) (hbl : b < s.heap.size) (hbA : ¬ A b) (hL : L ≤ 3072) {i : Nat} (hi : i + 6 ≤ L) {H : Heap} {locs : List Loc} {ls : Array Slot} {M : pz_M} (hl : lv_has ls 4 [(0, .ref b), (1, .ref (ad 0)), (2, .ref (ad 1)), (3, .int (Int32.ofNat i))]) (hP : va_P D vwCl (pz_ws ad cy M) H) (hS : va_S A s.heap H locs) (hM : ∀ a k : Nat, pz_c (M a k)) (hI : pz_ic M) (hJ : pz_im M) (hR : pz_R M) (K : ∀ (M9 : pz_M) (H9 : Heap) (locs9 : List Loc), pz_ic M9 → pz_im M9 → pz_R M9 → va_P D vwCl (pz_ws ad cy M9) H9 → va_S A s.heap H9 locs9 → (∀ a k : Nat, pz_c (M9 a k)) → W p l e room_1 s m #[Value.ref b] below meth c H9 locs9 cells slots Q (F0 m 1407 ls [])) : W p l e room_1 s m #[Value.ref b] below meth c H locs cells slots Q (F0 m 227 ls []) := by
  obtain ⟨hx, hb, hml, hown, hts, hXX⟩ := id Y
  refine lv_aload_n hx hb (k := 1) (show decode code 227 = .ok (.aload_n 1, 1) from pz_dlL2 (227, .aload_n 1, 1, 228, []) (List.mem_of_getElem? (i := 7) rfl)) rfl (lv_at hl 1 rfl) ?_
  refine pz_la Y hX hbl hbA hL (i := i) (k := 1) (by first | decide | omega) hl hS (show decode code 228 = .ok (.aload_n 0, 1) from pz_dlL2 (228, .aload_n 0, 1, 229, []) (List.mem_of_getElem? (i := 8) rfl)) (show decode code 229 = .ok (.iload_n 3, 1) from pz_dlL2 (229, .iload_n 3, 1, 230, []) (List.mem_of_getElem? (i := 9) rfl)) (show decode code 230 = .ok (.iconst 1, 1) from pz_dlL2 (230, .iconst 1, 1, 231, []) (List.mem_of_getElem? (i := 10) rfl)) (show decode code 231 = .ok (.iadd, 1) from pz_dlL2 (231, .iadd, 1, 232, []) (List.mem_of_getElem? (i := 11) rfl)) (show decode code 232 = .ok (.iaload, 1) from pz_dlL2 (232, .iaload, 1, 233, []) (List.mem_of_getElem? (i := 12) rfl)) ?_
  refine pz_la Y hX hbl hbA hL (i := i) (k := 2) (by first | decide | omega) hl hS (show decode code 233 = .ok (.aload_n 0, 1) from pz_dlL2 (233, .aload_n 0, 1, 234, []) (List.mem_of_getElem? (i := 13) rfl)) (show decode code 234 = .ok (.iload_n 3, 1) from pz_dlL2 (234, .iload_n 3, 1, 235, []) (List.mem_of_getElem? (i := 14) rfl)) (show decode code 235 = .ok (.iconst 2, 1) from pz_dlL2 (235, .iconst 2, 1, 236, []) (List.mem_of_getElem? (i := 15) rfl)) (show decode code 236 = .ok (.iadd, 1) from pz_dlL3 (236, .iadd, 1, 237, []) (List.mem_of_getElem? (i := 0) rfl)) (show decode code 237 = .ok (.iaload, 1) from pz_dlL3 (237, .iaload, 1, 238, []) (List.mem_of_getElem? (i := 1) rfl)) ?_
  refine pz_la Y hX hbl hbA hL (i := i) (k := 3) (by first | decide | omega) hl hS (show decode code 238 = .ok (.aload_n 0, 1) from pz_dlL3 (238, .aload_n 0, 1, 239, []) (List.mem_of_getElem? (i := 2) rfl)) (show decode code 239 = .ok (.iload_n 3, 1) from pz_dlL3 (239, .iload_n 3, 1, 240, []) (List.mem_of_getElem? (i := 3) rfl)) (show decode code 240 = .ok (.iconst 3, 1) from pz_dlL3 (240, .iconst 3, 1, 241, []) (List.mem_of_getElem? (i := 4) rfl)) (show decode code 241 = .ok (.iadd, 1) from pz_dlL3 (241, .iadd, 1, 242, []) (List.mem_of_getElem? (i := 5) rfl)) (show decode code 242 = .ok (.iaload, 1) from pz_dlL3 (242, .iaload, 1, 243, []) (List.mem_of_getElem? (i := 6) rfl)) ?_
  refine pz_la Y hX hbl hbA hL (i := i) (k := 4) (by first | decide | omega) hl hS (show decode code 243 = .ok (.aload_n 0, 1) from pz_dlL3 (243, .aload_n 0, 1, 244, []) (List.mem_of_getElem? (i := 7) rfl)) (show decode code 244 = .ok (.iload_n 3, 1) from pz_dlL3 (244, .iload_n 3, 1, 245, []) (List.mem_of_getElem? (i := 8) rfl)) (show decode code 245 = .ok (.iconst 4, 1) from pz_dlL3 (245, .iconst 4, 1, 246, []) (List.mem_of_getElem? (i := 9) rfl)) (show decode code 246 = .ok (.iadd, 1) from pz_dlL3 (246, .iadd, 1, 247, []) (List.mem_of_getElem? (i := 10) rfl)) (show decode code 247 = .ok (.iaload, 1) from pz_dlL3 (247, .iaload, 1, 248, []) (List.mem_of_getElem? (i := 11) rfl)) ?_
  refine pz_crV Y hcs (v_X11_link (Nat.le_of_ble_eq_true rfl) (Nat.le_of_ble_eq_true rfl) pz_wq418) H locs ls M [.inr (.inr (11, 0)), .inl (xs (i + 1)).toInt, .inl (xs (i + 2)).toInt, .inl (xs (i + 3)).toInt, .inl (xs (i + 4)).toInt] [] 248 (show decode code 248 = .ok (.invokevirtual 18, 3) from pz_dlL3 (248, .invokevirtual 18, 3, 251, []) (List.mem_of_getElem? (i := 12) rfl)) hP hS hM ?_ hl.1 rfl (Nat.le_of_ble_eq_true rfl) (hI) (fun r248 M248 H248 locs248 hq hr hP hS hM => ?_)
  · skip
    exact (List.forall_mem_cons.mpr ⟨(show pz_kd 0 = 11 ∧ 0 < 231 from by decide), (List.forall_mem_cons.mpr ⟨(pz_tc _), (List.forall_mem_cons.mpr ⟨(pz_tc _), (List.forall_mem_cons.mpr ⟨(pz_tc _), (List.forall_mem_cons.mpr ⟨(pz_tc _), List.forall_mem_nil _⟩)⟩)⟩)⟩)⟩)
  obtain ⟨w248, rfl, C248⟩ := hr
  have hq : _ ∧ _ := hq
  obtain ⟨q248, z248⟩ := hq
  have hI8 := hI
  have hR8 : pz_RZ M := hR
  have hJ : pz_im M248 := pz_im_cg (pz_lk_mid hI q248) hJ
  have hI : pz_ic M248 := z248 hI
  refine lv_pop hx hb (show decode code 251 = .ok (.pop, 1) from pz_dlL3 (251, .pop, 1, 252, []) (List.mem_of_getElem? (i := 13) rfl)) rfl ?_
  refine lv_aload_n hx hb (k := 2) (show decode code 252 = .ok (.aload_n 2, 1) from pz_dlL3 (252, .aload_n 2, 1, 253, []) (List.mem_of_getElem? (i := 14) rfl)) rfl (lv_at hl 2 rfl) ?_
  refine pz_la Y hX hbl hbA hL (i := i) (k := 1) (by first | decide | omega) hl hS (show decode code 253 = .ok (.aload_n 0, 1) from pz_dlL3 (253, .aload_n 0, 1, 254, []) (List.mem_of_getElem? (i := 15) rfl)) (show decode code 254 = .ok (.iload_n 3, 1) from pz_dlL4 (254, .iload_n 3, 1, 255, []) (List.mem_of_getElem? (i := 0) rfl)) (show decode code 255 = .ok (.iconst 1, 1) from pz_dlL4 (255, .iconst 1, 1, 256, []) (List.mem_of_getElem? (i := 1) rfl)) (show decode code 256 = .ok (.iadd, 1) from pz_dlL4 (256, .iadd, 1, 257, []) (List.mem_of_getElem? (i := 2) rfl)) (show decode code 257 = .ok (.iaload, 1) from pz_dlL4 (257, .iaload, 1, 258, []) (List.mem_of_getElem? (i := 3) rfl)) ?_
  refine pz_la Y hX hbl hbA hL (i := i) (k := 2) (by first | decide | omega) hl hS (show decode code 258 = .ok (.aload_n 0, 1) from pz_dlL4 (258, .aload_n 0, 1, 259, []) (List.mem_of_getElem? (i := 4) rfl)) (show decode code 259 = .ok (.iload_n 3, 1) from pz_dlL4 (259, .iload_n 3, 1, 260, []) (List.mem_of_getElem? (i := 5) rfl)) (show decode code 260 = .ok (.iconst 2, 1) from pz_dlL4 (260, .iconst 2, 1, 261, []) (List.mem_of_getElem? (i := 6) rfl)) (show decode code 261 = .ok (.iadd, 1) from pz_dlL4 (261, .iadd, 1, 262, []) (List.mem_of_getElem? (i := 7) rfl)) (show decode code 262 = .ok (.iaload, 1) from pz_dlL4 (262, .iaload, 1, 263, []) (List.mem_of_getElem? (i := 8) rfl)) ?_
  refine pz_la Y hX hbl hbA hL (i := i) (k := 3) (by first | decide | omega) hl hS (show decode code 263 = .ok (.aload_n 0, 1) from pz_dlL4 (263, .aload_n 0, 1, 264, []) (List.mem_of_getElem? (i := 9) rfl)) (show decode code 264 = .ok (.iload_n 3, 1) from pz_dlL4 (264, .iload_n 3, 1, 265, []) (List.mem_of_getElem? (i := 10) rfl)) (show decode code 265 = .ok (.iconst 3, 1) from pz_dlL4 (265, .iconst 3, 1, 266, []) (List.mem_of_getElem? (i := 11) rfl)) (show decode code 266 = .ok (.iadd, 1) from pz_dlL4 (266, .iadd, 1, 267, []) (List.mem_of_getElem? (i := 12) rfl)) (show decode code 267 = .ok (.iaload, 1) from pz_dlL4 (267, .iaload, 1, 268, []) (List.mem_of_getElem? (i := 13) rfl)) ?_
  refine pz_la Y hX hbl hbA hL (i := i) (k := 4) (by first | decide | omega) hl hS (show decode code 268 = .ok (.aload_n 0, 1) from pz_dlL4 (268, .aload_n 0, 1, 269, []) (List.mem_of_getElem? (i := 14) rfl)) (show decode code 269 = .ok (.iload_n 3, 1) from pz_dlL4 (269, .iload_n 3, 1, 270, []) (List.mem_of_getElem? (i := 15) rfl)) (show decode code 270 = .ok (.iconst 4, 1) from pz_dlL5 (270, .iconst 4, 1, 271, []) (List.mem_of_getElem? (i := 0) rfl)) (show decode code 271 = .ok (.iadd, 1) from pz_dlL5 (271, .iadd, 1, 272, []) (List.mem_of_getElem? (i := 1) rfl)) (show decode code 272 = .ok (.iaload, 1) from pz_dlL5 (272, .iaload, 1, 273, []) (List.mem_of_getElem? (i := 2) rfl)) ?_
  refine pz_crV Y hcs (v_X12_link (Nat.le_of_ble_eq_true rfl) (Nat.le_of_ble_eq_true rfl) pz_wq1213) H248 locs248 ls M248 [.inr (.inr (12, 1)), .inl (xs (i + 1)).toInt, .inl (xs (i + 2)).toInt, .inl (xs (i + 3)).toInt, .inl (xs (i + 4)).toInt] [] 273 (show decode code 273 = .ok (.invokevirtual 22, 3) from pz_dlL5 (273, .invokevirtual 22, 3, 276, []) (List.mem_of_getElem? (i := 3) rfl)) hP hS hM ?_ hl.1 rfl (Nat.le_of_ble_eq_true rfl) (hJ) (fun r273 M273 H273 locs273 hq hr hP hS hM => ?_)
  · skip
    exact (List.forall_mem_cons.mpr ⟨(show pz_kd 1 = 12 ∧ 1 < 231 from by decide), (List.forall_mem_cons.mpr ⟨(pz_tc _), (List.forall_mem_cons.mpr ⟨(pz_tc _), (List.forall_mem_cons.mpr ⟨(pz_tc _), (List.forall_mem_cons.mpr ⟨(pz_tc _), List.forall_mem_nil _⟩)⟩)⟩)⟩)⟩)
  obtain ⟨w273, rfl, C273⟩ := hr
  have hq : _ ∧ _ := hq
  obtain ⟨q273, z273⟩ := hq
  obtain ⟨E8, hR⟩ := pz_RZ_link hI8 hR8 q248 q273
  have hI : pz_ic M273 := pz_ic_cg (fun b j q => z273.2 b j (by unfold pz_Q9; unfold pz_mid at q; omega)) hI
  have hJ : pz_im M273 := z273.1 hJ
  refine lv_pop hx hb (show decode code 276 = .ok (.pop, 1) from pz_dlL5 (276, .pop, 1, 277, []) (List.mem_of_getElem? (i := 4) rfl)) rfl ?_
  refine lv_goto (tgt := 1407) hx hb (show decode code 277 = .ok (.goto 1130, 3) from pz_dlL5 (277, .goto 1130, 3, 280, [1407]) (List.mem_of_getElem? (i := 5) rfl)) (by decide) ?_
  have hR : pz_R M273 := by
    exact hR
  exact K _ _ _ hI hJ hR hP hS hM
set_option maxRecDepth 100000 in
set_option maxHeartbeats 4000000 in
theorem pz_case2 (Y : pz_Y p s m #[Value.ref b] c code R_law 4 D ad adV cy A) (hcs : cells ≤ room_1.cells ∧ slots ≤ room_1.slots) (hX : va_X b L xs s s.heap) (hbl : b < s.heap.size) (hbA : ¬ A b) (hL : L ≤ 3072) {i : Nat} (hi : i + 6 ≤ L) {H : Heap} {locs : List Loc} {ls : Array Slot} {M : pz_M} (hl : lv_has ls 4 [(0, .ref b), (1, .ref (ad 0)), (2, .ref (ad 1)), (3, .int (Int32.ofNat i))]) (hP : va_P D vwCl (pz_ws ad cy M) H) (hS : va_S A s.heap H locs) (hM : ∀ a k : Nat, pz_c (M a k)) (hI : pz_ic M) (hJ : pz_im M) (hR : pz_R M) (K : ∀ (M9 : pz_M) (H9 : Heap) (locs9 : List Loc), pz_ic M9 → pz_im M9 → pz_R M9 → va_P D vwCl (pz_ws ad cy M9) H9 → va_S A s.heap H9 locs9 → (∀ a k : Nat, pz_c (M9 a k)) → W p l e room_1 s m #[Value.ref b] below meth c H9 locs9 cells slots Q (F0 m 1407 ls [])) : W p l e room_1 s m #[Value.ref b] below meth c H locs cells slots Q (F0 m 280 ls []) := by
  obtain ⟨hx, hb, hml, hown, hts, hXX⟩ := id Y
  refine lv_aload_n hx hb (k := 1) (show decode code 280 = .ok (.aload_n 1, 1) from pz_dlL5 (280, .aload_n 1, 1, 281, []) (List.mem_of_getElem? (i := 6) rfl)) rfl (lv_at hl 1 rfl) ?_
  refine pz_la Y hX hbl hbA hL (i := i) (k := 1) (by first | decide | omega) hl hS (show decode code 281 = .ok (.aload_n 0, 1) from pz_dlL5 (281, .aload_n 0, 1, 282, []) (List.mem_of_getElem? (i := 7) rfl)) (show decode code 282 = .ok (.iload_n 3, 1) from pz_dlL5 (282, .iload_n 3, 1, 283, []) (List.mem_of_getElem? (i := 8) rfl)) (show decode code 283 = .ok (.iconst 1, 1) from pz_dlL5 (283, .iconst 1, 1, 284, []) (List.mem_of_getElem? (i := 9) rfl)) (show decode code 284 = .ok (.iadd, 1) from pz_dlL5 (284, .iadd, 1, 285, []) (List.mem_of_getElem? (i := 10) rfl)) (show decode code 285 = .ok (.iaload, 1) from pz_dlL5 (285, .iaload, 1, 286, []) (List.mem_of_getElem? (i := 11) rfl)) ?_
  refine pz_la Y hX hbl hbA hL (i := i) (k := 2) (by first | decide | omega) hl hS (show decode code 286 = .ok (.aload_n 0, 1) from pz_dlL5 (286, .aload_n 0, 1, 287, []) (List.mem_of_getElem? (i := 12) rfl)) (show decode code 287 = .ok (.iload_n 3, 1) from pz_dlL5 (287, .iload_n 3, 1, 288, []) (List.mem_of_getElem? (i := 13) rfl)) (show decode code 288 = .ok (.iconst 2, 1) from pz_dlL5 (288, .iconst 2, 1, 289, []) (List.mem_of_getElem? (i := 14) rfl)) (show decode code 289 = .ok (.iadd, 1) from pz_dlL5 (289, .iadd, 1, 290, []) (List.mem_of_getElem? (i := 15) rfl)) (show decode code 290 = .ok (.iaload, 1) from pz_dlL6 (290, .iaload, 1, 291, []) (List.mem_of_getElem? (i := 0) rfl)) ?_
  refine pz_la Y hX hbl hbA hL (i := i) (k := 3) (by first | decide | omega) hl hS (show decode code 291 = .ok (.aload_n 0, 1) from pz_dlL6 (291, .aload_n 0, 1, 292, []) (List.mem_of_getElem? (i := 1) rfl)) (show decode code 292 = .ok (.iload_n 3, 1) from pz_dlL6 (292, .iload_n 3, 1, 293, []) (List.mem_of_getElem? (i := 2) rfl)) (show decode code 293 = .ok (.iconst 3, 1) from pz_dlL6 (293, .iconst 3, 1, 294, []) (List.mem_of_getElem? (i := 3) rfl)) (show decode code 294 = .ok (.iadd, 1) from pz_dlL6 (294, .iadd, 1, 295, []) (List.mem_of_getElem? (i := 4) rfl)) (show decode code 295 = .ok (.iaload, 1) from pz_dlL6 (295, .iaload, 1, 296, []) (List.mem_of_getElem? (i := 5) rfl)) ?_
  refine pz_crV Y hcs (v_X11_set (Nat.le_of_ble_eq_true rfl) (Nat.le_of_ble_eq_true rfl) pz_wq440) H locs ls M [.inr (.inr (11, 0)), .inl (xs (i + 1)).toInt, .inl (xs (i + 2)).toInt, .inl (xs (i + 3)).toInt] [] 296 (show decode code 296 = .ok (.invokevirtual 23, 3) from pz_dlL6 (296, .invokevirtual 23, 3, 299, []) (List.mem_of_getElem? (i := 6) rfl)) hP hS hM ?_ hl.1 rfl (Nat.le_of_ble_eq_true rfl) (hI) (fun r296 M296 H296 locs296 hq hr hP hS hM => ?_)
  · skip
    exact (List.forall_mem_cons.mpr ⟨(show pz_kd 0 = 11 ∧ 0 < 231 from by decide), (List.forall_mem_cons.mpr ⟨(pz_tc _), (List.forall_mem_cons.mpr ⟨(pz_tc _), (List.forall_mem_cons.mpr ⟨(pz_tc _), List.forall_mem_nil _⟩)⟩)⟩)⟩)
  obtain ⟨w296, rfl, C296⟩ := hr
  have hq : _ ∧ _ := hq
  obtain ⟨q296, z296⟩ := hq
  have hI8 := hI
  have hR8 : pz_RZ M := hR
  have hJ : pz_im M296 := pz_im_cg (pz_set_mid q296) hJ
  have hI : pz_ic M296 := z296 hI
  refine lv_pop hx hb (show decode code 299 = .ok (.pop, 1) from pz_dlL6 (299, .pop, 1, 300, []) (List.mem_of_getElem? (i := 7) rfl)) rfl ?_
  refine lv_aload_n hx hb (k := 2) (show decode code 300 = .ok (.aload_n 2, 1) from pz_dlL6 (300, .aload_n 2, 1, 301, []) (List.mem_of_getElem? (i := 8) rfl)) rfl (lv_at hl 2 rfl) ?_
  refine pz_la Y hX hbl hbA hL (i := i) (k := 1) (by first | decide | omega) hl hS (show decode code 301 = .ok (.aload_n 0, 1) from pz_dlL6 (301, .aload_n 0, 1, 302, []) (List.mem_of_getElem? (i := 9) rfl)) (show decode code 302 = .ok (.iload_n 3, 1) from pz_dlL6 (302, .iload_n 3, 1, 303, []) (List.mem_of_getElem? (i := 10) rfl)) (show decode code 303 = .ok (.iconst 1, 1) from pz_dlL6 (303, .iconst 1, 1, 304, []) (List.mem_of_getElem? (i := 11) rfl)) (show decode code 304 = .ok (.iadd, 1) from pz_dlL6 (304, .iadd, 1, 305, []) (List.mem_of_getElem? (i := 12) rfl)) (show decode code 305 = .ok (.iaload, 1) from pz_dlL6 (305, .iaload, 1, 306, []) (List.mem_of_getElem? (i := 13) rfl)) ?_
  refine pz_la Y hX hbl hbA hL (i := i) (k := 2) (by first | decide | omega) hl hS (show decode code 306 = .ok (.aload_n 0, 1) from pz_dlL6 (306, .aload_n 0, 1, 307, []) (List.mem_of_getElem? (i := 14) rfl)) (show decode code 307 = .ok (.iload_n 3, 1) from pz_dlL6 (307, .iload_n 3, 1, 308, []) (List.mem_of_getElem? (i := 15) rfl)) (show decode code 308 = .ok (.iconst 2, 1) from pz_dlL7 (308, .iconst 2, 1, 309, []) (List.mem_of_getElem? (i := 0) rfl)) (show decode code 309 = .ok (.iadd, 1) from pz_dlL7 (309, .iadd, 1, 310, []) (List.mem_of_getElem? (i := 1) rfl)) (show decode code 310 = .ok (.iaload, 1) from pz_dlL7 (310, .iaload, 1, 311, []) (List.mem_of_getElem? (i := 2) rfl)) ?_
  refine pz_la Y hX hbl hbA hL (i := i) (k := 3) (by first | decide | omega) hl hS (show decode code 311 = .ok (.aload_n 0, 1) from pz_dlL7 (311, .aload_n 0, 1, 312, []) (List.mem_of_getElem? (i := 3) rfl)) (show decode code 312 = .ok (.iload_n 3, 1) from pz_dlL7 (312, .iload_n 3, 1, 313, []) (List.mem_of_getElem? (i := 4) rfl)) (show decode code 313 = .ok (.iconst 3, 1) from pz_dlL7 (313, .iconst 3, 1, 314, []) (List.mem_of_getElem? (i := 5) rfl)) (show decode code 314 = .ok (.iadd, 1) from pz_dlL7 (314, .iadd, 1, 315, []) (List.mem_of_getElem? (i := 6) rfl)) (show decode code 315 = .ok (.iaload, 1) from pz_dlL7 (315, .iaload, 1, 316, []) (List.mem_of_getElem? (i := 7) rfl)) ?_
  refine pz_crV Y hcs (v_X12_set (Nat.le_of_ble_eq_true rfl) (Nat.le_of_ble_eq_true rfl) pz_wq1220) H296 locs296 ls M296 [.inr (.inr (12, 1)), .inl (xs (i + 1)).toInt, .inl (xs (i + 2)).toInt, .inl (xs (i + 3)).toInt] [] 316 (show decode code 316 = .ok (.invokevirtual 27, 3) from pz_dlL7 (316, .invokevirtual 27, 3, 319, []) (List.mem_of_getElem? (i := 8) rfl)) hP hS hM ?_ hl.1 rfl (Nat.le_of_ble_eq_true rfl) (hJ) (fun r316 M316 H316 locs316 hq hr hP hS hM => ?_)
  · skip
    exact (List.forall_mem_cons.mpr ⟨(show pz_kd 1 = 12 ∧ 1 < 231 from by decide), (List.forall_mem_cons.mpr ⟨(pz_tc _), (List.forall_mem_cons.mpr ⟨(pz_tc _), (List.forall_mem_cons.mpr ⟨(pz_tc _), List.forall_mem_nil _⟩)⟩)⟩)⟩)
  obtain ⟨w316, rfl, C316⟩ := hr
  have hq : _ ∧ _ := hq
  obtain ⟨q316, z316⟩ := hq
  obtain ⟨E8, hR⟩ := pz_RZ_set (fun h => h) hI8 hR8 q296 q316
  have hI : pz_ic M316 := pz_ic_cg (fun b j q => z316.2 b j (by unfold pz_Q9; unfold pz_mid at q; omega)) hI
  have hJ : pz_im M316 := z316.1 hJ
  refine lv_pop hx hb (show decode code 319 = .ok (.pop, 1) from pz_dlL7 (319, .pop, 1, 320, []) (List.mem_of_getElem? (i := 9) rfl)) rfl ?_
  refine lv_goto (tgt := 1407) hx hb (show decode code 320 = .ok (.goto 1087, 3) from pz_dlL7 (320, .goto 1087, 3, 323, [1407]) (List.mem_of_getElem? (i := 10) rfl)) (by decide) ?_
  have hR : pz_R M316 := by
    exact hR
  exact K _ _ _ hI hJ hR hP hS hM
set_option maxRecDepth 100000 in
set_option maxHeartbeats 4000000 in
theorem pz_case3 (Y : pz_Y p s m #[Value.ref b] c code R_law 4 D ad adV cy A) (hcs : cells ≤ room_1.cells ∧ slots ≤ room_1.slots) (hX : va_X b L xs s s.heap) (hbl : b < s.heap.size) (hbA : ¬ A b) (hL : L ≤ 3072) {i : Nat} (hi : i + 6 ≤ L) {H : Heap} {locs : List Loc} {ls : Array Slot} {M : pz_M} (hl : lv_has ls 4 [(0, .ref b), (1, .ref (ad 0)), (2, .ref (ad 1)), (3, .int (Int32.ofNat i))]) (hP : va_P D vwCl (pz_ws ad cy M) H) (hS : va_S A s.heap H locs) (hM : ∀ a k : Nat, pz_c (M a k)) (hI : pz_ic M) (hJ : pz_im M) (hR : pz_R M) (K : ∀ (M9 : pz_M) (H9 : Heap) (locs9 : List Loc), pz_ic M9 → pz_im M9 → pz_R M9 → va_P D vwCl (pz_ws ad cy M9) H9 → va_S A s.heap H9 locs9 → (∀ a k : Nat, pz_c (M9 a k)) → W p l e room_1 s m #[Value.ref b] below meth c H9 locs9 cells slots Q (F0 m 1407 ls [])) : W p l e room_1 s m #[Value.ref b] below meth c H locs cells slots Q (F0 m 323 ls []) := by
  obtain ⟨hx, hb, hml, hown, hts, hXX⟩ := id Y
  refine lv_aload_n hx hb (k := 1) (show decode code 323 = .ok (.aload_n 1, 1) from pz_dlL7 (323, .aload_n 1, 1, 324, []) (List.mem_of_getElem? (i := 11) rfl)) rfl (lv_at hl 1 rfl) ?_
  refine pz_la Y hX hbl hbA hL (i := i) (k := 1) (by first | decide | omega) hl hS (show decode code 324 = .ok (.aload_n 0, 1) from pz_dlL7 (324, .aload_n 0, 1, 325, []) (List.mem_of_getElem? (i := 12) rfl)) (show decode code 325 = .ok (.iload_n 3, 1) from pz_dlL7 (325, .iload_n 3, 1, 326, []) (List.mem_of_getElem? (i := 13) rfl)) (show decode code 326 = .ok (.iconst 1, 1) from pz_dlL7 (326, .iconst 1, 1, 327, []) (List.mem_of_getElem? (i := 14) rfl)) (show decode code 327 = .ok (.iadd, 1) from pz_dlL7 (327, .iadd, 1, 328, []) (List.mem_of_getElem? (i := 15) rfl)) (show decode code 328 = .ok (.iaload, 1) from pz_dlL8 (328, .iaload, 1, 329, []) (List.mem_of_getElem? (i := 0) rfl)) ?_
  refine pz_la Y hX hbl hbA hL (i := i) (k := 2) (by first | decide | omega) hl hS (show decode code 329 = .ok (.aload_n 0, 1) from pz_dlL8 (329, .aload_n 0, 1, 330, []) (List.mem_of_getElem? (i := 1) rfl)) (show decode code 330 = .ok (.iload_n 3, 1) from pz_dlL8 (330, .iload_n 3, 1, 331, []) (List.mem_of_getElem? (i := 2) rfl)) (show decode code 331 = .ok (.iconst 2, 1) from pz_dlL8 (331, .iconst 2, 1, 332, []) (List.mem_of_getElem? (i := 3) rfl)) (show decode code 332 = .ok (.iadd, 1) from pz_dlL8 (332, .iadd, 1, 333, []) (List.mem_of_getElem? (i := 4) rfl)) (show decode code 333 = .ok (.iaload, 1) from pz_dlL8 (333, .iaload, 1, 334, []) (List.mem_of_getElem? (i := 5) rfl)) ?_
  refine pz_crV Y hcs (v3_X11_ask (Nat.le_of_ble_eq_true rfl) (Nat.le_of_ble_eq_true rfl) pz_wq448) H locs ls M [.inr (.inr (11, 0)), .inl (xs (i + 1)).toInt, .inl (xs (i + 2)).toInt] [] 334 (show decode code 334 = .ok (.invokevirtual 28, 3) from pz_dlL8 (334, .invokevirtual 28, 3, 337, []) (List.mem_of_getElem? (i := 6) rfl)) hP hS hM ?_ hl.1 rfl (Nat.le_of_ble_eq_true rfl) (hI) (fun r334 M334 H334 locs334 hq hr hP hS hM => ?_)
  · skip
    exact (List.forall_mem_cons.mpr ⟨(show pz_kd 0 = 11 ∧ 0 < 231 from by decide), (List.forall_mem_cons.mpr ⟨(pz_tc _), (List.forall_mem_cons.mpr ⟨(pz_tc _), List.forall_mem_nil _⟩)⟩)⟩)
  obtain ⟨w334, rfl, C334⟩ := hr
  have hq : _ ∧ _ := hq
  obtain ⟨q334, z334⟩ := hq
  have hI8 := hI
  have hR8 : pz_RZ M := hR
  have hJ : pz_im M334 := pz_im_cg (fun b j q => z334.1.2.1 b j (Or.inl q)) hJ
  have hI : pz_ic M334 := z334.1.1 hI
  refine lv_pop hx hb (show decode code 337 = .ok (.pop, 1) from pz_dlL8 (337, .pop, 1, 338, []) (List.mem_of_getElem? (i := 7) rfl)) rfl ?_
  refine lv_aload_n hx hb (k := 2) (show decode code 338 = .ok (.aload_n 2, 1) from pz_dlL8 (338, .aload_n 2, 1, 339, []) (List.mem_of_getElem? (i := 8) rfl)) rfl (lv_at hl 2 rfl) ?_
  refine pz_la Y hX hbl hbA hL (i := i) (k := 1) (by first | decide | omega) hl hS (show decode code 339 = .ok (.aload_n 0, 1) from pz_dlL8 (339, .aload_n 0, 1, 340, []) (List.mem_of_getElem? (i := 9) rfl)) (show decode code 340 = .ok (.iload_n 3, 1) from pz_dlL8 (340, .iload_n 3, 1, 341, []) (List.mem_of_getElem? (i := 10) rfl)) (show decode code 341 = .ok (.iconst 1, 1) from pz_dlL8 (341, .iconst 1, 1, 342, []) (List.mem_of_getElem? (i := 11) rfl)) (show decode code 342 = .ok (.iadd, 1) from pz_dlL8 (342, .iadd, 1, 343, []) (List.mem_of_getElem? (i := 12) rfl)) (show decode code 343 = .ok (.iaload, 1) from pz_dlL8 (343, .iaload, 1, 344, []) (List.mem_of_getElem? (i := 13) rfl)) ?_
  refine pz_la Y hX hbl hbA hL (i := i) (k := 2) (by first | decide | omega) hl hS (show decode code 344 = .ok (.aload_n 0, 1) from pz_dlL8 (344, .aload_n 0, 1, 345, []) (List.mem_of_getElem? (i := 14) rfl)) (show decode code 345 = .ok (.iload_n 3, 1) from pz_dlL8 (345, .iload_n 3, 1, 346, []) (List.mem_of_getElem? (i := 15) rfl)) (show decode code 346 = .ok (.iconst 2, 1) from pz_dlL9 (346, .iconst 2, 1, 347, []) (List.mem_of_getElem? (i := 0) rfl)) (show decode code 347 = .ok (.iadd, 1) from pz_dlL9 (347, .iadd, 1, 348, []) (List.mem_of_getElem? (i := 1) rfl)) (show decode code 348 = .ok (.iaload, 1) from pz_dlL9 (348, .iaload, 1, 349, []) (List.mem_of_getElem? (i := 2) rfl)) ?_
  refine pz_crV Y hcs (v3_X12_ask (Nat.le_of_ble_eq_true rfl) (Nat.le_of_ble_eq_true rfl) pz_wq1407) H334 locs334 ls M334 [.inr (.inr (12, 1)), .inl (xs (i + 1)).toInt, .inl (xs (i + 2)).toInt] [] 349 (show decode code 349 = .ok (.invokevirtual 32, 3) from pz_dlL9 (349, .invokevirtual 32, 3, 352, []) (List.mem_of_getElem? (i := 3) rfl)) hP hS hM ?_ hl.1 rfl (Nat.le_of_ble_eq_true rfl) (hJ) (fun r349 M349 H349 locs349 hq hr hP hS hM => ?_)
  · skip
    exact (List.forall_mem_cons.mpr ⟨(show pz_kd 1 = 12 ∧ 1 < 231 from by decide), (List.forall_mem_cons.mpr ⟨(pz_tc _), (List.forall_mem_cons.mpr ⟨(pz_tc _), List.forall_mem_nil _⟩)⟩)⟩)
  obtain ⟨w349, rfl, C349⟩ := hr
  have hq : _ ∧ _ := hq
  obtain ⟨q349, z349⟩ := hq
  obtain ⟨E8, hR⟩ := pz_RZ_deed hI8 hR8 q334 z334 q349 z349
  have hI : pz_ic M349 := pz_ic_cg (fun b j q => z349.2 b j (by unfold pz_QX; unfold pz_mid at q; omega)) hI
  have hJ : pz_im M349 := z349.1 hJ
  refine lv_pop hx hb (show decode code 352 = .ok (.pop, 1) from pz_dlL9 (352, .pop, 1, 353, []) (List.mem_of_getElem? (i := 4) rfl)) rfl ?_
  refine lv_goto (tgt := 1407) hx hb (show decode code 353 = .ok (.goto 1054, 3) from pz_dlL9 (353, .goto 1054, 3, 356, [1407]) (List.mem_of_getElem? (i := 5) rfl)) (by decide) ?_
  have hR : pz_R M349 := by
    exact hR
  exact K _ _ _ hI hJ hR hP hS hM
set_option maxRecDepth 100000 in
set_option maxHeartbeats 4000000 in
theorem pz_case4 (Y : pz_Y p s m #[Value.ref b] c code R_law 4 D ad adV cy A) (hcs : cells ≤ room_1.cells ∧ slots ≤ room_1.slots) (hX : va_X b L xs s s.heap) (hbl : b < s.heap.size) (hbA : ¬ A b) (hL : L ≤ 3072) {i : Nat} (hi : i + 6 ≤ L) {H : Heap} {locs : List Loc} {ls : Array Slot} {M : pz_M} (hl : lv_has ls 4 [(0, .ref b), (1, .ref (ad 0)), (2, .ref (ad 1)), (3, .int (Int32.ofNat i))]) (hP : va_P D vwCl (pz_ws ad cy M) H) (hS : va_S A s.heap H locs) (hM : ∀ a k : Nat, pz_c (M a k)) (hI : pz_ic M) (hJ : pz_im M) (hR : pz_R M) (K : ∀ (M9 : pz_M) (H9 : Heap) (locs9 : List Loc), pz_ic M9 → pz_im M9 → pz_R M9 → va_P D vwCl (pz_ws ad cy M9) H9 → va_S A s.heap H9 locs9 → (∀ a k : Nat, pz_c (M9 a k)) → W p l e room_1 s m #[Value.ref b] below meth c H9 locs9 cells slots Q (F0 m 1407 ls [])) : W p l e room_1 s m #[Value.ref b] below meth c H locs cells slots Q (F0 m 356 ls []) := by
  obtain ⟨hx, hb, hml, hown, hts, hXX⟩ := id Y
  refine lv_aload_n hx hb (k := 1) (show decode code 356 = .ok (.aload_n 1, 1) from pz_dlL9 (356, .aload_n 1, 1, 357, []) (List.mem_of_getElem? (i := 6) rfl)) rfl (lv_at hl 1 rfl) ?_
  refine pz_la Y hX hbl hbA hL (i := i) (k := 1) (by first | decide | omega) hl hS (show decode code 357 = .ok (.aload_n 0, 1) from pz_dlL9 (357, .aload_n 0, 1, 358, []) (List.mem_of_getElem? (i := 7) rfl)) (show decode code 358 = .ok (.iload_n 3, 1) from pz_dlL9 (358, .iload_n 3, 1, 359, []) (List.mem_of_getElem? (i := 8) rfl)) (show decode code 359 = .ok (.iconst 1, 1) from pz_dlL9 (359, .iconst 1, 1, 360, []) (List.mem_of_getElem? (i := 9) rfl)) (show decode code 360 = .ok (.iadd, 1) from pz_dlL9 (360, .iadd, 1, 361, []) (List.mem_of_getElem? (i := 10) rfl)) (show decode code 361 = .ok (.iaload, 1) from pz_dlL9 (361, .iaload, 1, 362, []) (List.mem_of_getElem? (i := 11) rfl)) ?_
  refine pz_crV Y hcs (v3_X11_bridge (Nat.le_of_ble_eq_true rfl) (Nat.le_of_ble_eq_true rfl) pz_wq521) H locs ls M [.inr (.inr (11, 0)), .inl (xs (i + 1)).toInt] [] 362 (show decode code 362 = .ok (.invokevirtual 33, 3) from pz_dlL9 (362, .invokevirtual 33, 3, 365, []) (List.mem_of_getElem? (i := 12) rfl)) hP hS hM ?_ hl.1 rfl (Nat.le_of_ble_eq_true rfl) (hI) (fun r362 M362 H362 locs362 hq hr hP hS hM => ?_)
  · skip
    exact (List.forall_mem_cons.mpr ⟨(show pz_kd 0 = 11 ∧ 0 < 231 from by decide), (List.forall_mem_cons.mpr ⟨(pz_tc _), List.forall_mem_nil _⟩)⟩)
  obtain ⟨w362, rfl, C362⟩ := hr
  have hq : _ ∧ _ := hq
  obtain ⟨q362, z362⟩ := hq
  have hI8 := hI
  have hR8 : pz_RZ M := hR
  have hJ : pz_im M362 := pz_im_cg (fun b j q => z362.1.2.1 b j (Or.inl q)) hJ
  have hI : pz_ic M362 := z362.1.1 hI
  refine lv_pop hx hb (show decode code 365 = .ok (.pop, 1) from pz_dlL9 (365, .pop, 1, 366, []) (List.mem_of_getElem? (i := 13) rfl)) rfl ?_
  refine lv_aload_n hx hb (k := 2) (show decode code 366 = .ok (.aload_n 2, 1) from pz_dlL9 (366, .aload_n 2, 1, 367, []) (List.mem_of_getElem? (i := 14) rfl)) rfl (lv_at hl 2 rfl) ?_
  refine pz_la Y hX hbl hbA hL (i := i) (k := 1) (by first | decide | omega) hl hS (show decode code 367 = .ok (.aload_n 0, 1) from pz_dlL9 (367, .aload_n 0, 1, 368, []) (List.mem_of_getElem? (i := 15) rfl)) (show decode code 368 = .ok (.iload_n 3, 1) from pz_dlL10 (368, .iload_n 3, 1, 369, []) (List.mem_of_getElem? (i := 0) rfl)) (show decode code 369 = .ok (.iconst 1, 1) from pz_dlL10 (369, .iconst 1, 1, 370, []) (List.mem_of_getElem? (i := 1) rfl)) (show decode code 370 = .ok (.iadd, 1) from pz_dlL10 (370, .iadd, 1, 371, []) (List.mem_of_getElem? (i := 2) rfl)) (show decode code 371 = .ok (.iaload, 1) from pz_dlL10 (371, .iaload, 1, 372, []) (List.mem_of_getElem? (i := 3) rfl)) ?_
  refine pz_crV Y hcs (v3_X12_bridge (Nat.le_of_ble_eq_true rfl) (Nat.le_of_ble_eq_true rfl) pz_wq1487) H362 locs362 ls M362 [.inr (.inr (12, 1)), .inl (xs (i + 1)).toInt] [] 372 (show decode code 372 = .ok (.invokevirtual 37, 3) from pz_dlL10 (372, .invokevirtual 37, 3, 375, []) (List.mem_of_getElem? (i := 4) rfl)) hP hS hM ?_ hl.1 rfl (Nat.le_of_ble_eq_true rfl) (hJ) (fun r372 M372 H372 locs372 hq hr hP hS hM => ?_)
  · skip
    exact (List.forall_mem_cons.mpr ⟨(show pz_kd 1 = 12 ∧ 1 < 231 from by decide), (List.forall_mem_cons.mpr ⟨(pz_tc _), List.forall_mem_nil _⟩)⟩)
  obtain ⟨w372, rfl, C372⟩ := hr
  have hq : _ ∧ _ := hq
  obtain ⟨q372, z372⟩ := hq
  obtain ⟨E8, hR⟩ := pz_RZ_deed hI8 hR8 q362 z362 q372 z372
  have hI : pz_ic M372 := pz_ic_cg (fun b j q => z372.2 b j (by unfold pz_QX; unfold pz_mid at q; omega)) hI
  have hJ : pz_im M372 := z372.1 hJ
  refine lv_pop hx hb (show decode code 375 = .ok (.pop, 1) from pz_dlL10 (375, .pop, 1, 376, []) (List.mem_of_getElem? (i := 5) rfl)) rfl ?_
  refine lv_goto (tgt := 1407) hx hb (show decode code 376 = .ok (.goto 1031, 3) from pz_dlL10 (376, .goto 1031, 3, 379, [1407]) (List.mem_of_getElem? (i := 6) rfl)) (by decide) ?_
  have hR : pz_R M372 := by
    exact hR
  exact K _ _ _ hI hJ hR hP hS hM
set_option maxRecDepth 100000 in
set_option maxHeartbeats 4000000 in
theorem pz_case5 (Y : pz_Y p s m #[Value.ref b] c code R_law 4 D ad adV cy A) (hcs : cells ≤ room_1.cells ∧ slots ≤ room_1.slots) (hX : va_X b L xs s s.heap) (hbl : b < s.heap.size) (hbA : ¬ A b) (hL : L ≤ 3072) {i : Nat} (hi : i + 6 ≤ L) {H : Heap} {locs : List Loc} {ls : Array Slot} {M : pz_M} (hl : lv_has ls 4 [(0, .ref b), (1, .ref (ad 0)), (2, .ref (ad 1)), (3, .int (Int32.ofNat i))]) (hP : va_P D vwCl (pz_ws ad cy M) H) (hS : va_S A s.heap H locs) (hM : ∀ a k : Nat, pz_c (M a k)) (hI : pz_ic M) (hJ : pz_im M) (hR : pz_R M) (K : ∀ (M9 : pz_M) (H9 : Heap) (locs9 : List Loc), pz_ic M9 → pz_im M9 → pz_R M9 → va_P D vwCl (pz_ws ad cy M9) H9 → va_S A s.heap H9 locs9 → (∀ a k : Nat, pz_c (M9 a k)) → W p l e room_1 s m #[Value.ref b] below meth c H9 locs9 cells slots Q (F0 m 1407 ls [])) : W p l e room_1 s m #[Value.ref b] below meth c H locs cells slots Q (F0 m 379 ls []) := by
  obtain ⟨hx, hb, hml, hown, hts, hXX⟩ := id Y
  refine lv_aload_n hx hb (k := 1) (show decode code 379 = .ok (.aload_n 1, 1) from pz_dlL10 (379, .aload_n 1, 1, 380, []) (List.mem_of_getElem? (i := 7) rfl)) rfl (lv_at hl 1 rfl) ?_
  refine pz_la Y hX hbl hbA hL (i := i) (k := 1) (by first | decide | omega) hl hS (show decode code 380 = .ok (.aload_n 0, 1) from pz_dlL10 (380, .aload_n 0, 1, 381, []) (List.mem_of_getElem? (i := 8) rfl)) (show decode code 381 = .ok (.iload_n 3, 1) from pz_dlL10 (381, .iload_n 3, 1, 382, []) (List.mem_of_getElem? (i := 9) rfl)) (show decode code 382 = .ok (.iconst 1, 1) from pz_dlL10 (382, .iconst 1, 1, 383, []) (List.mem_of_getElem? (i := 10) rfl)) (show decode code 383 = .ok (.iadd, 1) from pz_dlL10 (383, .iadd, 1, 384, []) (List.mem_of_getElem? (i := 11) rfl)) (show decode code 384 = .ok (.iaload, 1) from pz_dlL10 (384, .iaload, 1, 385, []) (List.mem_of_getElem? (i := 12) rfl)) ?_
  refine pz_la Y hX hbl hbA hL (i := i) (k := 2) (by first | decide | omega) hl hS (show decode code 385 = .ok (.aload_n 0, 1) from pz_dlL10 (385, .aload_n 0, 1, 386, []) (List.mem_of_getElem? (i := 13) rfl)) (show decode code 386 = .ok (.iload_n 3, 1) from pz_dlL10 (386, .iload_n 3, 1, 387, []) (List.mem_of_getElem? (i := 14) rfl)) (show decode code 387 = .ok (.iconst 2, 1) from pz_dlL10 (387, .iconst 2, 1, 388, []) (List.mem_of_getElem? (i := 15) rfl)) (show decode code 388 = .ok (.iadd, 1) from pz_dlL11 (388, .iadd, 1, 389, []) (List.mem_of_getElem? (i := 0) rfl)) (show decode code 389 = .ok (.iaload, 1) from pz_dlL11 (389, .iaload, 1, 390, []) (List.mem_of_getElem? (i := 1) rfl)) ?_
  refine pz_la Y hX hbl hbA hL (i := i) (k := 3) (by first | decide | omega) hl hS (show decode code 390 = .ok (.aload_n 0, 1) from pz_dlL11 (390, .aload_n 0, 1, 391, []) (List.mem_of_getElem? (i := 2) rfl)) (show decode code 391 = .ok (.iload_n 3, 1) from pz_dlL11 (391, .iload_n 3, 1, 392, []) (List.mem_of_getElem? (i := 3) rfl)) (show decode code 392 = .ok (.iconst 3, 1) from pz_dlL11 (392, .iconst 3, 1, 393, []) (List.mem_of_getElem? (i := 4) rfl)) (show decode code 393 = .ok (.iadd, 1) from pz_dlL11 (393, .iadd, 1, 394, []) (List.mem_of_getElem? (i := 5) rfl)) (show decode code 394 = .ok (.iaload, 1) from pz_dlL11 (394, .iaload, 1, 395, []) (List.mem_of_getElem? (i := 6) rfl)) ?_
  refine pz_crV Y hcs (v3_X11_pay (Nat.le_of_ble_eq_true rfl) (Nat.le_of_ble_eq_true rfl) pz_wq534) H locs ls M [.inr (.inr (11, 0)), .inl (xs (i + 1)).toInt, .inl (xs (i + 2)).toInt, .inl (xs (i + 3)).toInt] [] 395 (show decode code 395 = .ok (.invokevirtual 38, 3) from pz_dlL11 (395, .invokevirtual 38, 3, 398, []) (List.mem_of_getElem? (i := 7) rfl)) hP hS hM ?_ hl.1 rfl (Nat.le_of_ble_eq_true rfl) (hI) (fun r395 M395 H395 locs395 hq hr hP hS hM => ?_)
  · skip
    exact (List.forall_mem_cons.mpr ⟨(show pz_kd 0 = 11 ∧ 0 < 231 from by decide), (List.forall_mem_cons.mpr ⟨(pz_tc _), (List.forall_mem_cons.mpr ⟨(pz_tc _), (List.forall_mem_cons.mpr ⟨(pz_tc _), List.forall_mem_nil _⟩)⟩)⟩)⟩)
  obtain ⟨w395, rfl, C395⟩ := hr
  have hq : _ ∧ _ := hq
  obtain ⟨q395, z395⟩ := hq
  have hI8 := hI
  have hR8 : pz_RZ M := hR
  have hJ : pz_im M395 := pz_im_cg (fun b j q => z395.1.2.1 b j (Or.inl q)) hJ
  have hI : pz_ic M395 := z395.1.1 hI
  refine lv_pop hx hb (show decode code 398 = .ok (.pop, 1) from pz_dlL11 (398, .pop, 1, 399, []) (List.mem_of_getElem? (i := 8) rfl)) rfl ?_
  refine lv_aload_n hx hb (k := 2) (show decode code 399 = .ok (.aload_n 2, 1) from pz_dlL11 (399, .aload_n 2, 1, 400, []) (List.mem_of_getElem? (i := 9) rfl)) rfl (lv_at hl 2 rfl) ?_
  refine pz_la Y hX hbl hbA hL (i := i) (k := 1) (by first | decide | omega) hl hS (show decode code 400 = .ok (.aload_n 0, 1) from pz_dlL11 (400, .aload_n 0, 1, 401, []) (List.mem_of_getElem? (i := 10) rfl)) (show decode code 401 = .ok (.iload_n 3, 1) from pz_dlL11 (401, .iload_n 3, 1, 402, []) (List.mem_of_getElem? (i := 11) rfl)) (show decode code 402 = .ok (.iconst 1, 1) from pz_dlL11 (402, .iconst 1, 1, 403, []) (List.mem_of_getElem? (i := 12) rfl)) (show decode code 403 = .ok (.iadd, 1) from pz_dlL11 (403, .iadd, 1, 404, []) (List.mem_of_getElem? (i := 13) rfl)) (show decode code 404 = .ok (.iaload, 1) from pz_dlL11 (404, .iaload, 1, 405, []) (List.mem_of_getElem? (i := 14) rfl)) ?_
  refine pz_la Y hX hbl hbA hL (i := i) (k := 2) (by first | decide | omega) hl hS (show decode code 405 = .ok (.aload_n 0, 1) from pz_dlL11 (405, .aload_n 0, 1, 406, []) (List.mem_of_getElem? (i := 15) rfl)) (show decode code 406 = .ok (.iload_n 3, 1) from pz_dlL12 (406, .iload_n 3, 1, 407, []) (List.mem_of_getElem? (i := 0) rfl)) (show decode code 407 = .ok (.iconst 2, 1) from pz_dlL12 (407, .iconst 2, 1, 408, []) (List.mem_of_getElem? (i := 1) rfl)) (show decode code 408 = .ok (.iadd, 1) from pz_dlL12 (408, .iadd, 1, 409, []) (List.mem_of_getElem? (i := 2) rfl)) (show decode code 409 = .ok (.iaload, 1) from pz_dlL12 (409, .iaload, 1, 410, []) (List.mem_of_getElem? (i := 3) rfl)) ?_
  refine pz_la Y hX hbl hbA hL (i := i) (k := 3) (by first | decide | omega) hl hS (show decode code 410 = .ok (.aload_n 0, 1) from pz_dlL12 (410, .aload_n 0, 1, 411, []) (List.mem_of_getElem? (i := 4) rfl)) (show decode code 411 = .ok (.iload_n 3, 1) from pz_dlL12 (411, .iload_n 3, 1, 412, []) (List.mem_of_getElem? (i := 5) rfl)) (show decode code 412 = .ok (.iconst 3, 1) from pz_dlL12 (412, .iconst 3, 1, 413, []) (List.mem_of_getElem? (i := 6) rfl)) (show decode code 413 = .ok (.iadd, 1) from pz_dlL12 (413, .iadd, 1, 414, []) (List.mem_of_getElem? (i := 7) rfl)) (show decode code 414 = .ok (.iaload, 1) from pz_dlL12 (414, .iaload, 1, 415, []) (List.mem_of_getElem? (i := 8) rfl)) ?_
  refine pz_crV Y hcs (v3_X12_pay (Nat.le_of_ble_eq_true rfl) (Nat.le_of_ble_eq_true rfl) pz_wq1499) H395 locs395 ls M395 [.inr (.inr (12, 1)), .inl (xs (i + 1)).toInt, .inl (xs (i + 2)).toInt, .inl (xs (i + 3)).toInt] [] 415 (show decode code 415 = .ok (.invokevirtual 41, 3) from pz_dlL12 (415, .invokevirtual 41, 3, 418, []) (List.mem_of_getElem? (i := 9) rfl)) hP hS hM ?_ hl.1 rfl (Nat.le_of_ble_eq_true rfl) (hJ) (fun r415 M415 H415 locs415 hq hr hP hS hM => ?_)
  · skip
    exact (List.forall_mem_cons.mpr ⟨(show pz_kd 1 = 12 ∧ 1 < 231 from by decide), (List.forall_mem_cons.mpr ⟨(pz_tc _), (List.forall_mem_cons.mpr ⟨(pz_tc _), (List.forall_mem_cons.mpr ⟨(pz_tc _), List.forall_mem_nil _⟩)⟩)⟩)⟩)
  obtain ⟨w415, rfl, C415⟩ := hr
  have hq : _ ∧ _ := hq
  obtain ⟨q415, z415⟩ := hq
  obtain ⟨E8, hR⟩ := pz_RZ_deed hI8 hR8 q395 z395 q415 z415
  have hI : pz_ic M415 := pz_ic_cg (fun b j q => z415.2 b j (by unfold pz_QX; unfold pz_mid at q; omega)) hI
  have hJ : pz_im M415 := z415.1 hJ
  refine lv_pop hx hb (show decode code 418 = .ok (.pop, 1) from pz_dlL12 (418, .pop, 1, 419, []) (List.mem_of_getElem? (i := 10) rfl)) rfl ?_
  refine lv_goto (tgt := 1407) hx hb (show decode code 419 = .ok (.goto 988, 3) from pz_dlL12 (419, .goto 988, 3, 422, [1407]) (List.mem_of_getElem? (i := 11) rfl)) (by decide) ?_
  have hR : pz_R M415 := by
    exact hR
  exact K _ _ _ hI hJ hR hP hS hM
set_option maxRecDepth 100000 in
set_option maxHeartbeats 4000000 in
theorem pz_case6 (Y : pz_Y p s m #[Value.ref b] c code R_law 4 D ad adV cy A) (hcs : cells ≤ room_1.cells ∧ slots ≤ room_1.slots) (hX : va_X b L xs s s.heap) (hbl : b < s.heap.size) (hbA : ¬ A b) (hL : L ≤ 3072) {i : Nat} (hi : i + 6 ≤ L) {H : Heap} {locs : List Loc} {ls : Array Slot} {M : pz_M} (hl : lv_has ls 4 [(0, .ref b), (1, .ref (ad 0)), (2, .ref (ad 1)), (3, .int (Int32.ofNat i))]) (hP : va_P D vwCl (pz_ws ad cy M) H) (hS : va_S A s.heap H locs) (hM : ∀ a k : Nat, pz_c (M a k)) (hI : pz_ic M) (hJ : pz_im M) (hR : pz_R M) (K : ∀ (M9 : pz_M) (H9 : Heap) (locs9 : List Loc), pz_ic M9 → pz_im M9 → pz_R M9 → va_P D vwCl (pz_ws ad cy M9) H9 → va_S A s.heap H9 locs9 → (∀ a k : Nat, pz_c (M9 a k)) → W p l e room_1 s m #[Value.ref b] below meth c H9 locs9 cells slots Q (F0 m 1407 ls [])) : W p l e room_1 s m #[Value.ref b] below meth c H locs cells slots Q (F0 m 422 ls []) := by
  obtain ⟨hx, hb, hml, hown, hts, hXX⟩ := id Y
  refine lv_aload_n hx hb (k := 1) (show decode code 422 = .ok (.aload_n 1, 1) from pz_dlL12 (422, .aload_n 1, 1, 423, []) (List.mem_of_getElem? (i := 12) rfl)) rfl (lv_at hl 1 rfl) ?_
  refine pz_la Y hX hbl hbA hL (i := i) (k := 1) (by first | decide | omega) hl hS (show decode code 423 = .ok (.aload_n 0, 1) from pz_dlL12 (423, .aload_n 0, 1, 424, []) (List.mem_of_getElem? (i := 13) rfl)) (show decode code 424 = .ok (.iload_n 3, 1) from pz_dlL12 (424, .iload_n 3, 1, 425, []) (List.mem_of_getElem? (i := 14) rfl)) (show decode code 425 = .ok (.iconst 1, 1) from pz_dlL12 (425, .iconst 1, 1, 426, []) (List.mem_of_getElem? (i := 15) rfl)) (show decode code 426 = .ok (.iadd, 1) from pz_dlL13 (426, .iadd, 1, 427, []) (List.mem_of_getElem? (i := 0) rfl)) (show decode code 427 = .ok (.iaload, 1) from pz_dlL13 (427, .iaload, 1, 428, []) (List.mem_of_getElem? (i := 1) rfl)) ?_
  refine pz_crV Y hcs (v3_X11_paper (Nat.le_of_ble_eq_true rfl) (Nat.le_of_ble_eq_true rfl) pz_wq547) H locs ls M [.inr (.inr (11, 0)), .inl (xs (i + 1)).toInt] [] 428 (show decode code 428 = .ok (.invokevirtual 42, 3) from pz_dlL13 (428, .invokevirtual 42, 3, 431, []) (List.mem_of_getElem? (i := 2) rfl)) hP hS hM ?_ hl.1 rfl (Nat.le_of_ble_eq_true rfl) (hI) (fun r428 M428 H428 locs428 hq hr hP hS hM => ?_)
  · skip
    exact (List.forall_mem_cons.mpr ⟨(show pz_kd 0 = 11 ∧ 0 < 231 from by decide), (List.forall_mem_cons.mpr ⟨(pz_tc _), List.forall_mem_nil _⟩)⟩)
  obtain ⟨w428, rfl, C428⟩ := hr
  have hq : _ ∧ _ := hq
  obtain ⟨q428, z428⟩ := hq
  have hI8 := hI
  have hR8 : pz_RZ M := hR
  have hJ : pz_im M428 := pz_im_cg (fun b j q => z428.1.2.1 b j (Or.inl q)) hJ
  have hI : pz_ic M428 := z428.1.1 hI
  refine lv_pop hx hb (show decode code 431 = .ok (.pop, 1) from pz_dlL13 (431, .pop, 1, 432, []) (List.mem_of_getElem? (i := 3) rfl)) rfl ?_
  refine lv_aload_n hx hb (k := 2) (show decode code 432 = .ok (.aload_n 2, 1) from pz_dlL13 (432, .aload_n 2, 1, 433, []) (List.mem_of_getElem? (i := 4) rfl)) rfl (lv_at hl 2 rfl) ?_
  refine pz_la Y hX hbl hbA hL (i := i) (k := 1) (by first | decide | omega) hl hS (show decode code 433 = .ok (.aload_n 0, 1) from pz_dlL13 (433, .aload_n 0, 1, 434, []) (List.mem_of_getElem? (i := 5) rfl)) (show decode code 434 = .ok (.iload_n 3, 1) from pz_dlL13 (434, .iload_n 3, 1, 435, []) (List.mem_of_getElem? (i := 6) rfl)) (show decode code 435 = .ok (.iconst 1, 1) from pz_dlL13 (435, .iconst 1, 1, 436, []) (List.mem_of_getElem? (i := 7) rfl)) (show decode code 436 = .ok (.iadd, 1) from pz_dlL13 (436, .iadd, 1, 437, []) (List.mem_of_getElem? (i := 8) rfl)) (show decode code 437 = .ok (.iaload, 1) from pz_dlL13 (437, .iaload, 1, 438, []) (List.mem_of_getElem? (i := 9) rfl)) ?_
  refine pz_crV Y hcs (v3_X12_paper (Nat.le_of_ble_eq_true rfl) (Nat.le_of_ble_eq_true rfl) pz_wq1511) H428 locs428 ls M428 [.inr (.inr (12, 1)), .inl (xs (i + 1)).toInt] [] 438 (show decode code 438 = .ok (.invokevirtual 45, 3) from pz_dlL13 (438, .invokevirtual 45, 3, 441, []) (List.mem_of_getElem? (i := 10) rfl)) hP hS hM ?_ hl.1 rfl (Nat.le_of_ble_eq_true rfl) (hJ) (fun r438 M438 H438 locs438 hq hr hP hS hM => ?_)
  · skip
    exact (List.forall_mem_cons.mpr ⟨(show pz_kd 1 = 12 ∧ 1 < 231 from by decide), (List.forall_mem_cons.mpr ⟨(pz_tc _), List.forall_mem_nil _⟩)⟩)
  obtain ⟨w438, rfl, C438⟩ := hr
  have hq : _ ∧ _ := hq
  obtain ⟨q438, z438⟩ := hq
  obtain ⟨E8, hR⟩ := pz_RZ_deed hI8 hR8 q428 z428 q438 z438
  have hI : pz_ic M438 := pz_ic_cg (fun b j q => z438.2 b j (by unfold pz_QX; unfold pz_mid at q; omega)) hI
  have hJ : pz_im M438 := z438.1 hJ
  refine lv_pop hx hb (show decode code 441 = .ok (.pop, 1) from pz_dlL13 (441, .pop, 1, 442, []) (List.mem_of_getElem? (i := 11) rfl)) rfl ?_
  refine lv_goto (tgt := 1407) hx hb (show decode code 442 = .ok (.goto 965, 3) from pz_dlL13 (442, .goto 965, 3, 445, [1407]) (List.mem_of_getElem? (i := 12) rfl)) (by decide) ?_
  have hR : pz_R M438 := by
    exact hR
  exact K _ _ _ hI hJ hR hP hS hM
set_option maxRecDepth 100000 in
set_option maxHeartbeats 4000000 in
theorem pz_case7 (Y : pz_Y p s m #[Value.ref b] c code R_law 4 D ad adV cy A) (hcs : cells ≤ room_1.cells ∧ slots ≤ room_1.slots) (hX : va_X b L xs s s.heap) (hbl : b < s.heap.size) (hbA : ¬ A b) (hL : L ≤ 3072) {i : Nat} (hi : i + 6 ≤ L) {H : Heap} {locs : List Loc} {ls : Array Slot} {M : pz_M} (hl : lv_has ls 4 [(0, .ref b), (1, .ref (ad 0)), (2, .ref (ad 1)), (3, .int (Int32.ofNat i))]) (hP : va_P D vwCl (pz_ws ad cy M) H) (hS : va_S A s.heap H locs) (hM : ∀ a k : Nat, pz_c (M a k)) (hI : pz_ic M) (hJ : pz_im M) (hR : pz_R M) (K : ∀ (M9 : pz_M) (H9 : Heap) (locs9 : List Loc), pz_ic M9 → pz_im M9 → pz_R M9 → va_P D vwCl (pz_ws ad cy M9) H9 → va_S A s.heap H9 locs9 → (∀ a k : Nat, pz_c (M9 a k)) → W p l e room_1 s m #[Value.ref b] below meth c H9 locs9 cells slots Q (F0 m 1407 ls [])) : W p l e room_1 s m #[Value.ref b] below meth c H locs cells slots Q (F0 m 445 ls []) := by
  obtain ⟨hx, hb, hml, hown, hts, hXX⟩ := id Y
  refine lv_aload_n hx hb (k := 1) (show decode code 445 = .ok (.aload_n 1, 1) from pz_dlL13 (445, .aload_n 1, 1, 446, []) (List.mem_of_getElem? (i := 13) rfl)) rfl (lv_at hl 1 rfl) ?_
  refine pz_la Y hX hbl hbA hL (i := i) (k := 1) (by first | decide | omega) hl hS (show decode code 446 = .ok (.aload_n 0, 1) from pz_dlL13 (446, .aload_n 0, 1, 447, []) (List.mem_of_getElem? (i := 14) rfl)) (show decode code 447 = .ok (.iload_n 3, 1) from pz_dlL13 (447, .iload_n 3, 1, 448, []) (List.mem_of_getElem? (i := 15) rfl)) (show decode code 448 = .ok (.iconst 1, 1) from pz_dlL14 (448, .iconst 1, 1, 449, []) (List.mem_of_getElem? (i := 0) rfl)) (show decode code 449 = .ok (.iadd, 1) from pz_dlL14 (449, .iadd, 1, 450, []) (List.mem_of_getElem? (i := 1) rfl)) (show decode code 450 = .ok (.iaload, 1) from pz_dlL14 (450, .iaload, 1, 451, []) (List.mem_of_getElem? (i := 2) rfl)) ?_
  refine pz_crV Y hcs (v3_X11_join (Nat.le_of_ble_eq_true rfl) (Nat.le_of_ble_eq_true rfl) pz_wq559) H locs ls M [.inr (.inr (11, 0)), .inl (xs (i + 1)).toInt] [] 451 (show decode code 451 = .ok (.invokevirtual 46, 3) from pz_dlL14 (451, .invokevirtual 46, 3, 454, []) (List.mem_of_getElem? (i := 3) rfl)) hP hS hM ?_ hl.1 rfl (Nat.le_of_ble_eq_true rfl) (hI) (fun r451 M451 H451 locs451 hq hr hP hS hM => ?_)
  · skip
    exact (List.forall_mem_cons.mpr ⟨(show pz_kd 0 = 11 ∧ 0 < 231 from by decide), (List.forall_mem_cons.mpr ⟨(pz_tc _), List.forall_mem_nil _⟩)⟩)
  obtain ⟨w451, rfl, C451⟩ := hr
  have hq : _ ∧ _ := hq
  obtain ⟨q451, z451⟩ := hq
  have hI8 := hI
  have hR8 : pz_RZ M := hR
  have hJ : pz_im M451 := pz_im_cg (fun b j q => z451.1.2.1 b j (Or.inl q)) hJ
  have hI : pz_ic M451 := z451.1.1 hI
  refine lv_pop hx hb (show decode code 454 = .ok (.pop, 1) from pz_dlL14 (454, .pop, 1, 455, []) (List.mem_of_getElem? (i := 4) rfl)) rfl ?_
  refine lv_aload_n hx hb (k := 2) (show decode code 455 = .ok (.aload_n 2, 1) from pz_dlL14 (455, .aload_n 2, 1, 456, []) (List.mem_of_getElem? (i := 5) rfl)) rfl (lv_at hl 2 rfl) ?_
  refine pz_la Y hX hbl hbA hL (i := i) (k := 1) (by first | decide | omega) hl hS (show decode code 456 = .ok (.aload_n 0, 1) from pz_dlL14 (456, .aload_n 0, 1, 457, []) (List.mem_of_getElem? (i := 6) rfl)) (show decode code 457 = .ok (.iload_n 3, 1) from pz_dlL14 (457, .iload_n 3, 1, 458, []) (List.mem_of_getElem? (i := 7) rfl)) (show decode code 458 = .ok (.iconst 1, 1) from pz_dlL14 (458, .iconst 1, 1, 459, []) (List.mem_of_getElem? (i := 8) rfl)) (show decode code 459 = .ok (.iadd, 1) from pz_dlL14 (459, .iadd, 1, 460, []) (List.mem_of_getElem? (i := 9) rfl)) (show decode code 460 = .ok (.iaload, 1) from pz_dlL14 (460, .iaload, 1, 461, []) (List.mem_of_getElem? (i := 10) rfl)) ?_
  refine pz_crV Y hcs (v3_X12_join (Nat.le_of_ble_eq_true rfl) (Nat.le_of_ble_eq_true rfl) pz_wq1523) H451 locs451 ls M451 [.inr (.inr (12, 1)), .inl (xs (i + 1)).toInt] [] 461 (show decode code 461 = .ok (.invokevirtual 49, 3) from pz_dlL14 (461, .invokevirtual 49, 3, 464, []) (List.mem_of_getElem? (i := 11) rfl)) hP hS hM ?_ hl.1 rfl (Nat.le_of_ble_eq_true rfl) (hJ) (fun r461 M461 H461 locs461 hq hr hP hS hM => ?_)
  · skip
    exact (List.forall_mem_cons.mpr ⟨(show pz_kd 1 = 12 ∧ 1 < 231 from by decide), (List.forall_mem_cons.mpr ⟨(pz_tc _), List.forall_mem_nil _⟩)⟩)
  obtain ⟨w461, rfl, C461⟩ := hr
  have hq : _ ∧ _ := hq
  obtain ⟨q461, z461⟩ := hq
  obtain ⟨E8, hR⟩ := pz_RZ_deed hI8 hR8 q451 z451 q461 z461
  have hI : pz_ic M461 := pz_ic_cg (fun b j q => z461.2 b j (by unfold pz_QX; unfold pz_mid at q; omega)) hI
  have hJ : pz_im M461 := z461.1 hJ
  refine lv_pop hx hb (show decode code 464 = .ok (.pop, 1) from pz_dlL14 (464, .pop, 1, 465, []) (List.mem_of_getElem? (i := 12) rfl)) rfl ?_
  refine lv_goto (tgt := 1407) hx hb (show decode code 465 = .ok (.goto 942, 3) from pz_dlL14 (465, .goto 942, 3, 468, [1407]) (List.mem_of_getElem? (i := 13) rfl)) (by decide) ?_
  have hR : pz_R M461 := by
    exact hR
  exact K _ _ _ hI hJ hR hP hS hM
set_option maxRecDepth 100000 in
set_option maxHeartbeats 4000000 in
theorem pz_case8 (Y : pz_Y p s m #[Value.ref b] c code R_law 4 D ad adV cy A) (hcs : cells ≤ room_1.cells ∧ slots ≤ room_1.slots) (hX : va_X b L xs s s.heap) (hbl : b < s.heap.size) (hbA : ¬ A b) (hL : L ≤ 3072) {i : Nat} (hi : i + 6 ≤ L) {H : Heap} {locs : List Loc} {ls : Array Slot} {M : pz_M} (hl : lv_has ls 4 [(0, .ref b), (1, .ref (ad 0)), (2, .ref (ad 1)), (3, .int (Int32.ofNat i))]) (hP : va_P D vwCl (pz_ws ad cy M) H) (hS : va_S A s.heap H locs) (hM : ∀ a k : Nat, pz_c (M a k)) (hI : pz_ic M) (hJ : pz_im M) (hR : pz_R M) (K : ∀ (M9 : pz_M) (H9 : Heap) (locs9 : List Loc), pz_ic M9 → pz_im M9 → pz_R M9 → va_P D vwCl (pz_ws ad cy M9) H9 → va_S A s.heap H9 locs9 → (∀ a k : Nat, pz_c (M9 a k)) → W p l e room_1 s m #[Value.ref b] below meth c H9 locs9 cells slots Q (F0 m 1407 ls [])) : W p l e room_1 s m #[Value.ref b] below meth c H locs cells slots Q (F0 m 468 ls []) := by
  obtain ⟨hx, hb, hml, hown, hts, hXX⟩ := id Y
  refine lv_aload_n hx hb (k := 1) (show decode code 468 = .ok (.aload_n 1, 1) from pz_dlL14 (468, .aload_n 1, 1, 469, []) (List.mem_of_getElem? (i := 14) rfl)) rfl (lv_at hl 1 rfl) ?_
  refine pz_la Y hX hbl hbA hL (i := i) (k := 1) (by first | decide | omega) hl hS (show decode code 469 = .ok (.aload_n 0, 1) from pz_dlL14 (469, .aload_n 0, 1, 470, []) (List.mem_of_getElem? (i := 15) rfl)) (show decode code 470 = .ok (.iload_n 3, 1) from pz_dlL15 (470, .iload_n 3, 1, 471, []) (List.mem_of_getElem? (i := 0) rfl)) (show decode code 471 = .ok (.iconst 1, 1) from pz_dlL15 (471, .iconst 1, 1, 472, []) (List.mem_of_getElem? (i := 1) rfl)) (show decode code 472 = .ok (.iadd, 1) from pz_dlL15 (472, .iadd, 1, 473, []) (List.mem_of_getElem? (i := 2) rfl)) (show decode code 473 = .ok (.iaload, 1) from pz_dlL15 (473, .iaload, 1, 474, []) (List.mem_of_getElem? (i := 3) rfl)) ?_
  refine pz_crV Y hcs (v3_X11_days (Nat.le_of_ble_eq_true rfl) (Nat.le_of_ble_eq_true rfl) pz_wq567) H locs ls M [.inr (.inr (11, 0)), .inl (xs (i + 1)).toInt] [] 474 (show decode code 474 = .ok (.invokevirtual 50, 3) from pz_dlL15 (474, .invokevirtual 50, 3, 477, []) (List.mem_of_getElem? (i := 4) rfl)) hP hS hM ?_ hl.1 rfl (Nat.le_of_ble_eq_true rfl) (hI) (fun r474 M474 H474 locs474 hq hr hP hS hM => ?_)
  · skip
    exact (List.forall_mem_cons.mpr ⟨(show pz_kd 0 = 11 ∧ 0 < 231 from by decide), (List.forall_mem_cons.mpr ⟨(pz_tc _), List.forall_mem_nil _⟩)⟩)
  obtain ⟨w474, rfl, C474⟩ := hr
  have hq : _ ∧ _ := hq
  obtain ⟨q474, z474⟩ := hq
  have hI8 := hI
  have hR8 : pz_RZ M := hR
  have hJ : pz_im M474 := pz_im_cg (fun b j q => z474.1.2.1 b j (Or.inl q)) hJ
  have hI : pz_ic M474 := z474.1.1 hI
  refine lv_pop hx hb (show decode code 477 = .ok (.pop, 1) from pz_dlL15 (477, .pop, 1, 478, []) (List.mem_of_getElem? (i := 5) rfl)) rfl ?_
  refine lv_aload_n hx hb (k := 2) (show decode code 478 = .ok (.aload_n 2, 1) from pz_dlL15 (478, .aload_n 2, 1, 479, []) (List.mem_of_getElem? (i := 6) rfl)) rfl (lv_at hl 2 rfl) ?_
  refine pz_la Y hX hbl hbA hL (i := i) (k := 1) (by first | decide | omega) hl hS (show decode code 479 = .ok (.aload_n 0, 1) from pz_dlL15 (479, .aload_n 0, 1, 480, []) (List.mem_of_getElem? (i := 7) rfl)) (show decode code 480 = .ok (.iload_n 3, 1) from pz_dlL15 (480, .iload_n 3, 1, 481, []) (List.mem_of_getElem? (i := 8) rfl)) (show decode code 481 = .ok (.iconst 1, 1) from pz_dlL15 (481, .iconst 1, 1, 482, []) (List.mem_of_getElem? (i := 9) rfl)) (show decode code 482 = .ok (.iadd, 1) from pz_dlL15 (482, .iadd, 1, 483, []) (List.mem_of_getElem? (i := 10) rfl)) (show decode code 483 = .ok (.iaload, 1) from pz_dlL15 (483, .iaload, 1, 484, []) (List.mem_of_getElem? (i := 11) rfl)) ?_
  refine pz_crV Y hcs (v3_X12_days (Nat.le_of_ble_eq_true rfl) (Nat.le_of_ble_eq_true rfl) pz_wq1527) H474 locs474 ls M474 [.inr (.inr (12, 1)), .inl (xs (i + 1)).toInt] [] 484 (show decode code 484 = .ok (.invokevirtual 53, 3) from pz_dlL15 (484, .invokevirtual 53, 3, 487, []) (List.mem_of_getElem? (i := 12) rfl)) hP hS hM ?_ hl.1 rfl (Nat.le_of_ble_eq_true rfl) (hJ) (fun r484 M484 H484 locs484 hq hr hP hS hM => ?_)
  · skip
    exact (List.forall_mem_cons.mpr ⟨(show pz_kd 1 = 12 ∧ 1 < 231 from by decide), (List.forall_mem_cons.mpr ⟨(pz_tc _), List.forall_mem_nil _⟩)⟩)
  obtain ⟨w484, rfl, C484⟩ := hr
  have hq : _ ∧ _ := hq
  obtain ⟨q484, z484⟩ := hq
  obtain ⟨E8, hR⟩ := pz_RZ_days hI8 hR8 q474 z474 q484 z484
  have hI : pz_ic M484 := pz_ic_cg (fun b j q => z484.2 b j (by unfold pz_QX; unfold pz_mid at q; omega)) hI
  have hJ : pz_im M484 := z484.1 hJ
  refine lv_pop hx hb (show decode code 487 = .ok (.pop, 1) from pz_dlL15 (487, .pop, 1, 488, []) (List.mem_of_getElem? (i := 13) rfl)) rfl ?_
  refine lv_goto (tgt := 1407) hx hb (show decode code 488 = .ok (.goto 919, 3) from pz_dlL15 (488, .goto 919, 3, 491, [1407]) (List.mem_of_getElem? (i := 14) rfl)) (by decide) ?_
  have hR : pz_R M484 := by
    exact hR
  exact K _ _ _ hI hJ hR hP hS hM
set_option maxRecDepth 100000 in
set_option maxHeartbeats 4000000 in
theorem pz_case9 (Y : pz_Y p s m #[Value.ref b] c code R_law 4 D ad adV cy A) (hcs : cells ≤ room_1.cells ∧ slots ≤ room_1.slots) (hX : va_X b L xs s s.heap) (hbl : b < s.heap.size) (hbA : ¬ A b) (hL : L ≤ 3072) {i : Nat} (hi : i + 6 ≤ L) {H : Heap} {locs : List Loc} {ls : Array Slot} {M : pz_M} (hl : lv_has ls 4 [(0, .ref b), (1, .ref (ad 0)), (2, .ref (ad 1)), (3, .int (Int32.ofNat i))]) (hP : va_P D vwCl (pz_ws ad cy M) H) (hS : va_S A s.heap H locs) (hM : ∀ a k : Nat, pz_c (M a k)) (hI : pz_ic M) (hJ : pz_im M) (hR : pz_R M) (K : ∀ (M9 : pz_M) (H9 : Heap) (locs9 : List Loc), pz_ic M9 → pz_im M9 → pz_R M9 → va_P D vwCl (pz_ws ad cy M9) H9 → va_S A s.heap H9 locs9 → (∀ a k : Nat, pz_c (M9 a k)) → W p l e room_1 s m #[Value.ref b] below meth c H9 locs9 cells slots Q (F0 m 1407 ls [])) : W p l e room_1 s m #[Value.ref b] below meth c H locs cells slots Q (F0 m 491 ls []) := by
  obtain ⟨hx, hb, hml, hown, hts, hXX⟩ := id Y
  refine lv_aload_n hx hb (k := 1) (show decode code 491 = .ok (.aload_n 1, 1) from pz_dlL15 (491, .aload_n 1, 1, 492, []) (List.mem_of_getElem? (i := 15) rfl)) rfl (lv_at hl 1 rfl) ?_
  refine pz_la Y hX hbl hbA hL (i := i) (k := 1) (by first | decide | omega) hl hS (show decode code 492 = .ok (.aload_n 0, 1) from pz_dlL16 (492, .aload_n 0, 1, 493, []) (List.mem_of_getElem? (i := 0) rfl)) (show decode code 493 = .ok (.iload_n 3, 1) from pz_dlL16 (493, .iload_n 3, 1, 494, []) (List.mem_of_getElem? (i := 1) rfl)) (show decode code 494 = .ok (.iconst 1, 1) from pz_dlL16 (494, .iconst 1, 1, 495, []) (List.mem_of_getElem? (i := 2) rfl)) (show decode code 495 = .ok (.iadd, 1) from pz_dlL16 (495, .iadd, 1, 496, []) (List.mem_of_getElem? (i := 3) rfl)) (show decode code 496 = .ok (.iaload, 1) from pz_dlL16 (496, .iaload, 1, 497, []) (List.mem_of_getElem? (i := 4) rfl)) ?_
  refine pz_la Y hX hbl hbA hL (i := i) (k := 2) (by first | decide | omega) hl hS (show decode code 497 = .ok (.aload_n 0, 1) from pz_dlL16 (497, .aload_n 0, 1, 498, []) (List.mem_of_getElem? (i := 5) rfl)) (show decode code 498 = .ok (.iload_n 3, 1) from pz_dlL16 (498, .iload_n 3, 1, 499, []) (List.mem_of_getElem? (i := 6) rfl)) (show decode code 499 = .ok (.iconst 2, 1) from pz_dlL16 (499, .iconst 2, 1, 500, []) (List.mem_of_getElem? (i := 7) rfl)) (show decode code 500 = .ok (.iadd, 1) from pz_dlL16 (500, .iadd, 1, 501, []) (List.mem_of_getElem? (i := 8) rfl)) (show decode code 501 = .ok (.iaload, 1) from pz_dlL16 (501, .iaload, 1, 502, []) (List.mem_of_getElem? (i := 9) rfl)) ?_
  refine pz_la Y hX hbl hbA hL (i := i) (k := 3) (by first | decide | omega) hl hS (show decode code 502 = .ok (.aload_n 0, 1) from pz_dlL16 (502, .aload_n 0, 1, 503, []) (List.mem_of_getElem? (i := 10) rfl)) (show decode code 503 = .ok (.iload_n 3, 1) from pz_dlL16 (503, .iload_n 3, 1, 504, []) (List.mem_of_getElem? (i := 11) rfl)) (show decode code 504 = .ok (.iconst 3, 1) from pz_dlL16 (504, .iconst 3, 1, 505, []) (List.mem_of_getElem? (i := 12) rfl)) (show decode code 505 = .ok (.iadd, 1) from pz_dlL16 (505, .iadd, 1, 506, []) (List.mem_of_getElem? (i := 13) rfl)) (show decode code 506 = .ok (.iaload, 1) from pz_dlL16 (506, .iaload, 1, 507, []) (List.mem_of_getElem? (i := 14) rfl)) ?_
  refine pz_la Y hX hbl hbA hL (i := i) (k := 4) (by first | decide | omega) hl hS (show decode code 507 = .ok (.aload_n 0, 1) from pz_dlL16 (507, .aload_n 0, 1, 508, []) (List.mem_of_getElem? (i := 15) rfl)) (show decode code 508 = .ok (.iload_n 3, 1) from pz_dlL17 (508, .iload_n 3, 1, 509, []) (List.mem_of_getElem? (i := 0) rfl)) (show decode code 509 = .ok (.iconst 4, 1) from pz_dlL17 (509, .iconst 4, 1, 510, []) (List.mem_of_getElem? (i := 1) rfl)) (show decode code 510 = .ok (.iadd, 1) from pz_dlL17 (510, .iadd, 1, 511, []) (List.mem_of_getElem? (i := 2) rfl)) (show decode code 511 = .ok (.iaload, 1) from pz_dlL17 (511, .iaload, 1, 512, []) (List.mem_of_getElem? (i := 3) rfl)) ?_
  refine pz_la Y hX hbl hbA hL (i := i) (k := 5) (by first | decide | omega) hl hS (show decode code 512 = .ok (.aload_n 0, 1) from pz_dlL17 (512, .aload_n 0, 1, 513, []) (List.mem_of_getElem? (i := 4) rfl)) (show decode code 513 = .ok (.iload_n 3, 1) from pz_dlL17 (513, .iload_n 3, 1, 514, []) (List.mem_of_getElem? (i := 5) rfl)) (show decode code 514 = .ok (.iconst 5, 1) from pz_dlL17 (514, .iconst 5, 1, 515, []) (List.mem_of_getElem? (i := 6) rfl)) (show decode code 515 = .ok (.iadd, 1) from pz_dlL17 (515, .iadd, 1, 516, []) (List.mem_of_getElem? (i := 7) rfl)) (show decode code 516 = .ok (.iaload, 1) from pz_dlL17 (516, .iaload, 1, 517, []) (List.mem_of_getElem? (i := 8) rfl)) ?_
  refine pz_crV Y hcs (v_X11_feed (Nat.le_of_ble_eq_true rfl) (Nat.le_of_ble_eq_true rfl) pz_wq643) H locs ls M [.inr (.inr (11, 0)), .inl (xs (i + 1)).toInt, .inl (xs (i + 2)).toInt, .inl (xs (i + 3)).toInt, .inl (xs (i + 4)).toInt, .inl (xs (i + 5)).toInt] [] 517 (show decode code 517 = .ok (.invokevirtual 54, 3) from pz_dlL17 (517, .invokevirtual 54, 3, 520, []) (List.mem_of_getElem? (i := 9) rfl)) hP hS hM ?_ hl.1 rfl (Nat.le_of_ble_eq_true rfl) (hI) (fun r517 M517 H517 locs517 hq hr hP hS hM => ?_)
  · skip
    exact (List.forall_mem_cons.mpr ⟨(show pz_kd 0 = 11 ∧ 0 < 231 from by decide), (List.forall_mem_cons.mpr ⟨(pz_tc _), (List.forall_mem_cons.mpr ⟨(pz_tc _), (List.forall_mem_cons.mpr ⟨(pz_tc _), (List.forall_mem_cons.mpr ⟨(pz_tc _), (List.forall_mem_cons.mpr ⟨(pz_tc _), List.forall_mem_nil _⟩)⟩)⟩)⟩)⟩)⟩)
  obtain ⟨w517, rfl, C517⟩ := hr
  have hq : _ ∧ _ := hq
  obtain ⟨q517, z517⟩ := hq
  have hI8 := hI
  have hR8 : pz_RZ M := hR
  have hJ : pz_im M517 := pz_im_cg (fun b j q => z517.2 b j (by unfold pq_Pf; unfold pz_mid at q; omega)) hJ
  have hI : pz_ic M517 := z517.1 hI
  refine lv_pop hx hb (show decode code 520 = .ok (.pop, 1) from pz_dlL17 (520, .pop, 1, 521, []) (List.mem_of_getElem? (i := 10) rfl)) rfl ?_
  refine lv_aload_n hx hb (k := 2) (show decode code 521 = .ok (.aload_n 2, 1) from pz_dlL17 (521, .aload_n 2, 1, 522, []) (List.mem_of_getElem? (i := 11) rfl)) rfl (lv_at hl 2 rfl) ?_
  refine pz_la Y hX hbl hbA hL (i := i) (k := 1) (by first | decide | omega) hl hS (show decode code 522 = .ok (.aload_n 0, 1) from pz_dlL17 (522, .aload_n 0, 1, 523, []) (List.mem_of_getElem? (i := 12) rfl)) (show decode code 523 = .ok (.iload_n 3, 1) from pz_dlL17 (523, .iload_n 3, 1, 524, []) (List.mem_of_getElem? (i := 13) rfl)) (show decode code 524 = .ok (.iconst 1, 1) from pz_dlL17 (524, .iconst 1, 1, 525, []) (List.mem_of_getElem? (i := 14) rfl)) (show decode code 525 = .ok (.iadd, 1) from pz_dlL17 (525, .iadd, 1, 526, []) (List.mem_of_getElem? (i := 15) rfl)) (show decode code 526 = .ok (.iaload, 1) from pz_dlL18 (526, .iaload, 1, 527, []) (List.mem_of_getElem? (i := 0) rfl)) ?_
  refine pz_la Y hX hbl hbA hL (i := i) (k := 2) (by first | decide | omega) hl hS (show decode code 527 = .ok (.aload_n 0, 1) from pz_dlL18 (527, .aload_n 0, 1, 528, []) (List.mem_of_getElem? (i := 1) rfl)) (show decode code 528 = .ok (.iload_n 3, 1) from pz_dlL18 (528, .iload_n 3, 1, 529, []) (List.mem_of_getElem? (i := 2) rfl)) (show decode code 529 = .ok (.iconst 2, 1) from pz_dlL18 (529, .iconst 2, 1, 530, []) (List.mem_of_getElem? (i := 3) rfl)) (show decode code 530 = .ok (.iadd, 1) from pz_dlL18 (530, .iadd, 1, 531, []) (List.mem_of_getElem? (i := 4) rfl)) (show decode code 531 = .ok (.iaload, 1) from pz_dlL18 (531, .iaload, 1, 532, []) (List.mem_of_getElem? (i := 5) rfl)) ?_
  refine pz_la Y hX hbl hbA hL (i := i) (k := 3) (by first | decide | omega) hl hS (show decode code 532 = .ok (.aload_n 0, 1) from pz_dlL18 (532, .aload_n 0, 1, 533, []) (List.mem_of_getElem? (i := 6) rfl)) (show decode code 533 = .ok (.iload_n 3, 1) from pz_dlL18 (533, .iload_n 3, 1, 534, []) (List.mem_of_getElem? (i := 7) rfl)) (show decode code 534 = .ok (.iconst 3, 1) from pz_dlL18 (534, .iconst 3, 1, 535, []) (List.mem_of_getElem? (i := 8) rfl)) (show decode code 535 = .ok (.iadd, 1) from pz_dlL18 (535, .iadd, 1, 536, []) (List.mem_of_getElem? (i := 9) rfl)) (show decode code 536 = .ok (.iaload, 1) from pz_dlL18 (536, .iaload, 1, 537, []) (List.mem_of_getElem? (i := 10) rfl)) ?_
  refine pz_la Y hX hbl hbA hL (i := i) (k := 4) (by first | decide | omega) hl hS (show decode code 537 = .ok (.aload_n 0, 1) from pz_dlL18 (537, .aload_n 0, 1, 538, []) (List.mem_of_getElem? (i := 11) rfl)) (show decode code 538 = .ok (.iload_n 3, 1) from pz_dlL18 (538, .iload_n 3, 1, 539, []) (List.mem_of_getElem? (i := 12) rfl)) (show decode code 539 = .ok (.iconst 4, 1) from pz_dlL18 (539, .iconst 4, 1, 540, []) (List.mem_of_getElem? (i := 13) rfl)) (show decode code 540 = .ok (.iadd, 1) from pz_dlL18 (540, .iadd, 1, 541, []) (List.mem_of_getElem? (i := 14) rfl)) (show decode code 541 = .ok (.iaload, 1) from pz_dlL18 (541, .iaload, 1, 542, []) (List.mem_of_getElem? (i := 15) rfl)) ?_
  refine pz_la Y hX hbl hbA hL (i := i) (k := 5) (by first | decide | omega) hl hS (show decode code 542 = .ok (.aload_n 0, 1) from pz_dlL19 (542, .aload_n 0, 1, 543, []) (List.mem_of_getElem? (i := 0) rfl)) (show decode code 543 = .ok (.iload_n 3, 1) from pz_dlL19 (543, .iload_n 3, 1, 544, []) (List.mem_of_getElem? (i := 1) rfl)) (show decode code 544 = .ok (.iconst 5, 1) from pz_dlL19 (544, .iconst 5, 1, 545, []) (List.mem_of_getElem? (i := 2) rfl)) (show decode code 545 = .ok (.iadd, 1) from pz_dlL19 (545, .iadd, 1, 546, []) (List.mem_of_getElem? (i := 3) rfl)) (show decode code 546 = .ok (.iaload, 1) from pz_dlL19 (546, .iaload, 1, 547, []) (List.mem_of_getElem? (i := 4) rfl)) ?_
  refine pz_crV Y hcs (v_X12_feed (Nat.le_of_ble_eq_true rfl) (Nat.le_of_ble_eq_true rfl) pz_wq1231) H517 locs517 ls M517 [.inr (.inr (12, 1)), .inl (xs (i + 1)).toInt, .inl (xs (i + 2)).toInt, .inl (xs (i + 3)).toInt, .inl (xs (i + 4)).toInt, .inl (xs (i + 5)).toInt] [] 547 (show decode code 547 = .ok (.invokevirtual 58, 3) from pz_dlL19 (547, .invokevirtual 58, 3, 550, []) (List.mem_of_getElem? (i := 5) rfl)) hP hS hM ?_ hl.1 rfl (Nat.le_of_ble_eq_true rfl) (hJ) (fun r547 M547 H547 locs547 hq hr hP hS hM => ?_)
  · skip
    exact (List.forall_mem_cons.mpr ⟨(show pz_kd 1 = 12 ∧ 1 < 231 from by decide), (List.forall_mem_cons.mpr ⟨(pz_tc _), (List.forall_mem_cons.mpr ⟨(pz_tc _), (List.forall_mem_cons.mpr ⟨(pz_tc _), (List.forall_mem_cons.mpr ⟨(pz_tc _), (List.forall_mem_cons.mpr ⟨(pz_tc _), List.forall_mem_nil _⟩)⟩)⟩)⟩)⟩)⟩)
  obtain ⟨w547, rfl, C547⟩ := hr
  have hq : _ ∧ _ := hq
  obtain ⟨q547, z547⟩ := hq
  obtain ⟨E8, hR⟩ := pz_RZ_feed hI8 hR8 q517 z517 q547 z547
  have hI : pz_ic M547 := pz_ic_cg (fun b j q => z547.2 b j (by unfold pz_QF; unfold pz_mid at q; omega)) hI
  have hJ : pz_im M547 := z547.1 hJ
  refine lv_pop hx hb (show decode code 550 = .ok (.pop, 1) from pz_dlL19 (550, .pop, 1, 551, []) (List.mem_of_getElem? (i := 6) rfl)) rfl ?_
  refine lv_goto (tgt := 1407) hx hb (show decode code 551 = .ok (.goto 856, 3) from pz_dlL19 (551, .goto 856, 3, 554, [1407]) (List.mem_of_getElem? (i := 7) rfl)) (by decide) ?_
  have hR : pz_R M547 := by
    exact hR
  exact K _ _ _ hI hJ hR hP hS hM
set_option maxRecDepth 100000 in
set_option maxHeartbeats 4000000 in
theorem pz_case10 (Y : pz_Y p s m #[Value.ref b] c code R_law 4 D ad adV cy A) (hcs : cells ≤ room_1.cells ∧ slots ≤ room_1.slots) (hX : va_X b L xs s s.heap) (hbl : b < s.heap.size) (hbA : ¬ A b) (hL : L ≤ 3072) {i : Nat} (hi : i + 6 ≤ L) {H : Heap} {locs : List Loc} {ls : Array Slot} {M : pz_M} (hl : lv_has ls 4 [(0, .ref b), (1, .ref (ad 0)), (2, .ref (ad 1)), (3, .int (Int32.ofNat i))]) (hP : va_P D vwCl (pz_ws ad cy M) H) (hS : va_S A s.heap H locs) (hM : ∀ a k : Nat, pz_c (M a k)) (hI : pz_ic M) (hJ : pz_im M) (hR : pz_R M) (K : ∀ (M9 : pz_M) (H9 : Heap) (locs9 : List Loc), pz_ic M9 → pz_im M9 → pz_R M9 → va_P D vwCl (pz_ws ad cy M9) H9 → va_S A s.heap H9 locs9 → (∀ a k : Nat, pz_c (M9 a k)) → W p l e room_1 s m #[Value.ref b] below meth c H9 locs9 cells slots Q (F0 m 1407 ls [])) : W p l e room_1 s m #[Value.ref b] below meth c H locs cells slots Q (F0 m 554 ls []) := by
  obtain ⟨hx, hb, hml, hown, hts, hXX⟩ := id Y
  refine lv_aload_n hx hb (k := 1) (show decode code 554 = .ok (.aload_n 1, 1) from pz_dlL19 (554, .aload_n 1, 1, 555, []) (List.mem_of_getElem? (i := 8) rfl)) rfl (lv_at hl 1 rfl) ?_
  refine pz_la Y hX hbl hbA hL (i := i) (k := 1) (by first | decide | omega) hl hS (show decode code 555 = .ok (.aload_n 0, 1) from pz_dlL19 (555, .aload_n 0, 1, 556, []) (List.mem_of_getElem? (i := 9) rfl)) (show decode code 556 = .ok (.iload_n 3, 1) from pz_dlL19 (556, .iload_n 3, 1, 557, []) (List.mem_of_getElem? (i := 10) rfl)) (show decode code 557 = .ok (.iconst 1, 1) from pz_dlL19 (557, .iconst 1, 1, 558, []) (List.mem_of_getElem? (i := 11) rfl)) (show decode code 558 = .ok (.iadd, 1) from pz_dlL19 (558, .iadd, 1, 559, []) (List.mem_of_getElem? (i := 12) rfl)) (show decode code 559 = .ok (.iaload, 1) from pz_dlL19 (559, .iaload, 1, 560, []) (List.mem_of_getElem? (i := 13) rfl)) ?_
  refine pz_crV Y hcs (v3_X11_end (Nat.le_of_ble_eq_true rfl) (Nat.le_of_ble_eq_true rfl) pz_wq651) H locs ls M [.inr (.inr (11, 0)), .inl (xs (i + 1)).toInt] [] 560 (show decode code 560 = .ok (.invokevirtual 59, 3) from pz_dlL19 (560, .invokevirtual 59, 3, 563, []) (List.mem_of_getElem? (i := 14) rfl)) hP hS hM ?_ hl.1 rfl (Nat.le_of_ble_eq_true rfl) (hI) (fun r560 M560 H560 locs560 hq hr hP hS hM => ?_)
  · skip
    exact (List.forall_mem_cons.mpr ⟨(show pz_kd 0 = 11 ∧ 0 < 231 from by decide), (List.forall_mem_cons.mpr ⟨(pz_tc _), List.forall_mem_nil _⟩)⟩)
  obtain ⟨w560, rfl, C560⟩ := hr
  have hq : _ ∧ _ := hq
  obtain ⟨q560, z560⟩ := hq
  have hI8 := hI
  have hR8 : pz_RZ M := hR
  have hJ : pz_im M560 := pz_im_cg (fun b j q => z560.2 b j (by unfold pq_Pe; unfold pz_mid at q; omega)) hJ
  have hI : pz_ic M560 := z560.1 hI
  refine lv_pop hx hb (show decode code 563 = .ok (.pop, 1) from pz_dlL19 (563, .pop, 1, 564, []) (List.mem_of_getElem? (i := 15) rfl)) rfl ?_
  refine lv_aload_n hx hb (k := 2) (show decode code 564 = .ok (.aload_n 2, 1) from pz_dlL20 (564, .aload_n 2, 1, 565, []) (List.mem_of_getElem? (i := 0) rfl)) rfl (lv_at hl 2 rfl) ?_
  refine pz_la Y hX hbl hbA hL (i := i) (k := 1) (by first | decide | omega) hl hS (show decode code 565 = .ok (.aload_n 0, 1) from pz_dlL20 (565, .aload_n 0, 1, 566, []) (List.mem_of_getElem? (i := 1) rfl)) (show decode code 566 = .ok (.iload_n 3, 1) from pz_dlL20 (566, .iload_n 3, 1, 567, []) (List.mem_of_getElem? (i := 2) rfl)) (show decode code 567 = .ok (.iconst 1, 1) from pz_dlL20 (567, .iconst 1, 1, 568, []) (List.mem_of_getElem? (i := 3) rfl)) (show decode code 568 = .ok (.iadd, 1) from pz_dlL20 (568, .iadd, 1, 569, []) (List.mem_of_getElem? (i := 4) rfl)) (show decode code 569 = .ok (.iaload, 1) from pz_dlL20 (569, .iaload, 1, 570, []) (List.mem_of_getElem? (i := 5) rfl)) ?_
  refine pz_crV Y hcs (v3_X12_end (Nat.le_of_ble_eq_true rfl) (Nat.le_of_ble_eq_true rfl) pz_wq1235) H560 locs560 ls M560 [.inr (.inr (12, 1)), .inl (xs (i + 1)).toInt] [] 570 (show decode code 570 = .ok (.invokevirtual 62, 3) from pz_dlL20 (570, .invokevirtual 62, 3, 573, []) (List.mem_of_getElem? (i := 6) rfl)) hP hS hM ?_ hl.1 rfl (Nat.le_of_ble_eq_true rfl) (hJ) (fun r570 M570 H570 locs570 hq hr hP hS hM => ?_)
  · skip
    exact (List.forall_mem_cons.mpr ⟨(show pz_kd 1 = 12 ∧ 1 < 231 from by decide), (List.forall_mem_cons.mpr ⟨(pz_tc _), List.forall_mem_nil _⟩)⟩)
  obtain ⟨w570, rfl, C570⟩ := hr
  have hq : _ ∧ _ := hq
  obtain ⟨q570, z570⟩ := hq
  obtain ⟨E8, hR⟩ := pz_RZ_end hI8 hR8 q560 z560 q570 z570
  have hI : pz_ic M570 := pz_ic_cg (fun b j q => z570.2 b j (by unfold pz_QN; unfold pz_mid at q; omega)) hI
  have hJ : pz_im M570 := z570.1 hJ
  refine lv_pop hx hb (show decode code 573 = .ok (.pop, 1) from pz_dlL20 (573, .pop, 1, 574, []) (List.mem_of_getElem? (i := 7) rfl)) rfl ?_
  refine lv_goto (tgt := 1407) hx hb (show decode code 574 = .ok (.goto 833, 3) from pz_dlL20 (574, .goto 833, 3, 577, [1407]) (List.mem_of_getElem? (i := 8) rfl)) (by decide) ?_
  have hR : pz_R M570 := by
    exact hR
  exact K _ _ _ hI hJ hR hP hS hM
set_option maxRecDepth 100000 in
set_option maxHeartbeats 4000000 in
theorem pz_case11 (Y : pz_Y p s m #[Value.ref b] c code R_law 4 D ad adV cy A) (hcs : cells ≤ room_1.cells ∧ slots ≤ room_1.slots) (hX : va_X b L xs s s.heap) (hbl : b < s.heap.size) (hbA : ¬ A b) (hL : L ≤ 3072) {i : Nat} (hi : i + 6 ≤ L) {H : Heap} {locs : List Loc} {ls : Array Slot} {M : pz_M} (hl : lv_has ls 4 [(0, .ref b), (1, .ref (ad 0)), (2, .ref (ad 1)), (3, .int (Int32.ofNat i))]) (hP : va_P D vwCl (pz_ws ad cy M) H) (hS : va_S A s.heap H locs) (hM : ∀ a k : Nat, pz_c (M a k)) (hI : pz_ic M) (hJ : pz_im M) (hR : pz_R M) (K : ∀ (M9 : pz_M) (H9 : Heap) (locs9 : List Loc), pz_ic M9 → pz_im M9 → pz_R M9 → va_P D vwCl (pz_ws ad cy M9) H9 → va_S A s.heap H9 locs9 → (∀ a k : Nat, pz_c (M9 a k)) → W p l e room_1 s m #[Value.ref b] below meth c H9 locs9 cells slots Q (F0 m 1407 ls [])) : W p l e room_1 s m #[Value.ref b] below meth c H locs cells slots Q (F0 m 577 ls []) := by
  obtain ⟨hx, hb, hml, hown, hts, hXX⟩ := id Y
  refine lv_aload_n hx hb (k := 1) (show decode code 577 = .ok (.aload_n 1, 1) from pz_dlL20 (577, .aload_n 1, 1, 578, []) (List.mem_of_getElem? (i := 9) rfl)) rfl (lv_at hl 1 rfl) ?_
  refine pz_la Y hX hbl hbA hL (i := i) (k := 1) (by first | decide | omega) hl hS (show decode code 578 = .ok (.aload_n 0, 1) from pz_dlL20 (578, .aload_n 0, 1, 579, []) (List.mem_of_getElem? (i := 10) rfl)) (show decode code 579 = .ok (.iload_n 3, 1) from pz_dlL20 (579, .iload_n 3, 1, 580, []) (List.mem_of_getElem? (i := 11) rfl)) (show decode code 580 = .ok (.iconst 1, 1) from pz_dlL20 (580, .iconst 1, 1, 581, []) (List.mem_of_getElem? (i := 12) rfl)) (show decode code 581 = .ok (.iadd, 1) from pz_dlL20 (581, .iadd, 1, 582, []) (List.mem_of_getElem? (i := 13) rfl)) (show decode code 582 = .ok (.iaload, 1) from pz_dlL20 (582, .iaload, 1, 583, []) (List.mem_of_getElem? (i := 14) rfl)) ?_
  refine pz_crV Y hcs (v3_X11_text (Nat.le_of_ble_eq_true rfl) (Nat.le_of_ble_eq_true rfl) pz_wq655) H locs ls M [.inr (.inr (11, 0)), .inl (xs (i + 1)).toInt] [] 583 (show decode code 583 = .ok (.invokevirtual 63, 3) from pz_dlL20 (583, .invokevirtual 63, 3, 586, []) (List.mem_of_getElem? (i := 15) rfl)) hP hS hM ?_ hl.1 rfl (Nat.le_of_ble_eq_true rfl) (hI) (fun r583 M583 H583 locs583 hq hr hP hS hM => ?_)
  · skip
    exact (List.forall_mem_cons.mpr ⟨(show pz_kd 0 = 11 ∧ 0 < 231 from by decide), (List.forall_mem_cons.mpr ⟨(pz_tc _), List.forall_mem_nil _⟩)⟩)
  obtain ⟨w583, rfl, C583⟩ := hr
  have hq : _ ∧ _ := hq
  obtain ⟨q583, z583⟩ := hq
  have hI8 := hI
  have hR8 : pz_RZ M := hR
  have hJ : pz_im M583 := pz_im_cg (fun b j q => z583.2 b j (by unfold pq_Pt; unfold pz_mid at q; omega)) hJ
  have hI : pz_ic M583 := z583.1 hI
  refine lv_pop hx hb (show decode code 586 = .ok (.pop, 1) from pz_dlL21 (586, .pop, 1, 587, []) (List.mem_of_getElem? (i := 0) rfl)) rfl ?_
  refine lv_aload_n hx hb (k := 2) (show decode code 587 = .ok (.aload_n 2, 1) from pz_dlL21 (587, .aload_n 2, 1, 588, []) (List.mem_of_getElem? (i := 1) rfl)) rfl (lv_at hl 2 rfl) ?_
  refine pz_la Y hX hbl hbA hL (i := i) (k := 1) (by first | decide | omega) hl hS (show decode code 588 = .ok (.aload_n 0, 1) from pz_dlL21 (588, .aload_n 0, 1, 589, []) (List.mem_of_getElem? (i := 2) rfl)) (show decode code 589 = .ok (.iload_n 3, 1) from pz_dlL21 (589, .iload_n 3, 1, 590, []) (List.mem_of_getElem? (i := 3) rfl)) (show decode code 590 = .ok (.iconst 1, 1) from pz_dlL21 (590, .iconst 1, 1, 591, []) (List.mem_of_getElem? (i := 4) rfl)) (show decode code 591 = .ok (.iadd, 1) from pz_dlL21 (591, .iadd, 1, 592, []) (List.mem_of_getElem? (i := 5) rfl)) (show decode code 592 = .ok (.iaload, 1) from pz_dlL21 (592, .iaload, 1, 593, []) (List.mem_of_getElem? (i := 6) rfl)) ?_
  refine pz_crV Y hcs (v3_X12_text (Nat.le_of_ble_eq_true rfl) (Nat.le_of_ble_eq_true rfl) pz_wq1239) H583 locs583 ls M583 [.inr (.inr (12, 1)), .inl (xs (i + 1)).toInt] [] 593 (show decode code 593 = .ok (.invokevirtual 66, 3) from pz_dlL21 (593, .invokevirtual 66, 3, 596, []) (List.mem_of_getElem? (i := 7) rfl)) hP hS hM ?_ hl.1 rfl (Nat.le_of_ble_eq_true rfl) (hJ) (fun r593 M593 H593 locs593 hq hr hP hS hM => ?_)
  · skip
    exact (List.forall_mem_cons.mpr ⟨(show pz_kd 1 = 12 ∧ 1 < 231 from by decide), (List.forall_mem_cons.mpr ⟨(pz_tc _), List.forall_mem_nil _⟩)⟩)
  obtain ⟨w593, rfl, C593⟩ := hr
  have hq : _ ∧ _ := hq
  obtain ⟨q593, z593⟩ := hq
  obtain ⟨E8, hR⟩ := pz_RZ_text hI8 hI hR8 q583 z583 q593 z593
  have hI : pz_ic M593 := pz_ic_cg (fun b j q => z593.2 b j (by unfold pz_QT; unfold pz_mid at q; omega)) hI
  have hJ : pz_im M593 := z593.1 hJ
  refine lv_pop hx hb (show decode code 596 = .ok (.pop, 1) from pz_dlL21 (596, .pop, 1, 597, []) (List.mem_of_getElem? (i := 8) rfl)) rfl ?_
  refine lv_goto (tgt := 1407) hx hb (show decode code 597 = .ok (.goto 810, 3) from pz_dlL21 (597, .goto 810, 3, 600, [1407]) (List.mem_of_getElem? (i := 9) rfl)) (by decide) ?_
  have hR : pz_R M593 := by
    exact hR
  exact K _ _ _ hI hJ hR hP hS hM
set_option maxRecDepth 100000 in
set_option maxHeartbeats 4000000 in
theorem pz_case12 (Y : pz_Y p s m #[Value.ref b] c code R_law 4 D ad adV cy A) (hcs : cells ≤ room_1.cells ∧ slots ≤ room_1.slots) (hX : va_X b L xs s s.heap) (hbl : b < s.heap.size) (hbA : ¬ A b) (hL : L ≤ 3072) {i : Nat} (hi : i + 6 ≤ L) {H : Heap} {locs : List Loc} {ls : Array Slot} {M : pz_M} (hl : lv_has ls 4 [(0, .ref b), (1, .ref (ad 0)), (2, .ref (ad 1)), (3, .int (Int32.ofNat i))]) (hP : va_P D vwCl (pz_ws ad cy M) H) (hS : va_S A s.heap H locs) (hM : ∀ a k : Nat, pz_c (M a k)) (hI : pz_ic M) (hJ : pz_im M) (hR : pz_R M) (K : ∀ (M9 : pz_M) (H9 : Heap) (locs9 : List Loc), pz_ic M9 → pz_im M9 → pz_R M9 → va_P D vwCl (pz_ws ad cy M9) H9 → va_S A s.heap H9 locs9 → (∀ a k : Nat, pz_c (M9 a k)) → W p l e room_1 s m #[Value.ref b] below meth c H9 locs9 cells slots Q (F0 m 1407 ls [])) : W p l e room_1 s m #[Value.ref b] below meth c H locs cells slots Q (F0 m 600 ls []) := by
  obtain ⟨hx, hb, hml, hown, hts, hXX⟩ := id Y
  refine lv_aload_n hx hb (k := 1) (show decode code 600 = .ok (.aload_n 1, 1) from pz_dlL21 (600, .aload_n 1, 1, 601, []) (List.mem_of_getElem? (i := 10) rfl)) rfl (lv_at hl 1 rfl) ?_
  refine pz_la Y hX hbl hbA hL (i := i) (k := 1) (by first | decide | omega) hl hS (show decode code 601 = .ok (.aload_n 0, 1) from pz_dlL21 (601, .aload_n 0, 1, 602, []) (List.mem_of_getElem? (i := 11) rfl)) (show decode code 602 = .ok (.iload_n 3, 1) from pz_dlL21 (602, .iload_n 3, 1, 603, []) (List.mem_of_getElem? (i := 12) rfl)) (show decode code 603 = .ok (.iconst 1, 1) from pz_dlL21 (603, .iconst 1, 1, 604, []) (List.mem_of_getElem? (i := 13) rfl)) (show decode code 604 = .ok (.iadd, 1) from pz_dlL21 (604, .iadd, 1, 605, []) (List.mem_of_getElem? (i := 14) rfl)) (show decode code 605 = .ok (.iaload, 1) from pz_dlL21 (605, .iaload, 1, 606, []) (List.mem_of_getElem? (i := 15) rfl)) ?_
  refine pz_crV Y hcs (v_X11_fault (Nat.le_of_ble_eq_true rfl) (Nat.le_of_ble_eq_true rfl) pz_wq829) H locs ls M [.inr (.inr (11, 0)), .inl (xs (i + 1)).toInt] [] 606 (show decode code 606 = .ok (.invokevirtual 67, 3) from pz_dlL22 (606, .invokevirtual 67, 3, 609, []) (List.mem_of_getElem? (i := 0) rfl)) hP hS hM ?_ hl.1 rfl (Nat.le_of_ble_eq_true rfl) (hI) (fun r606 M606 H606 locs606 hq hr hP hS hM => ?_)
  · skip
    exact (List.forall_mem_cons.mpr ⟨(show pz_kd 0 = 11 ∧ 0 < 231 from by decide), (List.forall_mem_cons.mpr ⟨(pz_tc _), List.forall_mem_nil _⟩)⟩)
  obtain ⟨w606, rfl, C606⟩ := hr
  have hq : _ ∧ _ := hq
  obtain ⟨q606, z606⟩ := hq
  subst z606
  refine lv_pop hx hb (show decode code 609 = .ok (.pop, 1) from pz_dlL22 (609, .pop, 1, 610, []) (List.mem_of_getElem? (i := 1) rfl)) rfl ?_
  refine lv_aload_n hx hb (k := 2) (show decode code 610 = .ok (.aload_n 2, 1) from pz_dlL22 (610, .aload_n 2, 1, 611, []) (List.mem_of_getElem? (i := 2) rfl)) rfl (lv_at hl 2 rfl) ?_
  refine pz_la Y hX hbl hbA hL (i := i) (k := 1) (by first | decide | omega) hl hS (show decode code 611 = .ok (.aload_n 0, 1) from pz_dlL22 (611, .aload_n 0, 1, 612, []) (List.mem_of_getElem? (i := 3) rfl)) (show decode code 612 = .ok (.iload_n 3, 1) from pz_dlL22 (612, .iload_n 3, 1, 613, []) (List.mem_of_getElem? (i := 4) rfl)) (show decode code 613 = .ok (.iconst 1, 1) from pz_dlL22 (613, .iconst 1, 1, 614, []) (List.mem_of_getElem? (i := 5) rfl)) (show decode code 614 = .ok (.iadd, 1) from pz_dlL22 (614, .iadd, 1, 615, []) (List.mem_of_getElem? (i := 6) rfl)) (show decode code 615 = .ok (.iaload, 1) from pz_dlL22 (615, .iaload, 1, 616, []) (List.mem_of_getElem? (i := 7) rfl)) ?_
  refine pz_crV Y hcs (v_X12_fault (Nat.le_of_ble_eq_true rfl) (Nat.le_of_ble_eq_true rfl) pz_wq1399) H606 locs606 ls M [.inr (.inr (12, 1)), .inl (xs (i + 1)).toInt] [] 616 (show decode code 616 = .ok (.invokevirtual 70, 3) from pz_dlL22 (616, .invokevirtual 70, 3, 619, []) (List.mem_of_getElem? (i := 8) rfl)) hP hS hM ?_ hl.1 rfl (Nat.le_of_ble_eq_true rfl) (hJ) (fun r616 M616 H616 locs616 hq hr hP hS hM => ?_)
  · skip
    exact (List.forall_mem_cons.mpr ⟨(show pz_kd 1 = 12 ∧ 1 < 231 from by decide), (List.forall_mem_cons.mpr ⟨(pz_tc _), List.forall_mem_nil _⟩)⟩)
  obtain ⟨w616, rfl, C616⟩ := hr
  have hq : _ ∧ _ := hq
  obtain ⟨q616, z616⟩ := hq
  subst z616
  refine lv_pop hx hb (show decode code 619 = .ok (.pop, 1) from pz_dlL22 (619, .pop, 1, 620, []) (List.mem_of_getElem? (i := 9) rfl)) rfl ?_
  refine lv_goto (tgt := 1407) hx hb (show decode code 620 = .ok (.goto 787, 3) from pz_dlL22 (620, .goto 787, 3, 623, [1407]) (List.mem_of_getElem? (i := 10) rfl)) (by decide) ?_
  have hR : pz_R M := by
    exact hR
  exact K _ _ _ hI hJ hR hP hS hM
set_option maxRecDepth 100000 in
set_option maxHeartbeats 4000000 in
theorem pz_case13 (Y : pz_Y p s m #[Value.ref b] c code R_law 4 D ad adV cy A) (hcs : cells ≤ room_1.cells ∧ slots ≤ room_1.slots) (hX : va_X b L xs s s.heap) (hbl : b < s.heap.size) (hbA : ¬ A b) (hL : L ≤ 3072) {i : Nat} (hi : i + 6 ≤ L) {H : Heap} {locs : List Loc} {ls : Array Slot} {M : pz_M} (hl : lv_has ls 4 [(0, .ref b), (1, .ref (ad 0)), (2, .ref (ad 1)), (3, .int (Int32.ofNat i))]) (hP : va_P D vwCl (pz_ws ad cy M) H) (hS : va_S A s.heap H locs) (hM : ∀ a k : Nat, pz_c (M a k)) (hI : pz_ic M) (hJ : pz_im M) (hR : pz_R M) (K : ∀ (M9 : pz_M) (H9 : Heap) (locs9 : List Loc), pz_ic M9 → pz_im M9 → pz_R M9 → va_P D vwCl (pz_ws ad cy M9) H9 → va_S A s.heap H9 locs9 → (∀ a k : Nat, pz_c (M9 a k)) → W p l e room_1 s m #[Value.ref b] below meth c H9 locs9 cells slots Q (F0 m 1407 ls [])) : W p l e room_1 s m #[Value.ref b] below meth c H locs cells slots Q (F0 m 623 ls []) := by
  obtain ⟨hx, hb, hml, hown, hts, hXX⟩ := id Y
  refine lv_aload_n hx hb (k := 1) (show decode code 623 = .ok (.aload_n 1, 1) from pz_dlL22 (623, .aload_n 1, 1, 624, []) (List.mem_of_getElem? (i := 11) rfl)) rfl (lv_at hl 1 rfl) ?_
  refine pz_la Y hX hbl hbA hL (i := i) (k := 1) (by first | decide | omega) hl hS (show decode code 624 = .ok (.aload_n 0, 1) from pz_dlL22 (624, .aload_n 0, 1, 625, []) (List.mem_of_getElem? (i := 12) rfl)) (show decode code 625 = .ok (.iload_n 3, 1) from pz_dlL22 (625, .iload_n 3, 1, 626, []) (List.mem_of_getElem? (i := 13) rfl)) (show decode code 626 = .ok (.iconst 1, 1) from pz_dlL22 (626, .iconst 1, 1, 627, []) (List.mem_of_getElem? (i := 14) rfl)) (show decode code 627 = .ok (.iadd, 1) from pz_dlL22 (627, .iadd, 1, 628, []) (List.mem_of_getElem? (i := 15) rfl)) (show decode code 628 = .ok (.iaload, 1) from pz_dlL23 (628, .iaload, 1, 629, []) (List.mem_of_getElem? (i := 0) rfl)) ?_
  refine pz_la Y hX hbl hbA hL (i := i) (k := 2) (by first | decide | omega) hl hS (show decode code 629 = .ok (.aload_n 0, 1) from pz_dlL23 (629, .aload_n 0, 1, 630, []) (List.mem_of_getElem? (i := 1) rfl)) (show decode code 630 = .ok (.iload_n 3, 1) from pz_dlL23 (630, .iload_n 3, 1, 631, []) (List.mem_of_getElem? (i := 2) rfl)) (show decode code 631 = .ok (.iconst 2, 1) from pz_dlL23 (631, .iconst 2, 1, 632, []) (List.mem_of_getElem? (i := 3) rfl)) (show decode code 632 = .ok (.iadd, 1) from pz_dlL23 (632, .iadd, 1, 633, []) (List.mem_of_getElem? (i := 4) rfl)) (show decode code 633 = .ok (.iaload, 1) from pz_dlL23 (633, .iaload, 1, 634, []) (List.mem_of_getElem? (i := 5) rfl)) ?_
  refine pz_crV Y hcs (v3_X11_of (Nat.le_of_ble_eq_true rfl) (Nat.le_of_ble_eq_true rfl) pz_wq833) H locs ls M [.inr (.inr (11, 0)), .inl (xs (i + 1)).toInt, .inl (xs (i + 2)).toInt] [] 634 (show decode code 634 = .ok (.invokevirtual 71, 3) from pz_dlL23 (634, .invokevirtual 71, 3, 637, []) (List.mem_of_getElem? (i := 6) rfl)) hP hS hM ?_ hl.1 rfl (Nat.le_of_ble_eq_true rfl) (hI) (fun r634 M634 H634 locs634 hq hr hP hS hM => ?_)
  · skip
    exact (List.forall_mem_cons.mpr ⟨(show pz_kd 0 = 11 ∧ 0 < 231 from by decide), (List.forall_mem_cons.mpr ⟨(pz_tc _), (List.forall_mem_cons.mpr ⟨(pz_tc _), List.forall_mem_nil _⟩)⟩)⟩)
  obtain ⟨w634, rfl, C634⟩ := hr
  have hq : _ ∧ _ := hq
  obtain ⟨q634, z634⟩ := hq
  have hR8 : pz_RZ M := hR
  have hR : pz_RZ M634 := pz_RZ_k hI hR z634
  have hJ : pz_im M634 := pz_im_cg (fun b j q => z634.2 b j (by unfold pq_Pk pq_Pw; unfold pz_mid at q; omega)) hJ
  have hI : pz_ic M634 := z634.1 hI
  refine lv_pop hx hb (show decode code 637 = .ok (.pop, 1) from pz_dlL23 (637, .pop, 1, 638, []) (List.mem_of_getElem? (i := 7) rfl)) rfl ?_
  refine lv_aload_n hx hb (k := 2) (show decode code 638 = .ok (.aload_n 2, 1) from pz_dlL23 (638, .aload_n 2, 1, 639, []) (List.mem_of_getElem? (i := 8) rfl)) rfl (lv_at hl 2 rfl) ?_
  refine pz_la Y hX hbl hbA hL (i := i) (k := 1) (by first | decide | omega) hl hS (show decode code 639 = .ok (.aload_n 0, 1) from pz_dlL23 (639, .aload_n 0, 1, 640, []) (List.mem_of_getElem? (i := 9) rfl)) (show decode code 640 = .ok (.iload_n 3, 1) from pz_dlL23 (640, .iload_n 3, 1, 641, []) (List.mem_of_getElem? (i := 10) rfl)) (show decode code 641 = .ok (.iconst 1, 1) from pz_dlL23 (641, .iconst 1, 1, 642, []) (List.mem_of_getElem? (i := 11) rfl)) (show decode code 642 = .ok (.iadd, 1) from pz_dlL23 (642, .iadd, 1, 643, []) (List.mem_of_getElem? (i := 12) rfl)) (show decode code 643 = .ok (.iaload, 1) from pz_dlL23 (643, .iaload, 1, 644, []) (List.mem_of_getElem? (i := 13) rfl)) ?_
  refine pz_la Y hX hbl hbA hL (i := i) (k := 2) (by first | decide | omega) hl hS (show decode code 644 = .ok (.aload_n 0, 1) from pz_dlL23 (644, .aload_n 0, 1, 645, []) (List.mem_of_getElem? (i := 14) rfl)) (show decode code 645 = .ok (.iload_n 3, 1) from pz_dlL23 (645, .iload_n 3, 1, 646, []) (List.mem_of_getElem? (i := 15) rfl)) (show decode code 646 = .ok (.iconst 2, 1) from pz_dlL24 (646, .iconst 2, 1, 647, []) (List.mem_of_getElem? (i := 0) rfl)) (show decode code 647 = .ok (.iadd, 1) from pz_dlL24 (647, .iadd, 1, 648, []) (List.mem_of_getElem? (i := 1) rfl)) (show decode code 648 = .ok (.iaload, 1) from pz_dlL24 (648, .iaload, 1, 649, []) (List.mem_of_getElem? (i := 2) rfl)) ?_
  refine pz_crV Y hcs (v3_X12_of (Nat.le_of_ble_eq_true rfl) (Nat.le_of_ble_eq_true rfl) pz_wq1581) H634 locs634 ls M634 [.inr (.inr (12, 1)), .inl (xs (i + 1)).toInt, .inl (xs (i + 2)).toInt] [] 649 (show decode code 649 = .ok (.invokevirtual 74, 3) from pz_dlL24 (649, .invokevirtual 74, 3, 652, []) (List.mem_of_getElem? (i := 3) rfl)) hP hS hM ?_ hl.1 rfl (Nat.le_of_ble_eq_true rfl) (hJ) (fun r649 M649 H649 locs649 hq hr hP hS hM => ?_)
  · skip
    exact (List.forall_mem_cons.mpr ⟨(show pz_kd 1 = 12 ∧ 1 < 231 from by decide), (List.forall_mem_cons.mpr ⟨(pz_tc _), (List.forall_mem_cons.mpr ⟨(pz_tc _), List.forall_mem_nil _⟩)⟩)⟩)
  obtain ⟨w649, rfl, C649⟩ := hr
  have hq : _ ∧ _ := hq
  obtain ⟨q649, z649⟩ := hq
  have hR : pz_RZ M649 := pz_RZ_v hR z649
  have hI : pz_ic M649 := pz_ic_cg (fun b j q => z649.2 b j (by unfold pz_QV; unfold pz_mid at q; omega)) hI
  have hJ : pz_im M649 := z649.1 hJ
  refine lv_pop hx hb (show decode code 652 = .ok (.pop, 1) from pz_dlL24 (652, .pop, 1, 653, []) (List.mem_of_getElem? (i := 4) rfl)) rfl ?_
  refine lv_goto (tgt := 1407) hx hb (show decode code 653 = .ok (.goto 754, 3) from pz_dlL24 (653, .goto 754, 3, 656, [1407]) (List.mem_of_getElem? (i := 5) rfl)) (by decide) ?_
  have hR : pz_R M649 := by
    exact hR
  exact K _ _ _ hI hJ hR hP hS hM
set_option maxRecDepth 100000 in
set_option maxHeartbeats 4000000 in
theorem pz_case14 (Y : pz_Y p s m #[Value.ref b] c code R_law 4 D ad adV cy A) (hcs : cells ≤ room_1.cells ∧ slots ≤ room_1.slots) (hX : va_X b L xs s s.heap) (hbl : b < s.heap.size) (hbA : ¬ A b) (hL : L ≤ 3072) {i : Nat} (hi : i + 6 ≤ L) {H : Heap} {locs : List Loc} {ls : Array Slot} {M : pz_M} (hl : lv_has ls 4 [(0, .ref b), (1, .ref (ad 0)), (2, .ref (ad 1)), (3, .int (Int32.ofNat i))]) (hP : va_P D vwCl (pz_ws ad cy M) H) (hS : va_S A s.heap H locs) (hM : ∀ a k : Nat, pz_c (M a k)) (hI : pz_ic M) (hJ : pz_im M) (hR : pz_R M) (K : ∀ (M9 : pz_M) (H9 : Heap) (locs9 : List Loc), pz_ic M9 → pz_im M9 → pz_R M9 → va_P D vwCl (pz_ws ad cy M9) H9 → va_S A s.heap H9 locs9 → (∀ a k : Nat, pz_c (M9 a k)) → W p l e room_1 s m #[Value.ref b] below meth c H9 locs9 cells slots Q (F0 m 1407 ls [])) : W p l e room_1 s m #[Value.ref b] below meth c H locs cells slots Q (F0 m 656 ls []) := by
  obtain ⟨hx, hb, hml, hown, hts, hXX⟩ := id Y
  refine lv_aload_n hx hb (k := 1) (show decode code 656 = .ok (.aload_n 1, 1) from pz_dlL24 (656, .aload_n 1, 1, 657, []) (List.mem_of_getElem? (i := 6) rfl)) rfl (lv_at hl 1 rfl) ?_
  refine pz_la Y hX hbl hbA hL (i := i) (k := 1) (by first | decide | omega) hl hS (show decode code 657 = .ok (.aload_n 0, 1) from pz_dlL24 (657, .aload_n 0, 1, 658, []) (List.mem_of_getElem? (i := 7) rfl)) (show decode code 658 = .ok (.iload_n 3, 1) from pz_dlL24 (658, .iload_n 3, 1, 659, []) (List.mem_of_getElem? (i := 8) rfl)) (show decode code 659 = .ok (.iconst 1, 1) from pz_dlL24 (659, .iconst 1, 1, 660, []) (List.mem_of_getElem? (i := 9) rfl)) (show decode code 660 = .ok (.iadd, 1) from pz_dlL24 (660, .iadd, 1, 661, []) (List.mem_of_getElem? (i := 10) rfl)) (show decode code 661 = .ok (.iaload, 1) from pz_dlL24 (661, .iaload, 1, 662, []) (List.mem_of_getElem? (i := 11) rfl)) ?_
  refine pz_la Y hX hbl hbA hL (i := i) (k := 2) (by first | decide | omega) hl hS (show decode code 662 = .ok (.aload_n 0, 1) from pz_dlL24 (662, .aload_n 0, 1, 663, []) (List.mem_of_getElem? (i := 12) rfl)) (show decode code 663 = .ok (.iload_n 3, 1) from pz_dlL24 (663, .iload_n 3, 1, 664, []) (List.mem_of_getElem? (i := 13) rfl)) (show decode code 664 = .ok (.iconst 2, 1) from pz_dlL24 (664, .iconst 2, 1, 665, []) (List.mem_of_getElem? (i := 14) rfl)) (show decode code 665 = .ok (.iadd, 1) from pz_dlL24 (665, .iadd, 1, 666, []) (List.mem_of_getElem? (i := 15) rfl)) (show decode code 666 = .ok (.iaload, 1) from pz_dlL25 (666, .iaload, 1, 667, []) (List.mem_of_getElem? (i := 0) rfl)) ?_
  refine pz_crV Y hcs (v_X11_phone (Nat.le_of_ble_eq_true rfl) (Nat.le_of_ble_eq_true rfl) pz_wq841) H locs ls M [.inr (.inr (11, 0)), .inl (xs (i + 1)).toInt, .inl (xs (i + 2)).toInt] [] 667 (show decode code 667 = .ok (.invokevirtual 75, 3) from pz_dlL25 (667, .invokevirtual 75, 3, 670, []) (List.mem_of_getElem? (i := 1) rfl)) hP hS hM ?_ hl.1 rfl (Nat.le_of_ble_eq_true rfl) (hI) (fun r667 M667 H667 locs667 hq hr hP hS hM => ?_)
  · skip
    exact (List.forall_mem_cons.mpr ⟨(show pz_kd 0 = 11 ∧ 0 < 231 from by decide), (List.forall_mem_cons.mpr ⟨(pz_tc _), (List.forall_mem_cons.mpr ⟨(pz_tc _), List.forall_mem_nil _⟩)⟩)⟩)
  obtain ⟨w667, rfl, C667⟩ := hr
  have hq : _ ∧ _ := hq
  obtain ⟨q667, z667⟩ := hq
  subst z667
  refine lv_pop hx hb (show decode code 670 = .ok (.pop, 1) from pz_dlL25 (670, .pop, 1, 671, []) (List.mem_of_getElem? (i := 2) rfl)) rfl ?_
  refine lv_aload_n hx hb (k := 2) (show decode code 671 = .ok (.aload_n 2, 1) from pz_dlL25 (671, .aload_n 2, 1, 672, []) (List.mem_of_getElem? (i := 3) rfl)) rfl (lv_at hl 2 rfl) ?_
  refine pz_la Y hX hbl hbA hL (i := i) (k := 1) (by first | decide | omega) hl hS (show decode code 672 = .ok (.aload_n 0, 1) from pz_dlL25 (672, .aload_n 0, 1, 673, []) (List.mem_of_getElem? (i := 4) rfl)) (show decode code 673 = .ok (.iload_n 3, 1) from pz_dlL25 (673, .iload_n 3, 1, 674, []) (List.mem_of_getElem? (i := 5) rfl)) (show decode code 674 = .ok (.iconst 1, 1) from pz_dlL25 (674, .iconst 1, 1, 675, []) (List.mem_of_getElem? (i := 6) rfl)) (show decode code 675 = .ok (.iadd, 1) from pz_dlL25 (675, .iadd, 1, 676, []) (List.mem_of_getElem? (i := 7) rfl)) (show decode code 676 = .ok (.iaload, 1) from pz_dlL25 (676, .iaload, 1, 677, []) (List.mem_of_getElem? (i := 8) rfl)) ?_
  refine pz_la Y hX hbl hbA hL (i := i) (k := 2) (by first | decide | omega) hl hS (show decode code 677 = .ok (.aload_n 0, 1) from pz_dlL25 (677, .aload_n 0, 1, 678, []) (List.mem_of_getElem? (i := 9) rfl)) (show decode code 678 = .ok (.iload_n 3, 1) from pz_dlL25 (678, .iload_n 3, 1, 679, []) (List.mem_of_getElem? (i := 10) rfl)) (show decode code 679 = .ok (.iconst 2, 1) from pz_dlL25 (679, .iconst 2, 1, 680, []) (List.mem_of_getElem? (i := 11) rfl)) (show decode code 680 = .ok (.iadd, 1) from pz_dlL25 (680, .iadd, 1, 681, []) (List.mem_of_getElem? (i := 12) rfl)) (show decode code 681 = .ok (.iaload, 1) from pz_dlL25 (681, .iaload, 1, 682, []) (List.mem_of_getElem? (i := 13) rfl)) ?_
  refine pz_crV Y hcs (v_X12_phone (Nat.le_of_ble_eq_true rfl) (Nat.le_of_ble_eq_true rfl) pz_wq1586) H667 locs667 ls M [.inr (.inr (12, 1)), .inl (xs (i + 1)).toInt, .inl (xs (i + 2)).toInt] [] 682 (show decode code 682 = .ok (.invokevirtual 78, 3) from pz_dlL25 (682, .invokevirtual 78, 3, 685, []) (List.mem_of_getElem? (i := 14) rfl)) hP hS hM ?_ hl.1 rfl (Nat.le_of_ble_eq_true rfl) (hJ) (fun r682 M682 H682 locs682 hq hr hP hS hM => ?_)
  · skip
    exact (List.forall_mem_cons.mpr ⟨(show pz_kd 1 = 12 ∧ 1 < 231 from by decide), (List.forall_mem_cons.mpr ⟨(pz_tc _), (List.forall_mem_cons.mpr ⟨(pz_tc _), List.forall_mem_nil _⟩)⟩)⟩)
  obtain ⟨w682, rfl, C682⟩ := hr
  have hq : _ ∧ _ := hq
  obtain ⟨q682, z682⟩ := hq
  subst z682
  refine lv_pop hx hb (show decode code 685 = .ok (.pop, 1) from pz_dlL25 (685, .pop, 1, 686, []) (List.mem_of_getElem? (i := 15) rfl)) rfl ?_
  refine lv_goto (tgt := 1407) hx hb (show decode code 686 = .ok (.goto 721, 3) from pz_dlL26 (686, .goto 721, 3, 689, [1407]) (List.mem_of_getElem? (i := 0) rfl)) (by decide) ?_
  have hR : pz_R M := by
    exact hR
  exact K _ _ _ hI hJ hR hP hS hM
set_option maxRecDepth 100000 in
set_option maxHeartbeats 4000000 in
theorem pz_case15 (Y : pz_Y p s m #[Value.ref b] c code R_law 4 D ad adV cy A) (hcs : cells ≤ room_1.cells ∧ slots ≤ room_1.slots) (hX : va_X b L xs s s.heap) (hbl : b < s.heap.size) (hbA : ¬ A b) (hL : L ≤ 3072) {i : Nat} (hi : i + 6 ≤ L) {H : Heap} {locs : List Loc} {ls : Array Slot} {M : pz_M} (hl : lv_has ls 4 [(0, .ref b), (1, .ref (ad 0)), (2, .ref (ad 1)), (3, .int (Int32.ofNat i))]) (hP : va_P D vwCl (pz_ws ad cy M) H) (hS : va_S A s.heap H locs) (hM : ∀ a k : Nat, pz_c (M a k)) (hI : pz_ic M) (hJ : pz_im M) (hR : pz_R M) (K : ∀ (M9 : pz_M) (H9 : Heap) (locs9 : List Loc), pz_ic M9 → pz_im M9 → pz_R M9 → va_P D vwCl (pz_ws ad cy M9) H9 → va_S A s.heap H9 locs9 → (∀ a k : Nat, pz_c (M9 a k)) → W p l e room_1 s m #[Value.ref b] below meth c H9 locs9 cells slots Q (F0 m 1407 ls [])) : W p l e room_1 s m #[Value.ref b] below meth c H locs cells slots Q (F0 m 689 ls []) := by
  obtain ⟨hx, hb, hml, hown, hts, hXX⟩ := id Y
  refine lv_aload_n hx hb (k := 1) (show decode code 689 = .ok (.aload_n 1, 1) from pz_dlL26 (689, .aload_n 1, 1, 690, []) (List.mem_of_getElem? (i := 1) rfl)) rfl (lv_at hl 1 rfl) ?_
  refine pz_la Y hX hbl hbA hL (i := i) (k := 1) (by first | decide | omega) hl hS (show decode code 690 = .ok (.aload_n 0, 1) from pz_dlL26 (690, .aload_n 0, 1, 691, []) (List.mem_of_getElem? (i := 2) rfl)) (show decode code 691 = .ok (.iload_n 3, 1) from pz_dlL26 (691, .iload_n 3, 1, 692, []) (List.mem_of_getElem? (i := 3) rfl)) (show decode code 692 = .ok (.iconst 1, 1) from pz_dlL26 (692, .iconst 1, 1, 693, []) (List.mem_of_getElem? (i := 4) rfl)) (show decode code 693 = .ok (.iadd, 1) from pz_dlL26 (693, .iadd, 1, 694, []) (List.mem_of_getElem? (i := 5) rfl)) (show decode code 694 = .ok (.iaload, 1) from pz_dlL26 (694, .iaload, 1, 695, []) (List.mem_of_getElem? (i := 6) rfl)) ?_
  refine pz_la Y hX hbl hbA hL (i := i) (k := 2) (by first | decide | omega) hl hS (show decode code 695 = .ok (.aload_n 0, 1) from pz_dlL26 (695, .aload_n 0, 1, 696, []) (List.mem_of_getElem? (i := 7) rfl)) (show decode code 696 = .ok (.iload_n 3, 1) from pz_dlL26 (696, .iload_n 3, 1, 697, []) (List.mem_of_getElem? (i := 8) rfl)) (show decode code 697 = .ok (.iconst 2, 1) from pz_dlL26 (697, .iconst 2, 1, 698, []) (List.mem_of_getElem? (i := 9) rfl)) (show decode code 698 = .ok (.iadd, 1) from pz_dlL26 (698, .iadd, 1, 699, []) (List.mem_of_getElem? (i := 10) rfl)) (show decode code 699 = .ok (.iaload, 1) from pz_dlL26 (699, .iaload, 1, 700, []) (List.mem_of_getElem? (i := 11) rfl)) ?_
  refine pz_crV Y hcs (v3_X11_book (Nat.le_of_ble_eq_true rfl) (Nat.le_of_ble_eq_true rfl) pz_wq862) H locs ls M [.inr (.inr (11, 0)), .inl (xs (i + 1)).toInt, .inl (xs (i + 2)).toInt] [] 700 (show decode code 700 = .ok (.invokevirtual 79, 3) from pz_dlL26 (700, .invokevirtual 79, 3, 703, []) (List.mem_of_getElem? (i := 12) rfl)) hP hS hM ?_ hl.1 rfl (Nat.le_of_ble_eq_true rfl) (hI) (fun r700 M700 H700 locs700 hq hr hP hS hM => ?_)
  · skip
    exact (List.forall_mem_cons.mpr ⟨(show pz_kd 0 = 11 ∧ 0 < 231 from by decide), (List.forall_mem_cons.mpr ⟨(pz_tc _), (List.forall_mem_cons.mpr ⟨(pz_tc _), List.forall_mem_nil _⟩)⟩)⟩)
  obtain ⟨w700, rfl, C700⟩ := hr
  have hq : _ ∧ _ := hq
  obtain ⟨q700, z700⟩ := hq
  subst z700
  refine lv_pop hx hb (show decode code 703 = .ok (.pop, 1) from pz_dlL26 (703, .pop, 1, 704, []) (List.mem_of_getElem? (i := 13) rfl)) rfl ?_
  refine lv_aload_n hx hb (k := 2) (show decode code 704 = .ok (.aload_n 2, 1) from pz_dlL26 (704, .aload_n 2, 1, 705, []) (List.mem_of_getElem? (i := 14) rfl)) rfl (lv_at hl 2 rfl) ?_
  refine pz_la Y hX hbl hbA hL (i := i) (k := 1) (by first | decide | omega) hl hS (show decode code 705 = .ok (.aload_n 0, 1) from pz_dlL26 (705, .aload_n 0, 1, 706, []) (List.mem_of_getElem? (i := 15) rfl)) (show decode code 706 = .ok (.iload_n 3, 1) from pz_dlL27 (706, .iload_n 3, 1, 707, []) (List.mem_of_getElem? (i := 0) rfl)) (show decode code 707 = .ok (.iconst 1, 1) from pz_dlL27 (707, .iconst 1, 1, 708, []) (List.mem_of_getElem? (i := 1) rfl)) (show decode code 708 = .ok (.iadd, 1) from pz_dlL27 (708, .iadd, 1, 709, []) (List.mem_of_getElem? (i := 2) rfl)) (show decode code 709 = .ok (.iaload, 1) from pz_dlL27 (709, .iaload, 1, 710, []) (List.mem_of_getElem? (i := 3) rfl)) ?_
  refine pz_la Y hX hbl hbA hL (i := i) (k := 2) (by first | decide | omega) hl hS (show decode code 710 = .ok (.aload_n 0, 1) from pz_dlL27 (710, .aload_n 0, 1, 711, []) (List.mem_of_getElem? (i := 4) rfl)) (show decode code 711 = .ok (.iload_n 3, 1) from pz_dlL27 (711, .iload_n 3, 1, 712, []) (List.mem_of_getElem? (i := 5) rfl)) (show decode code 712 = .ok (.iconst 2, 1) from pz_dlL27 (712, .iconst 2, 1, 713, []) (List.mem_of_getElem? (i := 6) rfl)) (show decode code 713 = .ok (.iadd, 1) from pz_dlL27 (713, .iadd, 1, 714, []) (List.mem_of_getElem? (i := 7) rfl)) (show decode code 714 = .ok (.iaload, 1) from pz_dlL27 (714, .iaload, 1, 715, []) (List.mem_of_getElem? (i := 8) rfl)) ?_
  refine pz_crV Y hcs (v3_X12_book (Nat.le_of_ble_eq_true rfl) (Nat.le_of_ble_eq_true rfl) pz_wq1594) H700 locs700 ls M [.inr (.inr (12, 1)), .inl (xs (i + 1)).toInt, .inl (xs (i + 2)).toInt] [] 715 (show decode code 715 = .ok (.invokevirtual 82, 3) from pz_dlL27 (715, .invokevirtual 82, 3, 718, []) (List.mem_of_getElem? (i := 9) rfl)) hP hS hM ?_ hl.1 rfl (Nat.le_of_ble_eq_true rfl) (hJ) (fun r715 M715 H715 locs715 hq hr hP hS hM => ?_)
  · skip
    exact (List.forall_mem_cons.mpr ⟨(show pz_kd 1 = 12 ∧ 1 < 231 from by decide), (List.forall_mem_cons.mpr ⟨(pz_tc _), (List.forall_mem_cons.mpr ⟨(pz_tc _), List.forall_mem_nil _⟩)⟩)⟩)
  obtain ⟨w715, rfl, C715⟩ := hr
  have hq : _ ∧ _ := hq
  obtain ⟨q715, z715⟩ := hq
  subst z715
  refine lv_pop hx hb (show decode code 718 = .ok (.pop, 1) from pz_dlL27 (718, .pop, 1, 719, []) (List.mem_of_getElem? (i := 10) rfl)) rfl ?_
  refine lv_goto (tgt := 1407) hx hb (show decode code 719 = .ok (.goto 688, 3) from pz_dlL27 (719, .goto 688, 3, 722, [1407]) (List.mem_of_getElem? (i := 11) rfl)) (by decide) ?_
  have hR : pz_R M := by
    exact hR
  exact K _ _ _ hI hJ hR hP hS hM
set_option maxRecDepth 100000 in
set_option maxHeartbeats 4000000 in
theorem pz_case16 (Y : pz_Y p s m #[Value.ref b] c code R_law 4 D ad adV cy A) (hcs : cells ≤ room_1.cells ∧ slots ≤ room_1.slots) (hX : va_X b L xs s s.heap) (hbl : b < s.heap.size) (hbA : ¬ A b) (hL : L ≤ 3072) {i : Nat} (hi : i + 6 ≤ L) {H : Heap} {locs : List Loc} {ls : Array Slot} {M : pz_M} (hl : lv_has ls 4 [(0, .ref b), (1, .ref (ad 0)), (2, .ref (ad 1)), (3, .int (Int32.ofNat i))]) (hP : va_P D vwCl (pz_ws ad cy M) H) (hS : va_S A s.heap H locs) (hM : ∀ a k : Nat, pz_c (M a k)) (hI : pz_ic M) (hJ : pz_im M) (hR : pz_R M) (K : ∀ (M9 : pz_M) (H9 : Heap) (locs9 : List Loc), pz_ic M9 → pz_im M9 → pz_R M9 → va_P D vwCl (pz_ws ad cy M9) H9 → va_S A s.heap H9 locs9 → (∀ a k : Nat, pz_c (M9 a k)) → W p l e room_1 s m #[Value.ref b] below meth c H9 locs9 cells slots Q (F0 m 1407 ls [])) : W p l e room_1 s m #[Value.ref b] below meth c H locs cells slots Q (F0 m 722 ls []) := by
  obtain ⟨hx, hb, hml, hown, hts, hXX⟩ := id Y
  refine lv_aload_n hx hb (k := 1) (show decode code 722 = .ok (.aload_n 1, 1) from pz_dlL27 (722, .aload_n 1, 1, 723, []) (List.mem_of_getElem? (i := 12) rfl)) rfl (lv_at hl 1 rfl) ?_
  refine pz_la Y hX hbl hbA hL (i := i) (k := 1) (by first | decide | omega) hl hS (show decode code 723 = .ok (.aload_n 0, 1) from pz_dlL27 (723, .aload_n 0, 1, 724, []) (List.mem_of_getElem? (i := 13) rfl)) (show decode code 724 = .ok (.iload_n 3, 1) from pz_dlL27 (724, .iload_n 3, 1, 725, []) (List.mem_of_getElem? (i := 14) rfl)) (show decode code 725 = .ok (.iconst 1, 1) from pz_dlL27 (725, .iconst 1, 1, 726, []) (List.mem_of_getElem? (i := 15) rfl)) (show decode code 726 = .ok (.iadd, 1) from pz_dlL28 (726, .iadd, 1, 727, []) (List.mem_of_getElem? (i := 0) rfl)) (show decode code 727 = .ok (.iaload, 1) from pz_dlL28 (727, .iaload, 1, 728, []) (List.mem_of_getElem? (i := 1) rfl)) ?_
  refine pz_la Y hX hbl hbA hL (i := i) (k := 2) (by first | decide | omega) hl hS (show decode code 728 = .ok (.aload_n 0, 1) from pz_dlL28 (728, .aload_n 0, 1, 729, []) (List.mem_of_getElem? (i := 2) rfl)) (show decode code 729 = .ok (.iload_n 3, 1) from pz_dlL28 (729, .iload_n 3, 1, 730, []) (List.mem_of_getElem? (i := 3) rfl)) (show decode code 730 = .ok (.iconst 2, 1) from pz_dlL28 (730, .iconst 2, 1, 731, []) (List.mem_of_getElem? (i := 4) rfl)) (show decode code 731 = .ok (.iadd, 1) from pz_dlL28 (731, .iadd, 1, 732, []) (List.mem_of_getElem? (i := 5) rfl)) (show decode code 732 = .ok (.iaload, 1) from pz_dlL28 (732, .iaload, 1, 733, []) (List.mem_of_getElem? (i := 6) rfl)) ?_
  refine pz_crV Y hcs (v3_X11_goes (Nat.le_of_ble_eq_true rfl) (Nat.le_of_ble_eq_true rfl) pz_wq866) H locs ls M [.inr (.inr (11, 0)), .inl (xs (i + 1)).toInt, .inl (xs (i + 2)).toInt] [] 733 (show decode code 733 = .ok (.invokevirtual 83, 3) from pz_dlL28 (733, .invokevirtual 83, 3, 736, []) (List.mem_of_getElem? (i := 7) rfl)) hP hS hM ?_ hl.1 rfl (Nat.le_of_ble_eq_true rfl) (hI) (fun r733 M733 H733 locs733 hq hr hP hS hM => ?_)
  · skip
    exact (List.forall_mem_cons.mpr ⟨(show pz_kd 0 = 11 ∧ 0 < 231 from by decide), (List.forall_mem_cons.mpr ⟨(pz_tc _), (List.forall_mem_cons.mpr ⟨(pz_tc _), List.forall_mem_nil _⟩)⟩)⟩)
  obtain ⟨w733, rfl, C733⟩ := hr
  have hq : _ ∧ _ := hq
  obtain ⟨q733, z733⟩ := hq
  have hI8 := hI
  have hR8 : pz_RZ M := hR
  have hJ : pz_im M733 := pz_im_cg (fun b j q => z733.2 b j (by unfold pq_Pg pq_Pk pq_Pw; unfold pz_mid at q; omega)) hJ
  have hI : pz_ic M733 := z733.1 hI
  refine lv_pop hx hb (show decode code 736 = .ok (.pop, 1) from pz_dlL28 (736, .pop, 1, 737, []) (List.mem_of_getElem? (i := 8) rfl)) rfl ?_
  refine lv_aload_n hx hb (k := 2) (show decode code 737 = .ok (.aload_n 2, 1) from pz_dlL28 (737, .aload_n 2, 1, 738, []) (List.mem_of_getElem? (i := 9) rfl)) rfl (lv_at hl 2 rfl) ?_
  refine pz_la Y hX hbl hbA hL (i := i) (k := 1) (by first | decide | omega) hl hS (show decode code 738 = .ok (.aload_n 0, 1) from pz_dlL28 (738, .aload_n 0, 1, 739, []) (List.mem_of_getElem? (i := 10) rfl)) (show decode code 739 = .ok (.iload_n 3, 1) from pz_dlL28 (739, .iload_n 3, 1, 740, []) (List.mem_of_getElem? (i := 11) rfl)) (show decode code 740 = .ok (.iconst 1, 1) from pz_dlL28 (740, .iconst 1, 1, 741, []) (List.mem_of_getElem? (i := 12) rfl)) (show decode code 741 = .ok (.iadd, 1) from pz_dlL28 (741, .iadd, 1, 742, []) (List.mem_of_getElem? (i := 13) rfl)) (show decode code 742 = .ok (.iaload, 1) from pz_dlL28 (742, .iaload, 1, 743, []) (List.mem_of_getElem? (i := 14) rfl)) ?_
  refine pz_la Y hX hbl hbA hL (i := i) (k := 2) (by first | decide | omega) hl hS (show decode code 743 = .ok (.aload_n 0, 1) from pz_dlL28 (743, .aload_n 0, 1, 744, []) (List.mem_of_getElem? (i := 15) rfl)) (show decode code 744 = .ok (.iload_n 3, 1) from pz_dlL29 (744, .iload_n 3, 1, 745, []) (List.mem_of_getElem? (i := 0) rfl)) (show decode code 745 = .ok (.iconst 2, 1) from pz_dlL29 (745, .iconst 2, 1, 746, []) (List.mem_of_getElem? (i := 1) rfl)) (show decode code 746 = .ok (.iadd, 1) from pz_dlL29 (746, .iadd, 1, 747, []) (List.mem_of_getElem? (i := 2) rfl)) (show decode code 747 = .ok (.iaload, 1) from pz_dlL29 (747, .iaload, 1, 748, []) (List.mem_of_getElem? (i := 3) rfl)) ?_
  refine pz_crV Y hcs (v3_X12_goes (Nat.le_of_ble_eq_true rfl) (Nat.le_of_ble_eq_true rfl) pz_wq1598) H733 locs733 ls M733 [.inr (.inr (12, 1)), .inl (xs (i + 1)).toInt, .inl (xs (i + 2)).toInt] [] 748 (show decode code 748 = .ok (.invokevirtual 86, 3) from pz_dlL29 (748, .invokevirtual 86, 3, 751, []) (List.mem_of_getElem? (i := 4) rfl)) hP hS hM ?_ hl.1 rfl (Nat.le_of_ble_eq_true rfl) (hJ) (fun r748 M748 H748 locs748 hq hr hP hS hM => ?_)
  · skip
    exact (List.forall_mem_cons.mpr ⟨(show pz_kd 1 = 12 ∧ 1 < 231 from by decide), (List.forall_mem_cons.mpr ⟨(pz_tc _), (List.forall_mem_cons.mpr ⟨(pz_tc _), List.forall_mem_nil _⟩)⟩)⟩)
  obtain ⟨w748, rfl, C748⟩ := hr
  have hq : _ ∧ _ := hq
  obtain ⟨q748, z748⟩ := hq
  obtain ⟨E8, hR⟩ := pz_RZ_goes hI8 hR8 q733 z733 q748 z748
  have hI : pz_ic M748 := pz_ic_cg (fun b j q => z748.2 b j (by unfold pz_QG; unfold pz_mid at q; omega)) hI
  have hJ : pz_im M748 := z748.1 hJ
  refine lv_pop hx hb (show decode code 751 = .ok (.pop, 1) from pz_dlL29 (751, .pop, 1, 752, []) (List.mem_of_getElem? (i := 5) rfl)) rfl ?_
  refine lv_goto (tgt := 1407) hx hb (show decode code 752 = .ok (.goto 655, 3) from pz_dlL29 (752, .goto 655, 3, 755, [1407]) (List.mem_of_getElem? (i := 6) rfl)) (by decide) ?_
  have hR : pz_R M748 := by
    exact hR
  exact K _ _ _ hI hJ hR hP hS hM
set_option maxRecDepth 100000 in
set_option maxHeartbeats 4000000 in
theorem pz_case17 (Y : pz_Y p s m #[Value.ref b] c code R_law 4 D ad adV cy A) (hcs : cells ≤ room_1.cells ∧ slots ≤ room_1.slots) (hX : va_X b L xs s s.heap) (hbl : b < s.heap.size) (hbA : ¬ A b) (hL : L ≤ 3072) {i : Nat} (hi : i + 6 ≤ L) {H : Heap} {locs : List Loc} {ls : Array Slot} {M : pz_M} (hl : lv_has ls 4 [(0, .ref b), (1, .ref (ad 0)), (2, .ref (ad 1)), (3, .int (Int32.ofNat i))]) (hP : va_P D vwCl (pz_ws ad cy M) H) (hS : va_S A s.heap H locs) (hM : ∀ a k : Nat, pz_c (M a k)) (hI : pz_ic M) (hJ : pz_im M) (hR : pz_R M) (K : ∀ (M9 : pz_M) (H9 : Heap) (locs9 : List Loc), pz_ic M9 → pz_im M9 → pz_R M9 → va_P D vwCl (pz_ws ad cy M9) H9 → va_S A s.heap H9 locs9 → (∀ a k : Nat, pz_c (M9 a k)) → W p l e room_1 s m #[Value.ref b] below meth c H9 locs9 cells slots Q (F0 m 1407 ls [])) : W p l e room_1 s m #[Value.ref b] below meth c H locs cells slots Q (F0 m 755 ls []) := by
  obtain ⟨hx, hb, hml, hown, hts, hXX⟩ := id Y
  refine lv_aload_n hx hb (k := 1) (show decode code 755 = .ok (.aload_n 1, 1) from pz_dlL29 (755, .aload_n 1, 1, 756, []) (List.mem_of_getElem? (i := 7) rfl)) rfl (lv_at hl 1 rfl) ?_
  refine pz_la Y hX hbl hbA hL (i := i) (k := 1) (by first | decide | omega) hl hS (show decode code 756 = .ok (.aload_n 0, 1) from pz_dlL29 (756, .aload_n 0, 1, 757, []) (List.mem_of_getElem? (i := 8) rfl)) (show decode code 757 = .ok (.iload_n 3, 1) from pz_dlL29 (757, .iload_n 3, 1, 758, []) (List.mem_of_getElem? (i := 9) rfl)) (show decode code 758 = .ok (.iconst 1, 1) from pz_dlL29 (758, .iconst 1, 1, 759, []) (List.mem_of_getElem? (i := 10) rfl)) (show decode code 759 = .ok (.iadd, 1) from pz_dlL29 (759, .iadd, 1, 760, []) (List.mem_of_getElem? (i := 11) rfl)) (show decode code 760 = .ok (.iaload, 1) from pz_dlL29 (760, .iaload, 1, 761, []) (List.mem_of_getElem? (i := 12) rfl)) ?_
  refine pz_crV Y hcs (v4_X11_odds (Nat.le_of_ble_eq_true rfl) (Nat.le_of_ble_eq_true rfl) pz_wq880) H locs ls M [.inr (.inr (11, 0)), .inl (xs (i + 1)).toInt] [] 761 (show decode code 761 = .ok (.invokevirtual 87, 3) from pz_dlL29 (761, .invokevirtual 87, 3, 764, []) (List.mem_of_getElem? (i := 13) rfl)) hP hS hM ?_ hl.1 rfl (Nat.le_of_ble_eq_true rfl) (hI) (fun r761 M761 H761 locs761 hq hr hP hS hM => ?_)
  · skip
    exact (List.forall_mem_cons.mpr ⟨(show pz_kd 0 = 11 ∧ 0 < 231 from by decide), (List.forall_mem_cons.mpr ⟨(pz_tc _), List.forall_mem_nil _⟩)⟩)
  obtain ⟨w761, rfl, C761⟩ := hr
  have hq : _ ∧ _ := hq
  obtain ⟨q761, z761⟩ := hq
  have hR8 : pz_RZ M := hR
  have hR : pz_RZ M761 := pz_RZ_k hI hR z761
  have hJ : pz_im M761 := pz_im_cg (fun b j q => z761.2 b j (by unfold pq_Pk pq_Pw; unfold pz_mid at q; omega)) hJ
  have hI : pz_ic M761 := z761.1 hI
  refine lv_pop hx hb (show decode code 764 = .ok (.pop, 1) from pz_dlL29 (764, .pop, 1, 765, []) (List.mem_of_getElem? (i := 14) rfl)) rfl ?_
  refine lv_aload_n hx hb (k := 2) (show decode code 765 = .ok (.aload_n 2, 1) from pz_dlL29 (765, .aload_n 2, 1, 766, []) (List.mem_of_getElem? (i := 15) rfl)) rfl (lv_at hl 2 rfl) ?_
  refine pz_la Y hX hbl hbA hL (i := i) (k := 1) (by first | decide | omega) hl hS (show decode code 766 = .ok (.aload_n 0, 1) from pz_dlL30 (766, .aload_n 0, 1, 767, []) (List.mem_of_getElem? (i := 0) rfl)) (show decode code 767 = .ok (.iload_n 3, 1) from pz_dlL30 (767, .iload_n 3, 1, 768, []) (List.mem_of_getElem? (i := 1) rfl)) (show decode code 768 = .ok (.iconst 1, 1) from pz_dlL30 (768, .iconst 1, 1, 769, []) (List.mem_of_getElem? (i := 2) rfl)) (show decode code 769 = .ok (.iadd, 1) from pz_dlL30 (769, .iadd, 1, 770, []) (List.mem_of_getElem? (i := 3) rfl)) (show decode code 770 = .ok (.iaload, 1) from pz_dlL30 (770, .iaload, 1, 771, []) (List.mem_of_getElem? (i := 4) rfl)) ?_
  refine pz_crV Y hcs (v4_X12_odds (Nat.le_of_ble_eq_true rfl) (Nat.le_of_ble_eq_true rfl) pz_wq1613) H761 locs761 ls M761 [.inr (.inr (12, 1)), .inl (xs (i + 1)).toInt] [] 771 (show decode code 771 = .ok (.invokevirtual 90, 3) from pz_dlL30 (771, .invokevirtual 90, 3, 774, []) (List.mem_of_getElem? (i := 5) rfl)) hP hS hM ?_ hl.1 rfl (Nat.le_of_ble_eq_true rfl) (hJ) (fun r771 M771 H771 locs771 hq hr hP hS hM => ?_)
  · skip
    exact (List.forall_mem_cons.mpr ⟨(show pz_kd 1 = 12 ∧ 1 < 231 from by decide), (List.forall_mem_cons.mpr ⟨(pz_tc _), List.forall_mem_nil _⟩)⟩)
  obtain ⟨w771, rfl, C771⟩ := hr
  have hq : _ ∧ _ := hq
  obtain ⟨q771, z771⟩ := hq
  have hR : pz_RZ M771 := pz_RZ_v hR z771
  have hI : pz_ic M771 := pz_ic_cg (fun b j q => z771.2 b j (by unfold pz_QV; unfold pz_mid at q; omega)) hI
  have hJ : pz_im M771 := z771.1 hJ
  refine lv_pop hx hb (show decode code 774 = .ok (.pop, 1) from pz_dlL30 (774, .pop, 1, 775, []) (List.mem_of_getElem? (i := 6) rfl)) rfl ?_
  refine lv_goto (tgt := 1407) hx hb (show decode code 775 = .ok (.goto 632, 3) from pz_dlL30 (775, .goto 632, 3, 778, [1407]) (List.mem_of_getElem? (i := 7) rfl)) (by decide) ?_
  have hR : pz_R M771 := by
    exact hR
  exact K _ _ _ hI hJ hR hP hS hM
set_option maxRecDepth 100000 in
set_option maxHeartbeats 4000000 in
theorem pz_case18 (Y : pz_Y p s m #[Value.ref b] c code R_law 4 D ad adV cy A) (hcs : cells ≤ room_1.cells ∧ slots ≤ room_1.slots) (hX : va_X b L xs s s.heap) (hbl : b < s.heap.size) (hbA : ¬ A b) (hL : L ≤ 3072) {i : Nat} (hi : i + 6 ≤ L) {H : Heap} {locs : List Loc} {ls : Array Slot} {M : pz_M} (hl : lv_has ls 4 [(0, .ref b), (1, .ref (ad 0)), (2, .ref (ad 1)), (3, .int (Int32.ofNat i))]) (hP : va_P D vwCl (pz_ws ad cy M) H) (hS : va_S A s.heap H locs) (hM : ∀ a k : Nat, pz_c (M a k)) (hI : pz_ic M) (hJ : pz_im M) (hR : pz_R M) (K : ∀ (M9 : pz_M) (H9 : Heap) (locs9 : List Loc), pz_ic M9 → pz_im M9 → pz_R M9 → va_P D vwCl (pz_ws ad cy M9) H9 → va_S A s.heap H9 locs9 → (∀ a k : Nat, pz_c (M9 a k)) → W p l e room_1 s m #[Value.ref b] below meth c H9 locs9 cells slots Q (F0 m 1407 ls [])) : W p l e room_1 s m #[Value.ref b] below meth c H locs cells slots Q (F0 m 778 ls []) := by
  obtain ⟨hx, hb, hml, hown, hts, hXX⟩ := id Y
  refine lv_aload_n hx hb (k := 1) (show decode code 778 = .ok (.aload_n 1, 1) from pz_dlL30 (778, .aload_n 1, 1, 779, []) (List.mem_of_getElem? (i := 8) rfl)) rfl (lv_at hl 1 rfl) ?_
  refine pz_la Y hX hbl hbA hL (i := i) (k := 1) (by first | decide | omega) hl hS (show decode code 779 = .ok (.aload_n 0, 1) from pz_dlL30 (779, .aload_n 0, 1, 780, []) (List.mem_of_getElem? (i := 9) rfl)) (show decode code 780 = .ok (.iload_n 3, 1) from pz_dlL30 (780, .iload_n 3, 1, 781, []) (List.mem_of_getElem? (i := 10) rfl)) (show decode code 781 = .ok (.iconst 1, 1) from pz_dlL30 (781, .iconst 1, 1, 782, []) (List.mem_of_getElem? (i := 11) rfl)) (show decode code 782 = .ok (.iadd, 1) from pz_dlL30 (782, .iadd, 1, 783, []) (List.mem_of_getElem? (i := 12) rfl)) (show decode code 783 = .ok (.iaload, 1) from pz_dlL30 (783, .iaload, 1, 784, []) (List.mem_of_getElem? (i := 13) rfl)) ?_
  refine pz_la Y hX hbl hbA hL (i := i) (k := 2) (by first | decide | omega) hl hS (show decode code 784 = .ok (.aload_n 0, 1) from pz_dlL30 (784, .aload_n 0, 1, 785, []) (List.mem_of_getElem? (i := 14) rfl)) (show decode code 785 = .ok (.iload_n 3, 1) from pz_dlL30 (785, .iload_n 3, 1, 786, []) (List.mem_of_getElem? (i := 15) rfl)) (show decode code 786 = .ok (.iconst 2, 1) from pz_dlL31 (786, .iconst 2, 1, 787, []) (List.mem_of_getElem? (i := 0) rfl)) (show decode code 787 = .ok (.iadd, 1) from pz_dlL31 (787, .iadd, 1, 788, []) (List.mem_of_getElem? (i := 1) rfl)) (show decode code 788 = .ok (.iaload, 1) from pz_dlL31 (788, .iaload, 1, 789, []) (List.mem_of_getElem? (i := 2) rfl)) ?_
  refine pz_crV Y hcs (v3_X11_holds (Nat.le_of_ble_eq_true rfl) (Nat.le_of_ble_eq_true rfl) pz_wq913) H locs ls M [.inr (.inr (11, 0)), .inl (xs (i + 1)).toInt, .inl (xs (i + 2)).toInt] [] 789 (show decode code 789 = .ok (.invokevirtual 91, 3) from pz_dlL31 (789, .invokevirtual 91, 3, 792, []) (List.mem_of_getElem? (i := 3) rfl)) hP hS hM ?_ hl.1 rfl (Nat.le_of_ble_eq_true rfl) (hI) (fun r789 M789 H789 locs789 hq hr hP hS hM => ?_)
  · skip
    exact (List.forall_mem_cons.mpr ⟨(show pz_kd 0 = 11 ∧ 0 < 231 from by decide), (List.forall_mem_cons.mpr ⟨(pz_tc _), (List.forall_mem_cons.mpr ⟨(pz_tc _), List.forall_mem_nil _⟩)⟩)⟩)
  obtain ⟨w789, rfl, C789⟩ := hr
  have hq : _ ∧ _ := hq
  obtain ⟨q789, z789⟩ := hq
  have hR8 : pz_RZ M := hR
  have hR : pz_RZ M789 := pz_RZ_k hI hR z789
  have hJ : pz_im M789 := pz_im_cg (fun b j q => z789.2 b j (by unfold pq_Pk pq_Pw; unfold pz_mid at q; omega)) hJ
  have hI : pz_ic M789 := z789.1 hI
  refine lv_pop hx hb (show decode code 792 = .ok (.pop, 1) from pz_dlL31 (792, .pop, 1, 793, []) (List.mem_of_getElem? (i := 4) rfl)) rfl ?_
  refine lv_aload_n hx hb (k := 2) (show decode code 793 = .ok (.aload_n 2, 1) from pz_dlL31 (793, .aload_n 2, 1, 794, []) (List.mem_of_getElem? (i := 5) rfl)) rfl (lv_at hl 2 rfl) ?_
  refine pz_la Y hX hbl hbA hL (i := i) (k := 1) (by first | decide | omega) hl hS (show decode code 794 = .ok (.aload_n 0, 1) from pz_dlL31 (794, .aload_n 0, 1, 795, []) (List.mem_of_getElem? (i := 6) rfl)) (show decode code 795 = .ok (.iload_n 3, 1) from pz_dlL31 (795, .iload_n 3, 1, 796, []) (List.mem_of_getElem? (i := 7) rfl)) (show decode code 796 = .ok (.iconst 1, 1) from pz_dlL31 (796, .iconst 1, 1, 797, []) (List.mem_of_getElem? (i := 8) rfl)) (show decode code 797 = .ok (.iadd, 1) from pz_dlL31 (797, .iadd, 1, 798, []) (List.mem_of_getElem? (i := 9) rfl)) (show decode code 798 = .ok (.iaload, 1) from pz_dlL31 (798, .iaload, 1, 799, []) (List.mem_of_getElem? (i := 10) rfl)) ?_
  refine pz_la Y hX hbl hbA hL (i := i) (k := 2) (by first | decide | omega) hl hS (show decode code 799 = .ok (.aload_n 0, 1) from pz_dlL31 (799, .aload_n 0, 1, 800, []) (List.mem_of_getElem? (i := 11) rfl)) (show decode code 800 = .ok (.iload_n 3, 1) from pz_dlL31 (800, .iload_n 3, 1, 801, []) (List.mem_of_getElem? (i := 12) rfl)) (show decode code 801 = .ok (.iconst 2, 1) from pz_dlL31 (801, .iconst 2, 1, 802, []) (List.mem_of_getElem? (i := 13) rfl)) (show decode code 802 = .ok (.iadd, 1) from pz_dlL31 (802, .iadd, 1, 803, []) (List.mem_of_getElem? (i := 14) rfl)) (show decode code 803 = .ok (.iaload, 1) from pz_dlL31 (803, .iaload, 1, 804, []) (List.mem_of_getElem? (i := 15) rfl)) ?_
  refine pz_crV Y hcs (v3_X12_holds (Nat.le_of_ble_eq_true rfl) (Nat.le_of_ble_eq_true rfl) pz_wq1630) H789 locs789 ls M789 [.inr (.inr (12, 1)), .inl (xs (i + 1)).toInt, .inl (xs (i + 2)).toInt] [] 804 (show decode code 804 = .ok (.invokevirtual 94, 3) from pz_dlL32 (804, .invokevirtual 94, 3, 807, []) (List.mem_of_getElem? (i := 0) rfl)) hP hS hM ?_ hl.1 rfl (Nat.le_of_ble_eq_true rfl) (hJ) (fun r804 M804 H804 locs804 hq hr hP hS hM => ?_)
  · skip
    exact (List.forall_mem_cons.mpr ⟨(show pz_kd 1 = 12 ∧ 1 < 231 from by decide), (List.forall_mem_cons.mpr ⟨(pz_tc _), (List.forall_mem_cons.mpr ⟨(pz_tc _), List.forall_mem_nil _⟩)⟩)⟩)
  obtain ⟨w804, rfl, C804⟩ := hr
  have hq : _ ∧ _ := hq
  obtain ⟨q804, z804⟩ := hq
  have hR : pz_RZ M804 := pz_RZ_v hR z804
  have hI : pz_ic M804 := pz_ic_cg (fun b j q => z804.2 b j (by unfold pz_QV; unfold pz_mid at q; omega)) hI
  have hJ : pz_im M804 := z804.1 hJ
  refine lv_pop hx hb (show decode code 807 = .ok (.pop, 1) from pz_dlL32 (807, .pop, 1, 808, []) (List.mem_of_getElem? (i := 1) rfl)) rfl ?_
  refine lv_goto (tgt := 1407) hx hb (show decode code 808 = .ok (.goto 599, 3) from pz_dlL32 (808, .goto 599, 3, 811, [1407]) (List.mem_of_getElem? (i := 2) rfl)) (by decide) ?_
  have hR : pz_R M804 := by
    exact hR
  exact K _ _ _ hI hJ hR hP hS hM
set_option maxRecDepth 100000 in
set_option maxHeartbeats 4000000 in
theorem pz_case19 (Y : pz_Y p s m #[Value.ref b] c code R_law 4 D ad adV cy A) (hcs : cells ≤ room_1.cells ∧ slots ≤ room_1.slots) (hX : va_X b L xs s s.heap) (hbl : b < s.heap.size) (hbA : ¬ A b) (hL : L ≤ 3072) {i : Nat} (hi : i + 6 ≤ L) {H : Heap} {locs : List Loc} {ls : Array Slot} {M : pz_M} (hl : lv_has ls 4 [(0, .ref b), (1, .ref (ad 0)), (2, .ref (ad 1)), (3, .int (Int32.ofNat i))]) (hP : va_P D vwCl (pz_ws ad cy M) H) (hS : va_S A s.heap H locs) (hM : ∀ a k : Nat, pz_c (M a k)) (hI : pz_ic M) (hJ : pz_im M) (hR : pz_R M) (K : ∀ (M9 : pz_M) (H9 : Heap) (locs9 : List Loc), pz_ic M9 → pz_im M9 → pz_R M9 → va_P D vwCl (pz_ws ad cy M9) H9 → va_S A s.heap H9 locs9 → (∀ a k : Nat, pz_c (M9 a k)) → W p l e room_1 s m #[Value.ref b] below meth c H9 locs9 cells slots Q (F0 m 1407 ls [])) : W p l e room_1 s m #[Value.ref b] below meth c H locs cells slots Q (F0 m 811 ls []) := by
  obtain ⟨hx, hb, hml, hown, hts, hXX⟩ := id Y
  refine lv_aload_n hx hb (k := 1) (show decode code 811 = .ok (.aload_n 1, 1) from pz_dlL32 (811, .aload_n 1, 1, 812, []) (List.mem_of_getElem? (i := 3) rfl)) rfl (lv_at hl 1 rfl) ?_
  refine pz_la Y hX hbl hbA hL (i := i) (k := 1) (by first | decide | omega) hl hS (show decode code 812 = .ok (.aload_n 0, 1) from pz_dlL32 (812, .aload_n 0, 1, 813, []) (List.mem_of_getElem? (i := 4) rfl)) (show decode code 813 = .ok (.iload_n 3, 1) from pz_dlL32 (813, .iload_n 3, 1, 814, []) (List.mem_of_getElem? (i := 5) rfl)) (show decode code 814 = .ok (.iconst 1, 1) from pz_dlL32 (814, .iconst 1, 1, 815, []) (List.mem_of_getElem? (i := 6) rfl)) (show decode code 815 = .ok (.iadd, 1) from pz_dlL32 (815, .iadd, 1, 816, []) (List.mem_of_getElem? (i := 7) rfl)) (show decode code 816 = .ok (.iaload, 1) from pz_dlL32 (816, .iaload, 1, 817, []) (List.mem_of_getElem? (i := 8) rfl)) ?_
  refine pz_la Y hX hbl hbA hL (i := i) (k := 2) (by first | decide | omega) hl hS (show decode code 817 = .ok (.aload_n 0, 1) from pz_dlL32 (817, .aload_n 0, 1, 818, []) (List.mem_of_getElem? (i := 9) rfl)) (show decode code 818 = .ok (.iload_n 3, 1) from pz_dlL32 (818, .iload_n 3, 1, 819, []) (List.mem_of_getElem? (i := 10) rfl)) (show decode code 819 = .ok (.iconst 2, 1) from pz_dlL32 (819, .iconst 2, 1, 820, []) (List.mem_of_getElem? (i := 11) rfl)) (show decode code 820 = .ok (.iadd, 1) from pz_dlL32 (820, .iadd, 1, 821, []) (List.mem_of_getElem? (i := 12) rfl)) (show decode code 821 = .ok (.iaload, 1) from pz_dlL32 (821, .iaload, 1, 822, []) (List.mem_of_getElem? (i := 13) rfl)) ?_
  refine pz_crV Y hcs (v_X11_many (Nat.le_of_ble_eq_true rfl) (Nat.le_of_ble_eq_true rfl) pz_wq922) H locs ls M [.inr (.inr (11, 0)), .inl (xs (i + 1)).toInt, .inl (xs (i + 2)).toInt] [] 822 (show decode code 822 = .ok (.invokevirtual 95, 3) from pz_dlL32 (822, .invokevirtual 95, 3, 825, []) (List.mem_of_getElem? (i := 14) rfl)) hP hS hM ?_ hl.1 rfl (Nat.le_of_ble_eq_true rfl) (hI) (fun r822 M822 H822 locs822 hq hr hP hS hM => ?_)
  · skip
    exact (List.forall_mem_cons.mpr ⟨(show pz_kd 0 = 11 ∧ 0 < 231 from by decide), (List.forall_mem_cons.mpr ⟨(pz_tc _), (List.forall_mem_cons.mpr ⟨(pz_tc _), List.forall_mem_nil _⟩)⟩)⟩)
  obtain ⟨w822, rfl, C822⟩ := hr
  have hq : _ ∧ _ := hq
  obtain ⟨q822, z822⟩ := hq
  subst z822
  refine lv_pop hx hb (show decode code 825 = .ok (.pop, 1) from pz_dlL32 (825, .pop, 1, 826, []) (List.mem_of_getElem? (i := 15) rfl)) rfl ?_
  refine lv_aload_n hx hb (k := 2) (show decode code 826 = .ok (.aload_n 2, 1) from pz_dlL33 (826, .aload_n 2, 1, 827, []) (List.mem_of_getElem? (i := 0) rfl)) rfl (lv_at hl 2 rfl) ?_
  refine pz_la Y hX hbl hbA hL (i := i) (k := 1) (by first | decide | omega) hl hS (show decode code 827 = .ok (.aload_n 0, 1) from pz_dlL33 (827, .aload_n 0, 1, 828, []) (List.mem_of_getElem? (i := 1) rfl)) (show decode code 828 = .ok (.iload_n 3, 1) from pz_dlL33 (828, .iload_n 3, 1, 829, []) (List.mem_of_getElem? (i := 2) rfl)) (show decode code 829 = .ok (.iconst 1, 1) from pz_dlL33 (829, .iconst 1, 1, 830, []) (List.mem_of_getElem? (i := 3) rfl)) (show decode code 830 = .ok (.iadd, 1) from pz_dlL33 (830, .iadd, 1, 831, []) (List.mem_of_getElem? (i := 4) rfl)) (show decode code 831 = .ok (.iaload, 1) from pz_dlL33 (831, .iaload, 1, 832, []) (List.mem_of_getElem? (i := 5) rfl)) ?_
  refine pz_la Y hX hbl hbA hL (i := i) (k := 2) (by first | decide | omega) hl hS (show decode code 832 = .ok (.aload_n 0, 1) from pz_dlL33 (832, .aload_n 0, 1, 833, []) (List.mem_of_getElem? (i := 6) rfl)) (show decode code 833 = .ok (.iload_n 3, 1) from pz_dlL33 (833, .iload_n 3, 1, 834, []) (List.mem_of_getElem? (i := 7) rfl)) (show decode code 834 = .ok (.iconst 2, 1) from pz_dlL33 (834, .iconst 2, 1, 835, []) (List.mem_of_getElem? (i := 8) rfl)) (show decode code 835 = .ok (.iadd, 1) from pz_dlL33 (835, .iadd, 1, 836, []) (List.mem_of_getElem? (i := 9) rfl)) (show decode code 836 = .ok (.iaload, 1) from pz_dlL33 (836, .iaload, 1, 837, []) (List.mem_of_getElem? (i := 10) rfl)) ?_
  refine pz_crV Y hcs (v_X12_many (Nat.le_of_ble_eq_true rfl) (Nat.le_of_ble_eq_true rfl) pz_wq1634) H822 locs822 ls M [.inr (.inr (12, 1)), .inl (xs (i + 1)).toInt, .inl (xs (i + 2)).toInt] [] 837 (show decode code 837 = .ok (.invokevirtual 98, 3) from pz_dlL33 (837, .invokevirtual 98, 3, 840, []) (List.mem_of_getElem? (i := 11) rfl)) hP hS hM ?_ hl.1 rfl (Nat.le_of_ble_eq_true rfl) (hJ) (fun r837 M837 H837 locs837 hq hr hP hS hM => ?_)
  · skip
    exact (List.forall_mem_cons.mpr ⟨(show pz_kd 1 = 12 ∧ 1 < 231 from by decide), (List.forall_mem_cons.mpr ⟨(pz_tc _), (List.forall_mem_cons.mpr ⟨(pz_tc _), List.forall_mem_nil _⟩)⟩)⟩)
  obtain ⟨w837, rfl, C837⟩ := hr
  have hq : _ ∧ _ := hq
  obtain ⟨q837, z837⟩ := hq
  subst z837
  refine lv_pop hx hb (show decode code 840 = .ok (.pop, 1) from pz_dlL33 (840, .pop, 1, 841, []) (List.mem_of_getElem? (i := 12) rfl)) rfl ?_
  refine lv_goto (tgt := 1407) hx hb (show decode code 841 = .ok (.goto 566, 3) from pz_dlL33 (841, .goto 566, 3, 844, [1407]) (List.mem_of_getElem? (i := 13) rfl)) (by decide) ?_
  have hR : pz_R M := by
    exact hR
  exact K _ _ _ hI hJ hR hP hS hM
set_option maxRecDepth 100000 in
set_option maxHeartbeats 4000000 in
theorem pz_case20 (Y : pz_Y p s m #[Value.ref b] c code R_law 4 D ad adV cy A) (hcs : cells ≤ room_1.cells ∧ slots ≤ room_1.slots) (hX : va_X b L xs s s.heap) (hbl : b < s.heap.size) (hbA : ¬ A b) (hL : L ≤ 3072) {i : Nat} (hi : i + 6 ≤ L) {H : Heap} {locs : List Loc} {ls : Array Slot} {M : pz_M} (hl : lv_has ls 4 [(0, .ref b), (1, .ref (ad 0)), (2, .ref (ad 1)), (3, .int (Int32.ofNat i))]) (hP : va_P D vwCl (pz_ws ad cy M) H) (hS : va_S A s.heap H locs) (hM : ∀ a k : Nat, pz_c (M a k)) (hI : pz_ic M) (hJ : pz_im M) (hR : pz_R M) (K : ∀ (M9 : pz_M) (H9 : Heap) (locs9 : List Loc), pz_ic M9 → pz_im M9 → pz_R M9 → va_P D vwCl (pz_ws ad cy M9) H9 → va_S A s.heap H9 locs9 → (∀ a k : Nat, pz_c (M9 a k)) → W p l e room_1 s m #[Value.ref b] below meth c H9 locs9 cells slots Q (F0 m 1407 ls [])) : W p l e room_1 s m #[Value.ref b] below meth c H locs cells slots Q (F0 m 844 ls []) := by
  obtain ⟨hx, hb, hml, hown, hts, hXX⟩ := id Y
  refine lv_aload_n hx hb (k := 1) (show decode code 844 = .ok (.aload_n 1, 1) from pz_dlL33 (844, .aload_n 1, 1, 845, []) (List.mem_of_getElem? (i := 14) rfl)) rfl (lv_at hl 1 rfl) ?_
  refine pz_la Y hX hbl hbA hL (i := i) (k := 1) (by first | decide | omega) hl hS (show decode code 845 = .ok (.aload_n 0, 1) from pz_dlL33 (845, .aload_n 0, 1, 846, []) (List.mem_of_getElem? (i := 15) rfl)) (show decode code 846 = .ok (.iload_n 3, 1) from pz_dlL34 (846, .iload_n 3, 1, 847, []) (List.mem_of_getElem? (i := 0) rfl)) (show decode code 847 = .ok (.iconst 1, 1) from pz_dlL34 (847, .iconst 1, 1, 848, []) (List.mem_of_getElem? (i := 1) rfl)) (show decode code 848 = .ok (.iadd, 1) from pz_dlL34 (848, .iadd, 1, 849, []) (List.mem_of_getElem? (i := 2) rfl)) (show decode code 849 = .ok (.iaload, 1) from pz_dlL34 (849, .iaload, 1, 850, []) (List.mem_of_getElem? (i := 3) rfl)) ?_
  refine pz_la Y hX hbl hbA hL (i := i) (k := 2) (by first | decide | omega) hl hS (show decode code 850 = .ok (.aload_n 0, 1) from pz_dlL34 (850, .aload_n 0, 1, 851, []) (List.mem_of_getElem? (i := 4) rfl)) (show decode code 851 = .ok (.iload_n 3, 1) from pz_dlL34 (851, .iload_n 3, 1, 852, []) (List.mem_of_getElem? (i := 5) rfl)) (show decode code 852 = .ok (.iconst 2, 1) from pz_dlL34 (852, .iconst 2, 1, 853, []) (List.mem_of_getElem? (i := 6) rfl)) (show decode code 853 = .ok (.iadd, 1) from pz_dlL34 (853, .iadd, 1, 854, []) (List.mem_of_getElem? (i := 7) rfl)) (show decode code 854 = .ok (.iaload, 1) from pz_dlL34 (854, .iaload, 1, 855, []) (List.mem_of_getElem? (i := 8) rfl)) ?_
  refine pz_la Y hX hbl hbA hL (i := i) (k := 3) (by first | decide | omega) hl hS (show decode code 855 = .ok (.aload_n 0, 1) from pz_dlL34 (855, .aload_n 0, 1, 856, []) (List.mem_of_getElem? (i := 9) rfl)) (show decode code 856 = .ok (.iload_n 3, 1) from pz_dlL34 (856, .iload_n 3, 1, 857, []) (List.mem_of_getElem? (i := 10) rfl)) (show decode code 857 = .ok (.iconst 3, 1) from pz_dlL34 (857, .iconst 3, 1, 858, []) (List.mem_of_getElem? (i := 11) rfl)) (show decode code 858 = .ok (.iadd, 1) from pz_dlL34 (858, .iadd, 1, 859, []) (List.mem_of_getElem? (i := 12) rfl)) (show decode code 859 = .ok (.iaload, 1) from pz_dlL34 (859, .iaload, 1, 860, []) (List.mem_of_getElem? (i := 13) rfl)) ?_
  refine pz_crV Y hcs (v4_X11_bridges (Nat.le_of_ble_eq_true rfl) (Nat.le_of_ble_eq_true rfl) pz_wq932) H locs ls M [.inr (.inr (11, 0)), .inl (xs (i + 1)).toInt, .inl (xs (i + 2)).toInt, .inl (xs (i + 3)).toInt] [] 860 (show decode code 860 = .ok (.invokevirtual 99, 3) from pz_dlL34 (860, .invokevirtual 99, 3, 863, []) (List.mem_of_getElem? (i := 14) rfl)) hP hS hM ?_ hl.1 rfl (Nat.le_of_ble_eq_true rfl) (hI) (fun r860 M860 H860 locs860 hq hr hP hS hM => ?_)
  · skip
    exact (List.forall_mem_cons.mpr ⟨(show pz_kd 0 = 11 ∧ 0 < 231 from by decide), (List.forall_mem_cons.mpr ⟨(pz_tc _), (List.forall_mem_cons.mpr ⟨(pz_tc _), (List.forall_mem_cons.mpr ⟨(pz_tc _), List.forall_mem_nil _⟩)⟩)⟩)⟩)
  obtain ⟨w860, rfl, C860⟩ := hr
  have hq : _ ∧ _ := hq
  obtain ⟨q860, z860⟩ := hq
  have hR8 : pz_RZ M := hR
  have hR : pz_RZ M860 := pz_RZ_k hI hR z860
  have hJ : pz_im M860 := pz_im_cg (fun b j q => z860.2 b j (by unfold pq_Pk pq_Pw; unfold pz_mid at q; omega)) hJ
  have hI : pz_ic M860 := z860.1 hI
  refine lv_aload_n hx hb (k := 2) (show decode code 863 = .ok (.aload_n 2, 1) from pz_dlL34 (863, .aload_n 2, 1, 864, []) (List.mem_of_getElem? (i := 15) rfl)) rfl (lv_at hl 2 rfl) ?_
  refine pz_la Y hX hbl hbA hL (i := i) (k := 1) (by first | decide | omega) hl hS (show decode code 864 = .ok (.aload_n 0, 1) from pz_dlL35 (864, .aload_n 0, 1, 865, []) (List.mem_of_getElem? (i := 0) rfl)) (show decode code 865 = .ok (.iload_n 3, 1) from pz_dlL35 (865, .iload_n 3, 1, 866, []) (List.mem_of_getElem? (i := 1) rfl)) (show decode code 866 = .ok (.iconst 1, 1) from pz_dlL35 (866, .iconst 1, 1, 867, []) (List.mem_of_getElem? (i := 2) rfl)) (show decode code 867 = .ok (.iadd, 1) from pz_dlL35 (867, .iadd, 1, 868, []) (List.mem_of_getElem? (i := 3) rfl)) (show decode code 868 = .ok (.iaload, 1) from pz_dlL35 (868, .iaload, 1, 869, []) (List.mem_of_getElem? (i := 4) rfl)) ?_
  refine pz_la Y hX hbl hbA hL (i := i) (k := 2) (by first | decide | omega) hl hS (show decode code 869 = .ok (.aload_n 0, 1) from pz_dlL35 (869, .aload_n 0, 1, 870, []) (List.mem_of_getElem? (i := 5) rfl)) (show decode code 870 = .ok (.iload_n 3, 1) from pz_dlL35 (870, .iload_n 3, 1, 871, []) (List.mem_of_getElem? (i := 6) rfl)) (show decode code 871 = .ok (.iconst 2, 1) from pz_dlL35 (871, .iconst 2, 1, 872, []) (List.mem_of_getElem? (i := 7) rfl)) (show decode code 872 = .ok (.iadd, 1) from pz_dlL35 (872, .iadd, 1, 873, []) (List.mem_of_getElem? (i := 8) rfl)) (show decode code 873 = .ok (.iaload, 1) from pz_dlL35 (873, .iaload, 1, 874, []) (List.mem_of_getElem? (i := 9) rfl)) ?_
  refine pz_la Y hX hbl hbA hL (i := i) (k := 3) (by first | decide | omega) hl hS (show decode code 874 = .ok (.aload_n 0, 1) from pz_dlL35 (874, .aload_n 0, 1, 875, []) (List.mem_of_getElem? (i := 10) rfl)) (show decode code 875 = .ok (.iload_n 3, 1) from pz_dlL35 (875, .iload_n 3, 1, 876, []) (List.mem_of_getElem? (i := 11) rfl)) (show decode code 876 = .ok (.iconst 3, 1) from pz_dlL35 (876, .iconst 3, 1, 877, []) (List.mem_of_getElem? (i := 12) rfl)) (show decode code 877 = .ok (.iadd, 1) from pz_dlL35 (877, .iadd, 1, 878, []) (List.mem_of_getElem? (i := 13) rfl)) (show decode code 878 = .ok (.iaload, 1) from pz_dlL35 (878, .iaload, 1, 879, []) (List.mem_of_getElem? (i := 14) rfl)) ?_
  refine pz_crV Y hcs (v4_X12_bridges (Nat.le_of_ble_eq_true rfl) (Nat.le_of_ble_eq_true rfl) pz_wq1661) H860 locs860 ls M860 [.inr (.inr (12, 1)), .inl (xs (i + 1)).toInt, .inl (xs (i + 2)).toInt, .inl (xs (i + 3)).toInt] [.inl w860] 879 (show decode code 879 = .ok (.invokevirtual 103, 3) from pz_dlL35 (879, .invokevirtual 103, 3, 882, []) (List.mem_of_getElem? (i := 15) rfl)) hP hS hM ?_ hl.1 rfl (Nat.le_of_ble_eq_true rfl) (hJ) (fun r879 M879 H879 locs879 hq hr hP hS hM => ?_)
  · skip
    exact (List.forall_mem_cons.mpr ⟨(show pz_kd 1 = 12 ∧ 1 < 231 from by decide), (List.forall_mem_cons.mpr ⟨(pz_tc _), (List.forall_mem_cons.mpr ⟨(pz_tc _), (List.forall_mem_cons.mpr ⟨(pz_tc _), List.forall_mem_nil _⟩)⟩)⟩)⟩)
  obtain ⟨w879, rfl, C879⟩ := hr
  have hq : _ ∧ _ := hq
  obtain ⟨q879, z879⟩ := hq
  have hR : pz_RZ M879 := pz_RZ_v hR z879
  have hI : pz_ic M879 := pz_ic_cg (fun b j q => z879.2 b j (by unfold pz_QV; unfold pz_mid at q; omega)) hI
  have hJ : pz_im M879 := z879.1 hJ
  have E882 : w860 = w879 := pz_RZ_w hR8 z860 q860 q879
  refine lv_icmp_eq (tgt := 1407) hx hb (show decode code 882 = .ok (.if_icmp .eq 525, 3) from pz_dlL36 (882, .if_icmp .eq 525, 3, 885, [1407]) (List.mem_of_getElem? (i := 0) rfl)) (by decide) (fun _ => ?_) (fun q9 => absurd (congrArg Int32.ofInt E882) q9)
  have hR : pz_R M879 := by
    exact hR
  exact K _ _ _ hI hJ hR hP hS hM
set_option maxRecDepth 100000 in
set_option maxHeartbeats 4000000 in
theorem pz_case21 (Y : pz_Y p s m #[Value.ref b] c code R_law 4 D ad adV cy A) (hcs : cells ≤ room_1.cells ∧ slots ≤ room_1.slots) (hX : va_X b L xs s s.heap) (hbl : b < s.heap.size) (hbA : ¬ A b) (hL : L ≤ 3072) {i : Nat} (hi : i + 6 ≤ L) {H : Heap} {locs : List Loc} {ls : Array Slot} {M : pz_M} (hl : lv_has ls 4 [(0, .ref b), (1, .ref (ad 0)), (2, .ref (ad 1)), (3, .int (Int32.ofNat i))]) (hP : va_P D vwCl (pz_ws ad cy M) H) (hS : va_S A s.heap H locs) (hM : ∀ a k : Nat, pz_c (M a k)) (hI : pz_ic M) (hJ : pz_im M) (hR : pz_R M) (K : ∀ (M9 : pz_M) (H9 : Heap) (locs9 : List Loc), pz_ic M9 → pz_im M9 → pz_R M9 → va_P D vwCl (pz_ws ad cy M9) H9 → va_S A s.heap H9 locs9 → (∀ a k : Nat, pz_c (M9 a k)) → W p l e room_1 s m #[Value.ref b] below meth c H9 locs9 cells slots Q (F0 m 1407 ls [])) : W p l e room_1 s m #[Value.ref b] below meth c H locs cells slots Q (F0 m 887 ls []) := by
  obtain ⟨hx, hb, hml, hown, hts, hXX⟩ := id Y
  refine lv_aload_n hx hb (k := 1) (show decode code 887 = .ok (.aload_n 1, 1) from pz_dlL36 (887, .aload_n 1, 1, 888, []) (List.mem_of_getElem? (i := 3) rfl)) rfl (lv_at hl 1 rfl) ?_
  refine pz_la Y hX hbl hbA hL (i := i) (k := 1) (by first | decide | omega) hl hS (show decode code 888 = .ok (.aload_n 0, 1) from pz_dlL36 (888, .aload_n 0, 1, 889, []) (List.mem_of_getElem? (i := 4) rfl)) (show decode code 889 = .ok (.iload_n 3, 1) from pz_dlL36 (889, .iload_n 3, 1, 890, []) (List.mem_of_getElem? (i := 5) rfl)) (show decode code 890 = .ok (.iconst 1, 1) from pz_dlL36 (890, .iconst 1, 1, 891, []) (List.mem_of_getElem? (i := 6) rfl)) (show decode code 891 = .ok (.iadd, 1) from pz_dlL36 (891, .iadd, 1, 892, []) (List.mem_of_getElem? (i := 7) rfl)) (show decode code 892 = .ok (.iaload, 1) from pz_dlL36 (892, .iaload, 1, 893, []) (List.mem_of_getElem? (i := 8) rfl)) ?_
  refine pz_la Y hX hbl hbA hL (i := i) (k := 2) (by first | decide | omega) hl hS (show decode code 893 = .ok (.aload_n 0, 1) from pz_dlL36 (893, .aload_n 0, 1, 894, []) (List.mem_of_getElem? (i := 9) rfl)) (show decode code 894 = .ok (.iload_n 3, 1) from pz_dlL36 (894, .iload_n 3, 1, 895, []) (List.mem_of_getElem? (i := 10) rfl)) (show decode code 895 = .ok (.iconst 2, 1) from pz_dlL36 (895, .iconst 2, 1, 896, []) (List.mem_of_getElem? (i := 11) rfl)) (show decode code 896 = .ok (.iadd, 1) from pz_dlL36 (896, .iadd, 1, 897, []) (List.mem_of_getElem? (i := 12) rfl)) (show decode code 897 = .ok (.iaload, 1) from pz_dlL36 (897, .iaload, 1, 898, []) (List.mem_of_getElem? (i := 13) rfl)) ?_
  refine pz_crV Y hcs (v_X11_share (Nat.le_of_ble_eq_true rfl) (Nat.le_of_ble_eq_true rfl) pz_wq961) H locs ls M [.inr (.inr (11, 0)), .inl (xs (i + 1)).toInt, .inl (xs (i + 2)).toInt] [] 898 (show decode code 898 = .ok (.invokevirtual 104, 3) from pz_dlL36 (898, .invokevirtual 104, 3, 901, []) (List.mem_of_getElem? (i := 14) rfl)) hP hS hM ?_ hl.1 rfl (Nat.le_of_ble_eq_true rfl) (hI) (fun r898 M898 H898 locs898 hq hr hP hS hM => ?_)
  · skip
    exact (List.forall_mem_cons.mpr ⟨(show pz_kd 0 = 11 ∧ 0 < 231 from by decide), (List.forall_mem_cons.mpr ⟨(pz_tc _), (List.forall_mem_cons.mpr ⟨(pz_tc _), List.forall_mem_nil _⟩)⟩)⟩)
  obtain ⟨w898, rfl, C898⟩ := hr
  have hq : _ ∧ _ := hq
  obtain ⟨q898, z898⟩ := hq
  subst z898
  refine lv_pop hx hb (show decode code 901 = .ok (.pop, 1) from pz_dlL36 (901, .pop, 1, 902, []) (List.mem_of_getElem? (i := 15) rfl)) rfl ?_
  refine lv_aload_n hx hb (k := 2) (show decode code 902 = .ok (.aload_n 2, 1) from pz_dlL37 (902, .aload_n 2, 1, 903, []) (List.mem_of_getElem? (i := 0) rfl)) rfl (lv_at hl 2 rfl) ?_
  refine pz_la Y hX hbl hbA hL (i := i) (k := 1) (by first | decide | omega) hl hS (show decode code 903 = .ok (.aload_n 0, 1) from pz_dlL37 (903, .aload_n 0, 1, 904, []) (List.mem_of_getElem? (i := 1) rfl)) (show decode code 904 = .ok (.iload_n 3, 1) from pz_dlL37 (904, .iload_n 3, 1, 905, []) (List.mem_of_getElem? (i := 2) rfl)) (show decode code 905 = .ok (.iconst 1, 1) from pz_dlL37 (905, .iconst 1, 1, 906, []) (List.mem_of_getElem? (i := 3) rfl)) (show decode code 906 = .ok (.iadd, 1) from pz_dlL37 (906, .iadd, 1, 907, []) (List.mem_of_getElem? (i := 4) rfl)) (show decode code 907 = .ok (.iaload, 1) from pz_dlL37 (907, .iaload, 1, 908, []) (List.mem_of_getElem? (i := 5) rfl)) ?_
  refine pz_la Y hX hbl hbA hL (i := i) (k := 2) (by first | decide | omega) hl hS (show decode code 908 = .ok (.aload_n 0, 1) from pz_dlL37 (908, .aload_n 0, 1, 909, []) (List.mem_of_getElem? (i := 6) rfl)) (show decode code 909 = .ok (.iload_n 3, 1) from pz_dlL37 (909, .iload_n 3, 1, 910, []) (List.mem_of_getElem? (i := 7) rfl)) (show decode code 910 = .ok (.iconst 2, 1) from pz_dlL37 (910, .iconst 2, 1, 911, []) (List.mem_of_getElem? (i := 8) rfl)) (show decode code 911 = .ok (.iadd, 1) from pz_dlL37 (911, .iadd, 1, 912, []) (List.mem_of_getElem? (i := 9) rfl)) (show decode code 912 = .ok (.iaload, 1) from pz_dlL37 (912, .iaload, 1, 913, []) (List.mem_of_getElem? (i := 10) rfl)) ?_
  refine pz_crV Y hcs (v_X12_share (Nat.le_of_ble_eq_true rfl) (Nat.le_of_ble_eq_true rfl) pz_wq1673) H898 locs898 ls M [.inr (.inr (12, 1)), .inl (xs (i + 1)).toInt, .inl (xs (i + 2)).toInt] [] 913 (show decode code 913 = .ok (.invokevirtual 107, 3) from pz_dlL37 (913, .invokevirtual 107, 3, 916, []) (List.mem_of_getElem? (i := 11) rfl)) hP hS hM ?_ hl.1 rfl (Nat.le_of_ble_eq_true rfl) (hJ) (fun r913 M913 H913 locs913 hq hr hP hS hM => ?_)
  · skip
    exact (List.forall_mem_cons.mpr ⟨(show pz_kd 1 = 12 ∧ 1 < 231 from by decide), (List.forall_mem_cons.mpr ⟨(pz_tc _), (List.forall_mem_cons.mpr ⟨(pz_tc _), List.forall_mem_nil _⟩)⟩)⟩)
  obtain ⟨w913, rfl, C913⟩ := hr
  have hq : _ ∧ _ := hq
  obtain ⟨q913, z913⟩ := hq
  subst z913
  refine lv_pop hx hb (show decode code 916 = .ok (.pop, 1) from pz_dlL37 (916, .pop, 1, 917, []) (List.mem_of_getElem? (i := 12) rfl)) rfl ?_
  refine lv_goto (tgt := 1407) hx hb (show decode code 917 = .ok (.goto 490, 3) from pz_dlL37 (917, .goto 490, 3, 920, [1407]) (List.mem_of_getElem? (i := 13) rfl)) (by decide) ?_
  have hR : pz_R M := by
    exact hR
  exact K _ _ _ hI hJ hR hP hS hM
set_option maxRecDepth 100000 in
set_option maxHeartbeats 4000000 in
theorem pz_case22 (Y : pz_Y p s m #[Value.ref b] c code R_law 4 D ad adV cy A) (hcs : cells ≤ room_1.cells ∧ slots ≤ room_1.slots) (hX : va_X b L xs s s.heap) (hbl : b < s.heap.size) (hbA : ¬ A b) (hL : L ≤ 3072) {i : Nat} (hi : i + 6 ≤ L) {H : Heap} {locs : List Loc} {ls : Array Slot} {M : pz_M} (hl : lv_has ls 4 [(0, .ref b), (1, .ref (ad 0)), (2, .ref (ad 1)), (3, .int (Int32.ofNat i))]) (hP : va_P D vwCl (pz_ws ad cy M) H) (hS : va_S A s.heap H locs) (hM : ∀ a k : Nat, pz_c (M a k)) (hI : pz_ic M) (hJ : pz_im M) (hR : pz_R M) (K : ∀ (M9 : pz_M) (H9 : Heap) (locs9 : List Loc), pz_ic M9 → pz_im M9 → pz_R M9 → va_P D vwCl (pz_ws ad cy M9) H9 → va_S A s.heap H9 locs9 → (∀ a k : Nat, pz_c (M9 a k)) → W p l e room_1 s m #[Value.ref b] below meth c H9 locs9 cells slots Q (F0 m 1407 ls [])) : W p l e room_1 s m #[Value.ref b] below meth c H locs cells slots Q (F0 m 920 ls []) := by
  obtain ⟨hx, hb, hml, hown, hts, hXX⟩ := id Y
  refine lv_aload_n hx hb (k := 1) (show decode code 920 = .ok (.aload_n 1, 1) from pz_dlL37 (920, .aload_n 1, 1, 921, []) (List.mem_of_getElem? (i := 14) rfl)) rfl (lv_at hl 1 rfl) ?_
  refine pz_la Y hX hbl hbA hL (i := i) (k := 1) (by first | decide | omega) hl hS (show decode code 921 = .ok (.aload_n 0, 1) from pz_dlL37 (921, .aload_n 0, 1, 922, []) (List.mem_of_getElem? (i := 15) rfl)) (show decode code 922 = .ok (.iload_n 3, 1) from pz_dlL38 (922, .iload_n 3, 1, 923, []) (List.mem_of_getElem? (i := 0) rfl)) (show decode code 923 = .ok (.iconst 1, 1) from pz_dlL38 (923, .iconst 1, 1, 924, []) (List.mem_of_getElem? (i := 1) rfl)) (show decode code 924 = .ok (.iadd, 1) from pz_dlL38 (924, .iadd, 1, 925, []) (List.mem_of_getElem? (i := 2) rfl)) (show decode code 925 = .ok (.iaload, 1) from pz_dlL38 (925, .iaload, 1, 926, []) (List.mem_of_getElem? (i := 3) rfl)) ?_
  refine pz_la Y hX hbl hbA hL (i := i) (k := 2) (by first | decide | omega) hl hS (show decode code 926 = .ok (.aload_n 0, 1) from pz_dlL38 (926, .aload_n 0, 1, 927, []) (List.mem_of_getElem? (i := 4) rfl)) (show decode code 927 = .ok (.iload_n 3, 1) from pz_dlL38 (927, .iload_n 3, 1, 928, []) (List.mem_of_getElem? (i := 5) rfl)) (show decode code 928 = .ok (.iconst 2, 1) from pz_dlL38 (928, .iconst 2, 1, 929, []) (List.mem_of_getElem? (i := 6) rfl)) (show decode code 929 = .ok (.iadd, 1) from pz_dlL38 (929, .iadd, 1, 930, []) (List.mem_of_getElem? (i := 7) rfl)) (show decode code 930 = .ok (.iaload, 1) from pz_dlL38 (930, .iaload, 1, 931, []) (List.mem_of_getElem? (i := 8) rfl)) ?_
  refine pz_la Y hX hbl hbA hL (i := i) (k := 3) (by first | decide | omega) hl hS (show decode code 931 = .ok (.aload_n 0, 1) from pz_dlL38 (931, .aload_n 0, 1, 932, []) (List.mem_of_getElem? (i := 9) rfl)) (show decode code 932 = .ok (.iload_n 3, 1) from pz_dlL38 (932, .iload_n 3, 1, 933, []) (List.mem_of_getElem? (i := 10) rfl)) (show decode code 933 = .ok (.iconst 3, 1) from pz_dlL38 (933, .iconst 3, 1, 934, []) (List.mem_of_getElem? (i := 11) rfl)) (show decode code 934 = .ok (.iadd, 1) from pz_dlL38 (934, .iadd, 1, 935, []) (List.mem_of_getElem? (i := 12) rfl)) (show decode code 935 = .ok (.iaload, 1) from pz_dlL38 (935, .iaload, 1, 936, []) (List.mem_of_getElem? (i := 13) rfl)) ?_
  refine pz_crV Y hcs (v3_X11_along (Nat.le_of_ble_eq_true rfl) (Nat.le_of_ble_eq_true rfl) pz_wq980) H locs ls M [.inr (.inr (11, 0)), .inl (xs (i + 1)).toInt, .inl (xs (i + 2)).toInt, .inl (xs (i + 3)).toInt] [] 936 (show decode code 936 = .ok (.invokevirtual 108, 3) from pz_dlL38 (936, .invokevirtual 108, 3, 939, []) (List.mem_of_getElem? (i := 14) rfl)) hP hS hM ?_ hl.1 rfl (Nat.le_of_ble_eq_true rfl) (hI) (fun r936 M936 H936 locs936 hq hr hP hS hM => ?_)
  · skip
    exact (List.forall_mem_cons.mpr ⟨(show pz_kd 0 = 11 ∧ 0 < 231 from by decide), (List.forall_mem_cons.mpr ⟨(pz_tc _), (List.forall_mem_cons.mpr ⟨(pz_tc _), (List.forall_mem_cons.mpr ⟨(pz_tc _), List.forall_mem_nil _⟩)⟩)⟩)⟩)
  obtain ⟨w936, rfl, C936⟩ := hr
  have hq : _ ∧ _ := hq
  obtain ⟨q936, z936⟩ := hq
  have hR8 : pz_RZ M := hR
  have hR : pz_RZ M936 := pz_RZ_k hI hR z936
  have hJ : pz_im M936 := pz_im_cg (fun b j q => z936.2 b j (by unfold pq_Pk pq_Pw; unfold pz_mid at q; omega)) hJ
  have hI : pz_ic M936 := z936.1 hI
  refine lv_pop hx hb (show decode code 939 = .ok (.pop, 1) from pz_dlL38 (939, .pop, 1, 940, []) (List.mem_of_getElem? (i := 15) rfl)) rfl ?_
  refine lv_aload_n hx hb (k := 2) (show decode code 940 = .ok (.aload_n 2, 1) from pz_dlL39 (940, .aload_n 2, 1, 941, []) (List.mem_of_getElem? (i := 0) rfl)) rfl (lv_at hl 2 rfl) ?_
  refine pz_la Y hX hbl hbA hL (i := i) (k := 1) (by first | decide | omega) hl hS (show decode code 941 = .ok (.aload_n 0, 1) from pz_dlL39 (941, .aload_n 0, 1, 942, []) (List.mem_of_getElem? (i := 1) rfl)) (show decode code 942 = .ok (.iload_n 3, 1) from pz_dlL39 (942, .iload_n 3, 1, 943, []) (List.mem_of_getElem? (i := 2) rfl)) (show decode code 943 = .ok (.iconst 1, 1) from pz_dlL39 (943, .iconst 1, 1, 944, []) (List.mem_of_getElem? (i := 3) rfl)) (show decode code 944 = .ok (.iadd, 1) from pz_dlL39 (944, .iadd, 1, 945, []) (List.mem_of_getElem? (i := 4) rfl)) (show decode code 945 = .ok (.iaload, 1) from pz_dlL39 (945, .iaload, 1, 946, []) (List.mem_of_getElem? (i := 5) rfl)) ?_
  refine pz_la Y hX hbl hbA hL (i := i) (k := 2) (by first | decide | omega) hl hS (show decode code 946 = .ok (.aload_n 0, 1) from pz_dlL39 (946, .aload_n 0, 1, 947, []) (List.mem_of_getElem? (i := 6) rfl)) (show decode code 947 = .ok (.iload_n 3, 1) from pz_dlL39 (947, .iload_n 3, 1, 948, []) (List.mem_of_getElem? (i := 7) rfl)) (show decode code 948 = .ok (.iconst 2, 1) from pz_dlL39 (948, .iconst 2, 1, 949, []) (List.mem_of_getElem? (i := 8) rfl)) (show decode code 949 = .ok (.iadd, 1) from pz_dlL39 (949, .iadd, 1, 950, []) (List.mem_of_getElem? (i := 9) rfl)) (show decode code 950 = .ok (.iaload, 1) from pz_dlL39 (950, .iaload, 1, 951, []) (List.mem_of_getElem? (i := 10) rfl)) ?_
  refine pz_la Y hX hbl hbA hL (i := i) (k := 3) (by first | decide | omega) hl hS (show decode code 951 = .ok (.aload_n 0, 1) from pz_dlL39 (951, .aload_n 0, 1, 952, []) (List.mem_of_getElem? (i := 11) rfl)) (show decode code 952 = .ok (.iload_n 3, 1) from pz_dlL39 (952, .iload_n 3, 1, 953, []) (List.mem_of_getElem? (i := 12) rfl)) (show decode code 953 = .ok (.iconst 3, 1) from pz_dlL39 (953, .iconst 3, 1, 954, []) (List.mem_of_getElem? (i := 13) rfl)) (show decode code 954 = .ok (.iadd, 1) from pz_dlL39 (954, .iadd, 1, 955, []) (List.mem_of_getElem? (i := 14) rfl)) (show decode code 955 = .ok (.iaload, 1) from pz_dlL39 (955, .iaload, 1, 956, []) (List.mem_of_getElem? (i := 15) rfl)) ?_
  refine pz_crV Y hcs (v3_X12_along (Nat.le_of_ble_eq_true rfl) (Nat.le_of_ble_eq_true rfl) pz_wq1685) H936 locs936 ls M936 [.inr (.inr (12, 1)), .inl (xs (i + 1)).toInt, .inl (xs (i + 2)).toInt, .inl (xs (i + 3)).toInt] [] 956 (show decode code 956 = .ok (.invokevirtual 111, 3) from pz_dlL40 (956, .invokevirtual 111, 3, 959, []) (List.mem_of_getElem? (i := 0) rfl)) hP hS hM ?_ hl.1 rfl (Nat.le_of_ble_eq_true rfl) (hJ) (fun r956 M956 H956 locs956 hq hr hP hS hM => ?_)
  · skip
    exact (List.forall_mem_cons.mpr ⟨(show pz_kd 1 = 12 ∧ 1 < 231 from by decide), (List.forall_mem_cons.mpr ⟨(pz_tc _), (List.forall_mem_cons.mpr ⟨(pz_tc _), (List.forall_mem_cons.mpr ⟨(pz_tc _), List.forall_mem_nil _⟩)⟩)⟩)⟩)
  obtain ⟨w956, rfl, C956⟩ := hr
  have hq : _ ∧ _ := hq
  obtain ⟨q956, z956⟩ := hq
  have hR : pz_RZ M956 := pz_RZ_v hR z956
  have hI : pz_ic M956 := pz_ic_cg (fun b j q => z956.2 b j (by unfold pz_QV; unfold pz_mid at q; omega)) hI
  have hJ : pz_im M956 := z956.1 hJ
  refine lv_pop hx hb (show decode code 959 = .ok (.pop, 1) from pz_dlL40 (959, .pop, 1, 960, []) (List.mem_of_getElem? (i := 1) rfl)) rfl ?_
  refine lv_goto (tgt := 1407) hx hb (show decode code 960 = .ok (.goto 447, 3) from pz_dlL40 (960, .goto 447, 3, 963, [1407]) (List.mem_of_getElem? (i := 2) rfl)) (by decide) ?_
  have hR : pz_R M956 := by
    exact hR
  exact K _ _ _ hI hJ hR hP hS hM
set_option maxRecDepth 100000 in
set_option maxHeartbeats 4000000 in
theorem pz_case23 (Y : pz_Y p s m #[Value.ref b] c code R_law 4 D ad adV cy A) (hcs : cells ≤ room_1.cells ∧ slots ≤ room_1.slots) (hX : va_X b L xs s s.heap) (hbl : b < s.heap.size) (hbA : ¬ A b) (hL : L ≤ 3072) {i : Nat} (hi : i + 6 ≤ L) {H : Heap} {locs : List Loc} {ls : Array Slot} {M : pz_M} (hl : lv_has ls 4 [(0, .ref b), (1, .ref (ad 0)), (2, .ref (ad 1)), (3, .int (Int32.ofNat i))]) (hP : va_P D vwCl (pz_ws ad cy M) H) (hS : va_S A s.heap H locs) (hM : ∀ a k : Nat, pz_c (M a k)) (hI : pz_ic M) (hJ : pz_im M) (hR : pz_R M) (K : ∀ (M9 : pz_M) (H9 : Heap) (locs9 : List Loc), pz_ic M9 → pz_im M9 → pz_R M9 → va_P D vwCl (pz_ws ad cy M9) H9 → va_S A s.heap H9 locs9 → (∀ a k : Nat, pz_c (M9 a k)) → W p l e room_1 s m #[Value.ref b] below meth c H9 locs9 cells slots Q (F0 m 1407 ls [])) : W p l e room_1 s m #[Value.ref b] below meth c H locs cells slots Q (F0 m 963 ls []) := by
  obtain ⟨hx, hb, hml, hown, hts, hXX⟩ := id Y
  refine lv_aload_n hx hb (k := 1) (show decode code 963 = .ok (.aload_n 1, 1) from pz_dlL40 (963, .aload_n 1, 1, 964, []) (List.mem_of_getElem? (i := 3) rfl)) rfl (lv_at hl 1 rfl) ?_
  refine pz_la Y hX hbl hbA hL (i := i) (k := 1) (by first | decide | omega) hl hS (show decode code 964 = .ok (.aload_n 0, 1) from pz_dlL40 (964, .aload_n 0, 1, 965, []) (List.mem_of_getElem? (i := 4) rfl)) (show decode code 965 = .ok (.iload_n 3, 1) from pz_dlL40 (965, .iload_n 3, 1, 966, []) (List.mem_of_getElem? (i := 5) rfl)) (show decode code 966 = .ok (.iconst 1, 1) from pz_dlL40 (966, .iconst 1, 1, 967, []) (List.mem_of_getElem? (i := 6) rfl)) (show decode code 967 = .ok (.iadd, 1) from pz_dlL40 (967, .iadd, 1, 968, []) (List.mem_of_getElem? (i := 7) rfl)) (show decode code 968 = .ok (.iaload, 1) from pz_dlL40 (968, .iaload, 1, 969, []) (List.mem_of_getElem? (i := 8) rfl)) ?_
  refine pz_la Y hX hbl hbA hL (i := i) (k := 2) (by first | decide | omega) hl hS (show decode code 969 = .ok (.aload_n 0, 1) from pz_dlL40 (969, .aload_n 0, 1, 970, []) (List.mem_of_getElem? (i := 9) rfl)) (show decode code 970 = .ok (.iload_n 3, 1) from pz_dlL40 (970, .iload_n 3, 1, 971, []) (List.mem_of_getElem? (i := 10) rfl)) (show decode code 971 = .ok (.iconst 2, 1) from pz_dlL40 (971, .iconst 2, 1, 972, []) (List.mem_of_getElem? (i := 11) rfl)) (show decode code 972 = .ok (.iadd, 1) from pz_dlL40 (972, .iadd, 1, 973, []) (List.mem_of_getElem? (i := 12) rfl)) (show decode code 973 = .ok (.iaload, 1) from pz_dlL40 (973, .iaload, 1, 974, []) (List.mem_of_getElem? (i := 13) rfl)) ?_
  refine pz_la Y hX hbl hbA hL (i := i) (k := 3) (by first | decide | omega) hl hS (show decode code 974 = .ok (.aload_n 0, 1) from pz_dlL40 (974, .aload_n 0, 1, 975, []) (List.mem_of_getElem? (i := 14) rfl)) (show decode code 975 = .ok (.iload_n 3, 1) from pz_dlL40 (975, .iload_n 3, 1, 976, []) (List.mem_of_getElem? (i := 15) rfl)) (show decode code 976 = .ok (.iconst 3, 1) from pz_dlL41 (976, .iconst 3, 1, 977, []) (List.mem_of_getElem? (i := 0) rfl)) (show decode code 977 = .ok (.iadd, 1) from pz_dlL41 (977, .iadd, 1, 978, []) (List.mem_of_getElem? (i := 1) rfl)) (show decode code 978 = .ok (.iaload, 1) from pz_dlL41 (978, .iaload, 1, 979, []) (List.mem_of_getElem? (i := 2) rfl)) ?_
  refine pz_la Y hX hbl hbA hL (i := i) (k := 4) (by first | decide | omega) hl hS (show decode code 979 = .ok (.aload_n 0, 1) from pz_dlL41 (979, .aload_n 0, 1, 980, []) (List.mem_of_getElem? (i := 3) rfl)) (show decode code 980 = .ok (.iload_n 3, 1) from pz_dlL41 (980, .iload_n 3, 1, 981, []) (List.mem_of_getElem? (i := 4) rfl)) (show decode code 981 = .ok (.iconst 4, 1) from pz_dlL41 (981, .iconst 4, 1, 982, []) (List.mem_of_getElem? (i := 5) rfl)) (show decode code 982 = .ok (.iadd, 1) from pz_dlL41 (982, .iadd, 1, 983, []) (List.mem_of_getElem? (i := 6) rfl)) (show decode code 983 = .ok (.iaload, 1) from pz_dlL41 (983, .iaload, 1, 984, []) (List.mem_of_getElem? (i := 7) rfl)) ?_
  refine pz_crV Y hcs (v3_X11_choice (Nat.le_of_ble_eq_true rfl) (Nat.le_of_ble_eq_true rfl) pz_wq985) H locs ls M [.inr (.inr (11, 0)), .inl (xs (i + 1)).toInt, .inl (xs (i + 2)).toInt, .inl (xs (i + 3)).toInt, .inl (xs (i + 4)).toInt] [] 984 (show decode code 984 = .ok (.invokevirtual 112, 3) from pz_dlL41 (984, .invokevirtual 112, 3, 987, []) (List.mem_of_getElem? (i := 8) rfl)) hP hS hM ?_ hl.1 rfl (Nat.le_of_ble_eq_true rfl) (hI) (fun r984 M984 H984 locs984 hq hr hP hS hM => ?_)
  · skip
    exact (List.forall_mem_cons.mpr ⟨(show pz_kd 0 = 11 ∧ 0 < 231 from by decide), (List.forall_mem_cons.mpr ⟨(pz_tc _), (List.forall_mem_cons.mpr ⟨(pz_tc _), (List.forall_mem_cons.mpr ⟨(pz_tc _), (List.forall_mem_cons.mpr ⟨(pz_tc _), List.forall_mem_nil _⟩)⟩)⟩)⟩)⟩)
  obtain ⟨w984, rfl, C984⟩ := hr
  have hq : _ ∧ _ := hq
  obtain ⟨q984, z984⟩ := hq
  have hR8 : pz_RZ M := hR
  have hR : pz_RZ M984 := pz_RZ_k hI hR z984
  have hJ : pz_im M984 := pz_im_cg (fun b j q => z984.2 b j (by unfold pq_Pk pq_Pw; unfold pz_mid at q; omega)) hJ
  have hI : pz_ic M984 := z984.1 hI
  refine lv_pop hx hb (show decode code 987 = .ok (.pop, 1) from pz_dlL41 (987, .pop, 1, 988, []) (List.mem_of_getElem? (i := 9) rfl)) rfl ?_
  refine lv_aload_n hx hb (k := 2) (show decode code 988 = .ok (.aload_n 2, 1) from pz_dlL41 (988, .aload_n 2, 1, 989, []) (List.mem_of_getElem? (i := 10) rfl)) rfl (lv_at hl 2 rfl) ?_
  refine pz_la Y hX hbl hbA hL (i := i) (k := 1) (by first | decide | omega) hl hS (show decode code 989 = .ok (.aload_n 0, 1) from pz_dlL41 (989, .aload_n 0, 1, 990, []) (List.mem_of_getElem? (i := 11) rfl)) (show decode code 990 = .ok (.iload_n 3, 1) from pz_dlL41 (990, .iload_n 3, 1, 991, []) (List.mem_of_getElem? (i := 12) rfl)) (show decode code 991 = .ok (.iconst 1, 1) from pz_dlL41 (991, .iconst 1, 1, 992, []) (List.mem_of_getElem? (i := 13) rfl)) (show decode code 992 = .ok (.iadd, 1) from pz_dlL41 (992, .iadd, 1, 993, []) (List.mem_of_getElem? (i := 14) rfl)) (show decode code 993 = .ok (.iaload, 1) from pz_dlL41 (993, .iaload, 1, 994, []) (List.mem_of_getElem? (i := 15) rfl)) ?_
  refine pz_la Y hX hbl hbA hL (i := i) (k := 2) (by first | decide | omega) hl hS (show decode code 994 = .ok (.aload_n 0, 1) from pz_dlL42 (994, .aload_n 0, 1, 995, []) (List.mem_of_getElem? (i := 0) rfl)) (show decode code 995 = .ok (.iload_n 3, 1) from pz_dlL42 (995, .iload_n 3, 1, 996, []) (List.mem_of_getElem? (i := 1) rfl)) (show decode code 996 = .ok (.iconst 2, 1) from pz_dlL42 (996, .iconst 2, 1, 997, []) (List.mem_of_getElem? (i := 2) rfl)) (show decode code 997 = .ok (.iadd, 1) from pz_dlL42 (997, .iadd, 1, 998, []) (List.mem_of_getElem? (i := 3) rfl)) (show decode code 998 = .ok (.iaload, 1) from pz_dlL42 (998, .iaload, 1, 999, []) (List.mem_of_getElem? (i := 4) rfl)) ?_
  refine pz_la Y hX hbl hbA hL (i := i) (k := 3) (by first | decide | omega) hl hS (show decode code 999 = .ok (.aload_n 0, 1) from pz_dlL42 (999, .aload_n 0, 1, 1000, []) (List.mem_of_getElem? (i := 5) rfl)) (show decode code 1000 = .ok (.iload_n 3, 1) from pz_dlL42 (1000, .iload_n 3, 1, 1001, []) (List.mem_of_getElem? (i := 6) rfl)) (show decode code 1001 = .ok (.iconst 3, 1) from pz_dlL42 (1001, .iconst 3, 1, 1002, []) (List.mem_of_getElem? (i := 7) rfl)) (show decode code 1002 = .ok (.iadd, 1) from pz_dlL42 (1002, .iadd, 1, 1003, []) (List.mem_of_getElem? (i := 8) rfl)) (show decode code 1003 = .ok (.iaload, 1) from pz_dlL42 (1003, .iaload, 1, 1004, []) (List.mem_of_getElem? (i := 9) rfl)) ?_
  refine pz_la Y hX hbl hbA hL (i := i) (k := 4) (by first | decide | omega) hl hS (show decode code 1004 = .ok (.aload_n 0, 1) from pz_dlL42 (1004, .aload_n 0, 1, 1005, []) (List.mem_of_getElem? (i := 10) rfl)) (show decode code 1005 = .ok (.iload_n 3, 1) from pz_dlL42 (1005, .iload_n 3, 1, 1006, []) (List.mem_of_getElem? (i := 11) rfl)) (show decode code 1006 = .ok (.iconst 4, 1) from pz_dlL42 (1006, .iconst 4, 1, 1007, []) (List.mem_of_getElem? (i := 12) rfl)) (show decode code 1007 = .ok (.iadd, 1) from pz_dlL42 (1007, .iadd, 1, 1008, []) (List.mem_of_getElem? (i := 13) rfl)) (show decode code 1008 = .ok (.iaload, 1) from pz_dlL42 (1008, .iaload, 1, 1009, []) (List.mem_of_getElem? (i := 14) rfl)) ?_
  refine pz_crV Y hcs (v3_X12_choice (Nat.le_of_ble_eq_true rfl) (Nat.le_of_ble_eq_true rfl) pz_wq1689) H984 locs984 ls M984 [.inr (.inr (12, 1)), .inl (xs (i + 1)).toInt, .inl (xs (i + 2)).toInt, .inl (xs (i + 3)).toInt, .inl (xs (i + 4)).toInt] [] 1009 (show decode code 1009 = .ok (.invokevirtual 115, 3) from pz_dlL42 (1009, .invokevirtual 115, 3, 1012, []) (List.mem_of_getElem? (i := 15) rfl)) hP hS hM ?_ hl.1 rfl (Nat.le_of_ble_eq_true rfl) (hJ) (fun r1009 M1009 H1009 locs1009 hq hr hP hS hM => ?_)
  · skip
    exact (List.forall_mem_cons.mpr ⟨(show pz_kd 1 = 12 ∧ 1 < 231 from by decide), (List.forall_mem_cons.mpr ⟨(pz_tc _), (List.forall_mem_cons.mpr ⟨(pz_tc _), (List.forall_mem_cons.mpr ⟨(pz_tc _), (List.forall_mem_cons.mpr ⟨(pz_tc _), List.forall_mem_nil _⟩)⟩)⟩)⟩)⟩)
  obtain ⟨w1009, rfl, C1009⟩ := hr
  have hq : _ ∧ _ := hq
  obtain ⟨q1009, z1009⟩ := hq
  have hR : pz_RZ M1009 := pz_RZ_v hR z1009
  have hI : pz_ic M1009 := pz_ic_cg (fun b j q => z1009.2 b j (by unfold pz_QV; unfold pz_mid at q; omega)) hI
  have hJ : pz_im M1009 := z1009.1 hJ
  refine lv_pop hx hb (show decode code 1012 = .ok (.pop, 1) from pz_dlL43 (1012, .pop, 1, 1013, []) (List.mem_of_getElem? (i := 0) rfl)) rfl ?_
  refine lv_goto (tgt := 1407) hx hb (show decode code 1013 = .ok (.goto 394, 3) from pz_dlL43 (1013, .goto 394, 3, 1016, [1407]) (List.mem_of_getElem? (i := 1) rfl)) (by decide) ?_
  have hR : pz_R M1009 := by
    exact hR
  exact K _ _ _ hI hJ hR hP hS hM
set_option maxRecDepth 100000 in
set_option maxHeartbeats 4000000 in
theorem pz_case24 (Y : pz_Y p s m #[Value.ref b] c code R_law 4 D ad adV cy A) (hcs : cells ≤ room_1.cells ∧ slots ≤ room_1.slots) (hX : va_X b L xs s s.heap) (hbl : b < s.heap.size) (hbA : ¬ A b) (hL : L ≤ 3072) {i : Nat} (hi : i + 6 ≤ L) {H : Heap} {locs : List Loc} {ls : Array Slot} {M : pz_M} (hl : lv_has ls 4 [(0, .ref b), (1, .ref (ad 0)), (2, .ref (ad 1)), (3, .int (Int32.ofNat i))]) (hP : va_P D vwCl (pz_ws ad cy M) H) (hS : va_S A s.heap H locs) (hM : ∀ a k : Nat, pz_c (M a k)) (hI : pz_ic M) (hJ : pz_im M) (hR : pz_R M) (K : ∀ (M9 : pz_M) (H9 : Heap) (locs9 : List Loc), pz_ic M9 → pz_im M9 → pz_R M9 → va_P D vwCl (pz_ws ad cy M9) H9 → va_S A s.heap H9 locs9 → (∀ a k : Nat, pz_c (M9 a k)) → W p l e room_1 s m #[Value.ref b] below meth c H9 locs9 cells slots Q (F0 m 1407 ls [])) : W p l e room_1 s m #[Value.ref b] below meth c H locs cells slots Q (F0 m 1016 ls []) := by
  obtain ⟨hx, hb, hml, hown, hts, hXX⟩ := id Y
  refine lv_aload_n hx hb (k := 1) (show decode code 1016 = .ok (.aload_n 1, 1) from pz_dlL43 (1016, .aload_n 1, 1, 1017, []) (List.mem_of_getElem? (i := 2) rfl)) rfl (lv_at hl 1 rfl) ?_
  refine pz_la Y hX hbl hbA hL (i := i) (k := 1) (by first | decide | omega) hl hS (show decode code 1017 = .ok (.aload_n 0, 1) from pz_dlL43 (1017, .aload_n 0, 1, 1018, []) (List.mem_of_getElem? (i := 3) rfl)) (show decode code 1018 = .ok (.iload_n 3, 1) from pz_dlL43 (1018, .iload_n 3, 1, 1019, []) (List.mem_of_getElem? (i := 4) rfl)) (show decode code 1019 = .ok (.iconst 1, 1) from pz_dlL43 (1019, .iconst 1, 1, 1020, []) (List.mem_of_getElem? (i := 5) rfl)) (show decode code 1020 = .ok (.iadd, 1) from pz_dlL43 (1020, .iadd, 1, 1021, []) (List.mem_of_getElem? (i := 6) rfl)) (show decode code 1021 = .ok (.iaload, 1) from pz_dlL43 (1021, .iaload, 1, 1022, []) (List.mem_of_getElem? (i := 7) rfl)) ?_
  refine pz_la Y hX hbl hbA hL (i := i) (k := 2) (by first | decide | omega) hl hS (show decode code 1022 = .ok (.aload_n 0, 1) from pz_dlL43 (1022, .aload_n 0, 1, 1023, []) (List.mem_of_getElem? (i := 8) rfl)) (show decode code 1023 = .ok (.iload_n 3, 1) from pz_dlL43 (1023, .iload_n 3, 1, 1024, []) (List.mem_of_getElem? (i := 9) rfl)) (show decode code 1024 = .ok (.iconst 2, 1) from pz_dlL43 (1024, .iconst 2, 1, 1025, []) (List.mem_of_getElem? (i := 10) rfl)) (show decode code 1025 = .ok (.iadd, 1) from pz_dlL43 (1025, .iadd, 1, 1026, []) (List.mem_of_getElem? (i := 11) rfl)) (show decode code 1026 = .ok (.iaload, 1) from pz_dlL43 (1026, .iaload, 1, 1027, []) (List.mem_of_getElem? (i := 12) rfl)) ?_
  refine pz_la Y hX hbl hbA hL (i := i) (k := 3) (by first | decide | omega) hl hS (show decode code 1027 = .ok (.aload_n 0, 1) from pz_dlL43 (1027, .aload_n 0, 1, 1028, []) (List.mem_of_getElem? (i := 13) rfl)) (show decode code 1028 = .ok (.iload_n 3, 1) from pz_dlL43 (1028, .iload_n 3, 1, 1029, []) (List.mem_of_getElem? (i := 14) rfl)) (show decode code 1029 = .ok (.iconst 3, 1) from pz_dlL43 (1029, .iconst 3, 1, 1030, []) (List.mem_of_getElem? (i := 15) rfl)) (show decode code 1030 = .ok (.iadd, 1) from pz_dlL44 (1030, .iadd, 1, 1031, []) (List.mem_of_getElem? (i := 0) rfl)) (show decode code 1031 = .ok (.iaload, 1) from pz_dlL44 (1031, .iaload, 1, 1032, []) (List.mem_of_getElem? (i := 1) rfl)) ?_
  refine pz_crV Y hcs (v_X11_bluff (Nat.le_of_ble_eq_true rfl) (Nat.le_of_ble_eq_true rfl) pz_wq991) H locs ls M [.inr (.inr (11, 0)), .inl (xs (i + 1)).toInt, .inl (xs (i + 2)).toInt, .inl (xs (i + 3)).toInt] [] 1032 (show decode code 1032 = .ok (.invokevirtual 116, 3) from pz_dlL44 (1032, .invokevirtual 116, 3, 1035, []) (List.mem_of_getElem? (i := 2) rfl)) hP hS hM ?_ hl.1 rfl (Nat.le_of_ble_eq_true rfl) (hI) (fun r1032 M1032 H1032 locs1032 hq hr hP hS hM => ?_)
  · skip
    exact (List.forall_mem_cons.mpr ⟨(show pz_kd 0 = 11 ∧ 0 < 231 from by decide), (List.forall_mem_cons.mpr ⟨(pz_tc _), (List.forall_mem_cons.mpr ⟨(pz_tc _), (List.forall_mem_cons.mpr ⟨(pz_tc _), List.forall_mem_nil _⟩)⟩)⟩)⟩)
  obtain ⟨w1032, rfl, C1032⟩ := hr
  have hq : _ ∧ _ := hq
  obtain ⟨q1032, z1032⟩ := hq
  subst z1032
  refine lv_pop hx hb (show decode code 1035 = .ok (.pop, 1) from pz_dlL44 (1035, .pop, 1, 1036, []) (List.mem_of_getElem? (i := 3) rfl)) rfl ?_
  refine lv_aload_n hx hb (k := 2) (show decode code 1036 = .ok (.aload_n 2, 1) from pz_dlL44 (1036, .aload_n 2, 1, 1037, []) (List.mem_of_getElem? (i := 4) rfl)) rfl (lv_at hl 2 rfl) ?_
  refine pz_la Y hX hbl hbA hL (i := i) (k := 1) (by first | decide | omega) hl hS (show decode code 1037 = .ok (.aload_n 0, 1) from pz_dlL44 (1037, .aload_n 0, 1, 1038, []) (List.mem_of_getElem? (i := 5) rfl)) (show decode code 1038 = .ok (.iload_n 3, 1) from pz_dlL44 (1038, .iload_n 3, 1, 1039, []) (List.mem_of_getElem? (i := 6) rfl)) (show decode code 1039 = .ok (.iconst 1, 1) from pz_dlL44 (1039, .iconst 1, 1, 1040, []) (List.mem_of_getElem? (i := 7) rfl)) (show decode code 1040 = .ok (.iadd, 1) from pz_dlL44 (1040, .iadd, 1, 1041, []) (List.mem_of_getElem? (i := 8) rfl)) (show decode code 1041 = .ok (.iaload, 1) from pz_dlL44 (1041, .iaload, 1, 1042, []) (List.mem_of_getElem? (i := 9) rfl)) ?_
  refine pz_la Y hX hbl hbA hL (i := i) (k := 2) (by first | decide | omega) hl hS (show decode code 1042 = .ok (.aload_n 0, 1) from pz_dlL44 (1042, .aload_n 0, 1, 1043, []) (List.mem_of_getElem? (i := 10) rfl)) (show decode code 1043 = .ok (.iload_n 3, 1) from pz_dlL44 (1043, .iload_n 3, 1, 1044, []) (List.mem_of_getElem? (i := 11) rfl)) (show decode code 1044 = .ok (.iconst 2, 1) from pz_dlL44 (1044, .iconst 2, 1, 1045, []) (List.mem_of_getElem? (i := 12) rfl)) (show decode code 1045 = .ok (.iadd, 1) from pz_dlL44 (1045, .iadd, 1, 1046, []) (List.mem_of_getElem? (i := 13) rfl)) (show decode code 1046 = .ok (.iaload, 1) from pz_dlL44 (1046, .iaload, 1, 1047, []) (List.mem_of_getElem? (i := 14) rfl)) ?_
  refine pz_la Y hX hbl hbA hL (i := i) (k := 3) (by first | decide | omega) hl hS (show decode code 1047 = .ok (.aload_n 0, 1) from pz_dlL44 (1047, .aload_n 0, 1, 1048, []) (List.mem_of_getElem? (i := 15) rfl)) (show decode code 1048 = .ok (.iload_n 3, 1) from pz_dlL45 (1048, .iload_n 3, 1, 1049, []) (List.mem_of_getElem? (i := 0) rfl)) (show decode code 1049 = .ok (.iconst 3, 1) from pz_dlL45 (1049, .iconst 3, 1, 1050, []) (List.mem_of_getElem? (i := 1) rfl)) (show decode code 1050 = .ok (.iadd, 1) from pz_dlL45 (1050, .iadd, 1, 1051, []) (List.mem_of_getElem? (i := 2) rfl)) (show decode code 1051 = .ok (.iaload, 1) from pz_dlL45 (1051, .iaload, 1, 1052, []) (List.mem_of_getElem? (i := 3) rfl)) ?_
  refine pz_crV Y hcs (v_X12_bluff (Nat.le_of_ble_eq_true rfl) (Nat.le_of_ble_eq_true rfl) pz_wq1696) H1032 locs1032 ls M [.inr (.inr (12, 1)), .inl (xs (i + 1)).toInt, .inl (xs (i + 2)).toInt, .inl (xs (i + 3)).toInt] [] 1052 (show decode code 1052 = .ok (.invokevirtual 119, 3) from pz_dlL45 (1052, .invokevirtual 119, 3, 1055, []) (List.mem_of_getElem? (i := 4) rfl)) hP hS hM ?_ hl.1 rfl (Nat.le_of_ble_eq_true rfl) (hJ) (fun r1052 M1052 H1052 locs1052 hq hr hP hS hM => ?_)
  · skip
    exact (List.forall_mem_cons.mpr ⟨(show pz_kd 1 = 12 ∧ 1 < 231 from by decide), (List.forall_mem_cons.mpr ⟨(pz_tc _), (List.forall_mem_cons.mpr ⟨(pz_tc _), (List.forall_mem_cons.mpr ⟨(pz_tc _), List.forall_mem_nil _⟩)⟩)⟩)⟩)
  obtain ⟨w1052, rfl, C1052⟩ := hr
  have hq : _ ∧ _ := hq
  obtain ⟨q1052, z1052⟩ := hq
  subst z1052
  refine lv_pop hx hb (show decode code 1055 = .ok (.pop, 1) from pz_dlL45 (1055, .pop, 1, 1056, []) (List.mem_of_getElem? (i := 5) rfl)) rfl ?_
  refine lv_goto (tgt := 1407) hx hb (show decode code 1056 = .ok (.goto 351, 3) from pz_dlL45 (1056, .goto 351, 3, 1059, [1407]) (List.mem_of_getElem? (i := 6) rfl)) (by decide) ?_
  have hR : pz_R M := by
    exact hR
  exact K _ _ _ hI hJ hR hP hS hM
set_option maxRecDepth 100000 in
set_option maxHeartbeats 4000000 in
theorem pz_case25 (Y : pz_Y p s m #[Value.ref b] c code R_law 4 D ad adV cy A) (hcs : cells ≤ room_1.cells ∧ slots ≤ room_1.slots) (hX : va_X b L xs s s.heap) (hbl : b < s.heap.size) (hbA : ¬ A b) (hL : L ≤ 3072) {i : Nat} (hi : i + 6 ≤ L) {H : Heap} {locs : List Loc} {ls : Array Slot} {M : pz_M} (hl : lv_has ls 4 [(0, .ref b), (1, .ref (ad 0)), (2, .ref (ad 1)), (3, .int (Int32.ofNat i))]) (hP : va_P D vwCl (pz_ws ad cy M) H) (hS : va_S A s.heap H locs) (hM : ∀ a k : Nat, pz_c (M a k)) (hI : pz_ic M) (hJ : pz_im M) (hR : pz_R M) (K : ∀ (M9 : pz_M) (H9 : Heap) (locs9 : List Loc), pz_ic M9 → pz_im M9 → pz_R M9 → va_P D vwCl (pz_ws ad cy M9) H9 → va_S A s.heap H9 locs9 → (∀ a k : Nat, pz_c (M9 a k)) → W p l e room_1 s m #[Value.ref b] below meth c H9 locs9 cells slots Q (F0 m 1407 ls [])) : W p l e room_1 s m #[Value.ref b] below meth c H locs cells slots Q (F0 m 1059 ls []) := by
  obtain ⟨hx, hb, hml, hown, hts, hXX⟩ := id Y
  refine lv_aload_n hx hb (k := 1) (show decode code 1059 = .ok (.aload_n 1, 1) from pz_dlL45 (1059, .aload_n 1, 1, 1060, []) (List.mem_of_getElem? (i := 7) rfl)) rfl (lv_at hl 1 rfl) ?_
  refine pz_la Y hX hbl hbA hL (i := i) (k := 1) (by first | decide | omega) hl hS (show decode code 1060 = .ok (.aload_n 0, 1) from pz_dlL45 (1060, .aload_n 0, 1, 1061, []) (List.mem_of_getElem? (i := 8) rfl)) (show decode code 1061 = .ok (.iload_n 3, 1) from pz_dlL45 (1061, .iload_n 3, 1, 1062, []) (List.mem_of_getElem? (i := 9) rfl)) (show decode code 1062 = .ok (.iconst 1, 1) from pz_dlL45 (1062, .iconst 1, 1, 1063, []) (List.mem_of_getElem? (i := 10) rfl)) (show decode code 1063 = .ok (.iadd, 1) from pz_dlL45 (1063, .iadd, 1, 1064, []) (List.mem_of_getElem? (i := 11) rfl)) (show decode code 1064 = .ok (.iaload, 1) from pz_dlL45 (1064, .iaload, 1, 1065, []) (List.mem_of_getElem? (i := 12) rfl)) ?_
  refine pz_crV Y hcs (v3_X11_signs (Nat.le_of_ble_eq_true rfl) (Nat.le_of_ble_eq_true rfl) pz_wq996) H locs ls M [.inr (.inr (11, 0)), .inl (xs (i + 1)).toInt] [] 1065 (show decode code 1065 = .ok (.invokevirtual 120, 3) from pz_dlL45 (1065, .invokevirtual 120, 3, 1068, []) (List.mem_of_getElem? (i := 13) rfl)) hP hS hM ?_ hl.1 rfl (Nat.le_of_ble_eq_true rfl) (hI) (fun r1065 M1065 H1065 locs1065 hq hr hP hS hM => ?_)
  · skip
    exact (List.forall_mem_cons.mpr ⟨(show pz_kd 0 = 11 ∧ 0 < 231 from by decide), (List.forall_mem_cons.mpr ⟨(pz_tc _), List.forall_mem_nil _⟩)⟩)
  obtain ⟨w1065, rfl, C1065⟩ := hr
  have hq : _ ∧ _ := hq
  obtain ⟨q1065, z1065⟩ := hq
  have hR8 : pz_RZ M := hR
  have hR : pz_RZ M1065 := pz_RZ_k hI hR z1065
  have hJ : pz_im M1065 := pz_im_cg (fun b j q => z1065.2 b j (by unfold pq_Pk pq_Pw; unfold pz_mid at q; omega)) hJ
  have hI : pz_ic M1065 := z1065.1 hI
  refine lv_pop hx hb (show decode code 1068 = .ok (.pop, 1) from pz_dlL45 (1068, .pop, 1, 1069, []) (List.mem_of_getElem? (i := 14) rfl)) rfl ?_
  refine lv_aload_n hx hb (k := 2) (show decode code 1069 = .ok (.aload_n 2, 1) from pz_dlL45 (1069, .aload_n 2, 1, 1070, []) (List.mem_of_getElem? (i := 15) rfl)) rfl (lv_at hl 2 rfl) ?_
  refine pz_la Y hX hbl hbA hL (i := i) (k := 1) (by first | decide | omega) hl hS (show decode code 1070 = .ok (.aload_n 0, 1) from pz_dlL46 (1070, .aload_n 0, 1, 1071, []) (List.mem_of_getElem? (i := 0) rfl)) (show decode code 1071 = .ok (.iload_n 3, 1) from pz_dlL46 (1071, .iload_n 3, 1, 1072, []) (List.mem_of_getElem? (i := 1) rfl)) (show decode code 1072 = .ok (.iconst 1, 1) from pz_dlL46 (1072, .iconst 1, 1, 1073, []) (List.mem_of_getElem? (i := 2) rfl)) (show decode code 1073 = .ok (.iadd, 1) from pz_dlL46 (1073, .iadd, 1, 1074, []) (List.mem_of_getElem? (i := 3) rfl)) (show decode code 1074 = .ok (.iaload, 1) from pz_dlL46 (1074, .iaload, 1, 1075, []) (List.mem_of_getElem? (i := 4) rfl)) ?_
  refine pz_crV Y hcs (v3_X12_signs (Nat.le_of_ble_eq_true rfl) (Nat.le_of_ble_eq_true rfl) pz_wq1712) H1065 locs1065 ls M1065 [.inr (.inr (12, 1)), .inl (xs (i + 1)).toInt] [] 1075 (show decode code 1075 = .ok (.invokevirtual 123, 3) from pz_dlL46 (1075, .invokevirtual 123, 3, 1078, []) (List.mem_of_getElem? (i := 5) rfl)) hP hS hM ?_ hl.1 rfl (Nat.le_of_ble_eq_true rfl) (hJ) (fun r1075 M1075 H1075 locs1075 hq hr hP hS hM => ?_)
  · skip
    exact (List.forall_mem_cons.mpr ⟨(show pz_kd 1 = 12 ∧ 1 < 231 from by decide), (List.forall_mem_cons.mpr ⟨(pz_tc _), List.forall_mem_nil _⟩)⟩)
  obtain ⟨w1075, rfl, C1075⟩ := hr
  have hq : _ ∧ _ := hq
  obtain ⟨q1075, z1075⟩ := hq
  have hR : pz_RZ M1075 := pz_RZ_v hR z1075
  have hI : pz_ic M1075 := pz_ic_cg (fun b j q => z1075.2 b j (by unfold pz_QV; unfold pz_mid at q; omega)) hI
  have hJ : pz_im M1075 := z1075.1 hJ
  refine lv_pop hx hb (show decode code 1078 = .ok (.pop, 1) from pz_dlL46 (1078, .pop, 1, 1079, []) (List.mem_of_getElem? (i := 6) rfl)) rfl ?_
  refine lv_goto (tgt := 1407) hx hb (show decode code 1079 = .ok (.goto 328, 3) from pz_dlL46 (1079, .goto 328, 3, 1082, [1407]) (List.mem_of_getElem? (i := 7) rfl)) (by decide) ?_
  have hR : pz_R M1075 := by
    exact hR
  exact K _ _ _ hI hJ hR hP hS hM
set_option maxRecDepth 100000 in
set_option maxHeartbeats 4000000 in
theorem pz_case26 (Y : pz_Y p s m #[Value.ref b] c code R_law 4 D ad adV cy A) (hcs : cells ≤ room_1.cells ∧ slots ≤ room_1.slots) (hX : va_X b L xs s s.heap) (hbl : b < s.heap.size) (hbA : ¬ A b) (hL : L ≤ 3072) {i : Nat} (hi : i + 6 ≤ L) {H : Heap} {locs : List Loc} {ls : Array Slot} {M : pz_M} (hl : lv_has ls 4 [(0, .ref b), (1, .ref (ad 0)), (2, .ref (ad 1)), (3, .int (Int32.ofNat i))]) (hP : va_P D vwCl (pz_ws ad cy M) H) (hS : va_S A s.heap H locs) (hM : ∀ a k : Nat, pz_c (M a k)) (hI : pz_ic M) (hJ : pz_im M) (hR : pz_R M) (K : ∀ (M9 : pz_M) (H9 : Heap) (locs9 : List Loc), pz_ic M9 → pz_im M9 → pz_R M9 → va_P D vwCl (pz_ws ad cy M9) H9 → va_S A s.heap H9 locs9 → (∀ a k : Nat, pz_c (M9 a k)) → W p l e room_1 s m #[Value.ref b] below meth c H9 locs9 cells slots Q (F0 m 1407 ls [])) : W p l e room_1 s m #[Value.ref b] below meth c H locs cells slots Q (F0 m 1082 ls []) := by
  obtain ⟨hx, hb, hml, hown, hts, hXX⟩ := id Y
  refine lv_aload_n hx hb (k := 1) (show decode code 1082 = .ok (.aload_n 1, 1) from pz_dlL46 (1082, .aload_n 1, 1, 1083, []) (List.mem_of_getElem? (i := 8) rfl)) rfl (lv_at hl 1 rfl) ?_
  refine pz_la Y hX hbl hbA hL (i := i) (k := 1) (by first | decide | omega) hl hS (show decode code 1083 = .ok (.aload_n 0, 1) from pz_dlL46 (1083, .aload_n 0, 1, 1084, []) (List.mem_of_getElem? (i := 9) rfl)) (show decode code 1084 = .ok (.iload_n 3, 1) from pz_dlL46 (1084, .iload_n 3, 1, 1085, []) (List.mem_of_getElem? (i := 10) rfl)) (show decode code 1085 = .ok (.iconst 1, 1) from pz_dlL46 (1085, .iconst 1, 1, 1086, []) (List.mem_of_getElem? (i := 11) rfl)) (show decode code 1086 = .ok (.iadd, 1) from pz_dlL46 (1086, .iadd, 1, 1087, []) (List.mem_of_getElem? (i := 12) rfl)) (show decode code 1087 = .ok (.iaload, 1) from pz_dlL46 (1087, .iaload, 1, 1088, []) (List.mem_of_getElem? (i := 13) rfl)) ?_
  refine pz_la Y hX hbl hbA hL (i := i) (k := 2) (by first | decide | omega) hl hS (show decode code 1088 = .ok (.aload_n 0, 1) from pz_dlL46 (1088, .aload_n 0, 1, 1089, []) (List.mem_of_getElem? (i := 14) rfl)) (show decode code 1089 = .ok (.iload_n 3, 1) from pz_dlL46 (1089, .iload_n 3, 1, 1090, []) (List.mem_of_getElem? (i := 15) rfl)) (show decode code 1090 = .ok (.iconst 2, 1) from pz_dlL47 (1090, .iconst 2, 1, 1091, []) (List.mem_of_getElem? (i := 0) rfl)) (show decode code 1091 = .ok (.iadd, 1) from pz_dlL47 (1091, .iadd, 1, 1092, []) (List.mem_of_getElem? (i := 1) rfl)) (show decode code 1092 = .ok (.iaload, 1) from pz_dlL47 (1092, .iaload, 1, 1093, []) (List.mem_of_getElem? (i := 2) rfl)) ?_
  refine pz_crV Y hcs (v_X11_money (Nat.le_of_ble_eq_true rfl) (Nat.le_of_ble_eq_true rfl) pz_wq1025) H locs ls M [.inr (.inr (11, 0)), .inl (xs (i + 1)).toInt, .inl (xs (i + 2)).toInt] [] 1093 (show decode code 1093 = .ok (.invokevirtual 124, 3) from pz_dlL47 (1093, .invokevirtual 124, 3, 1096, []) (List.mem_of_getElem? (i := 3) rfl)) hP hS hM ?_ hl.1 rfl (Nat.le_of_ble_eq_true rfl) (hI) (fun r1093 M1093 H1093 locs1093 hq hr hP hS hM => ?_)
  · skip
    exact (List.forall_mem_cons.mpr ⟨(show pz_kd 0 = 11 ∧ 0 < 231 from by decide), (List.forall_mem_cons.mpr ⟨(pz_tc _), (List.forall_mem_cons.mpr ⟨(pz_tc _), List.forall_mem_nil _⟩)⟩)⟩)
  obtain ⟨w1093, rfl, C1093⟩ := hr
  have hq : _ ∧ _ := hq
  obtain ⟨q1093, z1093⟩ := hq
  subst z1093
  refine lv_pop hx hb (show decode code 1096 = .ok (.pop, 1) from pz_dlL47 (1096, .pop, 1, 1097, []) (List.mem_of_getElem? (i := 4) rfl)) rfl ?_
  refine lv_aload_n hx hb (k := 2) (show decode code 1097 = .ok (.aload_n 2, 1) from pz_dlL47 (1097, .aload_n 2, 1, 1098, []) (List.mem_of_getElem? (i := 5) rfl)) rfl (lv_at hl 2 rfl) ?_
  refine pz_la Y hX hbl hbA hL (i := i) (k := 1) (by first | decide | omega) hl hS (show decode code 1098 = .ok (.aload_n 0, 1) from pz_dlL47 (1098, .aload_n 0, 1, 1099, []) (List.mem_of_getElem? (i := 6) rfl)) (show decode code 1099 = .ok (.iload_n 3, 1) from pz_dlL47 (1099, .iload_n 3, 1, 1100, []) (List.mem_of_getElem? (i := 7) rfl)) (show decode code 1100 = .ok (.iconst 1, 1) from pz_dlL47 (1100, .iconst 1, 1, 1101, []) (List.mem_of_getElem? (i := 8) rfl)) (show decode code 1101 = .ok (.iadd, 1) from pz_dlL47 (1101, .iadd, 1, 1102, []) (List.mem_of_getElem? (i := 9) rfl)) (show decode code 1102 = .ok (.iaload, 1) from pz_dlL47 (1102, .iaload, 1, 1103, []) (List.mem_of_getElem? (i := 10) rfl)) ?_
  refine pz_la Y hX hbl hbA hL (i := i) (k := 2) (by first | decide | omega) hl hS (show decode code 1103 = .ok (.aload_n 0, 1) from pz_dlL47 (1103, .aload_n 0, 1, 1104, []) (List.mem_of_getElem? (i := 11) rfl)) (show decode code 1104 = .ok (.iload_n 3, 1) from pz_dlL47 (1104, .iload_n 3, 1, 1105, []) (List.mem_of_getElem? (i := 12) rfl)) (show decode code 1105 = .ok (.iconst 2, 1) from pz_dlL47 (1105, .iconst 2, 1, 1106, []) (List.mem_of_getElem? (i := 13) rfl)) (show decode code 1106 = .ok (.iadd, 1) from pz_dlL47 (1106, .iadd, 1, 1107, []) (List.mem_of_getElem? (i := 14) rfl)) (show decode code 1107 = .ok (.iaload, 1) from pz_dlL47 (1107, .iaload, 1, 1108, []) (List.mem_of_getElem? (i := 15) rfl)) ?_
  refine pz_crV Y hcs (v_X12_money (Nat.le_of_ble_eq_true rfl) (Nat.le_of_ble_eq_true rfl) pz_wq1729) H1093 locs1093 ls M [.inr (.inr (12, 1)), .inl (xs (i + 1)).toInt, .inl (xs (i + 2)).toInt] [] 1108 (show decode code 1108 = .ok (.invokevirtual 127, 3) from pz_dlL48 (1108, .invokevirtual 127, 3, 1111, []) (List.mem_of_getElem? (i := 0) rfl)) hP hS hM ?_ hl.1 rfl (Nat.le_of_ble_eq_true rfl) (hJ) (fun r1108 M1108 H1108 locs1108 hq hr hP hS hM => ?_)
  · skip
    exact (List.forall_mem_cons.mpr ⟨(show pz_kd 1 = 12 ∧ 1 < 231 from by decide), (List.forall_mem_cons.mpr ⟨(pz_tc _), (List.forall_mem_cons.mpr ⟨(pz_tc _), List.forall_mem_nil _⟩)⟩)⟩)
  obtain ⟨w1108, rfl, C1108⟩ := hr
  have hq : _ ∧ _ := hq
  obtain ⟨q1108, z1108⟩ := hq
  subst z1108
  refine lv_pop hx hb (show decode code 1111 = .ok (.pop, 1) from pz_dlL48 (1111, .pop, 1, 1112, []) (List.mem_of_getElem? (i := 1) rfl)) rfl ?_
  refine lv_goto (tgt := 1407) hx hb (show decode code 1112 = .ok (.goto 295, 3) from pz_dlL48 (1112, .goto 295, 3, 1115, [1407]) (List.mem_of_getElem? (i := 2) rfl)) (by decide) ?_
  have hR : pz_R M := by
    exact hR
  exact K _ _ _ hI hJ hR hP hS hM
set_option maxRecDepth 100000 in
set_option maxHeartbeats 4000000 in
theorem pz_case27 (Y : pz_Y p s m #[Value.ref b] c code R_law 4 D ad adV cy A) (hcs : cells ≤ room_1.cells ∧ slots ≤ room_1.slots) (hX : va_X b L xs s s.heap) (hbl : b < s.heap.size) (hbA : ¬ A b) (hL : L ≤ 3072) {i : Nat} (hi : i + 6 ≤ L) {H : Heap} {locs : List Loc} {ls : Array Slot} {M : pz_M} (hl : lv_has ls 4 [(0, .ref b), (1, .ref (ad 0)), (2, .ref (ad 1)), (3, .int (Int32.ofNat i))]) (hP : va_P D vwCl (pz_ws ad cy M) H) (hS : va_S A s.heap H locs) (hM : ∀ a k : Nat, pz_c (M a k)) (hI : pz_ic M) (hJ : pz_im M) (hR : pz_R M) (K : ∀ (M9 : pz_M) (H9 : Heap) (locs9 : List Loc), pz_ic M9 → pz_im M9 → pz_R M9 → va_P D vwCl (pz_ws ad cy M9) H9 → va_S A s.heap H9 locs9 → (∀ a k : Nat, pz_c (M9 a k)) → W p l e room_1 s m #[Value.ref b] below meth c H9 locs9 cells slots Q (F0 m 1407 ls [])) : W p l e room_1 s m #[Value.ref b] below meth c H locs cells slots Q (F0 m 1115 ls []) := by
  obtain ⟨hx, hb, hml, hown, hts, hXX⟩ := id Y
  refine lv_aload_n hx hb (k := 1) (show decode code 1115 = .ok (.aload_n 1, 1) from pz_dlL48 (1115, .aload_n 1, 1, 1116, []) (List.mem_of_getElem? (i := 3) rfl)) rfl (lv_at hl 1 rfl) ?_
  refine pz_la Y hX hbl hbA hL (i := i) (k := 1) (by first | decide | omega) hl hS (show decode code 1116 = .ok (.aload_n 0, 1) from pz_dlL48 (1116, .aload_n 0, 1, 1117, []) (List.mem_of_getElem? (i := 4) rfl)) (show decode code 1117 = .ok (.iload_n 3, 1) from pz_dlL48 (1117, .iload_n 3, 1, 1118, []) (List.mem_of_getElem? (i := 5) rfl)) (show decode code 1118 = .ok (.iconst 1, 1) from pz_dlL48 (1118, .iconst 1, 1, 1119, []) (List.mem_of_getElem? (i := 6) rfl)) (show decode code 1119 = .ok (.iadd, 1) from pz_dlL48 (1119, .iadd, 1, 1120, []) (List.mem_of_getElem? (i := 7) rfl)) (show decode code 1120 = .ok (.iaload, 1) from pz_dlL48 (1120, .iaload, 1, 1121, []) (List.mem_of_getElem? (i := 8) rfl)) ?_
  refine pz_la Y hX hbl hbA hL (i := i) (k := 2) (by first | decide | omega) hl hS (show decode code 1121 = .ok (.aload_n 0, 1) from pz_dlL48 (1121, .aload_n 0, 1, 1122, []) (List.mem_of_getElem? (i := 9) rfl)) (show decode code 1122 = .ok (.iload_n 3, 1) from pz_dlL48 (1122, .iload_n 3, 1, 1123, []) (List.mem_of_getElem? (i := 10) rfl)) (show decode code 1123 = .ok (.iconst 2, 1) from pz_dlL48 (1123, .iconst 2, 1, 1124, []) (List.mem_of_getElem? (i := 11) rfl)) (show decode code 1124 = .ok (.iadd, 1) from pz_dlL48 (1124, .iadd, 1, 1125, []) (List.mem_of_getElem? (i := 12) rfl)) (show decode code 1125 = .ok (.iaload, 1) from pz_dlL48 (1125, .iaload, 1, 1126, []) (List.mem_of_getElem? (i := 13) rfl)) ?_
  refine pz_crV Y hcs (v_X11_ill (Nat.le_of_ble_eq_true rfl) (Nat.le_of_ble_eq_true rfl) pz_wq1029) H locs ls M [.inr (.inr (11, 0)), .inl (xs (i + 1)).toInt, .inl (xs (i + 2)).toInt] [] 1126 (show decode code 1126 = .ok (.invokevirtual 128, 3) from pz_dlL48 (1126, .invokevirtual 128, 3, 1129, []) (List.mem_of_getElem? (i := 14) rfl)) hP hS hM ?_ hl.1 rfl (Nat.le_of_ble_eq_true rfl) (hI) (fun r1126 M1126 H1126 locs1126 hq hr hP hS hM => ?_)
  · skip
    exact (List.forall_mem_cons.mpr ⟨(show pz_kd 0 = 11 ∧ 0 < 231 from by decide), (List.forall_mem_cons.mpr ⟨(pz_tc _), (List.forall_mem_cons.mpr ⟨(pz_tc _), List.forall_mem_nil _⟩)⟩)⟩)
  obtain ⟨w1126, rfl, C1126⟩ := hr
  have hq : _ ∧ _ := hq
  obtain ⟨q1126, z1126⟩ := hq
  subst z1126
  refine lv_pop hx hb (show decode code 1129 = .ok (.pop, 1) from pz_dlL48 (1129, .pop, 1, 1130, []) (List.mem_of_getElem? (i := 15) rfl)) rfl ?_
  refine lv_aload_n hx hb (k := 2) (show decode code 1130 = .ok (.aload_n 2, 1) from pz_dlL49 (1130, .aload_n 2, 1, 1131, []) (List.mem_of_getElem? (i := 0) rfl)) rfl (lv_at hl 2 rfl) ?_
  refine pz_la Y hX hbl hbA hL (i := i) (k := 1) (by first | decide | omega) hl hS (show decode code 1131 = .ok (.aload_n 0, 1) from pz_dlL49 (1131, .aload_n 0, 1, 1132, []) (List.mem_of_getElem? (i := 1) rfl)) (show decode code 1132 = .ok (.iload_n 3, 1) from pz_dlL49 (1132, .iload_n 3, 1, 1133, []) (List.mem_of_getElem? (i := 2) rfl)) (show decode code 1133 = .ok (.iconst 1, 1) from pz_dlL49 (1133, .iconst 1, 1, 1134, []) (List.mem_of_getElem? (i := 3) rfl)) (show decode code 1134 = .ok (.iadd, 1) from pz_dlL49 (1134, .iadd, 1, 1135, []) (List.mem_of_getElem? (i := 4) rfl)) (show decode code 1135 = .ok (.iaload, 1) from pz_dlL49 (1135, .iaload, 1, 1136, []) (List.mem_of_getElem? (i := 5) rfl)) ?_
  refine pz_la Y hX hbl hbA hL (i := i) (k := 2) (by first | decide | omega) hl hS (show decode code 1136 = .ok (.aload_n 0, 1) from pz_dlL49 (1136, .aload_n 0, 1, 1137, []) (List.mem_of_getElem? (i := 6) rfl)) (show decode code 1137 = .ok (.iload_n 3, 1) from pz_dlL49 (1137, .iload_n 3, 1, 1138, []) (List.mem_of_getElem? (i := 7) rfl)) (show decode code 1138 = .ok (.iconst 2, 1) from pz_dlL49 (1138, .iconst 2, 1, 1139, []) (List.mem_of_getElem? (i := 8) rfl)) (show decode code 1139 = .ok (.iadd, 1) from pz_dlL49 (1139, .iadd, 1, 1140, []) (List.mem_of_getElem? (i := 9) rfl)) (show decode code 1140 = .ok (.iaload, 1) from pz_dlL49 (1140, .iaload, 1, 1141, []) (List.mem_of_getElem? (i := 10) rfl)) ?_
  refine pz_crV Y hcs (v_X12_ill (Nat.le_of_ble_eq_true rfl) (Nat.le_of_ble_eq_true rfl) pz_wq1733) H1126 locs1126 ls M [.inr (.inr (12, 1)), .inl (xs (i + 1)).toInt, .inl (xs (i + 2)).toInt] [] 1141 (show decode code 1141 = .ok (.invokevirtual 131, 3) from pz_dlL49 (1141, .invokevirtual 131, 3, 1144, []) (List.mem_of_getElem? (i := 11) rfl)) hP hS hM ?_ hl.1 rfl (Nat.le_of_ble_eq_true rfl) (hJ) (fun r1141 M1141 H1141 locs1141 hq hr hP hS hM => ?_)
  · skip
    exact (List.forall_mem_cons.mpr ⟨(show pz_kd 1 = 12 ∧ 1 < 231 from by decide), (List.forall_mem_cons.mpr ⟨(pz_tc _), (List.forall_mem_cons.mpr ⟨(pz_tc _), List.forall_mem_nil _⟩)⟩)⟩)
  obtain ⟨w1141, rfl, C1141⟩ := hr
  have hq : _ ∧ _ := hq
  obtain ⟨q1141, z1141⟩ := hq
  subst z1141
  refine lv_pop hx hb (show decode code 1144 = .ok (.pop, 1) from pz_dlL49 (1144, .pop, 1, 1145, []) (List.mem_of_getElem? (i := 12) rfl)) rfl ?_
  refine lv_goto (tgt := 1407) hx hb (show decode code 1145 = .ok (.goto 262, 3) from pz_dlL49 (1145, .goto 262, 3, 1148, [1407]) (List.mem_of_getElem? (i := 13) rfl)) (by decide) ?_
  have hR : pz_R M := by
    exact hR
  exact K _ _ _ hI hJ hR hP hS hM
set_option maxRecDepth 100000 in
set_option maxHeartbeats 4000000 in
theorem pz_case28 (Y : pz_Y p s m #[Value.ref b] c code R_law 4 D ad adV cy A) (hcs : cells ≤ room_1.cells ∧ slots ≤ room_1.slots) (hX : va_X b L xs s s.heap) (hbl : b < s.heap.size) (hbA : ¬ A b) (hL : L ≤ 3072) {i : Nat} (hi : i + 6 ≤ L) {H : Heap} {locs : List Loc} {ls : Array Slot} {M : pz_M} (hl : lv_has ls 4 [(0, .ref b), (1, .ref (ad 0)), (2, .ref (ad 1)), (3, .int (Int32.ofNat i))]) (hP : va_P D vwCl (pz_ws ad cy M) H) (hS : va_S A s.heap H locs) (hM : ∀ a k : Nat, pz_c (M a k)) (hI : pz_ic M) (hJ : pz_im M) (hR : pz_R M) (K : ∀ (M9 : pz_M) (H9 : Heap) (locs9 : List Loc), pz_ic M9 → pz_im M9 → pz_R M9 → va_P D vwCl (pz_ws ad cy M9) H9 → va_S A s.heap H9 locs9 → (∀ a k : Nat, pz_c (M9 a k)) → W p l e room_1 s m #[Value.ref b] below meth c H9 locs9 cells slots Q (F0 m 1407 ls [])) : W p l e room_1 s m #[Value.ref b] below meth c H locs cells slots Q (F0 m 1148 ls []) := by
  obtain ⟨hx, hb, hml, hown, hts, hXX⟩ := id Y
  refine lv_aload_n hx hb (k := 1) (show decode code 1148 = .ok (.aload_n 1, 1) from pz_dlL49 (1148, .aload_n 1, 1, 1149, []) (List.mem_of_getElem? (i := 14) rfl)) rfl (lv_at hl 1 rfl) ?_
  refine pz_crV Y hcs (v_X11_wrote (Nat.le_of_ble_eq_true rfl) (Nat.le_of_ble_eq_true rfl) pz_wq1041) H locs ls M [.inr (.inr (11, 0))] [] 1149 (show decode code 1149 = .ok (.invokevirtual 132, 3) from pz_dlL49 (1149, .invokevirtual 132, 3, 1152, []) (List.mem_of_getElem? (i := 15) rfl)) hP hS hM ?_ hl.1 rfl (Nat.le_of_ble_eq_true rfl) (hI) (fun r1149 M1149 H1149 locs1149 hq hr hP hS hM => ?_)
  · skip
    exact (List.forall_mem_cons.mpr ⟨(show pz_kd 0 = 11 ∧ 0 < 231 from by decide), List.forall_mem_nil _⟩)
  obtain ⟨w1149, rfl, C1149⟩ := hr
  have hq : _ ∧ _ := hq
  obtain ⟨q1149, z1149⟩ := hq
  subst z1149
  refine lv_pop hx hb (show decode code 1152 = .ok (.pop, 1) from pz_dlL50 (1152, .pop, 1, 1153, []) (List.mem_of_getElem? (i := 0) rfl)) rfl ?_
  refine lv_aload_n hx hb (k := 2) (show decode code 1153 = .ok (.aload_n 2, 1) from pz_dlL50 (1153, .aload_n 2, 1, 1154, []) (List.mem_of_getElem? (i := 1) rfl)) rfl (lv_at hl 2 rfl) ?_
  refine pz_crV Y hcs (v_X12_wrote (Nat.le_of_ble_eq_true rfl) (Nat.le_of_ble_eq_true rfl) pz_wq1737) H1149 locs1149 ls M [.inr (.inr (12, 1))] [] 1154 (show decode code 1154 = .ok (.invokevirtual 136, 3) from pz_dlL50 (1154, .invokevirtual 136, 3, 1157, []) (List.mem_of_getElem? (i := 2) rfl)) hP hS hM ?_ hl.1 rfl (Nat.le_of_ble_eq_true rfl) (hJ) (fun r1154 M1154 H1154 locs1154 hq hr hP hS hM => ?_)
  · skip
    exact (List.forall_mem_cons.mpr ⟨(show pz_kd 1 = 12 ∧ 1 < 231 from by decide), List.forall_mem_nil _⟩)
  obtain ⟨w1154, rfl, C1154⟩ := hr
  have hq : _ ∧ _ := hq
  obtain ⟨q1154, z1154⟩ := hq
  subst z1154
  refine lv_pop hx hb (show decode code 1157 = .ok (.pop, 1) from pz_dlL50 (1157, .pop, 1, 1158, []) (List.mem_of_getElem? (i := 3) rfl)) rfl ?_
  refine lv_goto (tgt := 1407) hx hb (show decode code 1158 = .ok (.goto 249, 3) from pz_dlL50 (1158, .goto 249, 3, 1161, [1407]) (List.mem_of_getElem? (i := 4) rfl)) (by decide) ?_
  have hR : pz_R M := by
    exact hR
  exact K _ _ _ hI hJ hR hP hS hM
set_option maxRecDepth 100000 in
set_option maxHeartbeats 4000000 in
theorem pz_case29 (Y : pz_Y p s m #[Value.ref b] c code R_law 4 D ad adV cy A) (hcs : cells ≤ room_1.cells ∧ slots ≤ room_1.slots) (hX : va_X b L xs s s.heap) (hbl : b < s.heap.size) (hbA : ¬ A b) (hL : L ≤ 3072) {i : Nat} (hi : i + 6 ≤ L) {H : Heap} {locs : List Loc} {ls : Array Slot} {M : pz_M} (hl : lv_has ls 4 [(0, .ref b), (1, .ref (ad 0)), (2, .ref (ad 1)), (3, .int (Int32.ofNat i))]) (hP : va_P D vwCl (pz_ws ad cy M) H) (hS : va_S A s.heap H locs) (hM : ∀ a k : Nat, pz_c (M a k)) (hI : pz_ic M) (hJ : pz_im M) (hR : pz_R M) (K : ∀ (M9 : pz_M) (H9 : Heap) (locs9 : List Loc), pz_ic M9 → pz_im M9 → pz_R M9 → va_P D vwCl (pz_ws ad cy M9) H9 → va_S A s.heap H9 locs9 → (∀ a k : Nat, pz_c (M9 a k)) → W p l e room_1 s m #[Value.ref b] below meth c H9 locs9 cells slots Q (F0 m 1407 ls [])) : W p l e room_1 s m #[Value.ref b] below meth c H locs cells slots Q (F0 m 1161 ls []) := by
  obtain ⟨hx, hb, hml, hown, hts, hXX⟩ := id Y
  refine lv_aload_n hx hb (k := 1) (show decode code 1161 = .ok (.aload_n 1, 1) from pz_dlL50 (1161, .aload_n 1, 1, 1162, []) (List.mem_of_getElem? (i := 5) rfl)) rfl (lv_at hl 1 rfl) ?_
  refine pz_crV Y hcs (v3_X11_slowest (Nat.le_of_ble_eq_true rfl) (Nat.le_of_ble_eq_true rfl) pz_wq1045) H locs ls M [.inr (.inr (11, 0))] [] 1162 (show decode code 1162 = .ok (.invokevirtual 137, 3) from pz_dlL50 (1162, .invokevirtual 137, 3, 1165, []) (List.mem_of_getElem? (i := 6) rfl)) hP hS hM ?_ hl.1 rfl (Nat.le_of_ble_eq_true rfl) (hI) (fun r1162 M1162 H1162 locs1162 hq hr hP hS hM => ?_)
  · skip
    exact (List.forall_mem_cons.mpr ⟨(show pz_kd 0 = 11 ∧ 0 < 231 from by decide), List.forall_mem_nil _⟩)
  obtain ⟨w1162, rfl, C1162⟩ := hr
  have hq : _ ∧ _ := hq
  obtain ⟨q1162, z1162⟩ := hq
  have hR8 : pz_RZ M := hR
  have hR : pz_RZ M1162 := pz_RZ_k hI hR z1162
  have hJ : pz_im M1162 := pz_im_cg (fun b j q => z1162.2 b j (by unfold pq_Pk pq_Pw; unfold pz_mid at q; omega)) hJ
  have hI : pz_ic M1162 := z1162.1 hI
  refine lv_pop hx hb (show decode code 1165 = .ok (.pop, 1) from pz_dlL50 (1165, .pop, 1, 1166, []) (List.mem_of_getElem? (i := 7) rfl)) rfl ?_
  refine lv_aload_n hx hb (k := 2) (show decode code 1166 = .ok (.aload_n 2, 1) from pz_dlL50 (1166, .aload_n 2, 1, 1167, []) (List.mem_of_getElem? (i := 8) rfl)) rfl (lv_at hl 2 rfl) ?_
  refine pz_crV Y hcs (v3_X12_slowest (Nat.le_of_ble_eq_true rfl) (Nat.le_of_ble_eq_true rfl) pz_wq1745) H1162 locs1162 ls M1162 [.inr (.inr (12, 1))] [] 1167 (show decode code 1167 = .ok (.invokevirtual 140, 3) from pz_dlL50 (1167, .invokevirtual 140, 3, 1170, []) (List.mem_of_getElem? (i := 9) rfl)) hP hS hM ?_ hl.1 rfl (Nat.le_of_ble_eq_true rfl) (hJ) (fun r1167 M1167 H1167 locs1167 hq hr hP hS hM => ?_)
  · skip
    exact (List.forall_mem_cons.mpr ⟨(show pz_kd 1 = 12 ∧ 1 < 231 from by decide), List.forall_mem_nil _⟩)
  obtain ⟨w1167, rfl, C1167⟩ := hr
  have hq : _ ∧ _ := hq
  obtain ⟨q1167, z1167⟩ := hq
  have hR : pz_RZ M1167 := pz_RZ_v hR z1167
  have hI : pz_ic M1167 := pz_ic_cg (fun b j q => z1167.2 b j (by unfold pz_QV; unfold pz_mid at q; omega)) hI
  have hJ : pz_im M1167 := z1167.1 hJ
  refine lv_pop hx hb (show decode code 1170 = .ok (.pop, 1) from pz_dlL50 (1170, .pop, 1, 1171, []) (List.mem_of_getElem? (i := 10) rfl)) rfl ?_
  refine lv_goto (tgt := 1407) hx hb (show decode code 1171 = .ok (.goto 236, 3) from pz_dlL50 (1171, .goto 236, 3, 1174, [1407]) (List.mem_of_getElem? (i := 11) rfl)) (by decide) ?_
  have hR : pz_R M1167 := by
    exact hR
  exact K _ _ _ hI hJ hR hP hS hM
set_option maxRecDepth 100000 in
set_option maxHeartbeats 4000000 in
theorem pz_case30 (Y : pz_Y p s m #[Value.ref b] c code R_law 4 D ad adV cy A) (hcs : cells ≤ room_1.cells ∧ slots ≤ room_1.slots) (hX : va_X b L xs s s.heap) (hbl : b < s.heap.size) (hbA : ¬ A b) (hL : L ≤ 3072) {i : Nat} (hi : i + 6 ≤ L) {H : Heap} {locs : List Loc} {ls : Array Slot} {M : pz_M} (hl : lv_has ls 4 [(0, .ref b), (1, .ref (ad 0)), (2, .ref (ad 1)), (3, .int (Int32.ofNat i))]) (hP : va_P D vwCl (pz_ws ad cy M) H) (hS : va_S A s.heap H locs) (hM : ∀ a k : Nat, pz_c (M a k)) (hI : pz_ic M) (hJ : pz_im M) (hR : pz_R M) (K : ∀ (M9 : pz_M) (H9 : Heap) (locs9 : List Loc), pz_ic M9 → pz_im M9 → pz_R M9 → va_P D vwCl (pz_ws ad cy M9) H9 → va_S A s.heap H9 locs9 → (∀ a k : Nat, pz_c (M9 a k)) → W p l e room_1 s m #[Value.ref b] below meth c H9 locs9 cells slots Q (F0 m 1407 ls [])) : W p l e room_1 s m #[Value.ref b] below meth c H locs cells slots Q (F0 m 1174 ls []) := by
  obtain ⟨hx, hb, hml, hown, hts, hXX⟩ := id Y
  refine lv_aload_n hx hb (k := 1) (show decode code 1174 = .ok (.aload_n 1, 1) from pz_dlL50 (1174, .aload_n 1, 1, 1175, []) (List.mem_of_getElem? (i := 12) rfl)) rfl (lv_at hl 1 rfl) ?_
  refine pz_la Y hX hbl hbA hL (i := i) (k := 1) (by first | decide | omega) hl hS (show decode code 1175 = .ok (.aload_n 0, 1) from pz_dlL50 (1175, .aload_n 0, 1, 1176, []) (List.mem_of_getElem? (i := 13) rfl)) (show decode code 1176 = .ok (.iload_n 3, 1) from pz_dlL50 (1176, .iload_n 3, 1, 1177, []) (List.mem_of_getElem? (i := 14) rfl)) (show decode code 1177 = .ok (.iconst 1, 1) from pz_dlL50 (1177, .iconst 1, 1, 1178, []) (List.mem_of_getElem? (i := 15) rfl)) (show decode code 1178 = .ok (.iadd, 1) from pz_dlL51 (1178, .iadd, 1, 1179, []) (List.mem_of_getElem? (i := 0) rfl)) (show decode code 1179 = .ok (.iaload, 1) from pz_dlL51 (1179, .iaload, 1, 1180, []) (List.mem_of_getElem? (i := 1) rfl)) ?_
  refine pz_crV Y hcs (v_X11_game (Nat.le_of_ble_eq_true rfl) (Nat.le_of_ble_eq_true rfl) pz_wq1049) H locs ls M [.inr (.inr (11, 0)), .inl (xs (i + 1)).toInt] [] 1180 (show decode code 1180 = .ok (.invokevirtual 141, 3) from pz_dlL51 (1180, .invokevirtual 141, 3, 1183, []) (List.mem_of_getElem? (i := 2) rfl)) hP hS hM ?_ hl.1 rfl (Nat.le_of_ble_eq_true rfl) (hI) (fun r1180 M1180 H1180 locs1180 hq hr hP hS hM => ?_)
  · skip
    exact (List.forall_mem_cons.mpr ⟨(show pz_kd 0 = 11 ∧ 0 < 231 from by decide), (List.forall_mem_cons.mpr ⟨(pz_tc _), List.forall_mem_nil _⟩)⟩)
  obtain ⟨w1180, rfl, C1180⟩ := hr
  have hq : _ ∧ _ := hq
  obtain ⟨q1180, z1180⟩ := hq
  subst z1180
  refine lv_pop hx hb (show decode code 1183 = .ok (.pop, 1) from pz_dlL51 (1183, .pop, 1, 1184, []) (List.mem_of_getElem? (i := 3) rfl)) rfl ?_
  refine lv_aload_n hx hb (k := 2) (show decode code 1184 = .ok (.aload_n 2, 1) from pz_dlL51 (1184, .aload_n 2, 1, 1185, []) (List.mem_of_getElem? (i := 4) rfl)) rfl (lv_at hl 2 rfl) ?_
  refine pz_la Y hX hbl hbA hL (i := i) (k := 1) (by first | decide | omega) hl hS (show decode code 1185 = .ok (.aload_n 0, 1) from pz_dlL51 (1185, .aload_n 0, 1, 1186, []) (List.mem_of_getElem? (i := 5) rfl)) (show decode code 1186 = .ok (.iload_n 3, 1) from pz_dlL51 (1186, .iload_n 3, 1, 1187, []) (List.mem_of_getElem? (i := 6) rfl)) (show decode code 1187 = .ok (.iconst 1, 1) from pz_dlL51 (1187, .iconst 1, 1, 1188, []) (List.mem_of_getElem? (i := 7) rfl)) (show decode code 1188 = .ok (.iadd, 1) from pz_dlL51 (1188, .iadd, 1, 1189, []) (List.mem_of_getElem? (i := 8) rfl)) (show decode code 1189 = .ok (.iaload, 1) from pz_dlL51 (1189, .iaload, 1, 1190, []) (List.mem_of_getElem? (i := 9) rfl)) ?_
  refine pz_crV Y hcs (v_X12_game (Nat.le_of_ble_eq_true rfl) (Nat.le_of_ble_eq_true rfl) pz_wq1749) H1180 locs1180 ls M [.inr (.inr (12, 1)), .inl (xs (i + 1)).toInt] [] 1190 (show decode code 1190 = .ok (.invokevirtual 144, 3) from pz_dlL51 (1190, .invokevirtual 144, 3, 1193, []) (List.mem_of_getElem? (i := 10) rfl)) hP hS hM ?_ hl.1 rfl (Nat.le_of_ble_eq_true rfl) (hJ) (fun r1190 M1190 H1190 locs1190 hq hr hP hS hM => ?_)
  · skip
    exact (List.forall_mem_cons.mpr ⟨(show pz_kd 1 = 12 ∧ 1 < 231 from by decide), (List.forall_mem_cons.mpr ⟨(pz_tc _), List.forall_mem_nil _⟩)⟩)
  obtain ⟨w1190, rfl, C1190⟩ := hr
  have hq : _ ∧ _ := hq
  obtain ⟨q1190, z1190⟩ := hq
  subst z1190
  refine lv_pop hx hb (show decode code 1193 = .ok (.pop, 1) from pz_dlL51 (1193, .pop, 1, 1194, []) (List.mem_of_getElem? (i := 11) rfl)) rfl ?_
  refine lv_goto (tgt := 1407) hx hb (show decode code 1194 = .ok (.goto 213, 3) from pz_dlL51 (1194, .goto 213, 3, 1197, [1407]) (List.mem_of_getElem? (i := 12) rfl)) (by decide) ?_
  have hR : pz_R M := by
    exact hR
  exact K _ _ _ hI hJ hR hP hS hM
set_option maxRecDepth 100000 in
set_option maxHeartbeats 4000000 in
theorem pz_case31 (Y : pz_Y p s m #[Value.ref b] c code R_law 4 D ad adV cy A) (hcs : cells ≤ room_1.cells ∧ slots ≤ room_1.slots) (hX : va_X b L xs s s.heap) (hbl : b < s.heap.size) (hbA : ¬ A b) (hL : L ≤ 3072) {i : Nat} (hi : i + 6 ≤ L) {H : Heap} {locs : List Loc} {ls : Array Slot} {M : pz_M} (hl : lv_has ls 4 [(0, .ref b), (1, .ref (ad 0)), (2, .ref (ad 1)), (3, .int (Int32.ofNat i))]) (hP : va_P D vwCl (pz_ws ad cy M) H) (hS : va_S A s.heap H locs) (hM : ∀ a k : Nat, pz_c (M a k)) (hI : pz_ic M) (hJ : pz_im M) (hR : pz_R M) (K : ∀ (M9 : pz_M) (H9 : Heap) (locs9 : List Loc), pz_ic M9 → pz_im M9 → pz_R M9 → va_P D vwCl (pz_ws ad cy M9) H9 → va_S A s.heap H9 locs9 → (∀ a k : Nat, pz_c (M9 a k)) → W p l e room_1 s m #[Value.ref b] below meth c H9 locs9 cells slots Q (F0 m 1407 ls [])) : W p l e room_1 s m #[Value.ref b] below meth c H locs cells slots Q (F0 m 1197 ls []) := by
  obtain ⟨hx, hb, hml, hown, hts, hXX⟩ := id Y
  refine lv_aload_n hx hb (k := 1) (show decode code 1197 = .ok (.aload_n 1, 1) from pz_dlL51 (1197, .aload_n 1, 1, 1198, []) (List.mem_of_getElem? (i := 13) rfl)) rfl (lv_at hl 1 rfl) ?_
  refine pz_la Y hX hbl hbA hL (i := i) (k := 1) (by first | decide | omega) hl hS (show decode code 1198 = .ok (.aload_n 0, 1) from pz_dlL51 (1198, .aload_n 0, 1, 1199, []) (List.mem_of_getElem? (i := 14) rfl)) (show decode code 1199 = .ok (.iload_n 3, 1) from pz_dlL51 (1199, .iload_n 3, 1, 1200, []) (List.mem_of_getElem? (i := 15) rfl)) (show decode code 1200 = .ok (.iconst 1, 1) from pz_dlL52 (1200, .iconst 1, 1, 1201, []) (List.mem_of_getElem? (i := 0) rfl)) (show decode code 1201 = .ok (.iadd, 1) from pz_dlL52 (1201, .iadd, 1, 1202, []) (List.mem_of_getElem? (i := 1) rfl)) (show decode code 1202 = .ok (.iaload, 1) from pz_dlL52 (1202, .iaload, 1, 1203, []) (List.mem_of_getElem? (i := 2) rfl)) ?_
  refine pz_crV Y hcs (v4_X11_soon (Nat.le_of_ble_eq_true rfl) (Nat.le_of_ble_eq_true rfl) pz_wq1057) H locs ls M [.inr (.inr (11, 0)), .inl (xs (i + 1)).toInt] [] 1203 (show decode code 1203 = .ok (.invokevirtual 145, 3) from pz_dlL52 (1203, .invokevirtual 145, 3, 1206, []) (List.mem_of_getElem? (i := 3) rfl)) hP hS hM ?_ hl.1 rfl (Nat.le_of_ble_eq_true rfl) (hI) (fun r1203 M1203 H1203 locs1203 hq hr hP hS hM => ?_)
  · skip
    exact (List.forall_mem_cons.mpr ⟨(show pz_kd 0 = 11 ∧ 0 < 231 from by decide), (List.forall_mem_cons.mpr ⟨(pz_tc _), List.forall_mem_nil _⟩)⟩)
  obtain ⟨w1203, rfl, C1203⟩ := hr
  have hq : _ ∧ _ := hq
  obtain ⟨q1203, z1203⟩ := hq
  have hR8 : pz_RZ M := hR
  have hR : pz_RZ M1203 := pz_RZ_k hI hR z1203
  have hJ : pz_im M1203 := pz_im_cg (fun b j q => z1203.2 b j (by unfold pq_Pk pq_Pw; unfold pz_mid at q; omega)) hJ
  have hI : pz_ic M1203 := z1203.1 hI
  refine lv_pop hx hb (show decode code 1206 = .ok (.pop, 1) from pz_dlL52 (1206, .pop, 1, 1207, []) (List.mem_of_getElem? (i := 4) rfl)) rfl ?_
  refine lv_aload_n hx hb (k := 2) (show decode code 1207 = .ok (.aload_n 2, 1) from pz_dlL52 (1207, .aload_n 2, 1, 1208, []) (List.mem_of_getElem? (i := 5) rfl)) rfl (lv_at hl 2 rfl) ?_
  refine pz_la Y hX hbl hbA hL (i := i) (k := 1) (by first | decide | omega) hl hS (show decode code 1208 = .ok (.aload_n 0, 1) from pz_dlL52 (1208, .aload_n 0, 1, 1209, []) (List.mem_of_getElem? (i := 6) rfl)) (show decode code 1209 = .ok (.iload_n 3, 1) from pz_dlL52 (1209, .iload_n 3, 1, 1210, []) (List.mem_of_getElem? (i := 7) rfl)) (show decode code 1210 = .ok (.iconst 1, 1) from pz_dlL52 (1210, .iconst 1, 1, 1211, []) (List.mem_of_getElem? (i := 8) rfl)) (show decode code 1211 = .ok (.iadd, 1) from pz_dlL52 (1211, .iadd, 1, 1212, []) (List.mem_of_getElem? (i := 9) rfl)) (show decode code 1212 = .ok (.iaload, 1) from pz_dlL52 (1212, .iaload, 1, 1213, []) (List.mem_of_getElem? (i := 10) rfl)) ?_
  refine pz_crV Y hcs (v4_X12_soon (Nat.le_of_ble_eq_true rfl) (Nat.le_of_ble_eq_true rfl) pz_wq1639) H1203 locs1203 ls M1203 [.inr (.inr (12, 1)), .inl (xs (i + 1)).toInt] [] 1213 (show decode code 1213 = .ok (.invokevirtual 148, 3) from pz_dlL52 (1213, .invokevirtual 148, 3, 1216, []) (List.mem_of_getElem? (i := 11) rfl)) hP hS hM ?_ hl.1 rfl (Nat.le_of_ble_eq_true rfl) (hJ) (fun r1213 M1213 H1213 locs1213 hq hr hP hS hM => ?_)
  · skip
    exact (List.forall_mem_cons.mpr ⟨(show pz_kd 1 = 12 ∧ 1 < 231 from by decide), (List.forall_mem_cons.mpr ⟨(pz_tc _), List.forall_mem_nil _⟩)⟩)
  obtain ⟨w1213, rfl, C1213⟩ := hr
  have hq : _ ∧ _ := hq
  obtain ⟨q1213, z1213⟩ := hq
  have hR : pz_RZ M1213 := pz_RZ_v hR z1213
  have hI : pz_ic M1213 := pz_ic_cg (fun b j q => z1213.2 b j (by unfold pz_QV; unfold pz_mid at q; omega)) hI
  have hJ : pz_im M1213 := z1213.1 hJ
  refine lv_pop hx hb (show decode code 1216 = .ok (.pop, 1) from pz_dlL52 (1216, .pop, 1, 1217, []) (List.mem_of_getElem? (i := 12) rfl)) rfl ?_
  refine lv_goto (tgt := 1407) hx hb (show decode code 1217 = .ok (.goto 190, 3) from pz_dlL52 (1217, .goto 190, 3, 1220, [1407]) (List.mem_of_getElem? (i := 13) rfl)) (by decide) ?_
  have hR : pz_R M1213 := by
    exact hR
  exact K _ _ _ hI hJ hR hP hS hM
set_option maxRecDepth 100000 in
set_option maxHeartbeats 4000000 in
theorem pz_case32 (Y : pz_Y p s m #[Value.ref b] c code R_law 4 D ad adV cy A) (hcs : cells ≤ room_1.cells ∧ slots ≤ room_1.slots) (hX : va_X b L xs s s.heap) (hbl : b < s.heap.size) (hbA : ¬ A b) (hL : L ≤ 3072) {i : Nat} (hi : i + 6 ≤ L) {H : Heap} {locs : List Loc} {ls : Array Slot} {M : pz_M} (hl : lv_has ls 4 [(0, .ref b), (1, .ref (ad 0)), (2, .ref (ad 1)), (3, .int (Int32.ofNat i))]) (hP : va_P D vwCl (pz_ws ad cy M) H) (hS : va_S A s.heap H locs) (hM : ∀ a k : Nat, pz_c (M a k)) (hI : pz_ic M) (hJ : pz_im M) (hR : pz_R M) (K : ∀ (M9 : pz_M) (H9 : Heap) (locs9 : List Loc), pz_ic M9 → pz_im M9 → pz_R M9 → va_P D vwCl (pz_ws ad cy M9) H9 → va_S A s.heap H9 locs9 → (∀ a k : Nat, pz_c (M9 a k)) → W p l e room_1 s m #[Value.ref b] below meth c H9 locs9 cells slots Q (F0 m 1407 ls [])) : W p l e room_1 s m #[Value.ref b] below meth c H locs cells slots Q (F0 m 1220 ls []) := by
  obtain ⟨hx, hb, hml, hown, hts, hXX⟩ := id Y
  refine lv_aload_n hx hb (k := 1) (show decode code 1220 = .ok (.aload_n 1, 1) from pz_dlL52 (1220, .aload_n 1, 1, 1221, []) (List.mem_of_getElem? (i := 14) rfl)) rfl (lv_at hl 1 rfl) ?_
  refine pz_la Y hX hbl hbA hL (i := i) (k := 1) (by first | decide | omega) hl hS (show decode code 1221 = .ok (.aload_n 0, 1) from pz_dlL52 (1221, .aload_n 0, 1, 1222, []) (List.mem_of_getElem? (i := 15) rfl)) (show decode code 1222 = .ok (.iload_n 3, 1) from pz_dlL53 (1222, .iload_n 3, 1, 1223, []) (List.mem_of_getElem? (i := 0) rfl)) (show decode code 1223 = .ok (.iconst 1, 1) from pz_dlL53 (1223, .iconst 1, 1, 1224, []) (List.mem_of_getElem? (i := 1) rfl)) (show decode code 1224 = .ok (.iadd, 1) from pz_dlL53 (1224, .iadd, 1, 1225, []) (List.mem_of_getElem? (i := 2) rfl)) (show decode code 1225 = .ok (.iaload, 1) from pz_dlL53 (1225, .iaload, 1, 1226, []) (List.mem_of_getElem? (i := 3) rfl)) ?_
  refine pz_la Y hX hbl hbA hL (i := i) (k := 2) (by first | decide | omega) hl hS (show decode code 1226 = .ok (.aload_n 0, 1) from pz_dlL53 (1226, .aload_n 0, 1, 1227, []) (List.mem_of_getElem? (i := 4) rfl)) (show decode code 1227 = .ok (.iload_n 3, 1) from pz_dlL53 (1227, .iload_n 3, 1, 1228, []) (List.mem_of_getElem? (i := 5) rfl)) (show decode code 1228 = .ok (.iconst 2, 1) from pz_dlL53 (1228, .iconst 2, 1, 1229, []) (List.mem_of_getElem? (i := 6) rfl)) (show decode code 1229 = .ok (.iadd, 1) from pz_dlL53 (1229, .iadd, 1, 1230, []) (List.mem_of_getElem? (i := 7) rfl)) (show decode code 1230 = .ok (.iaload, 1) from pz_dlL53 (1230, .iaload, 1, 1231, []) (List.mem_of_getElem? (i := 8) rfl)) ?_
  refine pz_crV Y hcs (v4_X11_hurry (Nat.le_of_ble_eq_true rfl) (Nat.le_of_ble_eq_true rfl) pz_wq1065) H locs ls M [.inr (.inr (11, 0)), .inl (xs (i + 1)).toInt, .inl (xs (i + 2)).toInt] [] 1231 (show decode code 1231 = .ok (.invokevirtual 149, 3) from pz_dlL53 (1231, .invokevirtual 149, 3, 1234, []) (List.mem_of_getElem? (i := 9) rfl)) hP hS hM ?_ hl.1 rfl (Nat.le_of_ble_eq_true rfl) (hI) (fun r1231 M1231 H1231 locs1231 hq hr hP hS hM => ?_)
  · skip
    exact (List.forall_mem_cons.mpr ⟨(show pz_kd 0 = 11 ∧ 0 < 231 from by decide), (List.forall_mem_cons.mpr ⟨(pz_tc _), (List.forall_mem_cons.mpr ⟨(pz_tc _), List.forall_mem_nil _⟩)⟩)⟩)
  obtain ⟨w1231, rfl, C1231⟩ := hr
  have hq : _ ∧ _ := hq
  obtain ⟨q1231, z1231⟩ := hq
  have hR8 : pz_RZ M := hR
  have hR : pz_RZ M1231 := pz_RZ_k hI hR z1231
  have hJ : pz_im M1231 := pz_im_cg (fun b j q => z1231.2 b j (by unfold pq_Pk pq_Pw; unfold pz_mid at q; omega)) hJ
  have hI : pz_ic M1231 := z1231.1 hI
  refine lv_pop hx hb (show decode code 1234 = .ok (.pop, 1) from pz_dlL53 (1234, .pop, 1, 1235, []) (List.mem_of_getElem? (i := 10) rfl)) rfl ?_
  refine lv_aload_n hx hb (k := 2) (show decode code 1235 = .ok (.aload_n 2, 1) from pz_dlL53 (1235, .aload_n 2, 1, 1236, []) (List.mem_of_getElem? (i := 11) rfl)) rfl (lv_at hl 2 rfl) ?_
  refine pz_la Y hX hbl hbA hL (i := i) (k := 1) (by first | decide | omega) hl hS (show decode code 1236 = .ok (.aload_n 0, 1) from pz_dlL53 (1236, .aload_n 0, 1, 1237, []) (List.mem_of_getElem? (i := 12) rfl)) (show decode code 1237 = .ok (.iload_n 3, 1) from pz_dlL53 (1237, .iload_n 3, 1, 1238, []) (List.mem_of_getElem? (i := 13) rfl)) (show decode code 1238 = .ok (.iconst 1, 1) from pz_dlL53 (1238, .iconst 1, 1, 1239, []) (List.mem_of_getElem? (i := 14) rfl)) (show decode code 1239 = .ok (.iadd, 1) from pz_dlL53 (1239, .iadd, 1, 1240, []) (List.mem_of_getElem? (i := 15) rfl)) (show decode code 1240 = .ok (.iaload, 1) from pz_dlL54 (1240, .iaload, 1, 1241, []) (List.mem_of_getElem? (i := 0) rfl)) ?_
  refine pz_la Y hX hbl hbA hL (i := i) (k := 2) (by first | decide | omega) hl hS (show decode code 1241 = .ok (.aload_n 0, 1) from pz_dlL54 (1241, .aload_n 0, 1, 1242, []) (List.mem_of_getElem? (i := 1) rfl)) (show decode code 1242 = .ok (.iload_n 3, 1) from pz_dlL54 (1242, .iload_n 3, 1, 1243, []) (List.mem_of_getElem? (i := 2) rfl)) (show decode code 1243 = .ok (.iconst 2, 1) from pz_dlL54 (1243, .iconst 2, 1, 1244, []) (List.mem_of_getElem? (i := 3) rfl)) (show decode code 1244 = .ok (.iadd, 1) from pz_dlL54 (1244, .iadd, 1, 1245, []) (List.mem_of_getElem? (i := 4) rfl)) (show decode code 1245 = .ok (.iaload, 1) from pz_dlL54 (1245, .iaload, 1, 1246, []) (List.mem_of_getElem? (i := 5) rfl)) ?_
  refine pz_crV Y hcs (v4_X12_hurry (Nat.le_of_ble_eq_true rfl) (Nat.le_of_ble_eq_true rfl) pz_wq1644) H1231 locs1231 ls M1231 [.inr (.inr (12, 1)), .inl (xs (i + 1)).toInt, .inl (xs (i + 2)).toInt] [] 1246 (show decode code 1246 = .ok (.invokevirtual 152, 3) from pz_dlL54 (1246, .invokevirtual 152, 3, 1249, []) (List.mem_of_getElem? (i := 6) rfl)) hP hS hM ?_ hl.1 rfl (Nat.le_of_ble_eq_true rfl) (hJ) (fun r1246 M1246 H1246 locs1246 hq hr hP hS hM => ?_)
  · skip
    exact (List.forall_mem_cons.mpr ⟨(show pz_kd 1 = 12 ∧ 1 < 231 from by decide), (List.forall_mem_cons.mpr ⟨(pz_tc _), (List.forall_mem_cons.mpr ⟨(pz_tc _), List.forall_mem_nil _⟩)⟩)⟩)
  obtain ⟨w1246, rfl, C1246⟩ := hr
  have hq : _ ∧ _ := hq
  obtain ⟨q1246, z1246⟩ := hq
  have hR : pz_RZ M1246 := pz_RZ_v hR z1246
  have hI : pz_ic M1246 := pz_ic_cg (fun b j q => z1246.2 b j (by unfold pz_QV; unfold pz_mid at q; omega)) hI
  have hJ : pz_im M1246 := z1246.1 hJ
  refine lv_pop hx hb (show decode code 1249 = .ok (.pop, 1) from pz_dlL54 (1249, .pop, 1, 1250, []) (List.mem_of_getElem? (i := 7) rfl)) rfl ?_
  refine lv_goto (tgt := 1407) hx hb (show decode code 1250 = .ok (.goto 157, 3) from pz_dlL54 (1250, .goto 157, 3, 1253, [1407]) (List.mem_of_getElem? (i := 8) rfl)) (by decide) ?_
  have hR : pz_R M1246 := by
    exact hR
  exact K _ _ _ hI hJ hR hP hS hM
set_option maxRecDepth 100000 in
set_option maxHeartbeats 4000000 in
theorem pz_case33 (Y : pz_Y p s m #[Value.ref b] c code R_law 4 D ad adV cy A) (hcs : cells ≤ room_1.cells ∧ slots ≤ room_1.slots) (hX : va_X b L xs s s.heap) (hbl : b < s.heap.size) (hbA : ¬ A b) (hL : L ≤ 3072) {i : Nat} (hi : i + 6 ≤ L) {H : Heap} {locs : List Loc} {ls : Array Slot} {M : pz_M} (hl : lv_has ls 4 [(0, .ref b), (1, .ref (ad 0)), (2, .ref (ad 1)), (3, .int (Int32.ofNat i))]) (hP : va_P D vwCl (pz_ws ad cy M) H) (hS : va_S A s.heap H locs) (hM : ∀ a k : Nat, pz_c (M a k)) (hI : pz_ic M) (hJ : pz_im M) (hR : pz_R M) (K : ∀ (M9 : pz_M) (H9 : Heap) (locs9 : List Loc), pz_ic M9 → pz_im M9 → pz_R M9 → va_P D vwCl (pz_ws ad cy M9) H9 → va_S A s.heap H9 locs9 → (∀ a k : Nat, pz_c (M9 a k)) → W p l e room_1 s m #[Value.ref b] below meth c H9 locs9 cells slots Q (F0 m 1407 ls [])) : W p l e room_1 s m #[Value.ref b] below meth c H locs cells slots Q (F0 m 1253 ls []) := by
  obtain ⟨hx, hb, hml, hown, hts, hXX⟩ := id Y
  refine lv_aload_n hx hb (k := 1) (show decode code 1253 = .ok (.aload_n 1, 1) from pz_dlL54 (1253, .aload_n 1, 1, 1254, []) (List.mem_of_getElem? (i := 9) rfl)) rfl (lv_at hl 1 rfl) ?_
  refine pz_la Y hX hbl hbA hL (i := i) (k := 1) (by first | decide | omega) hl hS (show decode code 1254 = .ok (.aload_n 0, 1) from pz_dlL54 (1254, .aload_n 0, 1, 1255, []) (List.mem_of_getElem? (i := 10) rfl)) (show decode code 1255 = .ok (.iload_n 3, 1) from pz_dlL54 (1255, .iload_n 3, 1, 1256, []) (List.mem_of_getElem? (i := 11) rfl)) (show decode code 1256 = .ok (.iconst 1, 1) from pz_dlL54 (1256, .iconst 1, 1, 1257, []) (List.mem_of_getElem? (i := 12) rfl)) (show decode code 1257 = .ok (.iadd, 1) from pz_dlL54 (1257, .iadd, 1, 1258, []) (List.mem_of_getElem? (i := 13) rfl)) (show decode code 1258 = .ok (.iaload, 1) from pz_dlL54 (1258, .iaload, 1, 1259, []) (List.mem_of_getElem? (i := 14) rfl)) ?_
  refine pz_la Y hX hbl hbA hL (i := i) (k := 2) (by first | decide | omega) hl hS (show decode code 1259 = .ok (.aload_n 0, 1) from pz_dlL54 (1259, .aload_n 0, 1, 1260, []) (List.mem_of_getElem? (i := 15) rfl)) (show decode code 1260 = .ok (.iload_n 3, 1) from pz_dlL55 (1260, .iload_n 3, 1, 1261, []) (List.mem_of_getElem? (i := 0) rfl)) (show decode code 1261 = .ok (.iconst 2, 1) from pz_dlL55 (1261, .iconst 2, 1, 1262, []) (List.mem_of_getElem? (i := 1) rfl)) (show decode code 1262 = .ok (.iadd, 1) from pz_dlL55 (1262, .iadd, 1, 1263, []) (List.mem_of_getElem? (i := 2) rfl)) (show decode code 1263 = .ok (.iaload, 1) from pz_dlL55 (1263, .iaload, 1, 1264, []) (List.mem_of_getElem? (i := 3) rfl)) ?_
  refine pz_crV Y hcs (v4_X11_split (Nat.le_of_ble_eq_true rfl) (Nat.le_of_ble_eq_true rfl) pz_wq1074) H locs ls M [.inr (.inr (11, 0)), .inl (xs (i + 1)).toInt, .inl (xs (i + 2)).toInt] [] 1264 (show decode code 1264 = .ok (.invokevirtual 153, 3) from pz_dlL55 (1264, .invokevirtual 153, 3, 1267, []) (List.mem_of_getElem? (i := 4) rfl)) hP hS hM ?_ hl.1 rfl (Nat.le_of_ble_eq_true rfl) (hI) (fun r1264 M1264 H1264 locs1264 hq hr hP hS hM => ?_)
  · skip
    exact (List.forall_mem_cons.mpr ⟨(show pz_kd 0 = 11 ∧ 0 < 231 from by decide), (List.forall_mem_cons.mpr ⟨(pz_tc _), (List.forall_mem_cons.mpr ⟨(pz_tc _), List.forall_mem_nil _⟩)⟩)⟩)
  obtain ⟨w1264, rfl, C1264⟩ := hr
  have hq : _ ∧ _ := hq
  obtain ⟨q1264, z1264⟩ := hq
  have hR8 : pz_RZ M := hR
  have hR : pz_RZ M1264 := pz_RZ_k hI hR z1264
  have hJ : pz_im M1264 := pz_im_cg (fun b j q => z1264.2 b j (by unfold pq_Pk pq_Pw; unfold pz_mid at q; omega)) hJ
  have hI : pz_ic M1264 := z1264.1 hI
  refine lv_pop hx hb (show decode code 1267 = .ok (.pop, 1) from pz_dlL55 (1267, .pop, 1, 1268, []) (List.mem_of_getElem? (i := 5) rfl)) rfl ?_
  refine lv_aload_n hx hb (k := 2) (show decode code 1268 = .ok (.aload_n 2, 1) from pz_dlL55 (1268, .aload_n 2, 1, 1269, []) (List.mem_of_getElem? (i := 6) rfl)) rfl (lv_at hl 2 rfl) ?_
  refine pz_la Y hX hbl hbA hL (i := i) (k := 1) (by first | decide | omega) hl hS (show decode code 1269 = .ok (.aload_n 0, 1) from pz_dlL55 (1269, .aload_n 0, 1, 1270, []) (List.mem_of_getElem? (i := 7) rfl)) (show decode code 1270 = .ok (.iload_n 3, 1) from pz_dlL55 (1270, .iload_n 3, 1, 1271, []) (List.mem_of_getElem? (i := 8) rfl)) (show decode code 1271 = .ok (.iconst 1, 1) from pz_dlL55 (1271, .iconst 1, 1, 1272, []) (List.mem_of_getElem? (i := 9) rfl)) (show decode code 1272 = .ok (.iadd, 1) from pz_dlL55 (1272, .iadd, 1, 1273, []) (List.mem_of_getElem? (i := 10) rfl)) (show decode code 1273 = .ok (.iaload, 1) from pz_dlL55 (1273, .iaload, 1, 1274, []) (List.mem_of_getElem? (i := 11) rfl)) ?_
  refine pz_la Y hX hbl hbA hL (i := i) (k := 2) (by first | decide | omega) hl hS (show decode code 1274 = .ok (.aload_n 0, 1) from pz_dlL55 (1274, .aload_n 0, 1, 1275, []) (List.mem_of_getElem? (i := 12) rfl)) (show decode code 1275 = .ok (.iload_n 3, 1) from pz_dlL55 (1275, .iload_n 3, 1, 1276, []) (List.mem_of_getElem? (i := 13) rfl)) (show decode code 1276 = .ok (.iconst 2, 1) from pz_dlL55 (1276, .iconst 2, 1, 1277, []) (List.mem_of_getElem? (i := 14) rfl)) (show decode code 1277 = .ok (.iadd, 1) from pz_dlL55 (1277, .iadd, 1, 1278, []) (List.mem_of_getElem? (i := 15) rfl)) (show decode code 1278 = .ok (.iaload, 1) from pz_dlL56 (1278, .iaload, 1, 1279, []) (List.mem_of_getElem? (i := 0) rfl)) ?_
  refine pz_crV Y hcs (v4_X12_split (Nat.le_of_ble_eq_true rfl) (Nat.le_of_ble_eq_true rfl) pz_wq1652) H1264 locs1264 ls M1264 [.inr (.inr (12, 1)), .inl (xs (i + 1)).toInt, .inl (xs (i + 2)).toInt] [] 1279 (show decode code 1279 = .ok (.invokevirtual 156, 3) from pz_dlL56 (1279, .invokevirtual 156, 3, 1282, []) (List.mem_of_getElem? (i := 1) rfl)) hP hS hM ?_ hl.1 rfl (Nat.le_of_ble_eq_true rfl) (hJ) (fun r1279 M1279 H1279 locs1279 hq hr hP hS hM => ?_)
  · skip
    exact (List.forall_mem_cons.mpr ⟨(show pz_kd 1 = 12 ∧ 1 < 231 from by decide), (List.forall_mem_cons.mpr ⟨(pz_tc _), (List.forall_mem_cons.mpr ⟨(pz_tc _), List.forall_mem_nil _⟩)⟩)⟩)
  obtain ⟨w1279, rfl, C1279⟩ := hr
  have hq : _ ∧ _ := hq
  obtain ⟨q1279, z1279⟩ := hq
  have hR : pz_RZ M1279 := pz_RZ_v hR z1279
  have hI : pz_ic M1279 := pz_ic_cg (fun b j q => z1279.2 b j (by unfold pz_QV; unfold pz_mid at q; omega)) hI
  have hJ : pz_im M1279 := z1279.1 hJ
  refine lv_pop hx hb (show decode code 1282 = .ok (.pop, 1) from pz_dlL56 (1282, .pop, 1, 1283, []) (List.mem_of_getElem? (i := 2) rfl)) rfl ?_
  refine lv_goto (tgt := 1407) hx hb (show decode code 1283 = .ok (.goto 124, 3) from pz_dlL56 (1283, .goto 124, 3, 1286, [1407]) (List.mem_of_getElem? (i := 3) rfl)) (by decide) ?_
  have hR : pz_R M1279 := by
    exact hR
  exact K _ _ _ hI hJ hR hP hS hM
set_option maxRecDepth 100000 in
set_option maxHeartbeats 4000000 in
theorem pz_case34 (Y : pz_Y p s m #[Value.ref b] c code R_law 4 D ad adV cy A) (hcs : cells ≤ room_1.cells ∧ slots ≤ room_1.slots) (hX : va_X b L xs s s.heap) (hbl : b < s.heap.size) (hbA : ¬ A b) (hL : L ≤ 3072) {i : Nat} (hi : i + 6 ≤ L) {H : Heap} {locs : List Loc} {ls : Array Slot} {M : pz_M} (hl : lv_has ls 4 [(0, .ref b), (1, .ref (ad 0)), (2, .ref (ad 1)), (3, .int (Int32.ofNat i))]) (hP : va_P D vwCl (pz_ws ad cy M) H) (hS : va_S A s.heap H locs) (hM : ∀ a k : Nat, pz_c (M a k)) (hI : pz_ic M) (hJ : pz_im M) (hR : pz_R M) (K : ∀ (M9 : pz_M) (H9 : Heap) (locs9 : List Loc), pz_ic M9 → pz_im M9 → pz_R M9 → va_P D vwCl (pz_ws ad cy M9) H9 → va_S A s.heap H9 locs9 → (∀ a k : Nat, pz_c (M9 a k)) → W p l e room_1 s m #[Value.ref b] below meth c H9 locs9 cells slots Q (F0 m 1407 ls [])) : W p l e room_1 s m #[Value.ref b] below meth c H locs cells slots Q (F0 m 1286 ls []) := by
  obtain ⟨hx, hb, hml, hown, hts, hXX⟩ := id Y
  refine lv_aload_n hx hb (k := 1) (show decode code 1286 = .ok (.aload_n 1, 1) from pz_dlL56 (1286, .aload_n 1, 1, 1287, []) (List.mem_of_getElem? (i := 4) rfl)) rfl (lv_at hl 1 rfl) ?_
  refine pz_la Y hX hbl hbA hL (i := i) (k := 1) (by first | decide | omega) hl hS (show decode code 1287 = .ok (.aload_n 0, 1) from pz_dlL56 (1287, .aload_n 0, 1, 1288, []) (List.mem_of_getElem? (i := 5) rfl)) (show decode code 1288 = .ok (.iload_n 3, 1) from pz_dlL56 (1288, .iload_n 3, 1, 1289, []) (List.mem_of_getElem? (i := 6) rfl)) (show decode code 1289 = .ok (.iconst 1, 1) from pz_dlL56 (1289, .iconst 1, 1, 1290, []) (List.mem_of_getElem? (i := 7) rfl)) (show decode code 1290 = .ok (.iadd, 1) from pz_dlL56 (1290, .iadd, 1, 1291, []) (List.mem_of_getElem? (i := 8) rfl)) (show decode code 1291 = .ok (.iaload, 1) from pz_dlL56 (1291, .iaload, 1, 1292, []) (List.mem_of_getElem? (i := 9) rfl)) ?_
  refine pz_crV Y hcs (v3_X11_gap (Nat.le_of_ble_eq_true rfl) (Nat.le_of_ble_eq_true rfl) pz_wq1081) H locs ls M [.inr (.inr (11, 0)), .inl (xs (i + 1)).toInt] [] 1292 (show decode code 1292 = .ok (.invokevirtual 157, 3) from pz_dlL56 (1292, .invokevirtual 157, 3, 1295, []) (List.mem_of_getElem? (i := 10) rfl)) hP hS hM ?_ hl.1 rfl (Nat.le_of_ble_eq_true rfl) (hI) (fun r1292 M1292 H1292 locs1292 hq hr hP hS hM => ?_)
  · skip
    exact (List.forall_mem_cons.mpr ⟨(show pz_kd 0 = 11 ∧ 0 < 231 from by decide), (List.forall_mem_cons.mpr ⟨(pz_tc _), List.forall_mem_nil _⟩)⟩)
  obtain ⟨w1292, rfl, C1292⟩ := hr
  have hq : _ ∧ _ := hq
  obtain ⟨q1292, z1292⟩ := hq
  subst z1292
  refine lv_pop hx hb (show decode code 1295 = .ok (.pop, 1) from pz_dlL56 (1295, .pop, 1, 1296, []) (List.mem_of_getElem? (i := 11) rfl)) rfl ?_
  refine lv_aload_n hx hb (k := 2) (show decode code 1296 = .ok (.aload_n 2, 1) from pz_dlL56 (1296, .aload_n 2, 1, 1297, []) (List.mem_of_getElem? (i := 12) rfl)) rfl (lv_at hl 2 rfl) ?_
  refine pz_la Y hX hbl hbA hL (i := i) (k := 1) (by first | decide | omega) hl hS (show decode code 1297 = .ok (.aload_n 0, 1) from pz_dlL56 (1297, .aload_n 0, 1, 1298, []) (List.mem_of_getElem? (i := 13) rfl)) (show decode code 1298 = .ok (.iload_n 3, 1) from pz_dlL56 (1298, .iload_n 3, 1, 1299, []) (List.mem_of_getElem? (i := 14) rfl)) (show decode code 1299 = .ok (.iconst 1, 1) from pz_dlL56 (1299, .iconst 1, 1, 1300, []) (List.mem_of_getElem? (i := 15) rfl)) (show decode code 1300 = .ok (.iadd, 1) from pz_dlL57 (1300, .iadd, 1, 1301, []) (List.mem_of_getElem? (i := 0) rfl)) (show decode code 1301 = .ok (.iaload, 1) from pz_dlL57 (1301, .iaload, 1, 1302, []) (List.mem_of_getElem? (i := 1) rfl)) ?_
  refine pz_crV Y hcs (v3_X12_gap (Nat.le_of_ble_eq_true rfl) (Nat.le_of_ble_eq_true rfl) pz_wq1700) H1292 locs1292 ls M [.inr (.inr (12, 1)), .inl (xs (i + 1)).toInt] [] 1302 (show decode code 1302 = .ok (.invokevirtual 160, 3) from pz_dlL57 (1302, .invokevirtual 160, 3, 1305, []) (List.mem_of_getElem? (i := 2) rfl)) hP hS hM ?_ hl.1 rfl (Nat.le_of_ble_eq_true rfl) (hJ) (fun r1302 M1302 H1302 locs1302 hq hr hP hS hM => ?_)
  · skip
    exact (List.forall_mem_cons.mpr ⟨(show pz_kd 1 = 12 ∧ 1 < 231 from by decide), (List.forall_mem_cons.mpr ⟨(pz_tc _), List.forall_mem_nil _⟩)⟩)
  obtain ⟨w1302, rfl, C1302⟩ := hr
  have hq : _ ∧ _ := hq
  obtain ⟨q1302, z1302⟩ := hq
  subst z1302
  refine lv_pop hx hb (show decode code 1305 = .ok (.pop, 1) from pz_dlL57 (1305, .pop, 1, 1306, []) (List.mem_of_getElem? (i := 3) rfl)) rfl ?_
  refine lv_goto (tgt := 1407) hx hb (show decode code 1306 = .ok (.goto 101, 3) from pz_dlL57 (1306, .goto 101, 3, 1309, [1407]) (List.mem_of_getElem? (i := 4) rfl)) (by decide) ?_
  have hR : pz_R M := by
    exact hR
  exact K _ _ _ hI hJ hR hP hS hM
set_option maxRecDepth 100000 in
set_option maxHeartbeats 4000000 in
theorem pz_case35 (Y : pz_Y p s m #[Value.ref b] c code R_law 4 D ad adV cy A) (hcs : cells ≤ room_1.cells ∧ slots ≤ room_1.slots) (hX : va_X b L xs s s.heap) (hbl : b < s.heap.size) (hbA : ¬ A b) (hL : L ≤ 3072) {i : Nat} (hi : i + 6 ≤ L) {H : Heap} {locs : List Loc} {ls : Array Slot} {M : pz_M} (hl : lv_has ls 4 [(0, .ref b), (1, .ref (ad 0)), (2, .ref (ad 1)), (3, .int (Int32.ofNat i))]) (hP : va_P D vwCl (pz_ws ad cy M) H) (hS : va_S A s.heap H locs) (hM : ∀ a k : Nat, pz_c (M a k)) (hI : pz_ic M) (hJ : pz_im M) (hR : pz_R M) (K : ∀ (M9 : pz_M) (H9 : Heap) (locs9 : List Loc), pz_ic M9 → pz_im M9 → pz_R M9 → va_P D vwCl (pz_ws ad cy M9) H9 → va_S A s.heap H9 locs9 → (∀ a k : Nat, pz_c (M9 a k)) → W p l e room_1 s m #[Value.ref b] below meth c H9 locs9 cells slots Q (F0 m 1407 ls [])) : W p l e room_1 s m #[Value.ref b] below meth c H locs cells slots Q (F0 m 1309 ls []) := by
  obtain ⟨hx, hb, hml, hown, hts, hXX⟩ := id Y
  refine lv_aload_n hx hb (k := 1) (show decode code 1309 = .ok (.aload_n 1, 1) from pz_dlL57 (1309, .aload_n 1, 1, 1310, []) (List.mem_of_getElem? (i := 5) rfl)) rfl (lv_at hl 1 rfl) ?_
  refine pz_la Y hX hbl hbA hL (i := i) (k := 1) (by first | decide | omega) hl hS (show decode code 1310 = .ok (.aload_n 0, 1) from pz_dlL57 (1310, .aload_n 0, 1, 1311, []) (List.mem_of_getElem? (i := 6) rfl)) (show decode code 1311 = .ok (.iload_n 3, 1) from pz_dlL57 (1311, .iload_n 3, 1, 1312, []) (List.mem_of_getElem? (i := 7) rfl)) (show decode code 1312 = .ok (.iconst 1, 1) from pz_dlL57 (1312, .iconst 1, 1, 1313, []) (List.mem_of_getElem? (i := 8) rfl)) (show decode code 1313 = .ok (.iadd, 1) from pz_dlL57 (1313, .iadd, 1, 1314, []) (List.mem_of_getElem? (i := 9) rfl)) (show decode code 1314 = .ok (.iaload, 1) from pz_dlL57 (1314, .iaload, 1, 1315, []) (List.mem_of_getElem? (i := 10) rfl)) ?_
  refine pz_crV Y hcs (v3_X11_runs (Nat.le_of_ble_eq_true rfl) (Nat.le_of_ble_eq_true rfl) pz_wq1086) H locs ls M [.inr (.inr (11, 0)), .inl (xs (i + 1)).toInt] [] 1315 (show decode code 1315 = .ok (.invokevirtual 161, 3) from pz_dlL57 (1315, .invokevirtual 161, 3, 1318, []) (List.mem_of_getElem? (i := 11) rfl)) hP hS hM ?_ hl.1 rfl (Nat.le_of_ble_eq_true rfl) (hI) (fun r1315 M1315 H1315 locs1315 hq hr hP hS hM => ?_)
  · skip
    exact (List.forall_mem_cons.mpr ⟨(show pz_kd 0 = 11 ∧ 0 < 231 from by decide), (List.forall_mem_cons.mpr ⟨(pz_tc _), List.forall_mem_nil _⟩)⟩)
  obtain ⟨w1315, rfl, C1315⟩ := hr
  have hq : _ ∧ _ := hq
  obtain ⟨q1315, z1315⟩ := hq
  subst z1315
  refine lv_pop hx hb (show decode code 1318 = .ok (.pop, 1) from pz_dlL57 (1318, .pop, 1, 1319, []) (List.mem_of_getElem? (i := 12) rfl)) rfl ?_
  refine lv_aload_n hx hb (k := 2) (show decode code 1319 = .ok (.aload_n 2, 1) from pz_dlL57 (1319, .aload_n 2, 1, 1320, []) (List.mem_of_getElem? (i := 13) rfl)) rfl (lv_at hl 2 rfl) ?_
  refine pz_la Y hX hbl hbA hL (i := i) (k := 1) (by first | decide | omega) hl hS (show decode code 1320 = .ok (.aload_n 0, 1) from pz_dlL57 (1320, .aload_n 0, 1, 1321, []) (List.mem_of_getElem? (i := 14) rfl)) (show decode code 1321 = .ok (.iload_n 3, 1) from pz_dlL57 (1321, .iload_n 3, 1, 1322, []) (List.mem_of_getElem? (i := 15) rfl)) (show decode code 1322 = .ok (.iconst 1, 1) from pz_dlL58 (1322, .iconst 1, 1, 1323, []) (List.mem_of_getElem? (i := 0) rfl)) (show decode code 1323 = .ok (.iadd, 1) from pz_dlL58 (1323, .iadd, 1, 1324, []) (List.mem_of_getElem? (i := 1) rfl)) (show decode code 1324 = .ok (.iaload, 1) from pz_dlL58 (1324, .iaload, 1, 1325, []) (List.mem_of_getElem? (i := 2) rfl)) ?_
  refine pz_crV Y hcs (v3_X12_runs (Nat.le_of_ble_eq_true rfl) (Nat.le_of_ble_eq_true rfl) pz_wq1704) H1315 locs1315 ls M [.inr (.inr (12, 1)), .inl (xs (i + 1)).toInt] [] 1325 (show decode code 1325 = .ok (.invokevirtual 164, 3) from pz_dlL58 (1325, .invokevirtual 164, 3, 1328, []) (List.mem_of_getElem? (i := 3) rfl)) hP hS hM ?_ hl.1 rfl (Nat.le_of_ble_eq_true rfl) (hJ) (fun r1325 M1325 H1325 locs1325 hq hr hP hS hM => ?_)
  · skip
    exact (List.forall_mem_cons.mpr ⟨(show pz_kd 1 = 12 ∧ 1 < 231 from by decide), (List.forall_mem_cons.mpr ⟨(pz_tc _), List.forall_mem_nil _⟩)⟩)
  obtain ⟨w1325, rfl, C1325⟩ := hr
  have hq : _ ∧ _ := hq
  obtain ⟨q1325, z1325⟩ := hq
  subst z1325
  refine lv_pop hx hb (show decode code 1328 = .ok (.pop, 1) from pz_dlL58 (1328, .pop, 1, 1329, []) (List.mem_of_getElem? (i := 4) rfl)) rfl ?_
  refine lv_goto (tgt := 1407) hx hb (show decode code 1329 = .ok (.goto 78, 3) from pz_dlL58 (1329, .goto 78, 3, 1332, [1407]) (List.mem_of_getElem? (i := 5) rfl)) (by decide) ?_
  have hR : pz_R M := by
    exact hR
  exact K _ _ _ hI hJ hR hP hS hM
set_option maxRecDepth 100000 in
set_option maxHeartbeats 4000000 in
theorem pz_case36 (Y : pz_Y p s m #[Value.ref b] c code R_law 4 D ad adV cy A) (hcs : cells ≤ room_1.cells ∧ slots ≤ room_1.slots) (hX : va_X b L xs s s.heap) (hbl : b < s.heap.size) (hbA : ¬ A b) (hL : L ≤ 3072) {i : Nat} (hi : i + 6 ≤ L) {H : Heap} {locs : List Loc} {ls : Array Slot} {M : pz_M} (hl : lv_has ls 4 [(0, .ref b), (1, .ref (ad 0)), (2, .ref (ad 1)), (3, .int (Int32.ofNat i))]) (hP : va_P D vwCl (pz_ws ad cy M) H) (hS : va_S A s.heap H locs) (hM : ∀ a k : Nat, pz_c (M a k)) (hI : pz_ic M) (hJ : pz_im M) (hR : pz_R M) (K : ∀ (M9 : pz_M) (H9 : Heap) (locs9 : List Loc), pz_ic M9 → pz_im M9 → pz_R M9 → va_P D vwCl (pz_ws ad cy M9) H9 → va_S A s.heap H9 locs9 → (∀ a k : Nat, pz_c (M9 a k)) → W p l e room_1 s m #[Value.ref b] below meth c H9 locs9 cells slots Q (F0 m 1407 ls [])) : W p l e room_1 s m #[Value.ref b] below meth c H locs cells slots Q (F0 m 1332 ls []) := by
  obtain ⟨hx, hb, hml, hown, hts, hXX⟩ := id Y
  refine lv_aload_n hx hb (k := 1) (show decode code 1332 = .ok (.aload_n 1, 1) from pz_dlL58 (1332, .aload_n 1, 1, 1333, []) (List.mem_of_getElem? (i := 6) rfl)) rfl (lv_at hl 1 rfl) ?_
  refine pz_crV Y hcs (v_X11_undo (Nat.le_of_ble_eq_true rfl) (Nat.le_of_ble_eq_true rfl) pz_wq1090) H locs ls M [.inr (.inr (11, 0))] [] 1333 (show decode code 1333 = .ok (.invokevirtual 165, 3) from pz_dlL58 (1333, .invokevirtual 165, 3, 1336, []) (List.mem_of_getElem? (i := 7) rfl)) hP hS hM ?_ hl.1 rfl (Nat.le_of_ble_eq_true rfl) (hI) (fun r1333 M1333 H1333 locs1333 hq hr hP hS hM => ?_)
  · skip
    exact (List.forall_mem_cons.mpr ⟨(show pz_kd 0 = 11 ∧ 0 < 231 from by decide), List.forall_mem_nil _⟩)
  obtain ⟨w1333, rfl, C1333⟩ := hr
  have hq : _ ∧ _ := hq
  obtain ⟨q1333, z1333⟩ := hq
  have hI8 := hI
  have hR8 : pz_RZ M := hR
  have hJ : pz_im M1333 := pz_im_cg (fun b j q => z1333.1.2.1 b j (Or.inl q)) hJ
  have hI : pz_ic M1333 := z1333.1.1 hI
  refine lv_pop hx hb (show decode code 1336 = .ok (.pop, 1) from pz_dlL58 (1336, .pop, 1, 1337, []) (List.mem_of_getElem? (i := 8) rfl)) rfl ?_
  refine lv_aload_n hx hb (k := 2) (show decode code 1337 = .ok (.aload_n 2, 1) from pz_dlL58 (1337, .aload_n 2, 1, 1338, []) (List.mem_of_getElem? (i := 9) rfl)) rfl (lv_at hl 2 rfl) ?_
  refine pz_crV Y hcs (v3_X12_undo (Nat.le_of_ble_eq_true rfl) (Nat.le_of_ble_eq_true rfl) pz_wq1403) H1333 locs1333 ls M1333 [.inr (.inr (12, 1))] [] 1338 (show decode code 1338 = .ok (.invokevirtual 169, 3) from pz_dlL58 (1338, .invokevirtual 169, 3, 1341, []) (List.mem_of_getElem? (i := 10) rfl)) hP hS hM ?_ hl.1 rfl (Nat.le_of_ble_eq_true rfl) (hJ) (fun r1338 M1338 H1338 locs1338 hq hr hP hS hM => ?_)
  · skip
    exact (List.forall_mem_cons.mpr ⟨(show pz_kd 1 = 12 ∧ 1 < 231 from by decide), List.forall_mem_nil _⟩)
  obtain ⟨w1338, rfl, C1338⟩ := hr
  have hq : _ ∧ _ := hq
  obtain ⟨q1338, z1338⟩ := hq
  obtain ⟨E8, hR⟩ := pz_RZ_undo hI8 hR8 q1333 z1333 q1338 z1338
  have hI : pz_ic M1338 := pz_ic_cg (fun b j q => z1338.2 b j (by unfold pz_QK; unfold pz_mid at q; omega)) hI
  have hJ : pz_im M1338 := z1338.1 hJ
  refine lv_pop hx hb (show decode code 1341 = .ok (.pop, 1) from pz_dlL58 (1341, .pop, 1, 1342, []) (List.mem_of_getElem? (i := 11) rfl)) rfl ?_
  refine lv_goto (tgt := 1407) hx hb (show decode code 1342 = .ok (.goto 65, 3) from pz_dlL58 (1342, .goto 65, 3, 1345, [1407]) (List.mem_of_getElem? (i := 12) rfl)) (by decide) ?_
  have hR : pz_R M1338 := by
    exact hR
  exact K _ _ _ hI hJ hR hP hS hM
set_option maxRecDepth 100000 in
set_option maxHeartbeats 4000000 in
theorem pz_case37 (Y : pz_Y p s m #[Value.ref b] c code R_law 4 D ad adV cy A) (hcs : cells ≤ room_1.cells ∧ slots ≤ room_1.slots) (hX : va_X b L xs s s.heap) (hbl : b < s.heap.size) (hbA : ¬ A b) (hL : L ≤ 3072) {i : Nat} (hi : i + 6 ≤ L) {H : Heap} {locs : List Loc} {ls : Array Slot} {M : pz_M} (hl : lv_has ls 4 [(0, .ref b), (1, .ref (ad 0)), (2, .ref (ad 1)), (3, .int (Int32.ofNat i))]) (hP : va_P D vwCl (pz_ws ad cy M) H) (hS : va_S A s.heap H locs) (hM : ∀ a k : Nat, pz_c (M a k)) (hI : pz_ic M) (hJ : pz_im M) (hR : pz_R M) (K : ∀ (M9 : pz_M) (H9 : Heap) (locs9 : List Loc), pz_ic M9 → pz_im M9 → pz_R M9 → va_P D vwCl (pz_ws ad cy M9) H9 → va_S A s.heap H9 locs9 → (∀ a k : Nat, pz_c (M9 a k)) → W p l e room_1 s m #[Value.ref b] below meth c H9 locs9 cells slots Q (F0 m 1407 ls [])) : W p l e room_1 s m #[Value.ref b] below meth c H locs cells slots Q (F0 m 1345 ls []) := by
  obtain ⟨hx, hb, hml, hown, hts, hXX⟩ := id Y
  refine lv_aload_n hx hb (k := 1) (show decode code 1345 = .ok (.aload_n 1, 1) from pz_dlL58 (1345, .aload_n 1, 1, 1346, []) (List.mem_of_getElem? (i := 13) rfl)) rfl (lv_at hl 1 rfl) ?_
  refine pz_la Y hX hbl hbA hL (i := i) (k := 1) (by first | decide | omega) hl hS (show decode code 1346 = .ok (.aload_n 0, 1) from pz_dlL58 (1346, .aload_n 0, 1, 1347, []) (List.mem_of_getElem? (i := 14) rfl)) (show decode code 1347 = .ok (.iload_n 3, 1) from pz_dlL58 (1347, .iload_n 3, 1, 1348, []) (List.mem_of_getElem? (i := 15) rfl)) (show decode code 1348 = .ok (.iconst 1, 1) from pz_dlL59 (1348, .iconst 1, 1, 1349, []) (List.mem_of_getElem? (i := 0) rfl)) (show decode code 1349 = .ok (.iadd, 1) from pz_dlL59 (1349, .iadd, 1, 1350, []) (List.mem_of_getElem? (i := 1) rfl)) (show decode code 1350 = .ok (.iaload, 1) from pz_dlL59 (1350, .iaload, 1, 1351, []) (List.mem_of_getElem? (i := 2) rfl)) ?_
  refine lv_if_eq (tgt := 1358) hx hb (show decode code 1351 = .ok (.ifCond .eq 7, 3) from pz_dlL59 (1351, .ifCond .eq 7, 3, 1354, [1358]) (List.mem_of_getElem? (i := 3) rfl)) (by decide) (fun g1351 => ?_) (fun g1351 => ?_)
  · skip
    refine lv_iconst hx hb (v := Int32.ofInt 0) (show decode code 1358 = .ok (.iconst 0, 1) from pz_dlL59 (1358, .iconst 0, 1, 1359, []) (List.mem_of_getElem? (i := 6) rfl)) rfl ?_
    refine pz_crV Y hcs (v3_X11_image (Nat.le_of_ble_eq_true rfl) (Nat.le_of_ble_eq_true rfl) pz_wq1098) H locs ls M [.inr (.inr (11, 0)), .inl 0] [] 1359 (show decode code 1359 = .ok (.invokevirtual 170, 3) from pz_dlL59 (1359, .invokevirtual 170, 3, 1362, []) (List.mem_of_getElem? (i := 7) rfl)) hP hS hM ?_ hl.1 rfl (Nat.le_of_ble_eq_true rfl) (hI) (fun r1359 M1359 H1359 locs1359 hq hr hP hS hM => ?_)
    · skip
      exact (List.forall_mem_cons.mpr ⟨(show pz_kd 0 = 11 ∧ 0 < 231 from by decide), (List.forall_mem_cons.mpr ⟨(show pz_c _ from by unfold pz_c; omega), List.forall_mem_nil _⟩)⟩)
    obtain ⟨w1359, rfl, C1359⟩ := hr
    have hq : _ ∧ _ := hq
    obtain ⟨q1359, z1359⟩ := hq
    have hI8 := hI
    have hR8 : pz_RZ M := hR
    have hJ : pz_im M1359 := pz_im_cg (pz_img_mid (pz_img_x q1359.1)) hJ
    have hI : pz_ic M1359 := z1359 hI
    refine lv_pop hx hb (show decode code 1362 = .ok (.pop, 1) from pz_dlL59 (1362, .pop, 1, 1363, []) (List.mem_of_getElem? (i := 8) rfl)) rfl ?_
    refine lv_aload_n hx hb (k := 2) (show decode code 1363 = .ok (.aload_n 2, 1) from pz_dlL59 (1363, .aload_n 2, 1, 1364, []) (List.mem_of_getElem? (i := 9) rfl)) rfl (lv_at hl 2 rfl) ?_
    refine pz_la Y hX hbl hbA hL (i := i) (k := 1) (by first | decide | omega) hl hS (show decode code 1364 = .ok (.aload_n 0, 1) from pz_dlL59 (1364, .aload_n 0, 1, 1365, []) (List.mem_of_getElem? (i := 10) rfl)) (show decode code 1365 = .ok (.iload_n 3, 1) from pz_dlL59 (1365, .iload_n 3, 1, 1366, []) (List.mem_of_getElem? (i := 11) rfl)) (show decode code 1366 = .ok (.iconst 1, 1) from pz_dlL59 (1366, .iconst 1, 1, 1367, []) (List.mem_of_getElem? (i := 12) rfl)) (show decode code 1367 = .ok (.iadd, 1) from pz_dlL59 (1367, .iadd, 1, 1368, []) (List.mem_of_getElem? (i := 13) rfl)) (show decode code 1368 = .ok (.iaload, 1) from pz_dlL59 (1368, .iaload, 1, 1369, []) (List.mem_of_getElem? (i := 14) rfl)) ?_
    refine lv_if_eq (tgt := 1376) hx hb (show decode code 1369 = .ok (.ifCond .eq 7, 3) from pz_dlL59 (1369, .ifCond .eq 7, 3, 1372, [1376]) (List.mem_of_getElem? (i := 15) rfl)) (by decide) (fun g1369 => ?_) (fun g1369 => ?_)
    · skip
      refine lv_iconst hx hb (v := Int32.ofInt 0) (show decode code 1376 = .ok (.iconst 0, 1) from pz_dlL60 (1376, .iconst 0, 1, 1377, []) (List.mem_of_getElem? (i := 2) rfl)) rfl ?_
      refine pz_crV Y hcs (v3_X12_image (Nat.le_of_ble_eq_true rfl) (Nat.le_of_ble_eq_true rfl) pz_wq1757) H1359 locs1359 ls M1359 [.inr (.inr (12, 1)), .inl 0] [] 1377 (show decode code 1377 = .ok (.invokevirtual 174, 3) from pz_dlL60 (1377, .invokevirtual 174, 3, 1380, []) (List.mem_of_getElem? (i := 3) rfl)) hP hS hM ?_ hl.1 rfl (Nat.le_of_ble_eq_true rfl) (hJ) (fun r1377 M1377 H1377 locs1377 hq hr hP hS hM => ?_)
      · skip
        exact (List.forall_mem_cons.mpr ⟨(show pz_kd 1 = 12 ∧ 1 < 231 from by decide), (List.forall_mem_cons.mpr ⟨(show pz_c _ from by unfold pz_c; omega), List.forall_mem_nil _⟩)⟩)
      obtain ⟨w1377, rfl, C1377⟩ := hr
      have hq : _ ∧ _ := hq
      obtain ⟨q1377, z1377⟩ := hq
      obtain ⟨E8, hR⟩ := pz_RZ_image hI8 hR8 q1359 q1377 z1377
      have hI : pz_ic M1377 := pz_ic_cg (fun b j q => z1377.2 b j (by unfold pz_QI; unfold pz_mid at q; omega)) hI
      have hJ : pz_im M1377 := z1377.1 hJ
      refine lv_pop hx hb (show decode code 1380 = .ok (.pop, 1) from pz_dlL60 (1380, .pop, 1, 1381, []) (List.mem_of_getElem? (i := 4) rfl)) rfl ?_
      refine lv_goto (tgt := 1407) hx hb (show decode code 1381 = .ok (.goto 26, 3) from pz_dlL60 (1381, .goto 26, 3, 1384, [1407]) (List.mem_of_getElem? (i := 5) rfl)) (by decide) ?_
      have hR : pz_R M1377 := by
        exact hR
      exact K _ _ _ hI hJ hR hP hS hM
    · skip
      exact absurd g1351 g1369
  · skip
    refine lv_iconst hx hb (v := Int32.ofInt 1) (show decode code 1354 = .ok (.iconst 1, 1) from pz_dlL59 (1354, .iconst 1, 1, 1355, []) (List.mem_of_getElem? (i := 4) rfl)) rfl ?_
    refine lv_goto (tgt := 1359) hx hb (show decode code 1355 = .ok (.goto 4, 3) from pz_dlL59 (1355, .goto 4, 3, 1358, [1359]) (List.mem_of_getElem? (i := 5) rfl)) (by decide) ?_
    refine pz_crV Y hcs (v3_X11_image (Nat.le_of_ble_eq_true rfl) (Nat.le_of_ble_eq_true rfl) pz_wq1098) H locs ls M [.inr (.inr (11, 0)), .inl 1] [] 1359 (show decode code 1359 = .ok (.invokevirtual 170, 3) from pz_dlL59 (1359, .invokevirtual 170, 3, 1362, []) (List.mem_of_getElem? (i := 7) rfl)) hP hS hM ?_ hl.1 rfl (Nat.le_of_ble_eq_true rfl) (hI) (fun r1359 M1359 H1359 locs1359 hq hr hP hS hM => ?_)
    · skip
      exact (List.forall_mem_cons.mpr ⟨(show pz_kd 0 = 11 ∧ 0 < 231 from by decide), (List.forall_mem_cons.mpr ⟨(show pz_c _ from by unfold pz_c; omega), List.forall_mem_nil _⟩)⟩)
    obtain ⟨w1359, rfl, C1359⟩ := hr
    have hq : _ ∧ _ := hq
    obtain ⟨q1359, z1359⟩ := hq
    have hI8 := hI
    have hR8 : pz_RZ M := hR
    have hJ : pz_im M1359 := pz_im_cg (pz_img_mid (pz_img_x q1359.1)) hJ
    have hI : pz_ic M1359 := z1359 hI
    refine lv_pop hx hb (show decode code 1362 = .ok (.pop, 1) from pz_dlL59 (1362, .pop, 1, 1363, []) (List.mem_of_getElem? (i := 8) rfl)) rfl ?_
    refine lv_aload_n hx hb (k := 2) (show decode code 1363 = .ok (.aload_n 2, 1) from pz_dlL59 (1363, .aload_n 2, 1, 1364, []) (List.mem_of_getElem? (i := 9) rfl)) rfl (lv_at hl 2 rfl) ?_
    refine pz_la Y hX hbl hbA hL (i := i) (k := 1) (by first | decide | omega) hl hS (show decode code 1364 = .ok (.aload_n 0, 1) from pz_dlL59 (1364, .aload_n 0, 1, 1365, []) (List.mem_of_getElem? (i := 10) rfl)) (show decode code 1365 = .ok (.iload_n 3, 1) from pz_dlL59 (1365, .iload_n 3, 1, 1366, []) (List.mem_of_getElem? (i := 11) rfl)) (show decode code 1366 = .ok (.iconst 1, 1) from pz_dlL59 (1366, .iconst 1, 1, 1367, []) (List.mem_of_getElem? (i := 12) rfl)) (show decode code 1367 = .ok (.iadd, 1) from pz_dlL59 (1367, .iadd, 1, 1368, []) (List.mem_of_getElem? (i := 13) rfl)) (show decode code 1368 = .ok (.iaload, 1) from pz_dlL59 (1368, .iaload, 1, 1369, []) (List.mem_of_getElem? (i := 14) rfl)) ?_
    refine lv_if_eq (tgt := 1376) hx hb (show decode code 1369 = .ok (.ifCond .eq 7, 3) from pz_dlL59 (1369, .ifCond .eq 7, 3, 1372, [1376]) (List.mem_of_getElem? (i := 15) rfl)) (by decide) (fun g1369 => ?_) (fun g1369 => ?_)
    · skip
      exact absurd g1369 g1351
    · skip
      refine lv_iconst hx hb (v := Int32.ofInt 1) (show decode code 1372 = .ok (.iconst 1, 1) from pz_dlL60 (1372, .iconst 1, 1, 1373, []) (List.mem_of_getElem? (i := 0) rfl)) rfl ?_
      refine lv_goto (tgt := 1377) hx hb (show decode code 1373 = .ok (.goto 4, 3) from pz_dlL60 (1373, .goto 4, 3, 1376, [1377]) (List.mem_of_getElem? (i := 1) rfl)) (by decide) ?_
      refine pz_crV Y hcs (v3_X12_image (Nat.le_of_ble_eq_true rfl) (Nat.le_of_ble_eq_true rfl) pz_wq1757) H1359 locs1359 ls M1359 [.inr (.inr (12, 1)), .inl 1] [] 1377 (show decode code 1377 = .ok (.invokevirtual 174, 3) from pz_dlL60 (1377, .invokevirtual 174, 3, 1380, []) (List.mem_of_getElem? (i := 3) rfl)) hP hS hM ?_ hl.1 rfl (Nat.le_of_ble_eq_true rfl) (hJ) (fun r1377 M1377 H1377 locs1377 hq hr hP hS hM => ?_)
      · skip
        exact (List.forall_mem_cons.mpr ⟨(show pz_kd 1 = 12 ∧ 1 < 231 from by decide), (List.forall_mem_cons.mpr ⟨(show pz_c _ from by unfold pz_c; omega), List.forall_mem_nil _⟩)⟩)
      obtain ⟨w1377, rfl, C1377⟩ := hr
      have hq : _ ∧ _ := hq
      obtain ⟨q1377, z1377⟩ := hq
      obtain ⟨E8, hR⟩ := pz_RZ_image hI8 hR8 q1359 q1377 z1377
      have hI : pz_ic M1377 := pz_ic_cg (fun b j q => z1377.2 b j (by unfold pz_QI; unfold pz_mid at q; omega)) hI
      have hJ : pz_im M1377 := z1377.1 hJ
      refine lv_pop hx hb (show decode code 1380 = .ok (.pop, 1) from pz_dlL60 (1380, .pop, 1, 1381, []) (List.mem_of_getElem? (i := 4) rfl)) rfl ?_
      refine lv_goto (tgt := 1407) hx hb (show decode code 1381 = .ok (.goto 26, 3) from pz_dlL60 (1381, .goto 26, 3, 1384, [1407]) (List.mem_of_getElem? (i := 5) rfl)) (by decide) ?_
      have hR : pz_R M1377 := by
        exact hR
      exact K _ _ _ hI hJ hR hP hS hM
set_option maxRecDepth 100000 in
set_option maxHeartbeats 4000000 in
theorem pz_case38 (Y : pz_Y p s m #[Value.ref b] c code R_law 4 D ad adV cy A) (hcs : cells ≤ room_1.cells ∧ slots ≤ room_1.slots) (hX : va_X b L xs s s.heap) (hbl : b < s.heap.size) (hbA : ¬ A b) (hL : L ≤ 3072) {i : Nat} (hi : i + 6 ≤ L) {H : Heap} {locs : List Loc} {ls : Array Slot} {M : pz_M} (hl : lv_has ls 4 [(0, .ref b), (1, .ref (ad 0)), (2, .ref (ad 1)), (3, .int (Int32.ofNat i))]) (hP : va_P D vwCl (pz_ws ad cy M) H) (hS : va_S A s.heap H locs) (hM : ∀ a k : Nat, pz_c (M a k)) (hI : pz_ic M) (hJ : pz_im M) (hR : pz_R M) (K : ∀ (M9 : pz_M) (H9 : Heap) (locs9 : List Loc), pz_ic M9 → pz_im M9 → pz_R M9 → va_P D vwCl (pz_ws ad cy M9) H9 → va_S A s.heap H9 locs9 → (∀ a k : Nat, pz_c (M9 a k)) → W p l e room_1 s m #[Value.ref b] below meth c H9 locs9 cells slots Q (F0 m 1407 ls [])) : W p l e room_1 s m #[Value.ref b] below meth c H locs cells slots Q (F0 m 1384 ls []) := by
  obtain ⟨hx, hb, hml, hown, hts, hXX⟩ := id Y
  refine lv_aload_n hx hb (k := 1) (show decode code 1384 = .ok (.aload_n 1, 1) from pz_dlL60 (1384, .aload_n 1, 1, 1385, []) (List.mem_of_getElem? (i := 6) rfl)) rfl (lv_at hl 1 rfl) ?_
  refine pz_la Y hX hbl hbA hL (i := i) (k := 1) (by first | decide | omega) hl hS (show decode code 1385 = .ok (.aload_n 0, 1) from pz_dlL60 (1385, .aload_n 0, 1, 1386, []) (List.mem_of_getElem? (i := 7) rfl)) (show decode code 1386 = .ok (.iload_n 3, 1) from pz_dlL60 (1386, .iload_n 3, 1, 1387, []) (List.mem_of_getElem? (i := 8) rfl)) (show decode code 1387 = .ok (.iconst 1, 1) from pz_dlL60 (1387, .iconst 1, 1, 1388, []) (List.mem_of_getElem? (i := 9) rfl)) (show decode code 1388 = .ok (.iadd, 1) from pz_dlL60 (1388, .iadd, 1, 1389, []) (List.mem_of_getElem? (i := 10) rfl)) (show decode code 1389 = .ok (.iaload, 1) from pz_dlL60 (1389, .iaload, 1, 1390, []) (List.mem_of_getElem? (i := 11) rfl)) ?_
  refine pz_crV Y hcs (v3_X11_look (Nat.le_of_ble_eq_true rfl) (Nat.le_of_ble_eq_true rfl) pz_wq1109) H locs ls M [.inr (.inr (11, 0)), .inl (xs (i + 1)).toInt] [] 1390 (show decode code 1390 = .ok (.invokevirtual 175, 3) from pz_dlL60 (1390, .invokevirtual 175, 3, 1393, []) (List.mem_of_getElem? (i := 12) rfl)) hP hS hM ?_ hl.1 rfl (Nat.le_of_ble_eq_true rfl) (hI) (fun r1390 M1390 H1390 locs1390 hq hr hP hS hM => ?_)
  · skip
    exact (List.forall_mem_cons.mpr ⟨(show pz_kd 0 = 11 ∧ 0 < 231 from by decide), (List.forall_mem_cons.mpr ⟨(pz_tc _), List.forall_mem_nil _⟩)⟩)
  obtain ⟨w1390, rfl, C1390⟩ := hr
  have hq : _ ∧ _ := hq
  obtain ⟨q1390, z1390⟩ := hq
  subst z1390
  refine lv_pop hx hb (show decode code 1393 = .ok (.pop, 1) from pz_dlL60 (1393, .pop, 1, 1394, []) (List.mem_of_getElem? (i := 13) rfl)) rfl ?_
  refine lv_aload_n hx hb (k := 2) (show decode code 1394 = .ok (.aload_n 2, 1) from pz_dlL60 (1394, .aload_n 2, 1, 1395, []) (List.mem_of_getElem? (i := 14) rfl)) rfl (lv_at hl 2 rfl) ?_
  refine pz_la Y hX hbl hbA hL (i := i) (k := 1) (by first | decide | omega) hl hS (show decode code 1395 = .ok (.aload_n 0, 1) from pz_dlL60 (1395, .aload_n 0, 1, 1396, []) (List.mem_of_getElem? (i := 15) rfl)) (show decode code 1396 = .ok (.iload_n 3, 1) from pz_dlL61 (1396, .iload_n 3, 1, 1397, []) (List.mem_of_getElem? (i := 0) rfl)) (show decode code 1397 = .ok (.iconst 1, 1) from pz_dlL61 (1397, .iconst 1, 1, 1398, []) (List.mem_of_getElem? (i := 1) rfl)) (show decode code 1398 = .ok (.iadd, 1) from pz_dlL61 (1398, .iadd, 1, 1399, []) (List.mem_of_getElem? (i := 2) rfl)) (show decode code 1399 = .ok (.iaload, 1) from pz_dlL61 (1399, .iaload, 1, 1400, []) (List.mem_of_getElem? (i := 3) rfl)) ?_
  refine pz_crV Y hcs (v3_X12_look (Nat.le_of_ble_eq_true rfl) (Nat.le_of_ble_eq_true rfl) pz_wq1761) H1390 locs1390 ls M [.inr (.inr (12, 1)), .inl (xs (i + 1)).toInt] [] 1400 (show decode code 1400 = .ok (.invokevirtual 178, 3) from pz_dlL61 (1400, .invokevirtual 178, 3, 1403, []) (List.mem_of_getElem? (i := 4) rfl)) hP hS hM ?_ hl.1 rfl (Nat.le_of_ble_eq_true rfl) (hJ) (fun r1400 M1400 H1400 locs1400 hq hr hP hS hM => ?_)
  · skip
    exact (List.forall_mem_cons.mpr ⟨(show pz_kd 1 = 12 ∧ 1 < 231 from by decide), (List.forall_mem_cons.mpr ⟨(pz_tc _), List.forall_mem_nil _⟩)⟩)
  obtain ⟨w1400, rfl, C1400⟩ := hr
  have hq : _ ∧ _ := hq
  obtain ⟨q1400, z1400⟩ := hq
  subst z1400
  refine lv_pop hx hb (show decode code 1403 = .ok (.pop, 1) from pz_dlL61 (1403, .pop, 1, 1404, []) (List.mem_of_getElem? (i := 5) rfl)) rfl ?_
  refine lv_goto (tgt := 1407) hx hb (show decode code 1404 = .ok (.goto 3, 3) from pz_dlL61 (1404, .goto 3, 3, 1407, [1407]) (List.mem_of_getElem? (i := 6) rfl)) (by decide) ?_
  have hR : pz_R M := by
    exact hR
  exact K _ _ _ hI hJ hR hP hS hM
end PZL
