/-! the law -/
theorem pz_im_cg {M M' : pz_M} (h : ∀ b j : Nat, pz_mid b → M' b j = M b j) (hI : pz_im M) : pz_im M' := by
  have e1 : M' 1 = M 1 := funext fun j => h 1 j (by unfold pz_mid; omega)
  have e60 : M' 60 = M 60 := funext fun j => h 60 j (by unfold pz_mid; omega)
  have e61 : M' 61 = M 61 := funext fun j => h 61 j (by unfold pz_mid; omega)
  have e62 : M' 62 = M 62 := funext fun j => h 62 j (by unfold pz_mid; omega)
  have e63 : M' 63 = M 63 := funext fun j => h 63 j (by unfold pz_mid; omega)
  unfold pz_im pz_iw pz_ix pz_lw at *
  rw [e1, e60, e61, e62, e63]
  exact hI
theorem pz_ic_cg {M M' : pz_M} (h : ∀ b j : Nat, ¬ pz_mid b → M' b j = M b j) (hI : pz_ic M) : pz_ic M' := by
  obtain ⟨i1, i2, i3, i4, i5, i6⟩ := hI
  refine ⟨fun c q1 q2 => ?_, ?_, fun r q1 q2 => ?_, fun L q1 q2 => ?_, ?_, ?_⟩
  · rw [h c 3 (by unfold pz_mid; omega), h c 7 (by unfold pz_mid; omega)]; exact i1 c q1 q2
  · rw [h 3 1 (by unfold pz_mid; omega)]; exact i2
  · rw [h r 0 (by unfold pz_mid; omega)]; exact i3 r q1 q2
  · rw [h L 0 (by unfold pz_mid; omega), h L 1 (by unfold pz_mid; omega)]; exact i4 L q1 q2
  · rw [h 4 1 (by unfold pz_mid; omega)]; exact i5
  · rw [h 7 3 (by unfold pz_mid; omega)]; exact i6
theorem pz_ix1 {i k : Nat} (h : i + k < 4000) : (Int32.ofNat i + Int32.ofNat k).toNatClampNeg = i + k ∧ ¬ (Int32.ofNat i + Int32.ofNat k < 0) := by
  have e : Int32.ofNat i + Int32.ofNat k = Int32.ofInt ((i + k : Nat) : Int) := by
    rw [← Int32.ofNat_add, Int32.ofInt_eq_ofNat]
  have hc : pz_c ((i + k : Nat) : Int) := by unfold pz_c; omega
  rw [e]
  refine ⟨by rw [pz_clamp hc]; omega, fun q => ?_⟩
  have := (pz_lt hc (show pz_c 0 by unfold pz_c; omega)).mp q
  omega
def pz_R (M : pz_M) : Prop := pz_RZ M
section PZL
variable {p : Program} {l : Launch} {e : Env} {s : State} {m : MethodId} {below : List Frame} {meth : Method} {c : Code} {cells slots : Nat} {Q : State → Prop}
variable {D : va_G} {ad adV : Nat → Nat} {cy : Nat → ClassId} {A : Nat → Prop} {b L : Nat} {xs : Nat → Int32}
/-- an argument is read out of the script -/
theorem pz_la (Y : pz_Y p s m #[Value.ref b] c code R_law 4 D ad adV cy A) (hX : va_X b L xs s s.heap) (hbl : b < s.heap.size) (hbA : ¬ A b) (hL : L ≤ 3072) {i k pc : Nat} (hi : i + k < L) {H : Heap} {locs : List Loc} {ls : Array Slot} {rest : List Value} (hl : lv_has ls 4 [(0, .ref b), (1, .ref (ad 0)), (2, .ref (ad 1)), (3, .int (Int32.ofNat i))]) (hS : va_S A s.heap H locs)
    (d0 : decode code pc = .ok (.aload_n 0, 1)) (d1 : decode code (pc + 1) = .ok (.iload_n 3, 1)) (d2 : decode code (pc + 1 + 1) = .ok (.iconst (k : Int), 1)) (d3 : decode code (pc + 1 + 1 + 1) = .ok (.iadd, 1)) (d4 : decode code (pc + 1 + 1 + 1 + 1) = .ok (.iaload, 1))
    (kk : W p l e room_1 s m #[Value.ref b] below meth c H locs cells slots Q (F0 m (pc + 1 + 1 + 1 + 1 + 1) ls (.int (Int32.ofInt (xs (i + k)).toInt) :: rest))) : W p l e room_1 s m #[Value.ref b] below meth c H locs cells slots Q (F0 m pc ls rest) := by
  obtain ⟨hx, hb, hml, hown, hts, hXX⟩ := Y
  refine lv_aload_n hx hb d0 rfl (lv_at hl 0 rfl) ?_
  refine lv_iload_n hx hb d1 rfl (lv_at hl 3 rfl) ?_
  refine lv_iconst hx hb (v := Int32.ofNat k) d2 (by rw [← Int32.ofInt_eq_ofNat]) ?_
  refine lv_iadd hx hb d3 ?_
  obtain ⟨g1, g2⟩ := pz_ix1 (i := i) (k := k) (by omega)
  refine va_sld hx hb hX hbl hbA hS (fun q => by rcases q with q | q; exact g2 q; rw [g1] at q; omega) d4 ?_
  rw [g1, ← Int32.ofInt_toInt (xs (i + k))]
  rw [Int32.ofInt_toInt] at kk
  rw [Int32.ofInt_toInt]
  exact kk

set_option maxRecDepth 100000 in
set_option maxHeartbeats 4000000 in
theorem pz_case0 (Y : pz_Y p s m #[Value.ref b] c code R_law 4 D ad adV cy A) (hcs : cells ≤ room_1.cells ∧ slots ≤ room_1.slots) (hX : va_X b L xs s s.heap) (hbl : b < s.heap.size) (hbA : ¬ A b) (hL : L ≤ 3072) {i : Nat} (hi : i + 6 ≤ L) {H : Heap} {locs : List Loc} {ls : Array Slot} {M : pz_M} (hl : lv_has ls 4 [(0, .ref b), (1, .ref (ad 0)), (2, .ref (ad 1)), (3, .int (Int32.ofNat i))]) (hP : va_P D vwCl (pz_ws ad cy M) H) (hS : va_S A s.heap H locs) (hM : ∀ a k : Nat, pz_c (M a k)) (hI : pz_ic M) (hJ : pz_im M) (hR : pz_R M) (K : ∀ (M9 : pz_M) (H9 : Heap) (locs9 : List Loc), pz_ic M9 → pz_im M9 → pz_R M9 → va_P D vwCl (pz_ws ad cy M9) H9 → va_S A s.heap H9 locs9 → (∀ a k : Nat, pz_c (M9 a k)) → W p l e room_1 s m #[Value.ref b] below meth c H9 locs9 cells slots Q (F0 m 1407 ls [])) : W p l e room_1 s m #[Value.ref b] below meth c H locs cells slots Q (F0 m 204 ls []) := by
  obtain ⟨hx, hb, hml, hown, hts, hXX⟩ := id Y
  refine lv_aload_n hx hb (k := 1) (show decode code 204 = .ok (.aload_n 1, 1) from by decide +kernel) rfl (lv_at hl 1 rfl) ?_
  refine pz_la Y hX hbl hbA hL (i := i) (k := 1) (by omega) hl hS (show decode code 205 = .ok (.aload_n 0, 1) from by decide +kernel) (show decode code 206 = .ok (.iload_n 3, 1) from by decide +kernel) (show decode code 207 = .ok (.iconst 1, 1) from by decide +kernel) (show decode code 208 = .ok (.iadd, 1) from by decide +kernel) (show decode code 209 = .ok (.iaload, 1) from by decide +kernel) ?_
  refine pz_crV Y hcs (v3_X11_state (Nat.le_of_ble_eq_true rfl) (Nat.le_of_ble_eq_true rfl) pz_wq410) H locs ls M [.inr (.inr (11, 0)), .inl (xs (i + 1)).toInt] [] 210 (show decode code 210 = .ok (.invokevirtual 13, 3) from by decide +kernel) hP hS hM ?_ hl.1 rfl (Nat.le_of_ble_eq_true rfl) (hI) (fun r210 M210 H210 locs210 hq hr hP hS hM => ?_)
  · skip
    exact (List.forall_mem_cons.mpr ⟨(show pz_kd 0 = 11 ∧ 0 < 231 from by decide), (List.forall_mem_cons.mpr ⟨(pz_tc _), List.forall_mem_nil _⟩)⟩)
  obtain ⟨w210, rfl, C210⟩ := hr
  have hq : _ ∧ _ := hq
  obtain ⟨q210, z210⟩ := hq
  have hI8 := hI
  have hR8 : pz_RZ M := hR
  have hJ : pz_im M210 := pz_im_cg (fun b j q => z210.1.2.1 b j (Or.inl q)) hJ
  have hI : pz_ic M210 := z210.1.1 hI
  refine lv_pop hx hb (show decode code 213 = .ok (.pop, 1) from by decide +kernel) rfl ?_
  refine lv_aload_n hx hb (k := 2) (show decode code 214 = .ok (.aload_n 2, 1) from by decide +kernel) rfl (lv_at hl 2 rfl) ?_
  refine pz_la Y hX hbl hbA hL (i := i) (k := 1) (by omega) hl hS (show decode code 215 = .ok (.aload_n 0, 1) from by decide +kernel) (show decode code 216 = .ok (.iload_n 3, 1) from by decide +kernel) (show decode code 217 = .ok (.iconst 1, 1) from by decide +kernel) (show decode code 218 = .ok (.iadd, 1) from by decide +kernel) (show decode code 219 = .ok (.iaload, 1) from by decide +kernel) ?_
  refine pz_crV Y hcs (v3_X12_state (Nat.le_of_ble_eq_true rfl) (Nat.le_of_ble_eq_true rfl) pz_wq1205) H210 locs210 ls M210 [.inr (.inr (12, 1)), .inl (xs (i + 1)).toInt] [] 220 (show decode code 220 = .ok (.invokevirtual 17, 3) from by decide +kernel) hP hS hM ?_ hl.1 rfl (Nat.le_of_ble_eq_true rfl) (hJ) (fun r220 M220 H220 locs220 hq hr hP hS hM => ?_)
  · skip
    exact (List.forall_mem_cons.mpr ⟨(show pz_kd 1 = 12 ∧ 1 < 231 from by decide), (List.forall_mem_cons.mpr ⟨(pz_tc _), List.forall_mem_nil _⟩)⟩)
  obtain ⟨w220, rfl, C220⟩ := hr
  have hq : _ ∧ _ := hq
  obtain ⟨q220, z220⟩ := hq
  obtain ⟨E8, hR⟩ := pz_RZ_state hI8 hR8 q210 z210 q220 z220
  have hI : pz_ic M220 := pz_ic_cg (fun b j q => z220.2 b j (by unfold pz_QX; unfold pz_mid at q; omega)) hI
  have hJ : pz_im M220 := z220.1 hJ
  refine lv_pop hx hb (show decode code 223 = .ok (.pop, 1) from by decide +kernel) rfl ?_
  refine lv_goto (tgt := 1407) hx hb (show decode code 224 = .ok (.goto 1183, 3) from by decide +kernel) (by decide) ?_
  have hR : pz_R M220 := by
    exact hR
  exact K _ _ _ hI hJ hR hP hS hM
set_option maxRecDepth 100000 in
set_option maxHeartbeats 4000000 in
theorem pz_case1 (Y : pz_Y p s m #[Value.ref b] c code R_law 4 D ad adV cy A) (hcs : cells ≤ room_1.cells ∧ slots ≤ room_1.slots) (hX : va_X b L xs s s.heap) (hbl : b < s.heap.size) (hbA : ¬ A b) (hL : L ≤ 3072) {i : Nat} (hi : i + 6 ≤ L) {H : Heap} {locs : List Loc} {ls : Array Slot} {M : pz_M} (hl : lv_has ls 4 [(0, .ref b), (1, .ref (ad 0)), (2, .ref (ad 1)), (3, .int (Int32.ofNat i))]) (hP : va_P D vwCl (pz_ws ad cy M) H) (hS : va_S A s.heap H locs) (hM : ∀ a k : Nat, pz_c (M a k)) (hI : pz_ic M) (hJ : pz_im M) (hR : pz_R M) (K : ∀ (M9 : pz_M) (H9 : Heap) (locs9 : List Loc), pz_ic M9 → pz_im M9 → pz_R M9 → va_P D vwCl (pz_ws ad cy M9) H9 → va_S A s.heap H9 locs9 → (∀ a k : Nat, pz_c (M9 a k)) → W p l e room_1 s m #[Value.ref b] below meth c H9 locs9 cells slots Q (F0 m 1407 ls [])) : W p l e room_1 s m #[Value.ref b] below meth c H locs cells slots Q (F0 m 227 ls []) := by
  obtain ⟨hx, hb, hml, hown, hts, hXX⟩ := id Y
  refine lv_aload_n hx hb (k := 1) (show decode code 227 = .ok (.aload_n 1, 1) from by decide +kernel) rfl (lv_at hl 1 rfl) ?_
  refine pz_la Y hX hbl hbA hL (i := i) (k := 1) (by omega) hl hS (show decode code 228 = .ok (.aload_n 0, 1) from by decide +kernel) (show decode code 229 = .ok (.iload_n 3, 1) from by decide +kernel) (show decode code 230 = .ok (.iconst 1, 1) from by decide +kernel) (show decode code 231 = .ok (.iadd, 1) from by decide +kernel) (show decode code 232 = .ok (.iaload, 1) from by decide +kernel) ?_
  refine pz_la Y hX hbl hbA hL (i := i) (k := 2) (by omega) hl hS (show decode code 233 = .ok (.aload_n 0, 1) from by decide +kernel) (show decode code 234 = .ok (.iload_n 3, 1) from by decide +kernel) (show decode code 235 = .ok (.iconst 2, 1) from by decide +kernel) (show decode code 236 = .ok (.iadd, 1) from by decide +kernel) (show decode code 237 = .ok (.iaload, 1) from by decide +kernel) ?_
  refine pz_la Y hX hbl hbA hL (i := i) (k := 3) (by omega) hl hS (show decode code 238 = .ok (.aload_n 0, 1) from by decide +kernel) (show decode code 239 = .ok (.iload_n 3, 1) from by decide +kernel) (show decode code 240 = .ok (.iconst 3, 1) from by decide +kernel) (show decode code 241 = .ok (.iadd, 1) from by decide +kernel) (show decode code 242 = .ok (.iaload, 1) from by decide +kernel) ?_
  refine pz_la Y hX hbl hbA hL (i := i) (k := 4) (by omega) hl hS (show decode code 243 = .ok (.aload_n 0, 1) from by decide +kernel) (show decode code 244 = .ok (.iload_n 3, 1) from by decide +kernel) (show decode code 245 = .ok (.iconst 4, 1) from by decide +kernel) (show decode code 246 = .ok (.iadd, 1) from by decide +kernel) (show decode code 247 = .ok (.iaload, 1) from by decide +kernel) ?_
  refine pz_crV Y hcs (v_X11_link (Nat.le_of_ble_eq_true rfl) (Nat.le_of_ble_eq_true rfl) pz_wq418) H locs ls M [.inr (.inr (11, 0)), .inl (xs (i + 1)).toInt, .inl (xs (i + 2)).toInt, .inl (xs (i + 3)).toInt, .inl (xs (i + 4)).toInt] [] 248 (show decode code 248 = .ok (.invokevirtual 18, 3) from by decide +kernel) hP hS hM ?_ hl.1 rfl (Nat.le_of_ble_eq_true rfl) (hI) (fun r248 M248 H248 locs248 hq hr hP hS hM => ?_)
  · skip
    exact (List.forall_mem_cons.mpr ⟨(show pz_kd 0 = 11 ∧ 0 < 231 from by decide), (List.forall_mem_cons.mpr ⟨(pz_tc _), (List.forall_mem_cons.mpr ⟨(pz_tc _), (List.forall_mem_cons.mpr ⟨(pz_tc _), (List.forall_mem_cons.mpr ⟨(pz_tc _), List.forall_mem_nil _⟩)⟩)⟩)⟩)⟩)
  obtain ⟨w248, rfl, C248⟩ := hr
  have hq : _ ∧ _ := hq
  obtain ⟨q248, z248⟩ := hq
  have hI8 := hI
  have hR8 : pz_RZ M := hR
  have hJ : pz_im M248 := pz_im_cg (pz_lk_mid hI q248) hJ
  have hI : pz_ic M248 := z248 hI
  refine lv_pop hx hb (show decode code 251 = .ok (.pop, 1) from by decide +kernel) rfl ?_
  refine lv_aload_n hx hb (k := 2) (show decode code 252 = .ok (.aload_n 2, 1) from by decide +kernel) rfl (lv_at hl 2 rfl) ?_
  refine pz_la Y hX hbl hbA hL (i := i) (k := 1) (by omega) hl hS (show decode code 253 = .ok (.aload_n 0, 1) from by decide +kernel) (show decode code 254 = .ok (.iload_n 3, 1) from by decide +kernel) (show decode code 255 = .ok (.iconst 1, 1) from by decide +kernel) (show decode code 256 = .ok (.iadd, 1) from by decide +kernel) (show decode code 257 = .ok (.iaload, 1) from by decide +kernel) ?_
  refine pz_la Y hX hbl hbA hL (i := i) (k := 2) (by omega) hl hS (show decode code 258 = .ok (.aload_n 0, 1) from by decide +kernel) (show decode code 259 = .ok (.iload_n 3, 1) from by decide +kernel) (show decode code 260 = .ok (.iconst 2, 1) from by decide +kernel) (show decode code 261 = .ok (.iadd, 1) from by decide +kernel) (show decode code 262 = .ok (.iaload, 1) from by decide +kernel) ?_
  refine pz_la Y hX hbl hbA hL (i := i) (k := 3) (by omega) hl hS (show decode code 263 = .ok (.aload_n 0, 1) from by decide +kernel) (show decode code 264 = .ok (.iload_n 3, 1) from by decide +kernel) (show decode code 265 = .ok (.iconst 3, 1) from by decide +kernel) (show decode code 266 = .ok (.iadd, 1) from by decide +kernel) (show decode code 267 = .ok (.iaload, 1) from by decide +kernel) ?_
  refine pz_la Y hX hbl hbA hL (i := i) (k := 4) (by omega) hl hS (show decode code 268 = .ok (.aload_n 0, 1) from by decide +kernel) (show decode code 269 = .ok (.iload_n 3, 1) from by decide +kernel) (show decode code 270 = .ok (.iconst 4, 1) from by decide +kernel) (show decode code 271 = .ok (.iadd, 1) from by decide +kernel) (show decode code 272 = .ok (.iaload, 1) from by decide +kernel) ?_
  refine pz_crV Y hcs (v_X12_link (Nat.le_of_ble_eq_true rfl) (Nat.le_of_ble_eq_true rfl) pz_wq1213) H248 locs248 ls M248 [.inr (.inr (12, 1)), .inl (xs (i + 1)).toInt, .inl (xs (i + 2)).toInt, .inl (xs (i + 3)).toInt, .inl (xs (i + 4)).toInt] [] 273 (show decode code 273 = .ok (.invokevirtual 22, 3) from by decide +kernel) hP hS hM ?_ hl.1 rfl (Nat.le_of_ble_eq_true rfl) (hJ) (fun r273 M273 H273 locs273 hq hr hP hS hM => ?_)
  · skip
    exact (List.forall_mem_cons.mpr ⟨(show pz_kd 1 = 12 ∧ 1 < 231 from by decide), (List.forall_mem_cons.mpr ⟨(pz_tc _), (List.forall_mem_cons.mpr ⟨(pz_tc _), (List.forall_mem_cons.mpr ⟨(pz_tc _), (List.forall_mem_cons.mpr ⟨(pz_tc _), List.forall_mem_nil _⟩)⟩)⟩)⟩)⟩)
  obtain ⟨w273, rfl, C273⟩ := hr
  have hq : _ ∧ _ := hq
  obtain ⟨q273, z273⟩ := hq
  obtain ⟨E8, hR⟩ := pz_RZ_link hI8 hR8 q248 q273
  have hI : pz_ic M273 := pz_ic_cg (fun b j q => z273.2 b j (by unfold pz_Q9; unfold pz_mid at q; omega)) hI
  have hJ : pz_im M273 := z273.1 hJ
  refine lv_pop hx hb (show decode code 276 = .ok (.pop, 1) from by decide +kernel) rfl ?_
  refine lv_goto (tgt := 1407) hx hb (show decode code 277 = .ok (.goto 1130, 3) from by decide +kernel) (by decide) ?_
  have hR : pz_R M273 := by
    exact hR
  exact K _ _ _ hI hJ hR hP hS hM
set_option maxRecDepth 100000 in
set_option maxHeartbeats 4000000 in
theorem pz_case2 (Y : pz_Y p s m #[Value.ref b] c code R_law 4 D ad adV cy A) (hcs : cells ≤ room_1.cells ∧ slots ≤ room_1.slots) (hX : va_X b L xs s s.heap) (hbl : b < s.heap.size) (hbA : ¬ A b) (hL : L ≤ 3072) {i : Nat} (hi : i + 6 ≤ L) {H : Heap} {locs : List Loc} {ls : Array Slot} {M : pz_M} (hl : lv_has ls 4 [(0, .ref b), (1, .ref (ad 0)), (2, .ref (ad 1)), (3, .int (Int32.ofNat i))]) (hP : va_P D vwCl (pz_ws ad cy M) H) (hS : va_S A s.heap H locs) (hM : ∀ a k : Nat, pz_c (M a k)) (hI : pz_ic M) (hJ : pz_im M) (hR : pz_R M) (K : ∀ (M9 : pz_M) (H9 : Heap) (locs9 : List Loc), pz_ic M9 → pz_im M9 → pz_R M9 → va_P D vwCl (pz_ws ad cy M9) H9 → va_S A s.heap H9 locs9 → (∀ a k : Nat, pz_c (M9 a k)) → W p l e room_1 s m #[Value.ref b] below meth c H9 locs9 cells slots Q (F0 m 1407 ls [])) : W p l e room_1 s m #[Value.ref b] below meth c H locs cells slots Q (F0 m 280 ls []) := by
  obtain ⟨hx, hb, hml, hown, hts, hXX⟩ := id Y
  refine lv_aload_n hx hb (k := 1) (show decode code 280 = .ok (.aload_n 1, 1) from by decide +kernel) rfl (lv_at hl 1 rfl) ?_
  refine pz_la Y hX hbl hbA hL (i := i) (k := 1) (by omega) hl hS (show decode code 281 = .ok (.aload_n 0, 1) from by decide +kernel) (show decode code 282 = .ok (.iload_n 3, 1) from by decide +kernel) (show decode code 283 = .ok (.iconst 1, 1) from by decide +kernel) (show decode code 284 = .ok (.iadd, 1) from by decide +kernel) (show decode code 285 = .ok (.iaload, 1) from by decide +kernel) ?_
  refine pz_la Y hX hbl hbA hL (i := i) (k := 2) (by omega) hl hS (show decode code 286 = .ok (.aload_n 0, 1) from by decide +kernel) (show decode code 287 = .ok (.iload_n 3, 1) from by decide +kernel) (show decode code 288 = .ok (.iconst 2, 1) from by decide +kernel) (show decode code 289 = .ok (.iadd, 1) from by decide +kernel) (show decode code 290 = .ok (.iaload, 1) from by decide +kernel) ?_
  refine pz_la Y hX hbl hbA hL (i := i) (k := 3) (by omega) hl hS (show decode code 291 = .ok (.aload_n 0, 1) from by decide +kernel) (show decode code 292 = .ok (.iload_n 3, 1) from by decide +kernel) (show decode code 293 = .ok (.iconst 3, 1) from by decide +kernel) (show decode code 294 = .ok (.iadd, 1) from by decide +kernel) (show decode code 295 = .ok (.iaload, 1) from by decide +kernel) ?_
  refine pz_crV Y hcs (v_X11_set (Nat.le_of_ble_eq_true rfl) (Nat.le_of_ble_eq_true rfl) pz_wq440) H locs ls M [.inr (.inr (11, 0)), .inl (xs (i + 1)).toInt, .inl (xs (i + 2)).toInt, .inl (xs (i + 3)).toInt] [] 296 (show decode code 296 = .ok (.invokevirtual 23, 3) from by decide +kernel) hP hS hM ?_ hl.1 rfl (Nat.le_of_ble_eq_true rfl) (hI) (fun r296 M296 H296 locs296 hq hr hP hS hM => ?_)
  · skip
    exact (List.forall_mem_cons.mpr ⟨(show pz_kd 0 = 11 ∧ 0 < 231 from by decide), (List.forall_mem_cons.mpr ⟨(pz_tc _), (List.forall_mem_cons.mpr ⟨(pz_tc _), (List.forall_mem_cons.mpr ⟨(pz_tc _), List.forall_mem_nil _⟩)⟩)⟩)⟩)
  obtain ⟨w296, rfl, C296⟩ := hr
  have hq : _ ∧ _ := hq
  obtain ⟨q296, z296⟩ := hq
  have hI8 := hI
  have hR8 : pz_RZ M := hR
  have hJ : pz_im M296 := pz_im_cg (pz_set_mid q296) hJ
  have hI : pz_ic M296 := z296 hI
  refine lv_pop hx hb (show decode code 299 = .ok (.pop, 1) from by decide +kernel) rfl ?_
  refine lv_aload_n hx hb (k := 2) (show decode code 300 = .ok (.aload_n 2, 1) from by decide +kernel) rfl (lv_at hl 2 rfl) ?_
  refine pz_la Y hX hbl hbA hL (i := i) (k := 1) (by omega) hl hS (show decode code 301 = .ok (.aload_n 0, 1) from by decide +kernel) (show decode code 302 = .ok (.iload_n 3, 1) from by decide +kernel) (show decode code 303 = .ok (.iconst 1, 1) from by decide +kernel) (show decode code 304 = .ok (.iadd, 1) from by decide +kernel) (show decode code 305 = .ok (.iaload, 1) from by decide +kernel) ?_
  refine pz_la Y hX hbl hbA hL (i := i) (k := 2) (by omega) hl hS (show decode code 306 = .ok (.aload_n 0, 1) from by decide +kernel) (show decode code 307 = .ok (.iload_n 3, 1) from by decide +kernel) (show decode code 308 = .ok (.iconst 2, 1) from by decide +kernel) (show decode code 309 = .ok (.iadd, 1) from by decide +kernel) (show decode code 310 = .ok (.iaload, 1) from by decide +kernel) ?_
  refine pz_la Y hX hbl hbA hL (i := i) (k := 3) (by omega) hl hS (show decode code 311 = .ok (.aload_n 0, 1) from by decide +kernel) (show decode code 312 = .ok (.iload_n 3, 1) from by decide +kernel) (show decode code 313 = .ok (.iconst 3, 1) from by decide +kernel) (show decode code 314 = .ok (.iadd, 1) from by decide +kernel) (show decode code 315 = .ok (.iaload, 1) from by decide +kernel) ?_
  refine pz_crV Y hcs (v_X12_set (Nat.le_of_ble_eq_true rfl) (Nat.le_of_ble_eq_true rfl) pz_wq1220) H296 locs296 ls M296 [.inr (.inr (12, 1)), .inl (xs (i + 1)).toInt, .inl (xs (i + 2)).toInt, .inl (xs (i + 3)).toInt] [] 316 (show decode code 316 = .ok (.invokevirtual 27, 3) from by decide +kernel) hP hS hM ?_ hl.1 rfl (Nat.le_of_ble_eq_true rfl) (hJ) (fun r316 M316 H316 locs316 hq hr hP hS hM => ?_)
  · skip
    exact (List.forall_mem_cons.mpr ⟨(show pz_kd 1 = 12 ∧ 1 < 231 from by decide), (List.forall_mem_cons.mpr ⟨(pz_tc _), (List.forall_mem_cons.mpr ⟨(pz_tc _), (List.forall_mem_cons.mpr ⟨(pz_tc _), List.forall_mem_nil _⟩)⟩)⟩)⟩)
  obtain ⟨w316, rfl, C316⟩ := hr
  have hq : _ ∧ _ := hq
  obtain ⟨q316, z316⟩ := hq
  obtain ⟨E8, hR⟩ := pz_RZ_set (fun h => h) hI8 hR8 q296 q316
  have hI : pz_ic M316 := pz_ic_cg (fun b j q => z316.2 b j (by unfold pz_Q9; unfold pz_mid at q; omega)) hI
  have hJ : pz_im M316 := z316.1 hJ
  refine lv_pop hx hb (show decode code 319 = .ok (.pop, 1) from by decide +kernel) rfl ?_
  refine lv_goto (tgt := 1407) hx hb (show decode code 320 = .ok (.goto 1087, 3) from by decide +kernel) (by decide) ?_
  have hR : pz_R M316 := by
    exact hR
  exact K _ _ _ hI hJ hR hP hS hM
set_option maxRecDepth 100000 in
set_option maxHeartbeats 4000000 in
theorem pz_case3 (Y : pz_Y p s m #[Value.ref b] c code R_law 4 D ad adV cy A) (hcs : cells ≤ room_1.cells ∧ slots ≤ room_1.slots) (hX : va_X b L xs s s.heap) (hbl : b < s.heap.size) (hbA : ¬ A b) (hL : L ≤ 3072) {i : Nat} (hi : i + 6 ≤ L) {H : Heap} {locs : List Loc} {ls : Array Slot} {M : pz_M} (hl : lv_has ls 4 [(0, .ref b), (1, .ref (ad 0)), (2, .ref (ad 1)), (3, .int (Int32.ofNat i))]) (hP : va_P D vwCl (pz_ws ad cy M) H) (hS : va_S A s.heap H locs) (hM : ∀ a k : Nat, pz_c (M a k)) (hI : pz_ic M) (hJ : pz_im M) (hR : pz_R M) (K : ∀ (M9 : pz_M) (H9 : Heap) (locs9 : List Loc), pz_ic M9 → pz_im M9 → pz_R M9 → va_P D vwCl (pz_ws ad cy M9) H9 → va_S A s.heap H9 locs9 → (∀ a k : Nat, pz_c (M9 a k)) → W p l e room_1 s m #[Value.ref b] below meth c H9 locs9 cells slots Q (F0 m 1407 ls [])) : W p l e room_1 s m #[Value.ref b] below meth c H locs cells slots Q (F0 m 323 ls []) := by
  obtain ⟨hx, hb, hml, hown, hts, hXX⟩ := id Y
  refine lv_aload_n hx hb (k := 1) (show decode code 323 = .ok (.aload_n 1, 1) from by decide +kernel) rfl (lv_at hl 1 rfl) ?_
  refine pz_la Y hX hbl hbA hL (i := i) (k := 1) (by omega) hl hS (show decode code 324 = .ok (.aload_n 0, 1) from by decide +kernel) (show decode code 325 = .ok (.iload_n 3, 1) from by decide +kernel) (show decode code 326 = .ok (.iconst 1, 1) from by decide +kernel) (show decode code 327 = .ok (.iadd, 1) from by decide +kernel) (show decode code 328 = .ok (.iaload, 1) from by decide +kernel) ?_
  refine pz_la Y hX hbl hbA hL (i := i) (k := 2) (by omega) hl hS (show decode code 329 = .ok (.aload_n 0, 1) from by decide +kernel) (show decode code 330 = .ok (.iload_n 3, 1) from by decide +kernel) (show decode code 331 = .ok (.iconst 2, 1) from by decide +kernel) (show decode code 332 = .ok (.iadd, 1) from by decide +kernel) (show decode code 333 = .ok (.iaload, 1) from by decide +kernel) ?_
  refine pz_crV Y hcs (v3_X11_ask (Nat.le_of_ble_eq_true rfl) (Nat.le_of_ble_eq_true rfl) pz_wq448) H locs ls M [.inr (.inr (11, 0)), .inl (xs (i + 1)).toInt, .inl (xs (i + 2)).toInt] [] 334 (show decode code 334 = .ok (.invokevirtual 28, 3) from by decide +kernel) hP hS hM ?_ hl.1 rfl (Nat.le_of_ble_eq_true rfl) (hI) (fun r334 M334 H334 locs334 hq hr hP hS hM => ?_)
  · skip
    exact (List.forall_mem_cons.mpr ⟨(show pz_kd 0 = 11 ∧ 0 < 231 from by decide), (List.forall_mem_cons.mpr ⟨(pz_tc _), (List.forall_mem_cons.mpr ⟨(pz_tc _), List.forall_mem_nil _⟩)⟩)⟩)
  obtain ⟨w334, rfl, C334⟩ := hr
  have hq : _ ∧ _ := hq
  obtain ⟨q334, z334⟩ := hq
  have hI8 := hI
  have hR8 : pz_RZ M := hR
  have hJ : pz_im M334 := pz_im_cg (fun b j q => z334.1.2.1 b j (Or.inl q)) hJ
  have hI : pz_ic M334 := z334.1.1 hI
  refine lv_pop hx hb (show decode code 337 = .ok (.pop, 1) from by decide +kernel) rfl ?_
  refine lv_aload_n hx hb (k := 2) (show decode code 338 = .ok (.aload_n 2, 1) from by decide +kernel) rfl (lv_at hl 2 rfl) ?_
  refine pz_la Y hX hbl hbA hL (i := i) (k := 1) (by omega) hl hS (show decode code 339 = .ok (.aload_n 0, 1) from by decide +kernel) (show decode code 340 = .ok (.iload_n 3, 1) from by decide +kernel) (show decode code 341 = .ok (.iconst 1, 1) from by decide +kernel) (show decode code 342 = .ok (.iadd, 1) from by decide +kernel) (show decode code 343 = .ok (.iaload, 1) from by decide +kernel) ?_
  refine pz_la Y hX hbl hbA hL (i := i) (k := 2) (by omega) hl hS (show decode code 344 = .ok (.aload_n 0, 1) from by decide +kernel) (show decode code 345 = .ok (.iload_n 3, 1) from by decide +kernel) (show decode code 346 = .ok (.iconst 2, 1) from by decide +kernel) (show decode code 347 = .ok (.iadd, 1) from by decide +kernel) (show decode code 348 = .ok (.iaload, 1) from by decide +kernel) ?_
  refine pz_crV Y hcs (v3_X12_ask (Nat.le_of_ble_eq_true rfl) (Nat.le_of_ble_eq_true rfl) pz_wq1407) H334 locs334 ls M334 [.inr (.inr (12, 1)), .inl (xs (i + 1)).toInt, .inl (xs (i + 2)).toInt] [] 349 (show decode code 349 = .ok (.invokevirtual 32, 3) from by decide +kernel) hP hS hM ?_ hl.1 rfl (Nat.le_of_ble_eq_true rfl) (hJ) (fun r349 M349 H349 locs349 hq hr hP hS hM => ?_)
  · skip
    exact (List.forall_mem_cons.mpr ⟨(show pz_kd 1 = 12 ∧ 1 < 231 from by decide), (List.forall_mem_cons.mpr ⟨(pz_tc _), (List.forall_mem_cons.mpr ⟨(pz_tc _), List.forall_mem_nil _⟩)⟩)⟩)
  obtain ⟨w349, rfl, C349⟩ := hr
  have hq : _ ∧ _ := hq
  obtain ⟨q349, z349⟩ := hq
  obtain ⟨E8, hR⟩ := pz_RZ_deed hI8 hR8 q334 z334 q349 z349
  have hI : pz_ic M349 := pz_ic_cg (fun b j q => z349.2 b j (by unfold pz_QX; unfold pz_mid at q; omega)) hI
  have hJ : pz_im M349 := z349.1 hJ
  refine lv_pop hx hb (show decode code 352 = .ok (.pop, 1) from by decide +kernel) rfl ?_
  refine lv_goto (tgt := 1407) hx hb (show decode code 353 = .ok (.goto 1054, 3) from by decide +kernel) (by decide) ?_
  have hR : pz_R M349 := by
    exact hR
  exact K _ _ _ hI hJ hR hP hS hM
set_option maxRecDepth 100000 in
set_option maxHeartbeats 4000000 in
theorem pz_case4 (Y : pz_Y p s m #[Value.ref b] c code R_law 4 D ad adV cy A) (hcs : cells ≤ room_1.cells ∧ slots ≤ room_1.slots) (hX : va_X b L xs s s.heap) (hbl : b < s.heap.size) (hbA : ¬ A b) (hL : L ≤ 3072) {i : Nat} (hi : i + 6 ≤ L) {H : Heap} {locs : List Loc} {ls : Array Slot} {M : pz_M} (hl : lv_has ls 4 [(0, .ref b), (1, .ref (ad 0)), (2, .ref (ad 1)), (3, .int (Int32.ofNat i))]) (hP : va_P D vwCl (pz_ws ad cy M) H) (hS : va_S A s.heap H locs) (hM : ∀ a k : Nat, pz_c (M a k)) (hI : pz_ic M) (hJ : pz_im M) (hR : pz_R M) (K : ∀ (M9 : pz_M) (H9 : Heap) (locs9 : List Loc), pz_ic M9 → pz_im M9 → pz_R M9 → va_P D vwCl (pz_ws ad cy M9) H9 → va_S A s.heap H9 locs9 → (∀ a k : Nat, pz_c (M9 a k)) → W p l e room_1 s m #[Value.ref b] below meth c H9 locs9 cells slots Q (F0 m 1407 ls [])) : W p l e room_1 s m #[Value.ref b] below meth c H locs cells slots Q (F0 m 356 ls []) := by
  obtain ⟨hx, hb, hml, hown, hts, hXX⟩ := id Y
  refine lv_aload_n hx hb (k := 1) (show decode code 356 = .ok (.aload_n 1, 1) from by decide +kernel) rfl (lv_at hl 1 rfl) ?_
  refine pz_la Y hX hbl hbA hL (i := i) (k := 1) (by omega) hl hS (show decode code 357 = .ok (.aload_n 0, 1) from by decide +kernel) (show decode code 358 = .ok (.iload_n 3, 1) from by decide +kernel) (show decode code 359 = .ok (.iconst 1, 1) from by decide +kernel) (show decode code 360 = .ok (.iadd, 1) from by decide +kernel) (show decode code 361 = .ok (.iaload, 1) from by decide +kernel) ?_
  refine pz_crV Y hcs (v3_X11_bridge (Nat.le_of_ble_eq_true rfl) (Nat.le_of_ble_eq_true rfl) pz_wq521) H locs ls M [.inr (.inr (11, 0)), .inl (xs (i + 1)).toInt] [] 362 (show decode code 362 = .ok (.invokevirtual 33, 3) from by decide +kernel) hP hS hM ?_ hl.1 rfl (Nat.le_of_ble_eq_true rfl) (hI) (fun r362 M362 H362 locs362 hq hr hP hS hM => ?_)
  · skip
    exact (List.forall_mem_cons.mpr ⟨(show pz_kd 0 = 11 ∧ 0 < 231 from by decide), (List.forall_mem_cons.mpr ⟨(pz_tc _), List.forall_mem_nil _⟩)⟩)
  obtain ⟨w362, rfl, C362⟩ := hr
  have hq : _ ∧ _ := hq
  obtain ⟨q362, z362⟩ := hq
  have hI8 := hI
  have hR8 : pz_RZ M := hR
  have hJ : pz_im M362 := pz_im_cg (fun b j q => z362.1.2.1 b j (Or.inl q)) hJ
  have hI : pz_ic M362 := z362.1.1 hI
  refine lv_pop hx hb (show decode code 365 = .ok (.pop, 1) from by decide +kernel) rfl ?_
  refine lv_aload_n hx hb (k := 2) (show decode code 366 = .ok (.aload_n 2, 1) from by decide +kernel) rfl (lv_at hl 2 rfl) ?_
  refine pz_la Y hX hbl hbA hL (i := i) (k := 1) (by omega) hl hS (show decode code 367 = .ok (.aload_n 0, 1) from by decide +kernel) (show decode code 368 = .ok (.iload_n 3, 1) from by decide +kernel) (show decode code 369 = .ok (.iconst 1, 1) from by decide +kernel) (show decode code 370 = .ok (.iadd, 1) from by decide +kernel) (show decode code 371 = .ok (.iaload, 1) from by decide +kernel) ?_
  refine pz_crV Y hcs (v3_X12_bridge (Nat.le_of_ble_eq_true rfl) (Nat.le_of_ble_eq_true rfl) pz_wq1487) H362 locs362 ls M362 [.inr (.inr (12, 1)), .inl (xs (i + 1)).toInt] [] 372 (show decode code 372 = .ok (.invokevirtual 37, 3) from by decide +kernel) hP hS hM ?_ hl.1 rfl (Nat.le_of_ble_eq_true rfl) (hJ) (fun r372 M372 H372 locs372 hq hr hP hS hM => ?_)
  · skip
    exact (List.forall_mem_cons.mpr ⟨(show pz_kd 1 = 12 ∧ 1 < 231 from by decide), (List.forall_mem_cons.mpr ⟨(pz_tc _), List.forall_mem_nil _⟩)⟩)
  obtain ⟨w372, rfl, C372⟩ := hr
  have hq : _ ∧ _ := hq
  obtain ⟨q372, z372⟩ := hq
  obtain ⟨E8, hR⟩ := pz_RZ_deed hI8 hR8 q362 z362 q372 z372
  have hI : pz_ic M372 := pz_ic_cg (fun b j q => z372.2 b j (by unfold pz_QX; unfold pz_mid at q; omega)) hI
  have hJ : pz_im M372 := z372.1 hJ
  refine lv_pop hx hb (show decode code 375 = .ok (.pop, 1) from by decide +kernel) rfl ?_
  refine lv_goto (tgt := 1407) hx hb (show decode code 376 = .ok (.goto 1031, 3) from by decide +kernel) (by decide) ?_
  have hR : pz_R M372 := by
    exact hR
  exact K _ _ _ hI hJ hR hP hS hM
set_option maxRecDepth 100000 in
set_option maxHeartbeats 4000000 in
theorem pz_case5 (Y : pz_Y p s m #[Value.ref b] c code R_law 4 D ad adV cy A) (hcs : cells ≤ room_1.cells ∧ slots ≤ room_1.slots) (hX : va_X b L xs s s.heap) (hbl : b < s.heap.size) (hbA : ¬ A b) (hL : L ≤ 3072) {i : Nat} (hi : i + 6 ≤ L) {H : Heap} {locs : List Loc} {ls : Array Slot} {M : pz_M} (hl : lv_has ls 4 [(0, .ref b), (1, .ref (ad 0)), (2, .ref (ad 1)), (3, .int (Int32.ofNat i))]) (hP : va_P D vwCl (pz_ws ad cy M) H) (hS : va_S A s.heap H locs) (hM : ∀ a k : Nat, pz_c (M a k)) (hI : pz_ic M) (hJ : pz_im M) (hR : pz_R M) (K : ∀ (M9 : pz_M) (H9 : Heap) (locs9 : List Loc), pz_ic M9 → pz_im M9 → pz_R M9 → va_P D vwCl (pz_ws ad cy M9) H9 → va_S A s.heap H9 locs9 → (∀ a k : Nat, pz_c (M9 a k)) → W p l e room_1 s m #[Value.ref b] below meth c H9 locs9 cells slots Q (F0 m 1407 ls [])) : W p l e room_1 s m #[Value.ref b] below meth c H locs cells slots Q (F0 m 379 ls []) := by
  obtain ⟨hx, hb, hml, hown, hts, hXX⟩ := id Y
  refine lv_aload_n hx hb (k := 1) (show decode code 379 = .ok (.aload_n 1, 1) from by decide +kernel) rfl (lv_at hl 1 rfl) ?_
  refine pz_la Y hX hbl hbA hL (i := i) (k := 1) (by omega) hl hS (show decode code 380 = .ok (.aload_n 0, 1) from by decide +kernel) (show decode code 381 = .ok (.iload_n 3, 1) from by decide +kernel) (show decode code 382 = .ok (.iconst 1, 1) from by decide +kernel) (show decode code 383 = .ok (.iadd, 1) from by decide +kernel) (show decode code 384 = .ok (.iaload, 1) from by decide +kernel) ?_
  refine pz_la Y hX hbl hbA hL (i := i) (k := 2) (by omega) hl hS (show decode code 385 = .ok (.aload_n 0, 1) from by decide +kernel) (show decode code 386 = .ok (.iload_n 3, 1) from by decide +kernel) (show decode code 387 = .ok (.iconst 2, 1) from by decide +kernel) (show decode code 388 = .ok (.iadd, 1) from by decide +kernel) (show decode code 389 = .ok (.iaload, 1) from by decide +kernel) ?_
  refine pz_la Y hX hbl hbA hL (i := i) (k := 3) (by omega) hl hS (show decode code 390 = .ok (.aload_n 0, 1) from by decide +kernel) (show decode code 391 = .ok (.iload_n 3, 1) from by decide +kernel) (show decode code 392 = .ok (.iconst 3, 1) from by decide +kernel) (show decode code 393 = .ok (.iadd, 1) from by decide +kernel) (show decode code 394 = .ok (.iaload, 1) from by decide +kernel) ?_
  refine pz_crV Y hcs (v3_X11_pay (Nat.le_of_ble_eq_true rfl) (Nat.le_of_ble_eq_true rfl) pz_wq534) H locs ls M [.inr (.inr (11, 0)), .inl (xs (i + 1)).toInt, .inl (xs (i + 2)).toInt, .inl (xs (i + 3)).toInt] [] 395 (show decode code 395 = .ok (.invokevirtual 38, 3) from by decide +kernel) hP hS hM ?_ hl.1 rfl (Nat.le_of_ble_eq_true rfl) (hI) (fun r395 M395 H395 locs395 hq hr hP hS hM => ?_)
  · skip
    exact (List.forall_mem_cons.mpr ⟨(show pz_kd 0 = 11 ∧ 0 < 231 from by decide), (List.forall_mem_cons.mpr ⟨(pz_tc _), (List.forall_mem_cons.mpr ⟨(pz_tc _), (List.forall_mem_cons.mpr ⟨(pz_tc _), List.forall_mem_nil _⟩)⟩)⟩)⟩)
  obtain ⟨w395, rfl, C395⟩ := hr
  have hq : _ ∧ _ := hq
  obtain ⟨q395, z395⟩ := hq
  have hI8 := hI
  have hR8 : pz_RZ M := hR
  have hJ : pz_im M395 := pz_im_cg (fun b j q => z395.1.2.1 b j (Or.inl q)) hJ
  have hI : pz_ic M395 := z395.1.1 hI
  refine lv_aload_n hx hb (k := 2) (show decode code 398 = .ok (.aload_n 2, 1) from by decide +kernel) rfl (lv_at hl 2 rfl) ?_
  refine pz_la Y hX hbl hbA hL (i := i) (k := 1) (by omega) hl hS (show decode code 399 = .ok (.aload_n 0, 1) from by decide +kernel) (show decode code 400 = .ok (.iload_n 3, 1) from by decide +kernel) (show decode code 401 = .ok (.iconst 1, 1) from by decide +kernel) (show decode code 402 = .ok (.iadd, 1) from by decide +kernel) (show decode code 403 = .ok (.iaload, 1) from by decide +kernel) ?_
  refine pz_la Y hX hbl hbA hL (i := i) (k := 2) (by omega) hl hS (show decode code 404 = .ok (.aload_n 0, 1) from by decide +kernel) (show decode code 405 = .ok (.iload_n 3, 1) from by decide +kernel) (show decode code 406 = .ok (.iconst 2, 1) from by decide +kernel) (show decode code 407 = .ok (.iadd, 1) from by decide +kernel) (show decode code 408 = .ok (.iaload, 1) from by decide +kernel) ?_
  refine pz_la Y hX hbl hbA hL (i := i) (k := 3) (by omega) hl hS (show decode code 409 = .ok (.aload_n 0, 1) from by decide +kernel) (show decode code 410 = .ok (.iload_n 3, 1) from by decide +kernel) (show decode code 411 = .ok (.iconst 3, 1) from by decide +kernel) (show decode code 412 = .ok (.iadd, 1) from by decide +kernel) (show decode code 413 = .ok (.iaload, 1) from by decide +kernel) ?_
  refine pz_crV Y hcs (v3_X12_pay (Nat.le_of_ble_eq_true rfl) (Nat.le_of_ble_eq_true rfl) pz_wq1499) H395 locs395 ls M395 [.inr (.inr (12, 1)), .inl (xs (i + 1)).toInt, .inl (xs (i + 2)).toInt, .inl (xs (i + 3)).toInt] [.inl w395] 414 (show decode code 414 = .ok (.invokevirtual 41, 3) from by decide +kernel) hP hS hM ?_ hl.1 rfl (Nat.le_of_ble_eq_true rfl) (hJ) (fun r414 M414 H414 locs414 hq hr hP hS hM => ?_)
  · skip
    exact (List.forall_mem_cons.mpr ⟨(show pz_kd 1 = 12 ∧ 1 < 231 from by decide), (List.forall_mem_cons.mpr ⟨(pz_tc _), (List.forall_mem_cons.mpr ⟨(pz_tc _), (List.forall_mem_cons.mpr ⟨(pz_tc _), List.forall_mem_nil _⟩)⟩)⟩)⟩)
  obtain ⟨w414, rfl, C414⟩ := hr
  have hq : _ ∧ _ := hq
  obtain ⟨q414, z414⟩ := hq
  obtain ⟨E8, hR⟩ := pz_RZ_deed hI8 hR8 q395 z395 q414 z414
  have hI : pz_ic M414 := pz_ic_cg (fun b j q => z414.2 b j (by unfold pz_QX; unfold pz_mid at q; omega)) hI
  have hJ : pz_im M414 := z414.1 hJ
  have E417 : w395 = w414 := E8
  refine lv_icmp_eq (tgt := 1407) hx hb (show decode code 417 = .ok (.if_icmp .eq 990, 3) from by decide +kernel) (by decide) (fun _ => ?_) (fun q9 => absurd (congrArg Int32.ofInt E417) q9)
  have hR : pz_R M414 := by
    exact hR
  exact K _ _ _ hI hJ hR hP hS hM
set_option maxRecDepth 100000 in
set_option maxHeartbeats 4000000 in
theorem pz_case6 (Y : pz_Y p s m #[Value.ref b] c code R_law 4 D ad adV cy A) (hcs : cells ≤ room_1.cells ∧ slots ≤ room_1.slots) (hX : va_X b L xs s s.heap) (hbl : b < s.heap.size) (hbA : ¬ A b) (hL : L ≤ 3072) {i : Nat} (hi : i + 6 ≤ L) {H : Heap} {locs : List Loc} {ls : Array Slot} {M : pz_M} (hl : lv_has ls 4 [(0, .ref b), (1, .ref (ad 0)), (2, .ref (ad 1)), (3, .int (Int32.ofNat i))]) (hP : va_P D vwCl (pz_ws ad cy M) H) (hS : va_S A s.heap H locs) (hM : ∀ a k : Nat, pz_c (M a k)) (hI : pz_ic M) (hJ : pz_im M) (hR : pz_R M) (K : ∀ (M9 : pz_M) (H9 : Heap) (locs9 : List Loc), pz_ic M9 → pz_im M9 → pz_R M9 → va_P D vwCl (pz_ws ad cy M9) H9 → va_S A s.heap H9 locs9 → (∀ a k : Nat, pz_c (M9 a k)) → W p l e room_1 s m #[Value.ref b] below meth c H9 locs9 cells slots Q (F0 m 1407 ls [])) : W p l e room_1 s m #[Value.ref b] below meth c H locs cells slots Q (F0 m 422 ls []) := by
  obtain ⟨hx, hb, hml, hown, hts, hXX⟩ := id Y
  refine lv_aload_n hx hb (k := 1) (show decode code 422 = .ok (.aload_n 1, 1) from by decide +kernel) rfl (lv_at hl 1 rfl) ?_
  refine pz_la Y hX hbl hbA hL (i := i) (k := 1) (by omega) hl hS (show decode code 423 = .ok (.aload_n 0, 1) from by decide +kernel) (show decode code 424 = .ok (.iload_n 3, 1) from by decide +kernel) (show decode code 425 = .ok (.iconst 1, 1) from by decide +kernel) (show decode code 426 = .ok (.iadd, 1) from by decide +kernel) (show decode code 427 = .ok (.iaload, 1) from by decide +kernel) ?_
  refine pz_crV Y hcs (v3_X11_paper (Nat.le_of_ble_eq_true rfl) (Nat.le_of_ble_eq_true rfl) pz_wq547) H locs ls M [.inr (.inr (11, 0)), .inl (xs (i + 1)).toInt] [] 428 (show decode code 428 = .ok (.invokevirtual 42, 3) from by decide +kernel) hP hS hM ?_ hl.1 rfl (Nat.le_of_ble_eq_true rfl) (hI) (fun r428 M428 H428 locs428 hq hr hP hS hM => ?_)
  · skip
    exact (List.forall_mem_cons.mpr ⟨(show pz_kd 0 = 11 ∧ 0 < 231 from by decide), (List.forall_mem_cons.mpr ⟨(pz_tc _), List.forall_mem_nil _⟩)⟩)
  obtain ⟨w428, rfl, C428⟩ := hr
  have hq : _ ∧ _ := hq
  obtain ⟨q428, z428⟩ := hq
  have hI8 := hI
  have hR8 : pz_RZ M := hR
  have hJ : pz_im M428 := pz_im_cg (fun b j q => z428.1.2.1 b j (Or.inl q)) hJ
  have hI : pz_ic M428 := z428.1.1 hI
  refine lv_pop hx hb (show decode code 431 = .ok (.pop, 1) from by decide +kernel) rfl ?_
  refine lv_aload_n hx hb (k := 2) (show decode code 432 = .ok (.aload_n 2, 1) from by decide +kernel) rfl (lv_at hl 2 rfl) ?_
  refine pz_la Y hX hbl hbA hL (i := i) (k := 1) (by omega) hl hS (show decode code 433 = .ok (.aload_n 0, 1) from by decide +kernel) (show decode code 434 = .ok (.iload_n 3, 1) from by decide +kernel) (show decode code 435 = .ok (.iconst 1, 1) from by decide +kernel) (show decode code 436 = .ok (.iadd, 1) from by decide +kernel) (show decode code 437 = .ok (.iaload, 1) from by decide +kernel) ?_
  refine pz_crV Y hcs (v3_X12_paper (Nat.le_of_ble_eq_true rfl) (Nat.le_of_ble_eq_true rfl) pz_wq1511) H428 locs428 ls M428 [.inr (.inr (12, 1)), .inl (xs (i + 1)).toInt] [] 438 (show decode code 438 = .ok (.invokevirtual 45, 3) from by decide +kernel) hP hS hM ?_ hl.1 rfl (Nat.le_of_ble_eq_true rfl) (hJ) (fun r438 M438 H438 locs438 hq hr hP hS hM => ?_)
  · skip
    exact (List.forall_mem_cons.mpr ⟨(show pz_kd 1 = 12 ∧ 1 < 231 from by decide), (List.forall_mem_cons.mpr ⟨(pz_tc _), List.forall_mem_nil _⟩)⟩)
  obtain ⟨w438, rfl, C438⟩ := hr
  have hq : _ ∧ _ := hq
  obtain ⟨q438, z438⟩ := hq
  obtain ⟨E8, hR⟩ := pz_RZ_deed hI8 hR8 q428 z428 q438 z438
  have hI : pz_ic M438 := pz_ic_cg (fun b j q => z438.2 b j (by unfold pz_QX; unfold pz_mid at q; omega)) hI
  have hJ : pz_im M438 := z438.1 hJ
  refine lv_pop hx hb (show decode code 441 = .ok (.pop, 1) from by decide +kernel) rfl ?_
  refine lv_goto (tgt := 1407) hx hb (show decode code 442 = .ok (.goto 965, 3) from by decide +kernel) (by decide) ?_
  have hR : pz_R M438 := by
    exact hR
  exact K _ _ _ hI hJ hR hP hS hM
set_option maxRecDepth 100000 in
set_option maxHeartbeats 4000000 in
theorem pz_case7 (Y : pz_Y p s m #[Value.ref b] c code R_law 4 D ad adV cy A) (hcs : cells ≤ room_1.cells ∧ slots ≤ room_1.slots) (hX : va_X b L xs s s.heap) (hbl : b < s.heap.size) (hbA : ¬ A b) (hL : L ≤ 3072) {i : Nat} (hi : i + 6 ≤ L) {H : Heap} {locs : List Loc} {ls : Array Slot} {M : pz_M} (hl : lv_has ls 4 [(0, .ref b), (1, .ref (ad 0)), (2, .ref (ad 1)), (3, .int (Int32.ofNat i))]) (hP : va_P D vwCl (pz_ws ad cy M) H) (hS : va_S A s.heap H locs) (hM : ∀ a k : Nat, pz_c (M a k)) (hI : pz_ic M) (hJ : pz_im M) (hR : pz_R M) (K : ∀ (M9 : pz_M) (H9 : Heap) (locs9 : List Loc), pz_ic M9 → pz_im M9 → pz_R M9 → va_P D vwCl (pz_ws ad cy M9) H9 → va_S A s.heap H9 locs9 → (∀ a k : Nat, pz_c (M9 a k)) → W p l e room_1 s m #[Value.ref b] below meth c H9 locs9 cells slots Q (F0 m 1407 ls [])) : W p l e room_1 s m #[Value.ref b] below meth c H locs cells slots Q (F0 m 445 ls []) := by
  obtain ⟨hx, hb, hml, hown, hts, hXX⟩ := id Y
  refine lv_aload_n hx hb (k := 1) (show decode code 445 = .ok (.aload_n 1, 1) from by decide +kernel) rfl (lv_at hl 1 rfl) ?_
  refine pz_la Y hX hbl hbA hL (i := i) (k := 1) (by omega) hl hS (show decode code 446 = .ok (.aload_n 0, 1) from by decide +kernel) (show decode code 447 = .ok (.iload_n 3, 1) from by decide +kernel) (show decode code 448 = .ok (.iconst 1, 1) from by decide +kernel) (show decode code 449 = .ok (.iadd, 1) from by decide +kernel) (show decode code 450 = .ok (.iaload, 1) from by decide +kernel) ?_
  refine pz_crV Y hcs (v3_X11_join (Nat.le_of_ble_eq_true rfl) (Nat.le_of_ble_eq_true rfl) pz_wq559) H locs ls M [.inr (.inr (11, 0)), .inl (xs (i + 1)).toInt] [] 451 (show decode code 451 = .ok (.invokevirtual 46, 3) from by decide +kernel) hP hS hM ?_ hl.1 rfl (Nat.le_of_ble_eq_true rfl) (hI) (fun r451 M451 H451 locs451 hq hr hP hS hM => ?_)
  · skip
    exact (List.forall_mem_cons.mpr ⟨(show pz_kd 0 = 11 ∧ 0 < 231 from by decide), (List.forall_mem_cons.mpr ⟨(pz_tc _), List.forall_mem_nil _⟩)⟩)
  obtain ⟨w451, rfl, C451⟩ := hr
  have hq : _ ∧ _ := hq
  obtain ⟨q451, z451⟩ := hq
  have hI8 := hI
  have hR8 : pz_RZ M := hR
  have hJ : pz_im M451 := pz_im_cg (fun b j q => z451.1.2.1 b j (Or.inl q)) hJ
  have hI : pz_ic M451 := z451.1.1 hI
  refine lv_pop hx hb (show decode code 454 = .ok (.pop, 1) from by decide +kernel) rfl ?_
  refine lv_aload_n hx hb (k := 2) (show decode code 455 = .ok (.aload_n 2, 1) from by decide +kernel) rfl (lv_at hl 2 rfl) ?_
  refine pz_la Y hX hbl hbA hL (i := i) (k := 1) (by omega) hl hS (show decode code 456 = .ok (.aload_n 0, 1) from by decide +kernel) (show decode code 457 = .ok (.iload_n 3, 1) from by decide +kernel) (show decode code 458 = .ok (.iconst 1, 1) from by decide +kernel) (show decode code 459 = .ok (.iadd, 1) from by decide +kernel) (show decode code 460 = .ok (.iaload, 1) from by decide +kernel) ?_
  refine pz_crV Y hcs (v3_X12_join (Nat.le_of_ble_eq_true rfl) (Nat.le_of_ble_eq_true rfl) pz_wq1523) H451 locs451 ls M451 [.inr (.inr (12, 1)), .inl (xs (i + 1)).toInt] [] 461 (show decode code 461 = .ok (.invokevirtual 49, 3) from by decide +kernel) hP hS hM ?_ hl.1 rfl (Nat.le_of_ble_eq_true rfl) (hJ) (fun r461 M461 H461 locs461 hq hr hP hS hM => ?_)
  · skip
    exact (List.forall_mem_cons.mpr ⟨(show pz_kd 1 = 12 ∧ 1 < 231 from by decide), (List.forall_mem_cons.mpr ⟨(pz_tc _), List.forall_mem_nil _⟩)⟩)
  obtain ⟨w461, rfl, C461⟩ := hr
  have hq : _ ∧ _ := hq
  obtain ⟨q461, z461⟩ := hq
  obtain ⟨E8, hR⟩ := pz_RZ_deed hI8 hR8 q451 z451 q461 z461
  have hI : pz_ic M461 := pz_ic_cg (fun b j q => z461.2 b j (by unfold pz_QX; unfold pz_mid at q; omega)) hI
  have hJ : pz_im M461 := z461.1 hJ
  refine lv_pop hx hb (show decode code 464 = .ok (.pop, 1) from by decide +kernel) rfl ?_
  refine lv_goto (tgt := 1407) hx hb (show decode code 465 = .ok (.goto 942, 3) from by decide +kernel) (by decide) ?_
  have hR : pz_R M461 := by
    exact hR
  exact K _ _ _ hI hJ hR hP hS hM
set_option maxRecDepth 100000 in
set_option maxHeartbeats 4000000 in
theorem pz_case8 (Y : pz_Y p s m #[Value.ref b] c code R_law 4 D ad adV cy A) (hcs : cells ≤ room_1.cells ∧ slots ≤ room_1.slots) (hX : va_X b L xs s s.heap) (hbl : b < s.heap.size) (hbA : ¬ A b) (hL : L ≤ 3072) {i : Nat} (hi : i + 6 ≤ L) {H : Heap} {locs : List Loc} {ls : Array Slot} {M : pz_M} (hl : lv_has ls 4 [(0, .ref b), (1, .ref (ad 0)), (2, .ref (ad 1)), (3, .int (Int32.ofNat i))]) (hP : va_P D vwCl (pz_ws ad cy M) H) (hS : va_S A s.heap H locs) (hM : ∀ a k : Nat, pz_c (M a k)) (hI : pz_ic M) (hJ : pz_im M) (hR : pz_R M) (K : ∀ (M9 : pz_M) (H9 : Heap) (locs9 : List Loc), pz_ic M9 → pz_im M9 → pz_R M9 → va_P D vwCl (pz_ws ad cy M9) H9 → va_S A s.heap H9 locs9 → (∀ a k : Nat, pz_c (M9 a k)) → W p l e room_1 s m #[Value.ref b] below meth c H9 locs9 cells slots Q (F0 m 1407 ls [])) : W p l e room_1 s m #[Value.ref b] below meth c H locs cells slots Q (F0 m 468 ls []) := by
  obtain ⟨hx, hb, hml, hown, hts, hXX⟩ := id Y
  refine lv_aload_n hx hb (k := 1) (show decode code 468 = .ok (.aload_n 1, 1) from by decide +kernel) rfl (lv_at hl 1 rfl) ?_
  refine pz_la Y hX hbl hbA hL (i := i) (k := 1) (by omega) hl hS (show decode code 469 = .ok (.aload_n 0, 1) from by decide +kernel) (show decode code 470 = .ok (.iload_n 3, 1) from by decide +kernel) (show decode code 471 = .ok (.iconst 1, 1) from by decide +kernel) (show decode code 472 = .ok (.iadd, 1) from by decide +kernel) (show decode code 473 = .ok (.iaload, 1) from by decide +kernel) ?_
  refine pz_crV Y hcs (v3_X11_days (Nat.le_of_ble_eq_true rfl) (Nat.le_of_ble_eq_true rfl) pz_wq567) H locs ls M [.inr (.inr (11, 0)), .inl (xs (i + 1)).toInt] [] 474 (show decode code 474 = .ok (.invokevirtual 50, 3) from by decide +kernel) hP hS hM ?_ hl.1 rfl (Nat.le_of_ble_eq_true rfl) (hI) (fun r474 M474 H474 locs474 hq hr hP hS hM => ?_)
  · skip
    exact (List.forall_mem_cons.mpr ⟨(show pz_kd 0 = 11 ∧ 0 < 231 from by decide), (List.forall_mem_cons.mpr ⟨(pz_tc _), List.forall_mem_nil _⟩)⟩)
  obtain ⟨w474, rfl, C474⟩ := hr
  have hq : _ ∧ _ := hq
  obtain ⟨q474, z474⟩ := hq
  have hI8 := hI
  have hR8 : pz_RZ M := hR
  have hJ : pz_im M474 := pz_im_cg (fun b j q => z474.1.2.1 b j (Or.inl q)) hJ
  have hI : pz_ic M474 := z474.1.1 hI
  refine lv_pop hx hb (show decode code 477 = .ok (.pop, 1) from by decide +kernel) rfl ?_
  refine lv_aload_n hx hb (k := 2) (show decode code 478 = .ok (.aload_n 2, 1) from by decide +kernel) rfl (lv_at hl 2 rfl) ?_
  refine pz_la Y hX hbl hbA hL (i := i) (k := 1) (by omega) hl hS (show decode code 479 = .ok (.aload_n 0, 1) from by decide +kernel) (show decode code 480 = .ok (.iload_n 3, 1) from by decide +kernel) (show decode code 481 = .ok (.iconst 1, 1) from by decide +kernel) (show decode code 482 = .ok (.iadd, 1) from by decide +kernel) (show decode code 483 = .ok (.iaload, 1) from by decide +kernel) ?_
  refine pz_crV Y hcs (v3_X12_days (Nat.le_of_ble_eq_true rfl) (Nat.le_of_ble_eq_true rfl) pz_wq1527) H474 locs474 ls M474 [.inr (.inr (12, 1)), .inl (xs (i + 1)).toInt] [] 484 (show decode code 484 = .ok (.invokevirtual 53, 3) from by decide +kernel) hP hS hM ?_ hl.1 rfl (Nat.le_of_ble_eq_true rfl) (hJ) (fun r484 M484 H484 locs484 hq hr hP hS hM => ?_)
  · skip
    exact (List.forall_mem_cons.mpr ⟨(show pz_kd 1 = 12 ∧ 1 < 231 from by decide), (List.forall_mem_cons.mpr ⟨(pz_tc _), List.forall_mem_nil _⟩)⟩)
  obtain ⟨w484, rfl, C484⟩ := hr
  have hq : _ ∧ _ := hq
  obtain ⟨q484, z484⟩ := hq
  obtain ⟨E8, hR⟩ := pz_RZ_days hI8 hR8 q474 z474 q484 z484
  have hI : pz_ic M484 := pz_ic_cg (fun b j q => z484.2 b j (by unfold pz_QX; unfold pz_mid at q; omega)) hI
  have hJ : pz_im M484 := z484.1 hJ
  refine lv_pop hx hb (show decode code 487 = .ok (.pop, 1) from by decide +kernel) rfl ?_
  refine lv_goto (tgt := 1407) hx hb (show decode code 488 = .ok (.goto 919, 3) from by decide +kernel) (by decide) ?_
  have hR : pz_R M484 := by
    exact hR
  exact K _ _ _ hI hJ hR hP hS hM
set_option maxRecDepth 100000 in
set_option maxHeartbeats 4000000 in
theorem pz_case9 (Y : pz_Y p s m #[Value.ref b] c code R_law 4 D ad adV cy A) (hcs : cells ≤ room_1.cells ∧ slots ≤ room_1.slots) (hX : va_X b L xs s s.heap) (hbl : b < s.heap.size) (hbA : ¬ A b) (hL : L ≤ 3072) {i : Nat} (hi : i + 6 ≤ L) {H : Heap} {locs : List Loc} {ls : Array Slot} {M : pz_M} (hl : lv_has ls 4 [(0, .ref b), (1, .ref (ad 0)), (2, .ref (ad 1)), (3, .int (Int32.ofNat i))]) (hP : va_P D vwCl (pz_ws ad cy M) H) (hS : va_S A s.heap H locs) (hM : ∀ a k : Nat, pz_c (M a k)) (hI : pz_ic M) (hJ : pz_im M) (hR : pz_R M) (K : ∀ (M9 : pz_M) (H9 : Heap) (locs9 : List Loc), pz_ic M9 → pz_im M9 → pz_R M9 → va_P D vwCl (pz_ws ad cy M9) H9 → va_S A s.heap H9 locs9 → (∀ a k : Nat, pz_c (M9 a k)) → W p l e room_1 s m #[Value.ref b] below meth c H9 locs9 cells slots Q (F0 m 1407 ls [])) : W p l e room_1 s m #[Value.ref b] below meth c H locs cells slots Q (F0 m 491 ls []) := by
  obtain ⟨hx, hb, hml, hown, hts, hXX⟩ := id Y
  refine lv_aload_n hx hb (k := 1) (show decode code 491 = .ok (.aload_n 1, 1) from by decide +kernel) rfl (lv_at hl 1 rfl) ?_
  refine pz_la Y hX hbl hbA hL (i := i) (k := 1) (by omega) hl hS (show decode code 492 = .ok (.aload_n 0, 1) from by decide +kernel) (show decode code 493 = .ok (.iload_n 3, 1) from by decide +kernel) (show decode code 494 = .ok (.iconst 1, 1) from by decide +kernel) (show decode code 495 = .ok (.iadd, 1) from by decide +kernel) (show decode code 496 = .ok (.iaload, 1) from by decide +kernel) ?_
  refine pz_la Y hX hbl hbA hL (i := i) (k := 2) (by omega) hl hS (show decode code 497 = .ok (.aload_n 0, 1) from by decide +kernel) (show decode code 498 = .ok (.iload_n 3, 1) from by decide +kernel) (show decode code 499 = .ok (.iconst 2, 1) from by decide +kernel) (show decode code 500 = .ok (.iadd, 1) from by decide +kernel) (show decode code 501 = .ok (.iaload, 1) from by decide +kernel) ?_
  refine pz_la Y hX hbl hbA hL (i := i) (k := 3) (by omega) hl hS (show decode code 502 = .ok (.aload_n 0, 1) from by decide +kernel) (show decode code 503 = .ok (.iload_n 3, 1) from by decide +kernel) (show decode code 504 = .ok (.iconst 3, 1) from by decide +kernel) (show decode code 505 = .ok (.iadd, 1) from by decide +kernel) (show decode code 506 = .ok (.iaload, 1) from by decide +kernel) ?_
  refine pz_la Y hX hbl hbA hL (i := i) (k := 4) (by omega) hl hS (show decode code 507 = .ok (.aload_n 0, 1) from by decide +kernel) (show decode code 508 = .ok (.iload_n 3, 1) from by decide +kernel) (show decode code 509 = .ok (.iconst 4, 1) from by decide +kernel) (show decode code 510 = .ok (.iadd, 1) from by decide +kernel) (show decode code 511 = .ok (.iaload, 1) from by decide +kernel) ?_
  refine pz_la Y hX hbl hbA hL (i := i) (k := 5) (by omega) hl hS (show decode code 512 = .ok (.aload_n 0, 1) from by decide +kernel) (show decode code 513 = .ok (.iload_n 3, 1) from by decide +kernel) (show decode code 514 = .ok (.iconst 5, 1) from by decide +kernel) (show decode code 515 = .ok (.iadd, 1) from by decide +kernel) (show decode code 516 = .ok (.iaload, 1) from by decide +kernel) ?_
  refine pz_crV Y hcs (v_X11_feed (Nat.le_of_ble_eq_true rfl) (Nat.le_of_ble_eq_true rfl) pz_wq643) H locs ls M [.inr (.inr (11, 0)), .inl (xs (i + 1)).toInt, .inl (xs (i + 2)).toInt, .inl (xs (i + 3)).toInt, .inl (xs (i + 4)).toInt, .inl (xs (i + 5)).toInt] [] 517 (show decode code 517 = .ok (.invokevirtual 54, 3) from by decide +kernel) hP hS hM ?_ hl.1 rfl (Nat.le_of_ble_eq_true rfl) (hI) (fun r517 M517 H517 locs517 hq hr hP hS hM => ?_)
  · skip
    exact (List.forall_mem_cons.mpr ⟨(show pz_kd 0 = 11 ∧ 0 < 231 from by decide), (List.forall_mem_cons.mpr ⟨(pz_tc _), (List.forall_mem_cons.mpr ⟨(pz_tc _), (List.forall_mem_cons.mpr ⟨(pz_tc _), (List.forall_mem_cons.mpr ⟨(pz_tc _), (List.forall_mem_cons.mpr ⟨(pz_tc _), List.forall_mem_nil _⟩)⟩)⟩)⟩)⟩)⟩)
  obtain ⟨w517, rfl, C517⟩ := hr
  have hq : _ ∧ _ := hq
  obtain ⟨q517, z517⟩ := hq
  have hI8 := hI
  have hR8 : pz_RZ M := hR
  have hJ : pz_im M517 := pz_im_cg (fun b j q => z517.2 b j (by unfold pq_Pf; unfold pz_mid at q; omega)) hJ
  have hI : pz_ic M517 := z517.1 hI
  refine lv_pop hx hb (show decode code 520 = .ok (.pop, 1) from by decide +kernel) rfl ?_
  refine lv_aload_n hx hb (k := 2) (show decode code 521 = .ok (.aload_n 2, 1) from by decide +kernel) rfl (lv_at hl 2 rfl) ?_
  refine pz_la Y hX hbl hbA hL (i := i) (k := 1) (by omega) hl hS (show decode code 522 = .ok (.aload_n 0, 1) from by decide +kernel) (show decode code 523 = .ok (.iload_n 3, 1) from by decide +kernel) (show decode code 524 = .ok (.iconst 1, 1) from by decide +kernel) (show decode code 525 = .ok (.iadd, 1) from by decide +kernel) (show decode code 526 = .ok (.iaload, 1) from by decide +kernel) ?_
  refine pz_la Y hX hbl hbA hL (i := i) (k := 2) (by omega) hl hS (show decode code 527 = .ok (.aload_n 0, 1) from by decide +kernel) (show decode code 528 = .ok (.iload_n 3, 1) from by decide +kernel) (show decode code 529 = .ok (.iconst 2, 1) from by decide +kernel) (show decode code 530 = .ok (.iadd, 1) from by decide +kernel) (show decode code 531 = .ok (.iaload, 1) from by decide +kernel) ?_
  refine pz_la Y hX hbl hbA hL (i := i) (k := 3) (by omega) hl hS (show decode code 532 = .ok (.aload_n 0, 1) from by decide +kernel) (show decode code 533 = .ok (.iload_n 3, 1) from by decide +kernel) (show decode code 534 = .ok (.iconst 3, 1) from by decide +kernel) (show decode code 535 = .ok (.iadd, 1) from by decide +kernel) (show decode code 536 = .ok (.iaload, 1) from by decide +kernel) ?_
  refine pz_la Y hX hbl hbA hL (i := i) (k := 4) (by omega) hl hS (show decode code 537 = .ok (.aload_n 0, 1) from by decide +kernel) (show decode code 538 = .ok (.iload_n 3, 1) from by decide +kernel) (show decode code 539 = .ok (.iconst 4, 1) from by decide +kernel) (show decode code 540 = .ok (.iadd, 1) from by decide +kernel) (show decode code 541 = .ok (.iaload, 1) from by decide +kernel) ?_
  refine pz_la Y hX hbl hbA hL (i := i) (k := 5) (by omega) hl hS (show decode code 542 = .ok (.aload_n 0, 1) from by decide +kernel) (show decode code 543 = .ok (.iload_n 3, 1) from by decide +kernel) (show decode code 544 = .ok (.iconst 5, 1) from by decide +kernel) (show decode code 545 = .ok (.iadd, 1) from by decide +kernel) (show decode code 546 = .ok (.iaload, 1) from by decide +kernel) ?_
  refine pz_crV Y hcs (v_X12_feed (Nat.le_of_ble_eq_true rfl) (Nat.le_of_ble_eq_true rfl) pz_wq1231) H517 locs517 ls M517 [.inr (.inr (12, 1)), .inl (xs (i + 1)).toInt, .inl (xs (i + 2)).toInt, .inl (xs (i + 3)).toInt, .inl (xs (i + 4)).toInt, .inl (xs (i + 5)).toInt] [] 547 (show decode code 547 = .ok (.invokevirtual 58, 3) from by decide +kernel) hP hS hM ?_ hl.1 rfl (Nat.le_of_ble_eq_true rfl) (hJ) (fun r547 M547 H547 locs547 hq hr hP hS hM => ?_)
  · skip
    exact (List.forall_mem_cons.mpr ⟨(show pz_kd 1 = 12 ∧ 1 < 231 from by decide), (List.forall_mem_cons.mpr ⟨(pz_tc _), (List.forall_mem_cons.mpr ⟨(pz_tc _), (List.forall_mem_cons.mpr ⟨(pz_tc _), (List.forall_mem_cons.mpr ⟨(pz_tc _), (List.forall_mem_cons.mpr ⟨(pz_tc _), List.forall_mem_nil _⟩)⟩)⟩)⟩)⟩)⟩)
  obtain ⟨w547, rfl, C547⟩ := hr
  have hq : _ ∧ _ := hq
  obtain ⟨q547, z547⟩ := hq
  obtain ⟨E8, hR⟩ := pz_RZ_feed hI8 hR8 q517 z517 q547 z547
  have hI : pz_ic M547 := pz_ic_cg (fun b j q => z547.2 b j (by unfold pz_QF; unfold pz_mid at q; omega)) hI
  have hJ : pz_im M547 := z547.1 hJ
  refine lv_pop hx hb (show decode code 550 = .ok (.pop, 1) from by decide +kernel) rfl ?_
  refine lv_goto (tgt := 1407) hx hb (show decode code 551 = .ok (.goto 856, 3) from by decide +kernel) (by decide) ?_
  have hR : pz_R M547 := by
    exact hR
  exact K _ _ _ hI hJ hR hP hS hM
set_option maxRecDepth 100000 in
set_option maxHeartbeats 4000000 in
theorem pz_case10 (Y : pz_Y p s m #[Value.ref b] c code R_law 4 D ad adV cy A) (hcs : cells ≤ room_1.cells ∧ slots ≤ room_1.slots) (hX : va_X b L xs s s.heap) (hbl : b < s.heap.size) (hbA : ¬ A b) (hL : L ≤ 3072) {i : Nat} (hi : i + 6 ≤ L) {H : Heap} {locs : List Loc} {ls : Array Slot} {M : pz_M} (hl : lv_has ls 4 [(0, .ref b), (1, .ref (ad 0)), (2, .ref (ad 1)), (3, .int (Int32.ofNat i))]) (hP : va_P D vwCl (pz_ws ad cy M) H) (hS : va_S A s.heap H locs) (hM : ∀ a k : Nat, pz_c (M a k)) (hI : pz_ic M) (hJ : pz_im M) (hR : pz_R M) (K : ∀ (M9 : pz_M) (H9 : Heap) (locs9 : List Loc), pz_ic M9 → pz_im M9 → pz_R M9 → va_P D vwCl (pz_ws ad cy M9) H9 → va_S A s.heap H9 locs9 → (∀ a k : Nat, pz_c (M9 a k)) → W p l e room_1 s m #[Value.ref b] below meth c H9 locs9 cells slots Q (F0 m 1407 ls [])) : W p l e room_1 s m #[Value.ref b] below meth c H locs cells slots Q (F0 m 554 ls []) := by
  obtain ⟨hx, hb, hml, hown, hts, hXX⟩ := id Y
  refine lv_aload_n hx hb (k := 1) (show decode code 554 = .ok (.aload_n 1, 1) from by decide +kernel) rfl (lv_at hl 1 rfl) ?_
  refine pz_la Y hX hbl hbA hL (i := i) (k := 1) (by omega) hl hS (show decode code 555 = .ok (.aload_n 0, 1) from by decide +kernel) (show decode code 556 = .ok (.iload_n 3, 1) from by decide +kernel) (show decode code 557 = .ok (.iconst 1, 1) from by decide +kernel) (show decode code 558 = .ok (.iadd, 1) from by decide +kernel) (show decode code 559 = .ok (.iaload, 1) from by decide +kernel) ?_
  refine pz_crV Y hcs (v3_X11_end (Nat.le_of_ble_eq_true rfl) (Nat.le_of_ble_eq_true rfl) pz_wq651) H locs ls M [.inr (.inr (11, 0)), .inl (xs (i + 1)).toInt] [] 560 (show decode code 560 = .ok (.invokevirtual 59, 3) from by decide +kernel) hP hS hM ?_ hl.1 rfl (Nat.le_of_ble_eq_true rfl) (hI) (fun r560 M560 H560 locs560 hq hr hP hS hM => ?_)
  · skip
    exact (List.forall_mem_cons.mpr ⟨(show pz_kd 0 = 11 ∧ 0 < 231 from by decide), (List.forall_mem_cons.mpr ⟨(pz_tc _), List.forall_mem_nil _⟩)⟩)
  obtain ⟨w560, rfl, C560⟩ := hr
  have hq : _ ∧ _ := hq
  obtain ⟨q560, z560⟩ := hq
  have hI8 := hI
  have hR8 : pz_RZ M := hR
  have hJ : pz_im M560 := pz_im_cg (fun b j q => z560.2 b j (by unfold pq_Pe; unfold pz_mid at q; omega)) hJ
  have hI : pz_ic M560 := z560.1 hI
  refine lv_pop hx hb (show decode code 563 = .ok (.pop, 1) from by decide +kernel) rfl ?_
  refine lv_aload_n hx hb (k := 2) (show decode code 564 = .ok (.aload_n 2, 1) from by decide +kernel) rfl (lv_at hl 2 rfl) ?_
  refine pz_la Y hX hbl hbA hL (i := i) (k := 1) (by omega) hl hS (show decode code 565 = .ok (.aload_n 0, 1) from by decide +kernel) (show decode code 566 = .ok (.iload_n 3, 1) from by decide +kernel) (show decode code 567 = .ok (.iconst 1, 1) from by decide +kernel) (show decode code 568 = .ok (.iadd, 1) from by decide +kernel) (show decode code 569 = .ok (.iaload, 1) from by decide +kernel) ?_
  refine pz_crV Y hcs (v3_X12_end (Nat.le_of_ble_eq_true rfl) (Nat.le_of_ble_eq_true rfl) pz_wq1235) H560 locs560 ls M560 [.inr (.inr (12, 1)), .inl (xs (i + 1)).toInt] [] 570 (show decode code 570 = .ok (.invokevirtual 62, 3) from by decide +kernel) hP hS hM ?_ hl.1 rfl (Nat.le_of_ble_eq_true rfl) (hJ) (fun r570 M570 H570 locs570 hq hr hP hS hM => ?_)
  · skip
    exact (List.forall_mem_cons.mpr ⟨(show pz_kd 1 = 12 ∧ 1 < 231 from by decide), (List.forall_mem_cons.mpr ⟨(pz_tc _), List.forall_mem_nil _⟩)⟩)
  obtain ⟨w570, rfl, C570⟩ := hr
  have hq : _ ∧ _ := hq
  obtain ⟨q570, z570⟩ := hq
  obtain ⟨E8, hR⟩ := pz_RZ_end hI8 hR8 q560 z560 q570 z570
  have hI : pz_ic M570 := pz_ic_cg (fun b j q => z570.2 b j (by unfold pz_QN; unfold pz_mid at q; omega)) hI
  have hJ : pz_im M570 := z570.1 hJ
  refine lv_pop hx hb (show decode code 573 = .ok (.pop, 1) from by decide +kernel) rfl ?_
  refine lv_goto (tgt := 1407) hx hb (show decode code 574 = .ok (.goto 833, 3) from by decide +kernel) (by decide) ?_
  have hR : pz_R M570 := by
    exact hR
  exact K _ _ _ hI hJ hR hP hS hM
set_option maxRecDepth 100000 in
set_option maxHeartbeats 4000000 in
theorem pz_case11 (Y : pz_Y p s m #[Value.ref b] c code R_law 4 D ad adV cy A) (hcs : cells ≤ room_1.cells ∧ slots ≤ room_1.slots) (hX : va_X b L xs s s.heap) (hbl : b < s.heap.size) (hbA : ¬ A b) (hL : L ≤ 3072) {i : Nat} (hi : i + 6 ≤ L) {H : Heap} {locs : List Loc} {ls : Array Slot} {M : pz_M} (hl : lv_has ls 4 [(0, .ref b), (1, .ref (ad 0)), (2, .ref (ad 1)), (3, .int (Int32.ofNat i))]) (hP : va_P D vwCl (pz_ws ad cy M) H) (hS : va_S A s.heap H locs) (hM : ∀ a k : Nat, pz_c (M a k)) (hI : pz_ic M) (hJ : pz_im M) (hR : pz_R M) (K : ∀ (M9 : pz_M) (H9 : Heap) (locs9 : List Loc), pz_ic M9 → pz_im M9 → pz_R M9 → va_P D vwCl (pz_ws ad cy M9) H9 → va_S A s.heap H9 locs9 → (∀ a k : Nat, pz_c (M9 a k)) → W p l e room_1 s m #[Value.ref b] below meth c H9 locs9 cells slots Q (F0 m 1407 ls [])) : W p l e room_1 s m #[Value.ref b] below meth c H locs cells slots Q (F0 m 577 ls []) := by
  obtain ⟨hx, hb, hml, hown, hts, hXX⟩ := id Y
  refine lv_aload_n hx hb (k := 1) (show decode code 577 = .ok (.aload_n 1, 1) from by decide +kernel) rfl (lv_at hl 1 rfl) ?_
  refine pz_la Y hX hbl hbA hL (i := i) (k := 1) (by omega) hl hS (show decode code 578 = .ok (.aload_n 0, 1) from by decide +kernel) (show decode code 579 = .ok (.iload_n 3, 1) from by decide +kernel) (show decode code 580 = .ok (.iconst 1, 1) from by decide +kernel) (show decode code 581 = .ok (.iadd, 1) from by decide +kernel) (show decode code 582 = .ok (.iaload, 1) from by decide +kernel) ?_
  refine pz_crV Y hcs (v3_X11_text (Nat.le_of_ble_eq_true rfl) (Nat.le_of_ble_eq_true rfl) pz_wq655) H locs ls M [.inr (.inr (11, 0)), .inl (xs (i + 1)).toInt] [] 583 (show decode code 583 = .ok (.invokevirtual 63, 3) from by decide +kernel) hP hS hM ?_ hl.1 rfl (Nat.le_of_ble_eq_true rfl) (hI) (fun r583 M583 H583 locs583 hq hr hP hS hM => ?_)
  · skip
    exact (List.forall_mem_cons.mpr ⟨(show pz_kd 0 = 11 ∧ 0 < 231 from by decide), (List.forall_mem_cons.mpr ⟨(pz_tc _), List.forall_mem_nil _⟩)⟩)
  obtain ⟨w583, rfl, C583⟩ := hr
  have hq : _ ∧ _ := hq
  obtain ⟨q583, z583⟩ := hq
  have hI8 := hI
  have hR8 : pz_RZ M := hR
  have hJ : pz_im M583 := pz_im_cg (fun b j q => z583.2 b j (by unfold pq_Pt; unfold pz_mid at q; omega)) hJ
  have hI : pz_ic M583 := z583.1 hI
  refine lv_pop hx hb (show decode code 586 = .ok (.pop, 1) from by decide +kernel) rfl ?_
  refine lv_aload_n hx hb (k := 2) (show decode code 587 = .ok (.aload_n 2, 1) from by decide +kernel) rfl (lv_at hl 2 rfl) ?_
  refine pz_la Y hX hbl hbA hL (i := i) (k := 1) (by omega) hl hS (show decode code 588 = .ok (.aload_n 0, 1) from by decide +kernel) (show decode code 589 = .ok (.iload_n 3, 1) from by decide +kernel) (show decode code 590 = .ok (.iconst 1, 1) from by decide +kernel) (show decode code 591 = .ok (.iadd, 1) from by decide +kernel) (show decode code 592 = .ok (.iaload, 1) from by decide +kernel) ?_
  refine pz_crV Y hcs (v3_X12_text (Nat.le_of_ble_eq_true rfl) (Nat.le_of_ble_eq_true rfl) pz_wq1239) H583 locs583 ls M583 [.inr (.inr (12, 1)), .inl (xs (i + 1)).toInt] [] 593 (show decode code 593 = .ok (.invokevirtual 66, 3) from by decide +kernel) hP hS hM ?_ hl.1 rfl (Nat.le_of_ble_eq_true rfl) (hJ) (fun r593 M593 H593 locs593 hq hr hP hS hM => ?_)
  · skip
    exact (List.forall_mem_cons.mpr ⟨(show pz_kd 1 = 12 ∧ 1 < 231 from by decide), (List.forall_mem_cons.mpr ⟨(pz_tc _), List.forall_mem_nil _⟩)⟩)
  obtain ⟨w593, rfl, C593⟩ := hr
  have hq : _ ∧ _ := hq
  obtain ⟨q593, z593⟩ := hq
  obtain ⟨E8, hR⟩ := pz_RZ_text hI8 hI hR8 q583 z583 q593 z593
  have hI : pz_ic M593 := pz_ic_cg (fun b j q => z593.2 b j (by unfold pz_QT; unfold pz_mid at q; omega)) hI
  have hJ : pz_im M593 := z593.1 hJ
  refine lv_pop hx hb (show decode code 596 = .ok (.pop, 1) from by decide +kernel) rfl ?_
  refine lv_goto (tgt := 1407) hx hb (show decode code 597 = .ok (.goto 810, 3) from by decide +kernel) (by decide) ?_
  have hR : pz_R M593 := by
    exact hR
  exact K _ _ _ hI hJ hR hP hS hM
set_option maxRecDepth 100000 in
set_option maxHeartbeats 4000000 in
theorem pz_case12 (Y : pz_Y p s m #[Value.ref b] c code R_law 4 D ad adV cy A) (hcs : cells ≤ room_1.cells ∧ slots ≤ room_1.slots) (hX : va_X b L xs s s.heap) (hbl : b < s.heap.size) (hbA : ¬ A b) (hL : L ≤ 3072) {i : Nat} (hi : i + 6 ≤ L) {H : Heap} {locs : List Loc} {ls : Array Slot} {M : pz_M} (hl : lv_has ls 4 [(0, .ref b), (1, .ref (ad 0)), (2, .ref (ad 1)), (3, .int (Int32.ofNat i))]) (hP : va_P D vwCl (pz_ws ad cy M) H) (hS : va_S A s.heap H locs) (hM : ∀ a k : Nat, pz_c (M a k)) (hI : pz_ic M) (hJ : pz_im M) (hR : pz_R M) (K : ∀ (M9 : pz_M) (H9 : Heap) (locs9 : List Loc), pz_ic M9 → pz_im M9 → pz_R M9 → va_P D vwCl (pz_ws ad cy M9) H9 → va_S A s.heap H9 locs9 → (∀ a k : Nat, pz_c (M9 a k)) → W p l e room_1 s m #[Value.ref b] below meth c H9 locs9 cells slots Q (F0 m 1407 ls [])) : W p l e room_1 s m #[Value.ref b] below meth c H locs cells slots Q (F0 m 600 ls []) := by
  obtain ⟨hx, hb, hml, hown, hts, hXX⟩ := id Y
  refine lv_aload_n hx hb (k := 1) (show decode code 600 = .ok (.aload_n 1, 1) from by decide +kernel) rfl (lv_at hl 1 rfl) ?_
  refine pz_la Y hX hbl hbA hL (i := i) (k := 1) (by omega) hl hS (show decode code 601 = .ok (.aload_n 0, 1) from by decide +kernel) (show decode code 602 = .ok (.iload_n 3, 1) from by decide +kernel) (show decode code 603 = .ok (.iconst 1, 1) from by decide +kernel) (show decode code 604 = .ok (.iadd, 1) from by decide +kernel) (show decode code 605 = .ok (.iaload, 1) from by decide +kernel) ?_
  refine pz_crV Y hcs (v_X11_fault (Nat.le_of_ble_eq_true rfl) (Nat.le_of_ble_eq_true rfl) pz_wq829) H locs ls M [.inr (.inr (11, 0)), .inl (xs (i + 1)).toInt] [] 606 (show decode code 606 = .ok (.invokevirtual 67, 3) from by decide +kernel) hP hS hM ?_ hl.1 rfl (Nat.le_of_ble_eq_true rfl) (hI) (fun r606 M606 H606 locs606 hq hr hP hS hM => ?_)
  · skip
    exact (List.forall_mem_cons.mpr ⟨(show pz_kd 0 = 11 ∧ 0 < 231 from by decide), (List.forall_mem_cons.mpr ⟨(pz_tc _), List.forall_mem_nil _⟩)⟩)
  obtain ⟨w606, rfl, C606⟩ := hr
  have hq : _ ∧ _ := hq
  obtain ⟨q606, z606⟩ := hq
  subst z606
  refine lv_pop hx hb (show decode code 609 = .ok (.pop, 1) from by decide +kernel) rfl ?_
  refine lv_aload_n hx hb (k := 2) (show decode code 610 = .ok (.aload_n 2, 1) from by decide +kernel) rfl (lv_at hl 2 rfl) ?_
  refine pz_la Y hX hbl hbA hL (i := i) (k := 1) (by omega) hl hS (show decode code 611 = .ok (.aload_n 0, 1) from by decide +kernel) (show decode code 612 = .ok (.iload_n 3, 1) from by decide +kernel) (show decode code 613 = .ok (.iconst 1, 1) from by decide +kernel) (show decode code 614 = .ok (.iadd, 1) from by decide +kernel) (show decode code 615 = .ok (.iaload, 1) from by decide +kernel) ?_
  refine pz_crV Y hcs (v_X12_fault (Nat.le_of_ble_eq_true rfl) (Nat.le_of_ble_eq_true rfl) pz_wq1399) H606 locs606 ls M [.inr (.inr (12, 1)), .inl (xs (i + 1)).toInt] [] 616 (show decode code 616 = .ok (.invokevirtual 70, 3) from by decide +kernel) hP hS hM ?_ hl.1 rfl (Nat.le_of_ble_eq_true rfl) (hJ) (fun r616 M616 H616 locs616 hq hr hP hS hM => ?_)
  · skip
    exact (List.forall_mem_cons.mpr ⟨(show pz_kd 1 = 12 ∧ 1 < 231 from by decide), (List.forall_mem_cons.mpr ⟨(pz_tc _), List.forall_mem_nil _⟩)⟩)
  obtain ⟨w616, rfl, C616⟩ := hr
  have hq : _ ∧ _ := hq
  obtain ⟨q616, z616⟩ := hq
  subst z616
  refine lv_pop hx hb (show decode code 619 = .ok (.pop, 1) from by decide +kernel) rfl ?_
  refine lv_goto (tgt := 1407) hx hb (show decode code 620 = .ok (.goto 787, 3) from by decide +kernel) (by decide) ?_
  have hR : pz_R M := by
    exact hR
  exact K _ _ _ hI hJ hR hP hS hM
set_option maxRecDepth 100000 in
set_option maxHeartbeats 4000000 in
theorem pz_case13 (Y : pz_Y p s m #[Value.ref b] c code R_law 4 D ad adV cy A) (hcs : cells ≤ room_1.cells ∧ slots ≤ room_1.slots) (hX : va_X b L xs s s.heap) (hbl : b < s.heap.size) (hbA : ¬ A b) (hL : L ≤ 3072) {i : Nat} (hi : i + 6 ≤ L) {H : Heap} {locs : List Loc} {ls : Array Slot} {M : pz_M} (hl : lv_has ls 4 [(0, .ref b), (1, .ref (ad 0)), (2, .ref (ad 1)), (3, .int (Int32.ofNat i))]) (hP : va_P D vwCl (pz_ws ad cy M) H) (hS : va_S A s.heap H locs) (hM : ∀ a k : Nat, pz_c (M a k)) (hI : pz_ic M) (hJ : pz_im M) (hR : pz_R M) (K : ∀ (M9 : pz_M) (H9 : Heap) (locs9 : List Loc), pz_ic M9 → pz_im M9 → pz_R M9 → va_P D vwCl (pz_ws ad cy M9) H9 → va_S A s.heap H9 locs9 → (∀ a k : Nat, pz_c (M9 a k)) → W p l e room_1 s m #[Value.ref b] below meth c H9 locs9 cells slots Q (F0 m 1407 ls [])) : W p l e room_1 s m #[Value.ref b] below meth c H locs cells slots Q (F0 m 623 ls []) := by
  obtain ⟨hx, hb, hml, hown, hts, hXX⟩ := id Y
  refine lv_aload_n hx hb (k := 1) (show decode code 623 = .ok (.aload_n 1, 1) from by decide +kernel) rfl (lv_at hl 1 rfl) ?_
  refine pz_la Y hX hbl hbA hL (i := i) (k := 1) (by omega) hl hS (show decode code 624 = .ok (.aload_n 0, 1) from by decide +kernel) (show decode code 625 = .ok (.iload_n 3, 1) from by decide +kernel) (show decode code 626 = .ok (.iconst 1, 1) from by decide +kernel) (show decode code 627 = .ok (.iadd, 1) from by decide +kernel) (show decode code 628 = .ok (.iaload, 1) from by decide +kernel) ?_
  refine pz_la Y hX hbl hbA hL (i := i) (k := 2) (by omega) hl hS (show decode code 629 = .ok (.aload_n 0, 1) from by decide +kernel) (show decode code 630 = .ok (.iload_n 3, 1) from by decide +kernel) (show decode code 631 = .ok (.iconst 2, 1) from by decide +kernel) (show decode code 632 = .ok (.iadd, 1) from by decide +kernel) (show decode code 633 = .ok (.iaload, 1) from by decide +kernel) ?_
  refine pz_crV Y hcs (v3_X11_of (Nat.le_of_ble_eq_true rfl) (Nat.le_of_ble_eq_true rfl) pz_wq833) H locs ls M [.inr (.inr (11, 0)), .inl (xs (i + 1)).toInt, .inl (xs (i + 2)).toInt] [] 634 (show decode code 634 = .ok (.invokevirtual 71, 3) from by decide +kernel) hP hS hM ?_ hl.1 rfl (Nat.le_of_ble_eq_true rfl) (hI) (fun r634 M634 H634 locs634 hq hr hP hS hM => ?_)
  · skip
    exact (List.forall_mem_cons.mpr ⟨(show pz_kd 0 = 11 ∧ 0 < 231 from by decide), (List.forall_mem_cons.mpr ⟨(pz_tc _), (List.forall_mem_cons.mpr ⟨(pz_tc _), List.forall_mem_nil _⟩)⟩)⟩)
  obtain ⟨w634, rfl, C634⟩ := hr
  have hq : _ ∧ _ := hq
  obtain ⟨q634, z634⟩ := hq
  have hR8 : pz_RZ M := hR
  have hR : pz_RZ M634 := pz_RZ_k hI hR z634
  have hJ : pz_im M634 := pz_im_cg (fun b j q => z634.2 b j (by unfold pq_Pk pq_Pw; unfold pz_mid at q; omega)) hJ
  have hI : pz_ic M634 := z634.1 hI
  refine lv_pop hx hb (show decode code 637 = .ok (.pop, 1) from by decide +kernel) rfl ?_
  refine lv_aload_n hx hb (k := 2) (show decode code 638 = .ok (.aload_n 2, 1) from by decide +kernel) rfl (lv_at hl 2 rfl) ?_
  refine pz_la Y hX hbl hbA hL (i := i) (k := 1) (by omega) hl hS (show decode code 639 = .ok (.aload_n 0, 1) from by decide +kernel) (show decode code 640 = .ok (.iload_n 3, 1) from by decide +kernel) (show decode code 641 = .ok (.iconst 1, 1) from by decide +kernel) (show decode code 642 = .ok (.iadd, 1) from by decide +kernel) (show decode code 643 = .ok (.iaload, 1) from by decide +kernel) ?_
  refine pz_la Y hX hbl hbA hL (i := i) (k := 2) (by omega) hl hS (show decode code 644 = .ok (.aload_n 0, 1) from by decide +kernel) (show decode code 645 = .ok (.iload_n 3, 1) from by decide +kernel) (show decode code 646 = .ok (.iconst 2, 1) from by decide +kernel) (show decode code 647 = .ok (.iadd, 1) from by decide +kernel) (show decode code 648 = .ok (.iaload, 1) from by decide +kernel) ?_
  refine pz_crV Y hcs (v3_X12_of (Nat.le_of_ble_eq_true rfl) (Nat.le_of_ble_eq_true rfl) pz_wq1581) H634 locs634 ls M634 [.inr (.inr (12, 1)), .inl (xs (i + 1)).toInt, .inl (xs (i + 2)).toInt] [] 649 (show decode code 649 = .ok (.invokevirtual 74, 3) from by decide +kernel) hP hS hM ?_ hl.1 rfl (Nat.le_of_ble_eq_true rfl) (hJ) (fun r649 M649 H649 locs649 hq hr hP hS hM => ?_)
  · skip
    exact (List.forall_mem_cons.mpr ⟨(show pz_kd 1 = 12 ∧ 1 < 231 from by decide), (List.forall_mem_cons.mpr ⟨(pz_tc _), (List.forall_mem_cons.mpr ⟨(pz_tc _), List.forall_mem_nil _⟩)⟩)⟩)
  obtain ⟨w649, rfl, C649⟩ := hr
  have hq : _ ∧ _ := hq
  obtain ⟨q649, z649⟩ := hq
  have hR : pz_RZ M649 := pz_RZ_v hR z649
  have hI : pz_ic M649 := pz_ic_cg (fun b j q => z649.2 b j (by unfold pz_QV; unfold pz_mid at q; omega)) hI
  have hJ : pz_im M649 := z649.1 hJ
  refine lv_pop hx hb (show decode code 652 = .ok (.pop, 1) from by decide +kernel) rfl ?_
  refine lv_goto (tgt := 1407) hx hb (show decode code 653 = .ok (.goto 754, 3) from by decide +kernel) (by decide) ?_
  have hR : pz_R M649 := by
    exact hR
  exact K _ _ _ hI hJ hR hP hS hM
set_option maxRecDepth 100000 in
set_option maxHeartbeats 4000000 in
theorem pz_case14 (Y : pz_Y p s m #[Value.ref b] c code R_law 4 D ad adV cy A) (hcs : cells ≤ room_1.cells ∧ slots ≤ room_1.slots) (hX : va_X b L xs s s.heap) (hbl : b < s.heap.size) (hbA : ¬ A b) (hL : L ≤ 3072) {i : Nat} (hi : i + 6 ≤ L) {H : Heap} {locs : List Loc} {ls : Array Slot} {M : pz_M} (hl : lv_has ls 4 [(0, .ref b), (1, .ref (ad 0)), (2, .ref (ad 1)), (3, .int (Int32.ofNat i))]) (hP : va_P D vwCl (pz_ws ad cy M) H) (hS : va_S A s.heap H locs) (hM : ∀ a k : Nat, pz_c (M a k)) (hI : pz_ic M) (hJ : pz_im M) (hR : pz_R M) (K : ∀ (M9 : pz_M) (H9 : Heap) (locs9 : List Loc), pz_ic M9 → pz_im M9 → pz_R M9 → va_P D vwCl (pz_ws ad cy M9) H9 → va_S A s.heap H9 locs9 → (∀ a k : Nat, pz_c (M9 a k)) → W p l e room_1 s m #[Value.ref b] below meth c H9 locs9 cells slots Q (F0 m 1407 ls [])) : W p l e room_1 s m #[Value.ref b] below meth c H locs cells slots Q (F0 m 656 ls []) := by
  obtain ⟨hx, hb, hml, hown, hts, hXX⟩ := id Y
  refine lv_aload_n hx hb (k := 1) (show decode code 656 = .ok (.aload_n 1, 1) from by decide +kernel) rfl (lv_at hl 1 rfl) ?_
  refine pz_la Y hX hbl hbA hL (i := i) (k := 1) (by omega) hl hS (show decode code 657 = .ok (.aload_n 0, 1) from by decide +kernel) (show decode code 658 = .ok (.iload_n 3, 1) from by decide +kernel) (show decode code 659 = .ok (.iconst 1, 1) from by decide +kernel) (show decode code 660 = .ok (.iadd, 1) from by decide +kernel) (show decode code 661 = .ok (.iaload, 1) from by decide +kernel) ?_
  refine pz_la Y hX hbl hbA hL (i := i) (k := 2) (by omega) hl hS (show decode code 662 = .ok (.aload_n 0, 1) from by decide +kernel) (show decode code 663 = .ok (.iload_n 3, 1) from by decide +kernel) (show decode code 664 = .ok (.iconst 2, 1) from by decide +kernel) (show decode code 665 = .ok (.iadd, 1) from by decide +kernel) (show decode code 666 = .ok (.iaload, 1) from by decide +kernel) ?_
  refine pz_crV Y hcs (v_X11_phone (Nat.le_of_ble_eq_true rfl) (Nat.le_of_ble_eq_true rfl) pz_wq841) H locs ls M [.inr (.inr (11, 0)), .inl (xs (i + 1)).toInt, .inl (xs (i + 2)).toInt] [] 667 (show decode code 667 = .ok (.invokevirtual 75, 3) from by decide +kernel) hP hS hM ?_ hl.1 rfl (Nat.le_of_ble_eq_true rfl) (hI) (fun r667 M667 H667 locs667 hq hr hP hS hM => ?_)
  · skip
    exact (List.forall_mem_cons.mpr ⟨(show pz_kd 0 = 11 ∧ 0 < 231 from by decide), (List.forall_mem_cons.mpr ⟨(pz_tc _), (List.forall_mem_cons.mpr ⟨(pz_tc _), List.forall_mem_nil _⟩)⟩)⟩)
  obtain ⟨w667, rfl, C667⟩ := hr
  have hq : _ ∧ _ := hq
  obtain ⟨q667, z667⟩ := hq
  subst z667
  refine lv_pop hx hb (show decode code 670 = .ok (.pop, 1) from by decide +kernel) rfl ?_
  refine lv_aload_n hx hb (k := 2) (show decode code 671 = .ok (.aload_n 2, 1) from by decide +kernel) rfl (lv_at hl 2 rfl) ?_
  refine pz_la Y hX hbl hbA hL (i := i) (k := 1) (by omega) hl hS (show decode code 672 = .ok (.aload_n 0, 1) from by decide +kernel) (show decode code 673 = .ok (.iload_n 3, 1) from by decide +kernel) (show decode code 674 = .ok (.iconst 1, 1) from by decide +kernel) (show decode code 675 = .ok (.iadd, 1) from by decide +kernel) (show decode code 676 = .ok (.iaload, 1) from by decide +kernel) ?_
  refine pz_la Y hX hbl hbA hL (i := i) (k := 2) (by omega) hl hS (show decode code 677 = .ok (.aload_n 0, 1) from by decide +kernel) (show decode code 678 = .ok (.iload_n 3, 1) from by decide +kernel) (show decode code 679 = .ok (.iconst 2, 1) from by decide +kernel) (show decode code 680 = .ok (.iadd, 1) from by decide +kernel) (show decode code 681 = .ok (.iaload, 1) from by decide +kernel) ?_
  refine pz_crV Y hcs (v_X12_phone (Nat.le_of_ble_eq_true rfl) (Nat.le_of_ble_eq_true rfl) pz_wq1586) H667 locs667 ls M [.inr (.inr (12, 1)), .inl (xs (i + 1)).toInt, .inl (xs (i + 2)).toInt] [] 682 (show decode code 682 = .ok (.invokevirtual 78, 3) from by decide +kernel) hP hS hM ?_ hl.1 rfl (Nat.le_of_ble_eq_true rfl) (hJ) (fun r682 M682 H682 locs682 hq hr hP hS hM => ?_)
  · skip
    exact (List.forall_mem_cons.mpr ⟨(show pz_kd 1 = 12 ∧ 1 < 231 from by decide), (List.forall_mem_cons.mpr ⟨(pz_tc _), (List.forall_mem_cons.mpr ⟨(pz_tc _), List.forall_mem_nil _⟩)⟩)⟩)
  obtain ⟨w682, rfl, C682⟩ := hr
  have hq : _ ∧ _ := hq
  obtain ⟨q682, z682⟩ := hq
  subst z682
  refine lv_pop hx hb (show decode code 685 = .ok (.pop, 1) from by decide +kernel) rfl ?_
  refine lv_goto (tgt := 1407) hx hb (show decode code 686 = .ok (.goto 721, 3) from by decide +kernel) (by decide) ?_
  have hR : pz_R M := by
    exact hR
  exact K _ _ _ hI hJ hR hP hS hM
set_option maxRecDepth 100000 in
set_option maxHeartbeats 4000000 in
theorem pz_case15 (Y : pz_Y p s m #[Value.ref b] c code R_law 4 D ad adV cy A) (hcs : cells ≤ room_1.cells ∧ slots ≤ room_1.slots) (hX : va_X b L xs s s.heap) (hbl : b < s.heap.size) (hbA : ¬ A b) (hL : L ≤ 3072) {i : Nat} (hi : i + 6 ≤ L) {H : Heap} {locs : List Loc} {ls : Array Slot} {M : pz_M} (hl : lv_has ls 4 [(0, .ref b), (1, .ref (ad 0)), (2, .ref (ad 1)), (3, .int (Int32.ofNat i))]) (hP : va_P D vwCl (pz_ws ad cy M) H) (hS : va_S A s.heap H locs) (hM : ∀ a k : Nat, pz_c (M a k)) (hI : pz_ic M) (hJ : pz_im M) (hR : pz_R M) (K : ∀ (M9 : pz_M) (H9 : Heap) (locs9 : List Loc), pz_ic M9 → pz_im M9 → pz_R M9 → va_P D vwCl (pz_ws ad cy M9) H9 → va_S A s.heap H9 locs9 → (∀ a k : Nat, pz_c (M9 a k)) → W p l e room_1 s m #[Value.ref b] below meth c H9 locs9 cells slots Q (F0 m 1407 ls [])) : W p l e room_1 s m #[Value.ref b] below meth c H locs cells slots Q (F0 m 689 ls []) := by
  obtain ⟨hx, hb, hml, hown, hts, hXX⟩ := id Y
  refine lv_aload_n hx hb (k := 1) (show decode code 689 = .ok (.aload_n 1, 1) from by decide +kernel) rfl (lv_at hl 1 rfl) ?_
  refine pz_la Y hX hbl hbA hL (i := i) (k := 1) (by omega) hl hS (show decode code 690 = .ok (.aload_n 0, 1) from by decide +kernel) (show decode code 691 = .ok (.iload_n 3, 1) from by decide +kernel) (show decode code 692 = .ok (.iconst 1, 1) from by decide +kernel) (show decode code 693 = .ok (.iadd, 1) from by decide +kernel) (show decode code 694 = .ok (.iaload, 1) from by decide +kernel) ?_
  refine pz_la Y hX hbl hbA hL (i := i) (k := 2) (by omega) hl hS (show decode code 695 = .ok (.aload_n 0, 1) from by decide +kernel) (show decode code 696 = .ok (.iload_n 3, 1) from by decide +kernel) (show decode code 697 = .ok (.iconst 2, 1) from by decide +kernel) (show decode code 698 = .ok (.iadd, 1) from by decide +kernel) (show decode code 699 = .ok (.iaload, 1) from by decide +kernel) ?_
  refine pz_crV Y hcs (v3_X11_book (Nat.le_of_ble_eq_true rfl) (Nat.le_of_ble_eq_true rfl) pz_wq862) H locs ls M [.inr (.inr (11, 0)), .inl (xs (i + 1)).toInt, .inl (xs (i + 2)).toInt] [] 700 (show decode code 700 = .ok (.invokevirtual 79, 3) from by decide +kernel) hP hS hM ?_ hl.1 rfl (Nat.le_of_ble_eq_true rfl) (hI) (fun r700 M700 H700 locs700 hq hr hP hS hM => ?_)
  · skip
    exact (List.forall_mem_cons.mpr ⟨(show pz_kd 0 = 11 ∧ 0 < 231 from by decide), (List.forall_mem_cons.mpr ⟨(pz_tc _), (List.forall_mem_cons.mpr ⟨(pz_tc _), List.forall_mem_nil _⟩)⟩)⟩)
  obtain ⟨w700, rfl, C700⟩ := hr
  have hq : _ ∧ _ := hq
  obtain ⟨q700, z700⟩ := hq
  subst z700
  refine lv_pop hx hb (show decode code 703 = .ok (.pop, 1) from by decide +kernel) rfl ?_
  refine lv_aload_n hx hb (k := 2) (show decode code 704 = .ok (.aload_n 2, 1) from by decide +kernel) rfl (lv_at hl 2 rfl) ?_
  refine pz_la Y hX hbl hbA hL (i := i) (k := 1) (by omega) hl hS (show decode code 705 = .ok (.aload_n 0, 1) from by decide +kernel) (show decode code 706 = .ok (.iload_n 3, 1) from by decide +kernel) (show decode code 707 = .ok (.iconst 1, 1) from by decide +kernel) (show decode code 708 = .ok (.iadd, 1) from by decide +kernel) (show decode code 709 = .ok (.iaload, 1) from by decide +kernel) ?_
  refine pz_la Y hX hbl hbA hL (i := i) (k := 2) (by omega) hl hS (show decode code 710 = .ok (.aload_n 0, 1) from by decide +kernel) (show decode code 711 = .ok (.iload_n 3, 1) from by decide +kernel) (show decode code 712 = .ok (.iconst 2, 1) from by decide +kernel) (show decode code 713 = .ok (.iadd, 1) from by decide +kernel) (show decode code 714 = .ok (.iaload, 1) from by decide +kernel) ?_
  refine pz_crV Y hcs (v3_X12_book (Nat.le_of_ble_eq_true rfl) (Nat.le_of_ble_eq_true rfl) pz_wq1594) H700 locs700 ls M [.inr (.inr (12, 1)), .inl (xs (i + 1)).toInt, .inl (xs (i + 2)).toInt] [] 715 (show decode code 715 = .ok (.invokevirtual 82, 3) from by decide +kernel) hP hS hM ?_ hl.1 rfl (Nat.le_of_ble_eq_true rfl) (hJ) (fun r715 M715 H715 locs715 hq hr hP hS hM => ?_)
  · skip
    exact (List.forall_mem_cons.mpr ⟨(show pz_kd 1 = 12 ∧ 1 < 231 from by decide), (List.forall_mem_cons.mpr ⟨(pz_tc _), (List.forall_mem_cons.mpr ⟨(pz_tc _), List.forall_mem_nil _⟩)⟩)⟩)
  obtain ⟨w715, rfl, C715⟩ := hr
  have hq : _ ∧ _ := hq
  obtain ⟨q715, z715⟩ := hq
  subst z715
  refine lv_pop hx hb (show decode code 718 = .ok (.pop, 1) from by decide +kernel) rfl ?_
  refine lv_goto (tgt := 1407) hx hb (show decode code 719 = .ok (.goto 688, 3) from by decide +kernel) (by decide) ?_
  have hR : pz_R M := by
    exact hR
  exact K _ _ _ hI hJ hR hP hS hM
set_option maxRecDepth 100000 in
set_option maxHeartbeats 4000000 in
theorem pz_case16 (Y : pz_Y p s m #[Value.ref b] c code R_law 4 D ad adV cy A) (hcs : cells ≤ room_1.cells ∧ slots ≤ room_1.slots) (hX : va_X b L xs s s.heap) (hbl : b < s.heap.size) (hbA : ¬ A b) (hL : L ≤ 3072) {i : Nat} (hi : i + 6 ≤ L) {H : Heap} {locs : List Loc} {ls : Array Slot} {M : pz_M} (hl : lv_has ls 4 [(0, .ref b), (1, .ref (ad 0)), (2, .ref (ad 1)), (3, .int (Int32.ofNat i))]) (hP : va_P D vwCl (pz_ws ad cy M) H) (hS : va_S A s.heap H locs) (hM : ∀ a k : Nat, pz_c (M a k)) (hI : pz_ic M) (hJ : pz_im M) (hR : pz_R M) (K : ∀ (M9 : pz_M) (H9 : Heap) (locs9 : List Loc), pz_ic M9 → pz_im M9 → pz_R M9 → va_P D vwCl (pz_ws ad cy M9) H9 → va_S A s.heap H9 locs9 → (∀ a k : Nat, pz_c (M9 a k)) → W p l e room_1 s m #[Value.ref b] below meth c H9 locs9 cells slots Q (F0 m 1407 ls [])) : W p l e room_1 s m #[Value.ref b] below meth c H locs cells slots Q (F0 m 722 ls []) := by
  obtain ⟨hx, hb, hml, hown, hts, hXX⟩ := id Y
  refine lv_aload_n hx hb (k := 1) (show decode code 722 = .ok (.aload_n 1, 1) from by decide +kernel) rfl (lv_at hl 1 rfl) ?_
  refine pz_la Y hX hbl hbA hL (i := i) (k := 1) (by omega) hl hS (show decode code 723 = .ok (.aload_n 0, 1) from by decide +kernel) (show decode code 724 = .ok (.iload_n 3, 1) from by decide +kernel) (show decode code 725 = .ok (.iconst 1, 1) from by decide +kernel) (show decode code 726 = .ok (.iadd, 1) from by decide +kernel) (show decode code 727 = .ok (.iaload, 1) from by decide +kernel) ?_
  refine pz_la Y hX hbl hbA hL (i := i) (k := 2) (by omega) hl hS (show decode code 728 = .ok (.aload_n 0, 1) from by decide +kernel) (show decode code 729 = .ok (.iload_n 3, 1) from by decide +kernel) (show decode code 730 = .ok (.iconst 2, 1) from by decide +kernel) (show decode code 731 = .ok (.iadd, 1) from by decide +kernel) (show decode code 732 = .ok (.iaload, 1) from by decide +kernel) ?_
  refine pz_crV Y hcs (v3_X11_goes (Nat.le_of_ble_eq_true rfl) (Nat.le_of_ble_eq_true rfl) pz_wq866) H locs ls M [.inr (.inr (11, 0)), .inl (xs (i + 1)).toInt, .inl (xs (i + 2)).toInt] [] 733 (show decode code 733 = .ok (.invokevirtual 83, 3) from by decide +kernel) hP hS hM ?_ hl.1 rfl (Nat.le_of_ble_eq_true rfl) (hI) (fun r733 M733 H733 locs733 hq hr hP hS hM => ?_)
  · skip
    exact (List.forall_mem_cons.mpr ⟨(show pz_kd 0 = 11 ∧ 0 < 231 from by decide), (List.forall_mem_cons.mpr ⟨(pz_tc _), (List.forall_mem_cons.mpr ⟨(pz_tc _), List.forall_mem_nil _⟩)⟩)⟩)
  obtain ⟨w733, rfl, C733⟩ := hr
  have hq : _ ∧ _ := hq
  obtain ⟨q733, z733⟩ := hq
  have hI8 := hI
  have hR8 : pz_RZ M := hR
  have hJ : pz_im M733 := pz_im_cg (fun b j q => z733.2 b j (by unfold pq_Pg pq_Pk pq_Pw; unfold pz_mid at q; omega)) hJ
  have hI : pz_ic M733 := z733.1 hI
  refine lv_pop hx hb (show decode code 736 = .ok (.pop, 1) from by decide +kernel) rfl ?_
  refine lv_aload_n hx hb (k := 2) (show decode code 737 = .ok (.aload_n 2, 1) from by decide +kernel) rfl (lv_at hl 2 rfl) ?_
  refine pz_la Y hX hbl hbA hL (i := i) (k := 1) (by omega) hl hS (show decode code 738 = .ok (.aload_n 0, 1) from by decide +kernel) (show decode code 739 = .ok (.iload_n 3, 1) from by decide +kernel) (show decode code 740 = .ok (.iconst 1, 1) from by decide +kernel) (show decode code 741 = .ok (.iadd, 1) from by decide +kernel) (show decode code 742 = .ok (.iaload, 1) from by decide +kernel) ?_
  refine pz_la Y hX hbl hbA hL (i := i) (k := 2) (by omega) hl hS (show decode code 743 = .ok (.aload_n 0, 1) from by decide +kernel) (show decode code 744 = .ok (.iload_n 3, 1) from by decide +kernel) (show decode code 745 = .ok (.iconst 2, 1) from by decide +kernel) (show decode code 746 = .ok (.iadd, 1) from by decide +kernel) (show decode code 747 = .ok (.iaload, 1) from by decide +kernel) ?_
  refine pz_crV Y hcs (v3_X12_goes (Nat.le_of_ble_eq_true rfl) (Nat.le_of_ble_eq_true rfl) pz_wq1598) H733 locs733 ls M733 [.inr (.inr (12, 1)), .inl (xs (i + 1)).toInt, .inl (xs (i + 2)).toInt] [] 748 (show decode code 748 = .ok (.invokevirtual 86, 3) from by decide +kernel) hP hS hM ?_ hl.1 rfl (Nat.le_of_ble_eq_true rfl) (hJ) (fun r748 M748 H748 locs748 hq hr hP hS hM => ?_)
  · skip
    exact (List.forall_mem_cons.mpr ⟨(show pz_kd 1 = 12 ∧ 1 < 231 from by decide), (List.forall_mem_cons.mpr ⟨(pz_tc _), (List.forall_mem_cons.mpr ⟨(pz_tc _), List.forall_mem_nil _⟩)⟩)⟩)
  obtain ⟨w748, rfl, C748⟩ := hr
  have hq : _ ∧ _ := hq
  obtain ⟨q748, z748⟩ := hq
  obtain ⟨E8, hR⟩ := pz_RZ_goes hI8 hR8 q733 z733 q748 z748
  have hI : pz_ic M748 := pz_ic_cg (fun b j q => z748.2 b j (by unfold pz_QG; unfold pz_mid at q; omega)) hI
  have hJ : pz_im M748 := z748.1 hJ
  refine lv_pop hx hb (show decode code 751 = .ok (.pop, 1) from by decide +kernel) rfl ?_
  refine lv_goto (tgt := 1407) hx hb (show decode code 752 = .ok (.goto 655, 3) from by decide +kernel) (by decide) ?_
  have hR : pz_R M748 := by
    exact hR
  exact K _ _ _ hI hJ hR hP hS hM
set_option maxRecDepth 100000 in
set_option maxHeartbeats 4000000 in
theorem pz_case17 (Y : pz_Y p s m #[Value.ref b] c code R_law 4 D ad adV cy A) (hcs : cells ≤ room_1.cells ∧ slots ≤ room_1.slots) (hX : va_X b L xs s s.heap) (hbl : b < s.heap.size) (hbA : ¬ A b) (hL : L ≤ 3072) {i : Nat} (hi : i + 6 ≤ L) {H : Heap} {locs : List Loc} {ls : Array Slot} {M : pz_M} (hl : lv_has ls 4 [(0, .ref b), (1, .ref (ad 0)), (2, .ref (ad 1)), (3, .int (Int32.ofNat i))]) (hP : va_P D vwCl (pz_ws ad cy M) H) (hS : va_S A s.heap H locs) (hM : ∀ a k : Nat, pz_c (M a k)) (hI : pz_ic M) (hJ : pz_im M) (hR : pz_R M) (K : ∀ (M9 : pz_M) (H9 : Heap) (locs9 : List Loc), pz_ic M9 → pz_im M9 → pz_R M9 → va_P D vwCl (pz_ws ad cy M9) H9 → va_S A s.heap H9 locs9 → (∀ a k : Nat, pz_c (M9 a k)) → W p l e room_1 s m #[Value.ref b] below meth c H9 locs9 cells slots Q (F0 m 1407 ls [])) : W p l e room_1 s m #[Value.ref b] below meth c H locs cells slots Q (F0 m 755 ls []) := by
  obtain ⟨hx, hb, hml, hown, hts, hXX⟩ := id Y
  refine lv_aload_n hx hb (k := 1) (show decode code 755 = .ok (.aload_n 1, 1) from by decide +kernel) rfl (lv_at hl 1 rfl) ?_
  refine pz_la Y hX hbl hbA hL (i := i) (k := 1) (by omega) hl hS (show decode code 756 = .ok (.aload_n 0, 1) from by decide +kernel) (show decode code 757 = .ok (.iload_n 3, 1) from by decide +kernel) (show decode code 758 = .ok (.iconst 1, 1) from by decide +kernel) (show decode code 759 = .ok (.iadd, 1) from by decide +kernel) (show decode code 760 = .ok (.iaload, 1) from by decide +kernel) ?_
  refine pz_crV Y hcs (v3_X11_odds (Nat.le_of_ble_eq_true rfl) (Nat.le_of_ble_eq_true rfl) pz_wq880) H locs ls M [.inr (.inr (11, 0)), .inl (xs (i + 1)).toInt] [] 761 (show decode code 761 = .ok (.invokevirtual 87, 3) from by decide +kernel) hP hS hM ?_ hl.1 rfl (Nat.le_of_ble_eq_true rfl) (hI) (fun r761 M761 H761 locs761 hq hr hP hS hM => ?_)
  · skip
    exact (List.forall_mem_cons.mpr ⟨(show pz_kd 0 = 11 ∧ 0 < 231 from by decide), (List.forall_mem_cons.mpr ⟨(pz_tc _), List.forall_mem_nil _⟩)⟩)
  obtain ⟨w761, rfl, C761⟩ := hr
  have hq : _ ∧ _ := hq
  obtain ⟨q761, z761⟩ := hq
  have hR8 : pz_RZ M := hR
  have hR : pz_RZ M761 := pz_RZ_k hI hR z761
  have hJ : pz_im M761 := pz_im_cg (fun b j q => z761.2 b j (by unfold pq_Pk pq_Pw; unfold pz_mid at q; omega)) hJ
  have hI : pz_ic M761 := z761.1 hI
  refine lv_pop hx hb (show decode code 764 = .ok (.pop, 1) from by decide +kernel) rfl ?_
  refine lv_aload_n hx hb (k := 2) (show decode code 765 = .ok (.aload_n 2, 1) from by decide +kernel) rfl (lv_at hl 2 rfl) ?_
  refine pz_la Y hX hbl hbA hL (i := i) (k := 1) (by omega) hl hS (show decode code 766 = .ok (.aload_n 0, 1) from by decide +kernel) (show decode code 767 = .ok (.iload_n 3, 1) from by decide +kernel) (show decode code 768 = .ok (.iconst 1, 1) from by decide +kernel) (show decode code 769 = .ok (.iadd, 1) from by decide +kernel) (show decode code 770 = .ok (.iaload, 1) from by decide +kernel) ?_
  refine pz_crV Y hcs (v3_X12_odds (Nat.le_of_ble_eq_true rfl) (Nat.le_of_ble_eq_true rfl) pz_wq1613) H761 locs761 ls M761 [.inr (.inr (12, 1)), .inl (xs (i + 1)).toInt] [] 771 (show decode code 771 = .ok (.invokevirtual 90, 3) from by decide +kernel) hP hS hM ?_ hl.1 rfl (Nat.le_of_ble_eq_true rfl) (hJ) (fun r771 M771 H771 locs771 hq hr hP hS hM => ?_)
  · skip
    exact (List.forall_mem_cons.mpr ⟨(show pz_kd 1 = 12 ∧ 1 < 231 from by decide), (List.forall_mem_cons.mpr ⟨(pz_tc _), List.forall_mem_nil _⟩)⟩)
  obtain ⟨w771, rfl, C771⟩ := hr
  have hq : _ ∧ _ := hq
  obtain ⟨q771, z771⟩ := hq
  have hR : pz_RZ M771 := pz_RZ_v hR z771
  have hI : pz_ic M771 := pz_ic_cg (fun b j q => z771.2 b j (by unfold pz_QV; unfold pz_mid at q; omega)) hI
  have hJ : pz_im M771 := z771.1 hJ
  refine lv_pop hx hb (show decode code 774 = .ok (.pop, 1) from by decide +kernel) rfl ?_
  refine lv_goto (tgt := 1407) hx hb (show decode code 775 = .ok (.goto 632, 3) from by decide +kernel) (by decide) ?_
  have hR : pz_R M771 := by
    exact hR
  exact K _ _ _ hI hJ hR hP hS hM
set_option maxRecDepth 100000 in
set_option maxHeartbeats 4000000 in
theorem pz_case18 (Y : pz_Y p s m #[Value.ref b] c code R_law 4 D ad adV cy A) (hcs : cells ≤ room_1.cells ∧ slots ≤ room_1.slots) (hX : va_X b L xs s s.heap) (hbl : b < s.heap.size) (hbA : ¬ A b) (hL : L ≤ 3072) {i : Nat} (hi : i + 6 ≤ L) {H : Heap} {locs : List Loc} {ls : Array Slot} {M : pz_M} (hl : lv_has ls 4 [(0, .ref b), (1, .ref (ad 0)), (2, .ref (ad 1)), (3, .int (Int32.ofNat i))]) (hP : va_P D vwCl (pz_ws ad cy M) H) (hS : va_S A s.heap H locs) (hM : ∀ a k : Nat, pz_c (M a k)) (hI : pz_ic M) (hJ : pz_im M) (hR : pz_R M) (K : ∀ (M9 : pz_M) (H9 : Heap) (locs9 : List Loc), pz_ic M9 → pz_im M9 → pz_R M9 → va_P D vwCl (pz_ws ad cy M9) H9 → va_S A s.heap H9 locs9 → (∀ a k : Nat, pz_c (M9 a k)) → W p l e room_1 s m #[Value.ref b] below meth c H9 locs9 cells slots Q (F0 m 1407 ls [])) : W p l e room_1 s m #[Value.ref b] below meth c H locs cells slots Q (F0 m 778 ls []) := by
  obtain ⟨hx, hb, hml, hown, hts, hXX⟩ := id Y
  refine lv_aload_n hx hb (k := 1) (show decode code 778 = .ok (.aload_n 1, 1) from by decide +kernel) rfl (lv_at hl 1 rfl) ?_
  refine pz_la Y hX hbl hbA hL (i := i) (k := 1) (by omega) hl hS (show decode code 779 = .ok (.aload_n 0, 1) from by decide +kernel) (show decode code 780 = .ok (.iload_n 3, 1) from by decide +kernel) (show decode code 781 = .ok (.iconst 1, 1) from by decide +kernel) (show decode code 782 = .ok (.iadd, 1) from by decide +kernel) (show decode code 783 = .ok (.iaload, 1) from by decide +kernel) ?_
  refine pz_la Y hX hbl hbA hL (i := i) (k := 2) (by omega) hl hS (show decode code 784 = .ok (.aload_n 0, 1) from by decide +kernel) (show decode code 785 = .ok (.iload_n 3, 1) from by decide +kernel) (show decode code 786 = .ok (.iconst 2, 1) from by decide +kernel) (show decode code 787 = .ok (.iadd, 1) from by decide +kernel) (show decode code 788 = .ok (.iaload, 1) from by decide +kernel) ?_
  refine pz_crV Y hcs (v3_X11_holds (Nat.le_of_ble_eq_true rfl) (Nat.le_of_ble_eq_true rfl) pz_wq913) H locs ls M [.inr (.inr (11, 0)), .inl (xs (i + 1)).toInt, .inl (xs (i + 2)).toInt] [] 789 (show decode code 789 = .ok (.invokevirtual 91, 3) from by decide +kernel) hP hS hM ?_ hl.1 rfl (Nat.le_of_ble_eq_true rfl) (hI) (fun r789 M789 H789 locs789 hq hr hP hS hM => ?_)
  · skip
    exact (List.forall_mem_cons.mpr ⟨(show pz_kd 0 = 11 ∧ 0 < 231 from by decide), (List.forall_mem_cons.mpr ⟨(pz_tc _), (List.forall_mem_cons.mpr ⟨(pz_tc _), List.forall_mem_nil _⟩)⟩)⟩)
  obtain ⟨w789, rfl, C789⟩ := hr
  have hq : _ ∧ _ := hq
  obtain ⟨q789, z789⟩ := hq
  have hR8 : pz_RZ M := hR
  have hR : pz_RZ M789 := pz_RZ_k hI hR z789
  have hJ : pz_im M789 := pz_im_cg (fun b j q => z789.2 b j (by unfold pq_Pk pq_Pw; unfold pz_mid at q; omega)) hJ
  have hI : pz_ic M789 := z789.1 hI
  refine lv_pop hx hb (show decode code 792 = .ok (.pop, 1) from by decide +kernel) rfl ?_
  refine lv_aload_n hx hb (k := 2) (show decode code 793 = .ok (.aload_n 2, 1) from by decide +kernel) rfl (lv_at hl 2 rfl) ?_
  refine pz_la Y hX hbl hbA hL (i := i) (k := 1) (by omega) hl hS (show decode code 794 = .ok (.aload_n 0, 1) from by decide +kernel) (show decode code 795 = .ok (.iload_n 3, 1) from by decide +kernel) (show decode code 796 = .ok (.iconst 1, 1) from by decide +kernel) (show decode code 797 = .ok (.iadd, 1) from by decide +kernel) (show decode code 798 = .ok (.iaload, 1) from by decide +kernel) ?_
  refine pz_la Y hX hbl hbA hL (i := i) (k := 2) (by omega) hl hS (show decode code 799 = .ok (.aload_n 0, 1) from by decide +kernel) (show decode code 800 = .ok (.iload_n 3, 1) from by decide +kernel) (show decode code 801 = .ok (.iconst 2, 1) from by decide +kernel) (show decode code 802 = .ok (.iadd, 1) from by decide +kernel) (show decode code 803 = .ok (.iaload, 1) from by decide +kernel) ?_
  refine pz_crV Y hcs (v3_X12_holds (Nat.le_of_ble_eq_true rfl) (Nat.le_of_ble_eq_true rfl) pz_wq1630) H789 locs789 ls M789 [.inr (.inr (12, 1)), .inl (xs (i + 1)).toInt, .inl (xs (i + 2)).toInt] [] 804 (show decode code 804 = .ok (.invokevirtual 94, 3) from by decide +kernel) hP hS hM ?_ hl.1 rfl (Nat.le_of_ble_eq_true rfl) (hJ) (fun r804 M804 H804 locs804 hq hr hP hS hM => ?_)
  · skip
    exact (List.forall_mem_cons.mpr ⟨(show pz_kd 1 = 12 ∧ 1 < 231 from by decide), (List.forall_mem_cons.mpr ⟨(pz_tc _), (List.forall_mem_cons.mpr ⟨(pz_tc _), List.forall_mem_nil _⟩)⟩)⟩)
  obtain ⟨w804, rfl, C804⟩ := hr
  have hq : _ ∧ _ := hq
  obtain ⟨q804, z804⟩ := hq
  have hR : pz_RZ M804 := pz_RZ_v hR z804
  have hI : pz_ic M804 := pz_ic_cg (fun b j q => z804.2 b j (by unfold pz_QV; unfold pz_mid at q; omega)) hI
  have hJ : pz_im M804 := z804.1 hJ
  refine lv_pop hx hb (show decode code 807 = .ok (.pop, 1) from by decide +kernel) rfl ?_
  refine lv_goto (tgt := 1407) hx hb (show decode code 808 = .ok (.goto 599, 3) from by decide +kernel) (by decide) ?_
  have hR : pz_R M804 := by
    exact hR
  exact K _ _ _ hI hJ hR hP hS hM
set_option maxRecDepth 100000 in
set_option maxHeartbeats 4000000 in
theorem pz_case19 (Y : pz_Y p s m #[Value.ref b] c code R_law 4 D ad adV cy A) (hcs : cells ≤ room_1.cells ∧ slots ≤ room_1.slots) (hX : va_X b L xs s s.heap) (hbl : b < s.heap.size) (hbA : ¬ A b) (hL : L ≤ 3072) {i : Nat} (hi : i + 6 ≤ L) {H : Heap} {locs : List Loc} {ls : Array Slot} {M : pz_M} (hl : lv_has ls 4 [(0, .ref b), (1, .ref (ad 0)), (2, .ref (ad 1)), (3, .int (Int32.ofNat i))]) (hP : va_P D vwCl (pz_ws ad cy M) H) (hS : va_S A s.heap H locs) (hM : ∀ a k : Nat, pz_c (M a k)) (hI : pz_ic M) (hJ : pz_im M) (hR : pz_R M) (K : ∀ (M9 : pz_M) (H9 : Heap) (locs9 : List Loc), pz_ic M9 → pz_im M9 → pz_R M9 → va_P D vwCl (pz_ws ad cy M9) H9 → va_S A s.heap H9 locs9 → (∀ a k : Nat, pz_c (M9 a k)) → W p l e room_1 s m #[Value.ref b] below meth c H9 locs9 cells slots Q (F0 m 1407 ls [])) : W p l e room_1 s m #[Value.ref b] below meth c H locs cells slots Q (F0 m 811 ls []) := by
  obtain ⟨hx, hb, hml, hown, hts, hXX⟩ := id Y
  refine lv_aload_n hx hb (k := 1) (show decode code 811 = .ok (.aload_n 1, 1) from by decide +kernel) rfl (lv_at hl 1 rfl) ?_
  refine pz_la Y hX hbl hbA hL (i := i) (k := 1) (by omega) hl hS (show decode code 812 = .ok (.aload_n 0, 1) from by decide +kernel) (show decode code 813 = .ok (.iload_n 3, 1) from by decide +kernel) (show decode code 814 = .ok (.iconst 1, 1) from by decide +kernel) (show decode code 815 = .ok (.iadd, 1) from by decide +kernel) (show decode code 816 = .ok (.iaload, 1) from by decide +kernel) ?_
  refine pz_la Y hX hbl hbA hL (i := i) (k := 2) (by omega) hl hS (show decode code 817 = .ok (.aload_n 0, 1) from by decide +kernel) (show decode code 818 = .ok (.iload_n 3, 1) from by decide +kernel) (show decode code 819 = .ok (.iconst 2, 1) from by decide +kernel) (show decode code 820 = .ok (.iadd, 1) from by decide +kernel) (show decode code 821 = .ok (.iaload, 1) from by decide +kernel) ?_
  refine pz_crV Y hcs (v_X11_many (Nat.le_of_ble_eq_true rfl) (Nat.le_of_ble_eq_true rfl) pz_wq922) H locs ls M [.inr (.inr (11, 0)), .inl (xs (i + 1)).toInt, .inl (xs (i + 2)).toInt] [] 822 (show decode code 822 = .ok (.invokevirtual 95, 3) from by decide +kernel) hP hS hM ?_ hl.1 rfl (Nat.le_of_ble_eq_true rfl) (hI) (fun r822 M822 H822 locs822 hq hr hP hS hM => ?_)
  · skip
    exact (List.forall_mem_cons.mpr ⟨(show pz_kd 0 = 11 ∧ 0 < 231 from by decide), (List.forall_mem_cons.mpr ⟨(pz_tc _), (List.forall_mem_cons.mpr ⟨(pz_tc _), List.forall_mem_nil _⟩)⟩)⟩)
  obtain ⟨w822, rfl, C822⟩ := hr
  have hq : _ ∧ _ := hq
  obtain ⟨q822, z822⟩ := hq
  subst z822
  refine lv_pop hx hb (show decode code 825 = .ok (.pop, 1) from by decide +kernel) rfl ?_
  refine lv_aload_n hx hb (k := 2) (show decode code 826 = .ok (.aload_n 2, 1) from by decide +kernel) rfl (lv_at hl 2 rfl) ?_
  refine pz_la Y hX hbl hbA hL (i := i) (k := 1) (by omega) hl hS (show decode code 827 = .ok (.aload_n 0, 1) from by decide +kernel) (show decode code 828 = .ok (.iload_n 3, 1) from by decide +kernel) (show decode code 829 = .ok (.iconst 1, 1) from by decide +kernel) (show decode code 830 = .ok (.iadd, 1) from by decide +kernel) (show decode code 831 = .ok (.iaload, 1) from by decide +kernel) ?_
  refine pz_la Y hX hbl hbA hL (i := i) (k := 2) (by omega) hl hS (show decode code 832 = .ok (.aload_n 0, 1) from by decide +kernel) (show decode code 833 = .ok (.iload_n 3, 1) from by decide +kernel) (show decode code 834 = .ok (.iconst 2, 1) from by decide +kernel) (show decode code 835 = .ok (.iadd, 1) from by decide +kernel) (show decode code 836 = .ok (.iaload, 1) from by decide +kernel) ?_
  refine pz_crV Y hcs (v_X12_many (Nat.le_of_ble_eq_true rfl) (Nat.le_of_ble_eq_true rfl) pz_wq1634) H822 locs822 ls M [.inr (.inr (12, 1)), .inl (xs (i + 1)).toInt, .inl (xs (i + 2)).toInt] [] 837 (show decode code 837 = .ok (.invokevirtual 98, 3) from by decide +kernel) hP hS hM ?_ hl.1 rfl (Nat.le_of_ble_eq_true rfl) (hJ) (fun r837 M837 H837 locs837 hq hr hP hS hM => ?_)
  · skip
    exact (List.forall_mem_cons.mpr ⟨(show pz_kd 1 = 12 ∧ 1 < 231 from by decide), (List.forall_mem_cons.mpr ⟨(pz_tc _), (List.forall_mem_cons.mpr ⟨(pz_tc _), List.forall_mem_nil _⟩)⟩)⟩)
  obtain ⟨w837, rfl, C837⟩ := hr
  have hq : _ ∧ _ := hq
  obtain ⟨q837, z837⟩ := hq
  subst z837
  refine lv_pop hx hb (show decode code 840 = .ok (.pop, 1) from by decide +kernel) rfl ?_
  refine lv_goto (tgt := 1407) hx hb (show decode code 841 = .ok (.goto 566, 3) from by decide +kernel) (by decide) ?_
  have hR : pz_R M := by
    exact hR
  exact K _ _ _ hI hJ hR hP hS hM
set_option maxRecDepth 100000 in
set_option maxHeartbeats 4000000 in
theorem pz_case20 (Y : pz_Y p s m #[Value.ref b] c code R_law 4 D ad adV cy A) (hcs : cells ≤ room_1.cells ∧ slots ≤ room_1.slots) (hX : va_X b L xs s s.heap) (hbl : b < s.heap.size) (hbA : ¬ A b) (hL : L ≤ 3072) {i : Nat} (hi : i + 6 ≤ L) {H : Heap} {locs : List Loc} {ls : Array Slot} {M : pz_M} (hl : lv_has ls 4 [(0, .ref b), (1, .ref (ad 0)), (2, .ref (ad 1)), (3, .int (Int32.ofNat i))]) (hP : va_P D vwCl (pz_ws ad cy M) H) (hS : va_S A s.heap H locs) (hM : ∀ a k : Nat, pz_c (M a k)) (hI : pz_ic M) (hJ : pz_im M) (hR : pz_R M) (K : ∀ (M9 : pz_M) (H9 : Heap) (locs9 : List Loc), pz_ic M9 → pz_im M9 → pz_R M9 → va_P D vwCl (pz_ws ad cy M9) H9 → va_S A s.heap H9 locs9 → (∀ a k : Nat, pz_c (M9 a k)) → W p l e room_1 s m #[Value.ref b] below meth c H9 locs9 cells slots Q (F0 m 1407 ls [])) : W p l e room_1 s m #[Value.ref b] below meth c H locs cells slots Q (F0 m 844 ls []) := by
  obtain ⟨hx, hb, hml, hown, hts, hXX⟩ := id Y
  refine lv_aload_n hx hb (k := 1) (show decode code 844 = .ok (.aload_n 1, 1) from by decide +kernel) rfl (lv_at hl 1 rfl) ?_
  refine pz_la Y hX hbl hbA hL (i := i) (k := 1) (by omega) hl hS (show decode code 845 = .ok (.aload_n 0, 1) from by decide +kernel) (show decode code 846 = .ok (.iload_n 3, 1) from by decide +kernel) (show decode code 847 = .ok (.iconst 1, 1) from by decide +kernel) (show decode code 848 = .ok (.iadd, 1) from by decide +kernel) (show decode code 849 = .ok (.iaload, 1) from by decide +kernel) ?_
  refine pz_la Y hX hbl hbA hL (i := i) (k := 2) (by omega) hl hS (show decode code 850 = .ok (.aload_n 0, 1) from by decide +kernel) (show decode code 851 = .ok (.iload_n 3, 1) from by decide +kernel) (show decode code 852 = .ok (.iconst 2, 1) from by decide +kernel) (show decode code 853 = .ok (.iadd, 1) from by decide +kernel) (show decode code 854 = .ok (.iaload, 1) from by decide +kernel) ?_
  refine pz_la Y hX hbl hbA hL (i := i) (k := 3) (by omega) hl hS (show decode code 855 = .ok (.aload_n 0, 1) from by decide +kernel) (show decode code 856 = .ok (.iload_n 3, 1) from by decide +kernel) (show decode code 857 = .ok (.iconst 3, 1) from by decide +kernel) (show decode code 858 = .ok (.iadd, 1) from by decide +kernel) (show decode code 859 = .ok (.iaload, 1) from by decide +kernel) ?_
  refine pz_crV Y hcs (v3_X11_bridges (Nat.le_of_ble_eq_true rfl) (Nat.le_of_ble_eq_true rfl) pz_wq932) H locs ls M [.inr (.inr (11, 0)), .inl (xs (i + 1)).toInt, .inl (xs (i + 2)).toInt, .inl (xs (i + 3)).toInt] [] 860 (show decode code 860 = .ok (.invokevirtual 99, 3) from by decide +kernel) hP hS hM ?_ hl.1 rfl (Nat.le_of_ble_eq_true rfl) (hI) (fun r860 M860 H860 locs860 hq hr hP hS hM => ?_)
  · skip
    exact (List.forall_mem_cons.mpr ⟨(show pz_kd 0 = 11 ∧ 0 < 231 from by decide), (List.forall_mem_cons.mpr ⟨(pz_tc _), (List.forall_mem_cons.mpr ⟨(pz_tc _), (List.forall_mem_cons.mpr ⟨(pz_tc _), List.forall_mem_nil _⟩)⟩)⟩)⟩)
  obtain ⟨w860, rfl, C860⟩ := hr
  have hq : _ ∧ _ := hq
  obtain ⟨q860, z860⟩ := hq
  have hR8 : pz_RZ M := hR
  have hR : pz_RZ M860 := pz_RZ_k hI hR z860
  have hJ : pz_im M860 := pz_im_cg (fun b j q => z860.2 b j (by unfold pq_Pk pq_Pw; unfold pz_mid at q; omega)) hJ
  have hI : pz_ic M860 := z860.1 hI
  refine lv_pop hx hb (show decode code 863 = .ok (.pop, 1) from by decide +kernel) rfl ?_
  refine lv_aload_n hx hb (k := 2) (show decode code 864 = .ok (.aload_n 2, 1) from by decide +kernel) rfl (lv_at hl 2 rfl) ?_
  refine pz_la Y hX hbl hbA hL (i := i) (k := 1) (by omega) hl hS (show decode code 865 = .ok (.aload_n 0, 1) from by decide +kernel) (show decode code 866 = .ok (.iload_n 3, 1) from by decide +kernel) (show decode code 867 = .ok (.iconst 1, 1) from by decide +kernel) (show decode code 868 = .ok (.iadd, 1) from by decide +kernel) (show decode code 869 = .ok (.iaload, 1) from by decide +kernel) ?_
  refine pz_la Y hX hbl hbA hL (i := i) (k := 2) (by omega) hl hS (show decode code 870 = .ok (.aload_n 0, 1) from by decide +kernel) (show decode code 871 = .ok (.iload_n 3, 1) from by decide +kernel) (show decode code 872 = .ok (.iconst 2, 1) from by decide +kernel) (show decode code 873 = .ok (.iadd, 1) from by decide +kernel) (show decode code 874 = .ok (.iaload, 1) from by decide +kernel) ?_
  refine pz_la Y hX hbl hbA hL (i := i) (k := 3) (by omega) hl hS (show decode code 875 = .ok (.aload_n 0, 1) from by decide +kernel) (show decode code 876 = .ok (.iload_n 3, 1) from by decide +kernel) (show decode code 877 = .ok (.iconst 3, 1) from by decide +kernel) (show decode code 878 = .ok (.iadd, 1) from by decide +kernel) (show decode code 879 = .ok (.iaload, 1) from by decide +kernel) ?_
  refine pz_crV Y hcs (v3_X12_bridges (Nat.le_of_ble_eq_true rfl) (Nat.le_of_ble_eq_true rfl) pz_wq1661) H860 locs860 ls M860 [.inr (.inr (12, 1)), .inl (xs (i + 1)).toInt, .inl (xs (i + 2)).toInt, .inl (xs (i + 3)).toInt] [] 880 (show decode code 880 = .ok (.invokevirtual 103, 3) from by decide +kernel) hP hS hM ?_ hl.1 rfl (Nat.le_of_ble_eq_true rfl) (hJ) (fun r880 M880 H880 locs880 hq hr hP hS hM => ?_)
  · skip
    exact (List.forall_mem_cons.mpr ⟨(show pz_kd 1 = 12 ∧ 1 < 231 from by decide), (List.forall_mem_cons.mpr ⟨(pz_tc _), (List.forall_mem_cons.mpr ⟨(pz_tc _), (List.forall_mem_cons.mpr ⟨(pz_tc _), List.forall_mem_nil _⟩)⟩)⟩)⟩)
  obtain ⟨w880, rfl, C880⟩ := hr
  have hq : _ ∧ _ := hq
  obtain ⟨q880, z880⟩ := hq
  have hR : pz_RZ M880 := pz_RZ_v hR z880
  have hI : pz_ic M880 := pz_ic_cg (fun b j q => z880.2 b j (by unfold pz_QV; unfold pz_mid at q; omega)) hI
  have hJ : pz_im M880 := z880.1 hJ
  refine lv_pop hx hb (show decode code 883 = .ok (.pop, 1) from by decide +kernel) rfl ?_
  refine lv_goto (tgt := 1407) hx hb (show decode code 884 = .ok (.goto 523, 3) from by decide +kernel) (by decide) ?_
  have hR : pz_R M880 := by
    exact hR
  exact K _ _ _ hI hJ hR hP hS hM
set_option maxRecDepth 100000 in
set_option maxHeartbeats 4000000 in
theorem pz_case21 (Y : pz_Y p s m #[Value.ref b] c code R_law 4 D ad adV cy A) (hcs : cells ≤ room_1.cells ∧ slots ≤ room_1.slots) (hX : va_X b L xs s s.heap) (hbl : b < s.heap.size) (hbA : ¬ A b) (hL : L ≤ 3072) {i : Nat} (hi : i + 6 ≤ L) {H : Heap} {locs : List Loc} {ls : Array Slot} {M : pz_M} (hl : lv_has ls 4 [(0, .ref b), (1, .ref (ad 0)), (2, .ref (ad 1)), (3, .int (Int32.ofNat i))]) (hP : va_P D vwCl (pz_ws ad cy M) H) (hS : va_S A s.heap H locs) (hM : ∀ a k : Nat, pz_c (M a k)) (hI : pz_ic M) (hJ : pz_im M) (hR : pz_R M) (K : ∀ (M9 : pz_M) (H9 : Heap) (locs9 : List Loc), pz_ic M9 → pz_im M9 → pz_R M9 → va_P D vwCl (pz_ws ad cy M9) H9 → va_S A s.heap H9 locs9 → (∀ a k : Nat, pz_c (M9 a k)) → W p l e room_1 s m #[Value.ref b] below meth c H9 locs9 cells slots Q (F0 m 1407 ls [])) : W p l e room_1 s m #[Value.ref b] below meth c H locs cells slots Q (F0 m 887 ls []) := by
  obtain ⟨hx, hb, hml, hown, hts, hXX⟩ := id Y
  refine lv_aload_n hx hb (k := 1) (show decode code 887 = .ok (.aload_n 1, 1) from by decide +kernel) rfl (lv_at hl 1 rfl) ?_
  refine pz_la Y hX hbl hbA hL (i := i) (k := 1) (by omega) hl hS (show decode code 888 = .ok (.aload_n 0, 1) from by decide +kernel) (show decode code 889 = .ok (.iload_n 3, 1) from by decide +kernel) (show decode code 890 = .ok (.iconst 1, 1) from by decide +kernel) (show decode code 891 = .ok (.iadd, 1) from by decide +kernel) (show decode code 892 = .ok (.iaload, 1) from by decide +kernel) ?_
  refine pz_la Y hX hbl hbA hL (i := i) (k := 2) (by omega) hl hS (show decode code 893 = .ok (.aload_n 0, 1) from by decide +kernel) (show decode code 894 = .ok (.iload_n 3, 1) from by decide +kernel) (show decode code 895 = .ok (.iconst 2, 1) from by decide +kernel) (show decode code 896 = .ok (.iadd, 1) from by decide +kernel) (show decode code 897 = .ok (.iaload, 1) from by decide +kernel) ?_
  refine pz_crV Y hcs (v_X11_share (Nat.le_of_ble_eq_true rfl) (Nat.le_of_ble_eq_true rfl) pz_wq961) H locs ls M [.inr (.inr (11, 0)), .inl (xs (i + 1)).toInt, .inl (xs (i + 2)).toInt] [] 898 (show decode code 898 = .ok (.invokevirtual 104, 3) from by decide +kernel) hP hS hM ?_ hl.1 rfl (Nat.le_of_ble_eq_true rfl) (hI) (fun r898 M898 H898 locs898 hq hr hP hS hM => ?_)
  · skip
    exact (List.forall_mem_cons.mpr ⟨(show pz_kd 0 = 11 ∧ 0 < 231 from by decide), (List.forall_mem_cons.mpr ⟨(pz_tc _), (List.forall_mem_cons.mpr ⟨(pz_tc _), List.forall_mem_nil _⟩)⟩)⟩)
  obtain ⟨w898, rfl, C898⟩ := hr
  have hq : _ ∧ _ := hq
  obtain ⟨q898, z898⟩ := hq
  subst z898
  refine lv_pop hx hb (show decode code 901 = .ok (.pop, 1) from by decide +kernel) rfl ?_
  refine lv_aload_n hx hb (k := 2) (show decode code 902 = .ok (.aload_n 2, 1) from by decide +kernel) rfl (lv_at hl 2 rfl) ?_
  refine pz_la Y hX hbl hbA hL (i := i) (k := 1) (by omega) hl hS (show decode code 903 = .ok (.aload_n 0, 1) from by decide +kernel) (show decode code 904 = .ok (.iload_n 3, 1) from by decide +kernel) (show decode code 905 = .ok (.iconst 1, 1) from by decide +kernel) (show decode code 906 = .ok (.iadd, 1) from by decide +kernel) (show decode code 907 = .ok (.iaload, 1) from by decide +kernel) ?_
  refine pz_la Y hX hbl hbA hL (i := i) (k := 2) (by omega) hl hS (show decode code 908 = .ok (.aload_n 0, 1) from by decide +kernel) (show decode code 909 = .ok (.iload_n 3, 1) from by decide +kernel) (show decode code 910 = .ok (.iconst 2, 1) from by decide +kernel) (show decode code 911 = .ok (.iadd, 1) from by decide +kernel) (show decode code 912 = .ok (.iaload, 1) from by decide +kernel) ?_
  refine pz_crV Y hcs (v_X12_share (Nat.le_of_ble_eq_true rfl) (Nat.le_of_ble_eq_true rfl) pz_wq1673) H898 locs898 ls M [.inr (.inr (12, 1)), .inl (xs (i + 1)).toInt, .inl (xs (i + 2)).toInt] [] 913 (show decode code 913 = .ok (.invokevirtual 107, 3) from by decide +kernel) hP hS hM ?_ hl.1 rfl (Nat.le_of_ble_eq_true rfl) (hJ) (fun r913 M913 H913 locs913 hq hr hP hS hM => ?_)
  · skip
    exact (List.forall_mem_cons.mpr ⟨(show pz_kd 1 = 12 ∧ 1 < 231 from by decide), (List.forall_mem_cons.mpr ⟨(pz_tc _), (List.forall_mem_cons.mpr ⟨(pz_tc _), List.forall_mem_nil _⟩)⟩)⟩)
  obtain ⟨w913, rfl, C913⟩ := hr
  have hq : _ ∧ _ := hq
  obtain ⟨q913, z913⟩ := hq
  subst z913
  refine lv_pop hx hb (show decode code 916 = .ok (.pop, 1) from by decide +kernel) rfl ?_
  refine lv_goto (tgt := 1407) hx hb (show decode code 917 = .ok (.goto 490, 3) from by decide +kernel) (by decide) ?_
  have hR : pz_R M := by
    exact hR
  exact K _ _ _ hI hJ hR hP hS hM
set_option maxRecDepth 100000 in
set_option maxHeartbeats 4000000 in
theorem pz_case22 (Y : pz_Y p s m #[Value.ref b] c code R_law 4 D ad adV cy A) (hcs : cells ≤ room_1.cells ∧ slots ≤ room_1.slots) (hX : va_X b L xs s s.heap) (hbl : b < s.heap.size) (hbA : ¬ A b) (hL : L ≤ 3072) {i : Nat} (hi : i + 6 ≤ L) {H : Heap} {locs : List Loc} {ls : Array Slot} {M : pz_M} (hl : lv_has ls 4 [(0, .ref b), (1, .ref (ad 0)), (2, .ref (ad 1)), (3, .int (Int32.ofNat i))]) (hP : va_P D vwCl (pz_ws ad cy M) H) (hS : va_S A s.heap H locs) (hM : ∀ a k : Nat, pz_c (M a k)) (hI : pz_ic M) (hJ : pz_im M) (hR : pz_R M) (K : ∀ (M9 : pz_M) (H9 : Heap) (locs9 : List Loc), pz_ic M9 → pz_im M9 → pz_R M9 → va_P D vwCl (pz_ws ad cy M9) H9 → va_S A s.heap H9 locs9 → (∀ a k : Nat, pz_c (M9 a k)) → W p l e room_1 s m #[Value.ref b] below meth c H9 locs9 cells slots Q (F0 m 1407 ls [])) : W p l e room_1 s m #[Value.ref b] below meth c H locs cells slots Q (F0 m 920 ls []) := by
  obtain ⟨hx, hb, hml, hown, hts, hXX⟩ := id Y
  refine lv_aload_n hx hb (k := 1) (show decode code 920 = .ok (.aload_n 1, 1) from by decide +kernel) rfl (lv_at hl 1 rfl) ?_
  refine pz_la Y hX hbl hbA hL (i := i) (k := 1) (by omega) hl hS (show decode code 921 = .ok (.aload_n 0, 1) from by decide +kernel) (show decode code 922 = .ok (.iload_n 3, 1) from by decide +kernel) (show decode code 923 = .ok (.iconst 1, 1) from by decide +kernel) (show decode code 924 = .ok (.iadd, 1) from by decide +kernel) (show decode code 925 = .ok (.iaload, 1) from by decide +kernel) ?_
  refine pz_la Y hX hbl hbA hL (i := i) (k := 2) (by omega) hl hS (show decode code 926 = .ok (.aload_n 0, 1) from by decide +kernel) (show decode code 927 = .ok (.iload_n 3, 1) from by decide +kernel) (show decode code 928 = .ok (.iconst 2, 1) from by decide +kernel) (show decode code 929 = .ok (.iadd, 1) from by decide +kernel) (show decode code 930 = .ok (.iaload, 1) from by decide +kernel) ?_
  refine pz_la Y hX hbl hbA hL (i := i) (k := 3) (by omega) hl hS (show decode code 931 = .ok (.aload_n 0, 1) from by decide +kernel) (show decode code 932 = .ok (.iload_n 3, 1) from by decide +kernel) (show decode code 933 = .ok (.iconst 3, 1) from by decide +kernel) (show decode code 934 = .ok (.iadd, 1) from by decide +kernel) (show decode code 935 = .ok (.iaload, 1) from by decide +kernel) ?_
  refine pz_crV Y hcs (v3_X11_along (Nat.le_of_ble_eq_true rfl) (Nat.le_of_ble_eq_true rfl) pz_wq980) H locs ls M [.inr (.inr (11, 0)), .inl (xs (i + 1)).toInt, .inl (xs (i + 2)).toInt, .inl (xs (i + 3)).toInt] [] 936 (show decode code 936 = .ok (.invokevirtual 108, 3) from by decide +kernel) hP hS hM ?_ hl.1 rfl (Nat.le_of_ble_eq_true rfl) (hI) (fun r936 M936 H936 locs936 hq hr hP hS hM => ?_)
  · skip
    exact (List.forall_mem_cons.mpr ⟨(show pz_kd 0 = 11 ∧ 0 < 231 from by decide), (List.forall_mem_cons.mpr ⟨(pz_tc _), (List.forall_mem_cons.mpr ⟨(pz_tc _), (List.forall_mem_cons.mpr ⟨(pz_tc _), List.forall_mem_nil _⟩)⟩)⟩)⟩)
  obtain ⟨w936, rfl, C936⟩ := hr
  have hq : _ ∧ _ := hq
  obtain ⟨q936, z936⟩ := hq
  have hR8 : pz_RZ M := hR
  have hR : pz_RZ M936 := pz_RZ_k hI hR z936
  have hJ : pz_im M936 := pz_im_cg (fun b j q => z936.2 b j (by unfold pq_Pk pq_Pw; unfold pz_mid at q; omega)) hJ
  have hI : pz_ic M936 := z936.1 hI
  refine lv_pop hx hb (show decode code 939 = .ok (.pop, 1) from by decide +kernel) rfl ?_
  refine lv_aload_n hx hb (k := 2) (show decode code 940 = .ok (.aload_n 2, 1) from by decide +kernel) rfl (lv_at hl 2 rfl) ?_
  refine pz_la Y hX hbl hbA hL (i := i) (k := 1) (by omega) hl hS (show decode code 941 = .ok (.aload_n 0, 1) from by decide +kernel) (show decode code 942 = .ok (.iload_n 3, 1) from by decide +kernel) (show decode code 943 = .ok (.iconst 1, 1) from by decide +kernel) (show decode code 944 = .ok (.iadd, 1) from by decide +kernel) (show decode code 945 = .ok (.iaload, 1) from by decide +kernel) ?_
  refine pz_la Y hX hbl hbA hL (i := i) (k := 2) (by omega) hl hS (show decode code 946 = .ok (.aload_n 0, 1) from by decide +kernel) (show decode code 947 = .ok (.iload_n 3, 1) from by decide +kernel) (show decode code 948 = .ok (.iconst 2, 1) from by decide +kernel) (show decode code 949 = .ok (.iadd, 1) from by decide +kernel) (show decode code 950 = .ok (.iaload, 1) from by decide +kernel) ?_
  refine pz_la Y hX hbl hbA hL (i := i) (k := 3) (by omega) hl hS (show decode code 951 = .ok (.aload_n 0, 1) from by decide +kernel) (show decode code 952 = .ok (.iload_n 3, 1) from by decide +kernel) (show decode code 953 = .ok (.iconst 3, 1) from by decide +kernel) (show decode code 954 = .ok (.iadd, 1) from by decide +kernel) (show decode code 955 = .ok (.iaload, 1) from by decide +kernel) ?_
  refine pz_crV Y hcs (v3_X12_along (Nat.le_of_ble_eq_true rfl) (Nat.le_of_ble_eq_true rfl) pz_wq1685) H936 locs936 ls M936 [.inr (.inr (12, 1)), .inl (xs (i + 1)).toInt, .inl (xs (i + 2)).toInt, .inl (xs (i + 3)).toInt] [] 956 (show decode code 956 = .ok (.invokevirtual 111, 3) from by decide +kernel) hP hS hM ?_ hl.1 rfl (Nat.le_of_ble_eq_true rfl) (hJ) (fun r956 M956 H956 locs956 hq hr hP hS hM => ?_)
  · skip
    exact (List.forall_mem_cons.mpr ⟨(show pz_kd 1 = 12 ∧ 1 < 231 from by decide), (List.forall_mem_cons.mpr ⟨(pz_tc _), (List.forall_mem_cons.mpr ⟨(pz_tc _), (List.forall_mem_cons.mpr ⟨(pz_tc _), List.forall_mem_nil _⟩)⟩)⟩)⟩)
  obtain ⟨w956, rfl, C956⟩ := hr
  have hq : _ ∧ _ := hq
  obtain ⟨q956, z956⟩ := hq
  have hR : pz_RZ M956 := pz_RZ_v hR z956
  have hI : pz_ic M956 := pz_ic_cg (fun b j q => z956.2 b j (by unfold pz_QV; unfold pz_mid at q; omega)) hI
  have hJ : pz_im M956 := z956.1 hJ
  refine lv_pop hx hb (show decode code 959 = .ok (.pop, 1) from by decide +kernel) rfl ?_
  refine lv_goto (tgt := 1407) hx hb (show decode code 960 = .ok (.goto 447, 3) from by decide +kernel) (by decide) ?_
  have hR : pz_R M956 := by
    exact hR
  exact K _ _ _ hI hJ hR hP hS hM
set_option maxRecDepth 100000 in
set_option maxHeartbeats 4000000 in
theorem pz_case23 (Y : pz_Y p s m #[Value.ref b] c code R_law 4 D ad adV cy A) (hcs : cells ≤ room_1.cells ∧ slots ≤ room_1.slots) (hX : va_X b L xs s s.heap) (hbl : b < s.heap.size) (hbA : ¬ A b) (hL : L ≤ 3072) {i : Nat} (hi : i + 6 ≤ L) {H : Heap} {locs : List Loc} {ls : Array Slot} {M : pz_M} (hl : lv_has ls 4 [(0, .ref b), (1, .ref (ad 0)), (2, .ref (ad 1)), (3, .int (Int32.ofNat i))]) (hP : va_P D vwCl (pz_ws ad cy M) H) (hS : va_S A s.heap H locs) (hM : ∀ a k : Nat, pz_c (M a k)) (hI : pz_ic M) (hJ : pz_im M) (hR : pz_R M) (K : ∀ (M9 : pz_M) (H9 : Heap) (locs9 : List Loc), pz_ic M9 → pz_im M9 → pz_R M9 → va_P D vwCl (pz_ws ad cy M9) H9 → va_S A s.heap H9 locs9 → (∀ a k : Nat, pz_c (M9 a k)) → W p l e room_1 s m #[Value.ref b] below meth c H9 locs9 cells slots Q (F0 m 1407 ls [])) : W p l e room_1 s m #[Value.ref b] below meth c H locs cells slots Q (F0 m 963 ls []) := by
  obtain ⟨hx, hb, hml, hown, hts, hXX⟩ := id Y
  refine lv_aload_n hx hb (k := 1) (show decode code 963 = .ok (.aload_n 1, 1) from by decide +kernel) rfl (lv_at hl 1 rfl) ?_
  refine pz_la Y hX hbl hbA hL (i := i) (k := 1) (by omega) hl hS (show decode code 964 = .ok (.aload_n 0, 1) from by decide +kernel) (show decode code 965 = .ok (.iload_n 3, 1) from by decide +kernel) (show decode code 966 = .ok (.iconst 1, 1) from by decide +kernel) (show decode code 967 = .ok (.iadd, 1) from by decide +kernel) (show decode code 968 = .ok (.iaload, 1) from by decide +kernel) ?_
  refine pz_la Y hX hbl hbA hL (i := i) (k := 2) (by omega) hl hS (show decode code 969 = .ok (.aload_n 0, 1) from by decide +kernel) (show decode code 970 = .ok (.iload_n 3, 1) from by decide +kernel) (show decode code 971 = .ok (.iconst 2, 1) from by decide +kernel) (show decode code 972 = .ok (.iadd, 1) from by decide +kernel) (show decode code 973 = .ok (.iaload, 1) from by decide +kernel) ?_
  refine pz_la Y hX hbl hbA hL (i := i) (k := 3) (by omega) hl hS (show decode code 974 = .ok (.aload_n 0, 1) from by decide +kernel) (show decode code 975 = .ok (.iload_n 3, 1) from by decide +kernel) (show decode code 976 = .ok (.iconst 3, 1) from by decide +kernel) (show decode code 977 = .ok (.iadd, 1) from by decide +kernel) (show decode code 978 = .ok (.iaload, 1) from by decide +kernel) ?_
  refine pz_la Y hX hbl hbA hL (i := i) (k := 4) (by omega) hl hS (show decode code 979 = .ok (.aload_n 0, 1) from by decide +kernel) (show decode code 980 = .ok (.iload_n 3, 1) from by decide +kernel) (show decode code 981 = .ok (.iconst 4, 1) from by decide +kernel) (show decode code 982 = .ok (.iadd, 1) from by decide +kernel) (show decode code 983 = .ok (.iaload, 1) from by decide +kernel) ?_
  refine pz_crV Y hcs (v3_X11_choice (Nat.le_of_ble_eq_true rfl) (Nat.le_of_ble_eq_true rfl) pz_wq985) H locs ls M [.inr (.inr (11, 0)), .inl (xs (i + 1)).toInt, .inl (xs (i + 2)).toInt, .inl (xs (i + 3)).toInt, .inl (xs (i + 4)).toInt] [] 984 (show decode code 984 = .ok (.invokevirtual 112, 3) from by decide +kernel) hP hS hM ?_ hl.1 rfl (Nat.le_of_ble_eq_true rfl) (hI) (fun r984 M984 H984 locs984 hq hr hP hS hM => ?_)
  · skip
    exact (List.forall_mem_cons.mpr ⟨(show pz_kd 0 = 11 ∧ 0 < 231 from by decide), (List.forall_mem_cons.mpr ⟨(pz_tc _), (List.forall_mem_cons.mpr ⟨(pz_tc _), (List.forall_mem_cons.mpr ⟨(pz_tc _), (List.forall_mem_cons.mpr ⟨(pz_tc _), List.forall_mem_nil _⟩)⟩)⟩)⟩)⟩)
  obtain ⟨w984, rfl, C984⟩ := hr
  have hq : _ ∧ _ := hq
  obtain ⟨q984, z984⟩ := hq
  have hR8 : pz_RZ M := hR
  have hR : pz_RZ M984 := pz_RZ_k hI hR z984
  have hJ : pz_im M984 := pz_im_cg (fun b j q => z984.2 b j (by unfold pq_Pk pq_Pw; unfold pz_mid at q; omega)) hJ
  have hI : pz_ic M984 := z984.1 hI
  refine lv_pop hx hb (show decode code 987 = .ok (.pop, 1) from by decide +kernel) rfl ?_
  refine lv_aload_n hx hb (k := 2) (show decode code 988 = .ok (.aload_n 2, 1) from by decide +kernel) rfl (lv_at hl 2 rfl) ?_
  refine pz_la Y hX hbl hbA hL (i := i) (k := 1) (by omega) hl hS (show decode code 989 = .ok (.aload_n 0, 1) from by decide +kernel) (show decode code 990 = .ok (.iload_n 3, 1) from by decide +kernel) (show decode code 991 = .ok (.iconst 1, 1) from by decide +kernel) (show decode code 992 = .ok (.iadd, 1) from by decide +kernel) (show decode code 993 = .ok (.iaload, 1) from by decide +kernel) ?_
  refine pz_la Y hX hbl hbA hL (i := i) (k := 2) (by omega) hl hS (show decode code 994 = .ok (.aload_n 0, 1) from by decide +kernel) (show decode code 995 = .ok (.iload_n 3, 1) from by decide +kernel) (show decode code 996 = .ok (.iconst 2, 1) from by decide +kernel) (show decode code 997 = .ok (.iadd, 1) from by decide +kernel) (show decode code 998 = .ok (.iaload, 1) from by decide +kernel) ?_
  refine pz_la Y hX hbl hbA hL (i := i) (k := 3) (by omega) hl hS (show decode code 999 = .ok (.aload_n 0, 1) from by decide +kernel) (show decode code 1000 = .ok (.iload_n 3, 1) from by decide +kernel) (show decode code 1001 = .ok (.iconst 3, 1) from by decide +kernel) (show decode code 1002 = .ok (.iadd, 1) from by decide +kernel) (show decode code 1003 = .ok (.iaload, 1) from by decide +kernel) ?_
  refine pz_la Y hX hbl hbA hL (i := i) (k := 4) (by omega) hl hS (show decode code 1004 = .ok (.aload_n 0, 1) from by decide +kernel) (show decode code 1005 = .ok (.iload_n 3, 1) from by decide +kernel) (show decode code 1006 = .ok (.iconst 4, 1) from by decide +kernel) (show decode code 1007 = .ok (.iadd, 1) from by decide +kernel) (show decode code 1008 = .ok (.iaload, 1) from by decide +kernel) ?_
  refine pz_crV Y hcs (v3_X12_choice (Nat.le_of_ble_eq_true rfl) (Nat.le_of_ble_eq_true rfl) pz_wq1689) H984 locs984 ls M984 [.inr (.inr (12, 1)), .inl (xs (i + 1)).toInt, .inl (xs (i + 2)).toInt, .inl (xs (i + 3)).toInt, .inl (xs (i + 4)).toInt] [] 1009 (show decode code 1009 = .ok (.invokevirtual 115, 3) from by decide +kernel) hP hS hM ?_ hl.1 rfl (Nat.le_of_ble_eq_true rfl) (hJ) (fun r1009 M1009 H1009 locs1009 hq hr hP hS hM => ?_)
  · skip
    exact (List.forall_mem_cons.mpr ⟨(show pz_kd 1 = 12 ∧ 1 < 231 from by decide), (List.forall_mem_cons.mpr ⟨(pz_tc _), (List.forall_mem_cons.mpr ⟨(pz_tc _), (List.forall_mem_cons.mpr ⟨(pz_tc _), (List.forall_mem_cons.mpr ⟨(pz_tc _), List.forall_mem_nil _⟩)⟩)⟩)⟩)⟩)
  obtain ⟨w1009, rfl, C1009⟩ := hr
  have hq : _ ∧ _ := hq
  obtain ⟨q1009, z1009⟩ := hq
  have hR : pz_RZ M1009 := pz_RZ_v hR z1009
  have hI : pz_ic M1009 := pz_ic_cg (fun b j q => z1009.2 b j (by unfold pz_QV; unfold pz_mid at q; omega)) hI
  have hJ : pz_im M1009 := z1009.1 hJ
  refine lv_pop hx hb (show decode code 1012 = .ok (.pop, 1) from by decide +kernel) rfl ?_
  refine lv_goto (tgt := 1407) hx hb (show decode code 1013 = .ok (.goto 394, 3) from by decide +kernel) (by decide) ?_
  have hR : pz_R M1009 := by
    exact hR
  exact K _ _ _ hI hJ hR hP hS hM
set_option maxRecDepth 100000 in
set_option maxHeartbeats 4000000 in
theorem pz_case24 (Y : pz_Y p s m #[Value.ref b] c code R_law 4 D ad adV cy A) (hcs : cells ≤ room_1.cells ∧ slots ≤ room_1.slots) (hX : va_X b L xs s s.heap) (hbl : b < s.heap.size) (hbA : ¬ A b) (hL : L ≤ 3072) {i : Nat} (hi : i + 6 ≤ L) {H : Heap} {locs : List Loc} {ls : Array Slot} {M : pz_M} (hl : lv_has ls 4 [(0, .ref b), (1, .ref (ad 0)), (2, .ref (ad 1)), (3, .int (Int32.ofNat i))]) (hP : va_P D vwCl (pz_ws ad cy M) H) (hS : va_S A s.heap H locs) (hM : ∀ a k : Nat, pz_c (M a k)) (hI : pz_ic M) (hJ : pz_im M) (hR : pz_R M) (K : ∀ (M9 : pz_M) (H9 : Heap) (locs9 : List Loc), pz_ic M9 → pz_im M9 → pz_R M9 → va_P D vwCl (pz_ws ad cy M9) H9 → va_S A s.heap H9 locs9 → (∀ a k : Nat, pz_c (M9 a k)) → W p l e room_1 s m #[Value.ref b] below meth c H9 locs9 cells slots Q (F0 m 1407 ls [])) : W p l e room_1 s m #[Value.ref b] below meth c H locs cells slots Q (F0 m 1016 ls []) := by
  obtain ⟨hx, hb, hml, hown, hts, hXX⟩ := id Y
  refine lv_aload_n hx hb (k := 1) (show decode code 1016 = .ok (.aload_n 1, 1) from by decide +kernel) rfl (lv_at hl 1 rfl) ?_
  refine pz_la Y hX hbl hbA hL (i := i) (k := 1) (by omega) hl hS (show decode code 1017 = .ok (.aload_n 0, 1) from by decide +kernel) (show decode code 1018 = .ok (.iload_n 3, 1) from by decide +kernel) (show decode code 1019 = .ok (.iconst 1, 1) from by decide +kernel) (show decode code 1020 = .ok (.iadd, 1) from by decide +kernel) (show decode code 1021 = .ok (.iaload, 1) from by decide +kernel) ?_
  refine pz_la Y hX hbl hbA hL (i := i) (k := 2) (by omega) hl hS (show decode code 1022 = .ok (.aload_n 0, 1) from by decide +kernel) (show decode code 1023 = .ok (.iload_n 3, 1) from by decide +kernel) (show decode code 1024 = .ok (.iconst 2, 1) from by decide +kernel) (show decode code 1025 = .ok (.iadd, 1) from by decide +kernel) (show decode code 1026 = .ok (.iaload, 1) from by decide +kernel) ?_
  refine pz_la Y hX hbl hbA hL (i := i) (k := 3) (by omega) hl hS (show decode code 1027 = .ok (.aload_n 0, 1) from by decide +kernel) (show decode code 1028 = .ok (.iload_n 3, 1) from by decide +kernel) (show decode code 1029 = .ok (.iconst 3, 1) from by decide +kernel) (show decode code 1030 = .ok (.iadd, 1) from by decide +kernel) (show decode code 1031 = .ok (.iaload, 1) from by decide +kernel) ?_
  refine pz_crV Y hcs (v_X11_bluff (Nat.le_of_ble_eq_true rfl) (Nat.le_of_ble_eq_true rfl) pz_wq991) H locs ls M [.inr (.inr (11, 0)), .inl (xs (i + 1)).toInt, .inl (xs (i + 2)).toInt, .inl (xs (i + 3)).toInt] [] 1032 (show decode code 1032 = .ok (.invokevirtual 116, 3) from by decide +kernel) hP hS hM ?_ hl.1 rfl (Nat.le_of_ble_eq_true rfl) (hI) (fun r1032 M1032 H1032 locs1032 hq hr hP hS hM => ?_)
  · skip
    exact (List.forall_mem_cons.mpr ⟨(show pz_kd 0 = 11 ∧ 0 < 231 from by decide), (List.forall_mem_cons.mpr ⟨(pz_tc _), (List.forall_mem_cons.mpr ⟨(pz_tc _), (List.forall_mem_cons.mpr ⟨(pz_tc _), List.forall_mem_nil _⟩)⟩)⟩)⟩)
  obtain ⟨w1032, rfl, C1032⟩ := hr
  have hq : _ ∧ _ := hq
  obtain ⟨q1032, z1032⟩ := hq
  subst z1032
  refine lv_pop hx hb (show decode code 1035 = .ok (.pop, 1) from by decide +kernel) rfl ?_
  refine lv_aload_n hx hb (k := 2) (show decode code 1036 = .ok (.aload_n 2, 1) from by decide +kernel) rfl (lv_at hl 2 rfl) ?_
  refine pz_la Y hX hbl hbA hL (i := i) (k := 1) (by omega) hl hS (show decode code 1037 = .ok (.aload_n 0, 1) from by decide +kernel) (show decode code 1038 = .ok (.iload_n 3, 1) from by decide +kernel) (show decode code 1039 = .ok (.iconst 1, 1) from by decide +kernel) (show decode code 1040 = .ok (.iadd, 1) from by decide +kernel) (show decode code 1041 = .ok (.iaload, 1) from by decide +kernel) ?_
  refine pz_la Y hX hbl hbA hL (i := i) (k := 2) (by omega) hl hS (show decode code 1042 = .ok (.aload_n 0, 1) from by decide +kernel) (show decode code 1043 = .ok (.iload_n 3, 1) from by decide +kernel) (show decode code 1044 = .ok (.iconst 2, 1) from by decide +kernel) (show decode code 1045 = .ok (.iadd, 1) from by decide +kernel) (show decode code 1046 = .ok (.iaload, 1) from by decide +kernel) ?_
  refine pz_la Y hX hbl hbA hL (i := i) (k := 3) (by omega) hl hS (show decode code 1047 = .ok (.aload_n 0, 1) from by decide +kernel) (show decode code 1048 = .ok (.iload_n 3, 1) from by decide +kernel) (show decode code 1049 = .ok (.iconst 3, 1) from by decide +kernel) (show decode code 1050 = .ok (.iadd, 1) from by decide +kernel) (show decode code 1051 = .ok (.iaload, 1) from by decide +kernel) ?_
  refine pz_crV Y hcs (v_X12_bluff (Nat.le_of_ble_eq_true rfl) (Nat.le_of_ble_eq_true rfl) pz_wq1696) H1032 locs1032 ls M [.inr (.inr (12, 1)), .inl (xs (i + 1)).toInt, .inl (xs (i + 2)).toInt, .inl (xs (i + 3)).toInt] [] 1052 (show decode code 1052 = .ok (.invokevirtual 119, 3) from by decide +kernel) hP hS hM ?_ hl.1 rfl (Nat.le_of_ble_eq_true rfl) (hJ) (fun r1052 M1052 H1052 locs1052 hq hr hP hS hM => ?_)
  · skip
    exact (List.forall_mem_cons.mpr ⟨(show pz_kd 1 = 12 ∧ 1 < 231 from by decide), (List.forall_mem_cons.mpr ⟨(pz_tc _), (List.forall_mem_cons.mpr ⟨(pz_tc _), (List.forall_mem_cons.mpr ⟨(pz_tc _), List.forall_mem_nil _⟩)⟩)⟩)⟩)
  obtain ⟨w1052, rfl, C1052⟩ := hr
  have hq : _ ∧ _ := hq
  obtain ⟨q1052, z1052⟩ := hq
  subst z1052
  refine lv_pop hx hb (show decode code 1055 = .ok (.pop, 1) from by decide +kernel) rfl ?_
  refine lv_goto (tgt := 1407) hx hb (show decode code 1056 = .ok (.goto 351, 3) from by decide +kernel) (by decide) ?_
  have hR : pz_R M := by
    exact hR
  exact K _ _ _ hI hJ hR hP hS hM
set_option maxRecDepth 100000 in
set_option maxHeartbeats 4000000 in
theorem pz_case25 (Y : pz_Y p s m #[Value.ref b] c code R_law 4 D ad adV cy A) (hcs : cells ≤ room_1.cells ∧ slots ≤ room_1.slots) (hX : va_X b L xs s s.heap) (hbl : b < s.heap.size) (hbA : ¬ A b) (hL : L ≤ 3072) {i : Nat} (hi : i + 6 ≤ L) {H : Heap} {locs : List Loc} {ls : Array Slot} {M : pz_M} (hl : lv_has ls 4 [(0, .ref b), (1, .ref (ad 0)), (2, .ref (ad 1)), (3, .int (Int32.ofNat i))]) (hP : va_P D vwCl (pz_ws ad cy M) H) (hS : va_S A s.heap H locs) (hM : ∀ a k : Nat, pz_c (M a k)) (hI : pz_ic M) (hJ : pz_im M) (hR : pz_R M) (K : ∀ (M9 : pz_M) (H9 : Heap) (locs9 : List Loc), pz_ic M9 → pz_im M9 → pz_R M9 → va_P D vwCl (pz_ws ad cy M9) H9 → va_S A s.heap H9 locs9 → (∀ a k : Nat, pz_c (M9 a k)) → W p l e room_1 s m #[Value.ref b] below meth c H9 locs9 cells slots Q (F0 m 1407 ls [])) : W p l e room_1 s m #[Value.ref b] below meth c H locs cells slots Q (F0 m 1059 ls []) := by
  obtain ⟨hx, hb, hml, hown, hts, hXX⟩ := id Y
  refine lv_aload_n hx hb (k := 1) (show decode code 1059 = .ok (.aload_n 1, 1) from by decide +kernel) rfl (lv_at hl 1 rfl) ?_
  refine pz_la Y hX hbl hbA hL (i := i) (k := 1) (by omega) hl hS (show decode code 1060 = .ok (.aload_n 0, 1) from by decide +kernel) (show decode code 1061 = .ok (.iload_n 3, 1) from by decide +kernel) (show decode code 1062 = .ok (.iconst 1, 1) from by decide +kernel) (show decode code 1063 = .ok (.iadd, 1) from by decide +kernel) (show decode code 1064 = .ok (.iaload, 1) from by decide +kernel) ?_
  refine pz_crV Y hcs (v3_X11_signs (Nat.le_of_ble_eq_true rfl) (Nat.le_of_ble_eq_true rfl) pz_wq996) H locs ls M [.inr (.inr (11, 0)), .inl (xs (i + 1)).toInt] [] 1065 (show decode code 1065 = .ok (.invokevirtual 120, 3) from by decide +kernel) hP hS hM ?_ hl.1 rfl (Nat.le_of_ble_eq_true rfl) (hI) (fun r1065 M1065 H1065 locs1065 hq hr hP hS hM => ?_)
  · skip
    exact (List.forall_mem_cons.mpr ⟨(show pz_kd 0 = 11 ∧ 0 < 231 from by decide), (List.forall_mem_cons.mpr ⟨(pz_tc _), List.forall_mem_nil _⟩)⟩)
  obtain ⟨w1065, rfl, C1065⟩ := hr
  have hq : _ ∧ _ := hq
  obtain ⟨q1065, z1065⟩ := hq
  have hR8 : pz_RZ M := hR
  have hR : pz_RZ M1065 := pz_RZ_k hI hR z1065
  have hJ : pz_im M1065 := pz_im_cg (fun b j q => z1065.2 b j (by unfold pq_Pk pq_Pw; unfold pz_mid at q; omega)) hJ
  have hI : pz_ic M1065 := z1065.1 hI
  refine lv_pop hx hb (show decode code 1068 = .ok (.pop, 1) from by decide +kernel) rfl ?_
  refine lv_aload_n hx hb (k := 2) (show decode code 1069 = .ok (.aload_n 2, 1) from by decide +kernel) rfl (lv_at hl 2 rfl) ?_
  refine pz_la Y hX hbl hbA hL (i := i) (k := 1) (by omega) hl hS (show decode code 1070 = .ok (.aload_n 0, 1) from by decide +kernel) (show decode code 1071 = .ok (.iload_n 3, 1) from by decide +kernel) (show decode code 1072 = .ok (.iconst 1, 1) from by decide +kernel) (show decode code 1073 = .ok (.iadd, 1) from by decide +kernel) (show decode code 1074 = .ok (.iaload, 1) from by decide +kernel) ?_
  refine pz_crV Y hcs (v3_X12_signs (Nat.le_of_ble_eq_true rfl) (Nat.le_of_ble_eq_true rfl) pz_wq1712) H1065 locs1065 ls M1065 [.inr (.inr (12, 1)), .inl (xs (i + 1)).toInt] [] 1075 (show decode code 1075 = .ok (.invokevirtual 123, 3) from by decide +kernel) hP hS hM ?_ hl.1 rfl (Nat.le_of_ble_eq_true rfl) (hJ) (fun r1075 M1075 H1075 locs1075 hq hr hP hS hM => ?_)
  · skip
    exact (List.forall_mem_cons.mpr ⟨(show pz_kd 1 = 12 ∧ 1 < 231 from by decide), (List.forall_mem_cons.mpr ⟨(pz_tc _), List.forall_mem_nil _⟩)⟩)
  obtain ⟨w1075, rfl, C1075⟩ := hr
  have hq : _ ∧ _ := hq
  obtain ⟨q1075, z1075⟩ := hq
  have hR : pz_RZ M1075 := pz_RZ_v hR z1075
  have hI : pz_ic M1075 := pz_ic_cg (fun b j q => z1075.2 b j (by unfold pz_QV; unfold pz_mid at q; omega)) hI
  have hJ : pz_im M1075 := z1075.1 hJ
  refine lv_pop hx hb (show decode code 1078 = .ok (.pop, 1) from by decide +kernel) rfl ?_
  refine lv_goto (tgt := 1407) hx hb (show decode code 1079 = .ok (.goto 328, 3) from by decide +kernel) (by decide) ?_
  have hR : pz_R M1075 := by
    exact hR
  exact K _ _ _ hI hJ hR hP hS hM
set_option maxRecDepth 100000 in
set_option maxHeartbeats 4000000 in
theorem pz_case26 (Y : pz_Y p s m #[Value.ref b] c code R_law 4 D ad adV cy A) (hcs : cells ≤ room_1.cells ∧ slots ≤ room_1.slots) (hX : va_X b L xs s s.heap) (hbl : b < s.heap.size) (hbA : ¬ A b) (hL : L ≤ 3072) {i : Nat} (hi : i + 6 ≤ L) {H : Heap} {locs : List Loc} {ls : Array Slot} {M : pz_M} (hl : lv_has ls 4 [(0, .ref b), (1, .ref (ad 0)), (2, .ref (ad 1)), (3, .int (Int32.ofNat i))]) (hP : va_P D vwCl (pz_ws ad cy M) H) (hS : va_S A s.heap H locs) (hM : ∀ a k : Nat, pz_c (M a k)) (hI : pz_ic M) (hJ : pz_im M) (hR : pz_R M) (K : ∀ (M9 : pz_M) (H9 : Heap) (locs9 : List Loc), pz_ic M9 → pz_im M9 → pz_R M9 → va_P D vwCl (pz_ws ad cy M9) H9 → va_S A s.heap H9 locs9 → (∀ a k : Nat, pz_c (M9 a k)) → W p l e room_1 s m #[Value.ref b] below meth c H9 locs9 cells slots Q (F0 m 1407 ls [])) : W p l e room_1 s m #[Value.ref b] below meth c H locs cells slots Q (F0 m 1082 ls []) := by
  obtain ⟨hx, hb, hml, hown, hts, hXX⟩ := id Y
  refine lv_aload_n hx hb (k := 1) (show decode code 1082 = .ok (.aload_n 1, 1) from by decide +kernel) rfl (lv_at hl 1 rfl) ?_
  refine pz_la Y hX hbl hbA hL (i := i) (k := 1) (by omega) hl hS (show decode code 1083 = .ok (.aload_n 0, 1) from by decide +kernel) (show decode code 1084 = .ok (.iload_n 3, 1) from by decide +kernel) (show decode code 1085 = .ok (.iconst 1, 1) from by decide +kernel) (show decode code 1086 = .ok (.iadd, 1) from by decide +kernel) (show decode code 1087 = .ok (.iaload, 1) from by decide +kernel) ?_
  refine pz_la Y hX hbl hbA hL (i := i) (k := 2) (by omega) hl hS (show decode code 1088 = .ok (.aload_n 0, 1) from by decide +kernel) (show decode code 1089 = .ok (.iload_n 3, 1) from by decide +kernel) (show decode code 1090 = .ok (.iconst 2, 1) from by decide +kernel) (show decode code 1091 = .ok (.iadd, 1) from by decide +kernel) (show decode code 1092 = .ok (.iaload, 1) from by decide +kernel) ?_
  refine pz_crV Y hcs (v_X11_money (Nat.le_of_ble_eq_true rfl) (Nat.le_of_ble_eq_true rfl) pz_wq1025) H locs ls M [.inr (.inr (11, 0)), .inl (xs (i + 1)).toInt, .inl (xs (i + 2)).toInt] [] 1093 (show decode code 1093 = .ok (.invokevirtual 124, 3) from by decide +kernel) hP hS hM ?_ hl.1 rfl (Nat.le_of_ble_eq_true rfl) (hI) (fun r1093 M1093 H1093 locs1093 hq hr hP hS hM => ?_)
  · skip
    exact (List.forall_mem_cons.mpr ⟨(show pz_kd 0 = 11 ∧ 0 < 231 from by decide), (List.forall_mem_cons.mpr ⟨(pz_tc _), (List.forall_mem_cons.mpr ⟨(pz_tc _), List.forall_mem_nil _⟩)⟩)⟩)
  obtain ⟨w1093, rfl, C1093⟩ := hr
  have hq : _ ∧ _ := hq
  obtain ⟨q1093, z1093⟩ := hq
  subst z1093
  refine lv_pop hx hb (show decode code 1096 = .ok (.pop, 1) from by decide +kernel) rfl ?_
  refine lv_aload_n hx hb (k := 2) (show decode code 1097 = .ok (.aload_n 2, 1) from by decide +kernel) rfl (lv_at hl 2 rfl) ?_
  refine pz_la Y hX hbl hbA hL (i := i) (k := 1) (by omega) hl hS (show decode code 1098 = .ok (.aload_n 0, 1) from by decide +kernel) (show decode code 1099 = .ok (.iload_n 3, 1) from by decide +kernel) (show decode code 1100 = .ok (.iconst 1, 1) from by decide +kernel) (show decode code 1101 = .ok (.iadd, 1) from by decide +kernel) (show decode code 1102 = .ok (.iaload, 1) from by decide +kernel) ?_
  refine pz_la Y hX hbl hbA hL (i := i) (k := 2) (by omega) hl hS (show decode code 1103 = .ok (.aload_n 0, 1) from by decide +kernel) (show decode code 1104 = .ok (.iload_n 3, 1) from by decide +kernel) (show decode code 1105 = .ok (.iconst 2, 1) from by decide +kernel) (show decode code 1106 = .ok (.iadd, 1) from by decide +kernel) (show decode code 1107 = .ok (.iaload, 1) from by decide +kernel) ?_
  refine pz_crV Y hcs (v_X12_money (Nat.le_of_ble_eq_true rfl) (Nat.le_of_ble_eq_true rfl) pz_wq1729) H1093 locs1093 ls M [.inr (.inr (12, 1)), .inl (xs (i + 1)).toInt, .inl (xs (i + 2)).toInt] [] 1108 (show decode code 1108 = .ok (.invokevirtual 127, 3) from by decide +kernel) hP hS hM ?_ hl.1 rfl (Nat.le_of_ble_eq_true rfl) (hJ) (fun r1108 M1108 H1108 locs1108 hq hr hP hS hM => ?_)
  · skip
    exact (List.forall_mem_cons.mpr ⟨(show pz_kd 1 = 12 ∧ 1 < 231 from by decide), (List.forall_mem_cons.mpr ⟨(pz_tc _), (List.forall_mem_cons.mpr ⟨(pz_tc _), List.forall_mem_nil _⟩)⟩)⟩)
  obtain ⟨w1108, rfl, C1108⟩ := hr
  have hq : _ ∧ _ := hq
  obtain ⟨q1108, z1108⟩ := hq
  subst z1108
  refine lv_pop hx hb (show decode code 1111 = .ok (.pop, 1) from by decide +kernel) rfl ?_
  refine lv_goto (tgt := 1407) hx hb (show decode code 1112 = .ok (.goto 295, 3) from by decide +kernel) (by decide) ?_
  have hR : pz_R M := by
    exact hR
  exact K _ _ _ hI hJ hR hP hS hM
set_option maxRecDepth 100000 in
set_option maxHeartbeats 4000000 in
theorem pz_case27 (Y : pz_Y p s m #[Value.ref b] c code R_law 4 D ad adV cy A) (hcs : cells ≤ room_1.cells ∧ slots ≤ room_1.slots) (hX : va_X b L xs s s.heap) (hbl : b < s.heap.size) (hbA : ¬ A b) (hL : L ≤ 3072) {i : Nat} (hi : i + 6 ≤ L) {H : Heap} {locs : List Loc} {ls : Array Slot} {M : pz_M} (hl : lv_has ls 4 [(0, .ref b), (1, .ref (ad 0)), (2, .ref (ad 1)), (3, .int (Int32.ofNat i))]) (hP : va_P D vwCl (pz_ws ad cy M) H) (hS : va_S A s.heap H locs) (hM : ∀ a k : Nat, pz_c (M a k)) (hI : pz_ic M) (hJ : pz_im M) (hR : pz_R M) (K : ∀ (M9 : pz_M) (H9 : Heap) (locs9 : List Loc), pz_ic M9 → pz_im M9 → pz_R M9 → va_P D vwCl (pz_ws ad cy M9) H9 → va_S A s.heap H9 locs9 → (∀ a k : Nat, pz_c (M9 a k)) → W p l e room_1 s m #[Value.ref b] below meth c H9 locs9 cells slots Q (F0 m 1407 ls [])) : W p l e room_1 s m #[Value.ref b] below meth c H locs cells slots Q (F0 m 1115 ls []) := by
  obtain ⟨hx, hb, hml, hown, hts, hXX⟩ := id Y
  refine lv_aload_n hx hb (k := 1) (show decode code 1115 = .ok (.aload_n 1, 1) from by decide +kernel) rfl (lv_at hl 1 rfl) ?_
  refine pz_la Y hX hbl hbA hL (i := i) (k := 1) (by omega) hl hS (show decode code 1116 = .ok (.aload_n 0, 1) from by decide +kernel) (show decode code 1117 = .ok (.iload_n 3, 1) from by decide +kernel) (show decode code 1118 = .ok (.iconst 1, 1) from by decide +kernel) (show decode code 1119 = .ok (.iadd, 1) from by decide +kernel) (show decode code 1120 = .ok (.iaload, 1) from by decide +kernel) ?_
  refine pz_la Y hX hbl hbA hL (i := i) (k := 2) (by omega) hl hS (show decode code 1121 = .ok (.aload_n 0, 1) from by decide +kernel) (show decode code 1122 = .ok (.iload_n 3, 1) from by decide +kernel) (show decode code 1123 = .ok (.iconst 2, 1) from by decide +kernel) (show decode code 1124 = .ok (.iadd, 1) from by decide +kernel) (show decode code 1125 = .ok (.iaload, 1) from by decide +kernel) ?_
  refine pz_crV Y hcs (v_X11_ill (Nat.le_of_ble_eq_true rfl) (Nat.le_of_ble_eq_true rfl) pz_wq1029) H locs ls M [.inr (.inr (11, 0)), .inl (xs (i + 1)).toInt, .inl (xs (i + 2)).toInt] [] 1126 (show decode code 1126 = .ok (.invokevirtual 128, 3) from by decide +kernel) hP hS hM ?_ hl.1 rfl (Nat.le_of_ble_eq_true rfl) (hI) (fun r1126 M1126 H1126 locs1126 hq hr hP hS hM => ?_)
  · skip
    exact (List.forall_mem_cons.mpr ⟨(show pz_kd 0 = 11 ∧ 0 < 231 from by decide), (List.forall_mem_cons.mpr ⟨(pz_tc _), (List.forall_mem_cons.mpr ⟨(pz_tc _), List.forall_mem_nil _⟩)⟩)⟩)
  obtain ⟨w1126, rfl, C1126⟩ := hr
  have hq : _ ∧ _ := hq
  obtain ⟨q1126, z1126⟩ := hq
  subst z1126
  refine lv_pop hx hb (show decode code 1129 = .ok (.pop, 1) from by decide +kernel) rfl ?_
  refine lv_aload_n hx hb (k := 2) (show decode code 1130 = .ok (.aload_n 2, 1) from by decide +kernel) rfl (lv_at hl 2 rfl) ?_
  refine pz_la Y hX hbl hbA hL (i := i) (k := 1) (by omega) hl hS (show decode code 1131 = .ok (.aload_n 0, 1) from by decide +kernel) (show decode code 1132 = .ok (.iload_n 3, 1) from by decide +kernel) (show decode code 1133 = .ok (.iconst 1, 1) from by decide +kernel) (show decode code 1134 = .ok (.iadd, 1) from by decide +kernel) (show decode code 1135 = .ok (.iaload, 1) from by decide +kernel) ?_
  refine pz_la Y hX hbl hbA hL (i := i) (k := 2) (by omega) hl hS (show decode code 1136 = .ok (.aload_n 0, 1) from by decide +kernel) (show decode code 1137 = .ok (.iload_n 3, 1) from by decide +kernel) (show decode code 1138 = .ok (.iconst 2, 1) from by decide +kernel) (show decode code 1139 = .ok (.iadd, 1) from by decide +kernel) (show decode code 1140 = .ok (.iaload, 1) from by decide +kernel) ?_
  refine pz_crV Y hcs (v_X12_ill (Nat.le_of_ble_eq_true rfl) (Nat.le_of_ble_eq_true rfl) pz_wq1733) H1126 locs1126 ls M [.inr (.inr (12, 1)), .inl (xs (i + 1)).toInt, .inl (xs (i + 2)).toInt] [] 1141 (show decode code 1141 = .ok (.invokevirtual 131, 3) from by decide +kernel) hP hS hM ?_ hl.1 rfl (Nat.le_of_ble_eq_true rfl) (hJ) (fun r1141 M1141 H1141 locs1141 hq hr hP hS hM => ?_)
  · skip
    exact (List.forall_mem_cons.mpr ⟨(show pz_kd 1 = 12 ∧ 1 < 231 from by decide), (List.forall_mem_cons.mpr ⟨(pz_tc _), (List.forall_mem_cons.mpr ⟨(pz_tc _), List.forall_mem_nil _⟩)⟩)⟩)
  obtain ⟨w1141, rfl, C1141⟩ := hr
  have hq : _ ∧ _ := hq
  obtain ⟨q1141, z1141⟩ := hq
  subst z1141
  refine lv_pop hx hb (show decode code 1144 = .ok (.pop, 1) from by decide +kernel) rfl ?_
  refine lv_goto (tgt := 1407) hx hb (show decode code 1145 = .ok (.goto 262, 3) from by decide +kernel) (by decide) ?_
  have hR : pz_R M := by
    exact hR
  exact K _ _ _ hI hJ hR hP hS hM
set_option maxRecDepth 100000 in
set_option maxHeartbeats 4000000 in
theorem pz_case28 (Y : pz_Y p s m #[Value.ref b] c code R_law 4 D ad adV cy A) (hcs : cells ≤ room_1.cells ∧ slots ≤ room_1.slots) (hX : va_X b L xs s s.heap) (hbl : b < s.heap.size) (hbA : ¬ A b) (hL : L ≤ 3072) {i : Nat} (hi : i + 6 ≤ L) {H : Heap} {locs : List Loc} {ls : Array Slot} {M : pz_M} (hl : lv_has ls 4 [(0, .ref b), (1, .ref (ad 0)), (2, .ref (ad 1)), (3, .int (Int32.ofNat i))]) (hP : va_P D vwCl (pz_ws ad cy M) H) (hS : va_S A s.heap H locs) (hM : ∀ a k : Nat, pz_c (M a k)) (hI : pz_ic M) (hJ : pz_im M) (hR : pz_R M) (K : ∀ (M9 : pz_M) (H9 : Heap) (locs9 : List Loc), pz_ic M9 → pz_im M9 → pz_R M9 → va_P D vwCl (pz_ws ad cy M9) H9 → va_S A s.heap H9 locs9 → (∀ a k : Nat, pz_c (M9 a k)) → W p l e room_1 s m #[Value.ref b] below meth c H9 locs9 cells slots Q (F0 m 1407 ls [])) : W p l e room_1 s m #[Value.ref b] below meth c H locs cells slots Q (F0 m 1148 ls []) := by
  obtain ⟨hx, hb, hml, hown, hts, hXX⟩ := id Y
  refine lv_aload_n hx hb (k := 1) (show decode code 1148 = .ok (.aload_n 1, 1) from by decide +kernel) rfl (lv_at hl 1 rfl) ?_
  refine pz_crV Y hcs (v_X11_wrote (Nat.le_of_ble_eq_true rfl) (Nat.le_of_ble_eq_true rfl) pz_wq1041) H locs ls M [.inr (.inr (11, 0))] [] 1149 (show decode code 1149 = .ok (.invokevirtual 132, 3) from by decide +kernel) hP hS hM ?_ hl.1 rfl (Nat.le_of_ble_eq_true rfl) (hI) (fun r1149 M1149 H1149 locs1149 hq hr hP hS hM => ?_)
  · skip
    exact (List.forall_mem_cons.mpr ⟨(show pz_kd 0 = 11 ∧ 0 < 231 from by decide), List.forall_mem_nil _⟩)
  obtain ⟨w1149, rfl, C1149⟩ := hr
  have hq : _ ∧ _ := hq
  obtain ⟨q1149, z1149⟩ := hq
  subst z1149
  refine lv_pop hx hb (show decode code 1152 = .ok (.pop, 1) from by decide +kernel) rfl ?_
  refine lv_aload_n hx hb (k := 2) (show decode code 1153 = .ok (.aload_n 2, 1) from by decide +kernel) rfl (lv_at hl 2 rfl) ?_
  refine pz_crV Y hcs (v_X12_wrote (Nat.le_of_ble_eq_true rfl) (Nat.le_of_ble_eq_true rfl) pz_wq1737) H1149 locs1149 ls M [.inr (.inr (12, 1))] [] 1154 (show decode code 1154 = .ok (.invokevirtual 136, 3) from by decide +kernel) hP hS hM ?_ hl.1 rfl (Nat.le_of_ble_eq_true rfl) (hJ) (fun r1154 M1154 H1154 locs1154 hq hr hP hS hM => ?_)
  · skip
    exact (List.forall_mem_cons.mpr ⟨(show pz_kd 1 = 12 ∧ 1 < 231 from by decide), List.forall_mem_nil _⟩)
  obtain ⟨w1154, rfl, C1154⟩ := hr
  have hq : _ ∧ _ := hq
  obtain ⟨q1154, z1154⟩ := hq
  subst z1154
  refine lv_pop hx hb (show decode code 1157 = .ok (.pop, 1) from by decide +kernel) rfl ?_
  refine lv_goto (tgt := 1407) hx hb (show decode code 1158 = .ok (.goto 249, 3) from by decide +kernel) (by decide) ?_
  have hR : pz_R M := by
    exact hR
  exact K _ _ _ hI hJ hR hP hS hM
set_option maxRecDepth 100000 in
set_option maxHeartbeats 4000000 in
theorem pz_case29 (Y : pz_Y p s m #[Value.ref b] c code R_law 4 D ad adV cy A) (hcs : cells ≤ room_1.cells ∧ slots ≤ room_1.slots) (hX : va_X b L xs s s.heap) (hbl : b < s.heap.size) (hbA : ¬ A b) (hL : L ≤ 3072) {i : Nat} (hi : i + 6 ≤ L) {H : Heap} {locs : List Loc} {ls : Array Slot} {M : pz_M} (hl : lv_has ls 4 [(0, .ref b), (1, .ref (ad 0)), (2, .ref (ad 1)), (3, .int (Int32.ofNat i))]) (hP : va_P D vwCl (pz_ws ad cy M) H) (hS : va_S A s.heap H locs) (hM : ∀ a k : Nat, pz_c (M a k)) (hI : pz_ic M) (hJ : pz_im M) (hR : pz_R M) (K : ∀ (M9 : pz_M) (H9 : Heap) (locs9 : List Loc), pz_ic M9 → pz_im M9 → pz_R M9 → va_P D vwCl (pz_ws ad cy M9) H9 → va_S A s.heap H9 locs9 → (∀ a k : Nat, pz_c (M9 a k)) → W p l e room_1 s m #[Value.ref b] below meth c H9 locs9 cells slots Q (F0 m 1407 ls [])) : W p l e room_1 s m #[Value.ref b] below meth c H locs cells slots Q (F0 m 1161 ls []) := by
  obtain ⟨hx, hb, hml, hown, hts, hXX⟩ := id Y
  refine lv_aload_n hx hb (k := 1) (show decode code 1161 = .ok (.aload_n 1, 1) from by decide +kernel) rfl (lv_at hl 1 rfl) ?_
  refine pz_crV Y hcs (v3_X11_slowest (Nat.le_of_ble_eq_true rfl) (Nat.le_of_ble_eq_true rfl) pz_wq1045) H locs ls M [.inr (.inr (11, 0))] [] 1162 (show decode code 1162 = .ok (.invokevirtual 137, 3) from by decide +kernel) hP hS hM ?_ hl.1 rfl (Nat.le_of_ble_eq_true rfl) (hI) (fun r1162 M1162 H1162 locs1162 hq hr hP hS hM => ?_)
  · skip
    exact (List.forall_mem_cons.mpr ⟨(show pz_kd 0 = 11 ∧ 0 < 231 from by decide), List.forall_mem_nil _⟩)
  obtain ⟨w1162, rfl, C1162⟩ := hr
  have hq : _ ∧ _ := hq
  obtain ⟨q1162, z1162⟩ := hq
  have hR8 : pz_RZ M := hR
  have hR : pz_RZ M1162 := pz_RZ_k hI hR z1162
  have hJ : pz_im M1162 := pz_im_cg (fun b j q => z1162.2 b j (by unfold pq_Pk pq_Pw; unfold pz_mid at q; omega)) hJ
  have hI : pz_ic M1162 := z1162.1 hI
  refine lv_pop hx hb (show decode code 1165 = .ok (.pop, 1) from by decide +kernel) rfl ?_
  refine lv_aload_n hx hb (k := 2) (show decode code 1166 = .ok (.aload_n 2, 1) from by decide +kernel) rfl (lv_at hl 2 rfl) ?_
  refine pz_crV Y hcs (v3_X12_slowest (Nat.le_of_ble_eq_true rfl) (Nat.le_of_ble_eq_true rfl) pz_wq1745) H1162 locs1162 ls M1162 [.inr (.inr (12, 1))] [] 1167 (show decode code 1167 = .ok (.invokevirtual 140, 3) from by decide +kernel) hP hS hM ?_ hl.1 rfl (Nat.le_of_ble_eq_true rfl) (hJ) (fun r1167 M1167 H1167 locs1167 hq hr hP hS hM => ?_)
  · skip
    exact (List.forall_mem_cons.mpr ⟨(show pz_kd 1 = 12 ∧ 1 < 231 from by decide), List.forall_mem_nil _⟩)
  obtain ⟨w1167, rfl, C1167⟩ := hr
  have hq : _ ∧ _ := hq
  obtain ⟨q1167, z1167⟩ := hq
  have hR : pz_RZ M1167 := pz_RZ_v hR z1167
  have hI : pz_ic M1167 := pz_ic_cg (fun b j q => z1167.2 b j (by unfold pz_QV; unfold pz_mid at q; omega)) hI
  have hJ : pz_im M1167 := z1167.1 hJ
  refine lv_pop hx hb (show decode code 1170 = .ok (.pop, 1) from by decide +kernel) rfl ?_
  refine lv_goto (tgt := 1407) hx hb (show decode code 1171 = .ok (.goto 236, 3) from by decide +kernel) (by decide) ?_
  have hR : pz_R M1167 := by
    exact hR
  exact K _ _ _ hI hJ hR hP hS hM
set_option maxRecDepth 100000 in
set_option maxHeartbeats 4000000 in
theorem pz_case30 (Y : pz_Y p s m #[Value.ref b] c code R_law 4 D ad adV cy A) (hcs : cells ≤ room_1.cells ∧ slots ≤ room_1.slots) (hX : va_X b L xs s s.heap) (hbl : b < s.heap.size) (hbA : ¬ A b) (hL : L ≤ 3072) {i : Nat} (hi : i + 6 ≤ L) {H : Heap} {locs : List Loc} {ls : Array Slot} {M : pz_M} (hl : lv_has ls 4 [(0, .ref b), (1, .ref (ad 0)), (2, .ref (ad 1)), (3, .int (Int32.ofNat i))]) (hP : va_P D vwCl (pz_ws ad cy M) H) (hS : va_S A s.heap H locs) (hM : ∀ a k : Nat, pz_c (M a k)) (hI : pz_ic M) (hJ : pz_im M) (hR : pz_R M) (K : ∀ (M9 : pz_M) (H9 : Heap) (locs9 : List Loc), pz_ic M9 → pz_im M9 → pz_R M9 → va_P D vwCl (pz_ws ad cy M9) H9 → va_S A s.heap H9 locs9 → (∀ a k : Nat, pz_c (M9 a k)) → W p l e room_1 s m #[Value.ref b] below meth c H9 locs9 cells slots Q (F0 m 1407 ls [])) : W p l e room_1 s m #[Value.ref b] below meth c H locs cells slots Q (F0 m 1174 ls []) := by
  obtain ⟨hx, hb, hml, hown, hts, hXX⟩ := id Y
  refine lv_aload_n hx hb (k := 1) (show decode code 1174 = .ok (.aload_n 1, 1) from by decide +kernel) rfl (lv_at hl 1 rfl) ?_
  refine pz_la Y hX hbl hbA hL (i := i) (k := 1) (by omega) hl hS (show decode code 1175 = .ok (.aload_n 0, 1) from by decide +kernel) (show decode code 1176 = .ok (.iload_n 3, 1) from by decide +kernel) (show decode code 1177 = .ok (.iconst 1, 1) from by decide +kernel) (show decode code 1178 = .ok (.iadd, 1) from by decide +kernel) (show decode code 1179 = .ok (.iaload, 1) from by decide +kernel) ?_
  refine pz_crV Y hcs (v_X11_game (Nat.le_of_ble_eq_true rfl) (Nat.le_of_ble_eq_true rfl) pz_wq1049) H locs ls M [.inr (.inr (11, 0)), .inl (xs (i + 1)).toInt] [] 1180 (show decode code 1180 = .ok (.invokevirtual 141, 3) from by decide +kernel) hP hS hM ?_ hl.1 rfl (Nat.le_of_ble_eq_true rfl) (hI) (fun r1180 M1180 H1180 locs1180 hq hr hP hS hM => ?_)
  · skip
    exact (List.forall_mem_cons.mpr ⟨(show pz_kd 0 = 11 ∧ 0 < 231 from by decide), (List.forall_mem_cons.mpr ⟨(pz_tc _), List.forall_mem_nil _⟩)⟩)
  obtain ⟨w1180, rfl, C1180⟩ := hr
  have hq : _ ∧ _ := hq
  obtain ⟨q1180, z1180⟩ := hq
  subst z1180
  refine lv_pop hx hb (show decode code 1183 = .ok (.pop, 1) from by decide +kernel) rfl ?_
  refine lv_aload_n hx hb (k := 2) (show decode code 1184 = .ok (.aload_n 2, 1) from by decide +kernel) rfl (lv_at hl 2 rfl) ?_
  refine pz_la Y hX hbl hbA hL (i := i) (k := 1) (by omega) hl hS (show decode code 1185 = .ok (.aload_n 0, 1) from by decide +kernel) (show decode code 1186 = .ok (.iload_n 3, 1) from by decide +kernel) (show decode code 1187 = .ok (.iconst 1, 1) from by decide +kernel) (show decode code 1188 = .ok (.iadd, 1) from by decide +kernel) (show decode code 1189 = .ok (.iaload, 1) from by decide +kernel) ?_
  refine pz_crV Y hcs (v_X12_game (Nat.le_of_ble_eq_true rfl) (Nat.le_of_ble_eq_true rfl) pz_wq1749) H1180 locs1180 ls M [.inr (.inr (12, 1)), .inl (xs (i + 1)).toInt] [] 1190 (show decode code 1190 = .ok (.invokevirtual 144, 3) from by decide +kernel) hP hS hM ?_ hl.1 rfl (Nat.le_of_ble_eq_true rfl) (hJ) (fun r1190 M1190 H1190 locs1190 hq hr hP hS hM => ?_)
  · skip
    exact (List.forall_mem_cons.mpr ⟨(show pz_kd 1 = 12 ∧ 1 < 231 from by decide), (List.forall_mem_cons.mpr ⟨(pz_tc _), List.forall_mem_nil _⟩)⟩)
  obtain ⟨w1190, rfl, C1190⟩ := hr
  have hq : _ ∧ _ := hq
  obtain ⟨q1190, z1190⟩ := hq
  subst z1190
  refine lv_pop hx hb (show decode code 1193 = .ok (.pop, 1) from by decide +kernel) rfl ?_
  refine lv_goto (tgt := 1407) hx hb (show decode code 1194 = .ok (.goto 213, 3) from by decide +kernel) (by decide) ?_
  have hR : pz_R M := by
    exact hR
  exact K _ _ _ hI hJ hR hP hS hM
set_option maxRecDepth 100000 in
set_option maxHeartbeats 4000000 in
theorem pz_case31 (Y : pz_Y p s m #[Value.ref b] c code R_law 4 D ad adV cy A) (hcs : cells ≤ room_1.cells ∧ slots ≤ room_1.slots) (hX : va_X b L xs s s.heap) (hbl : b < s.heap.size) (hbA : ¬ A b) (hL : L ≤ 3072) {i : Nat} (hi : i + 6 ≤ L) {H : Heap} {locs : List Loc} {ls : Array Slot} {M : pz_M} (hl : lv_has ls 4 [(0, .ref b), (1, .ref (ad 0)), (2, .ref (ad 1)), (3, .int (Int32.ofNat i))]) (hP : va_P D vwCl (pz_ws ad cy M) H) (hS : va_S A s.heap H locs) (hM : ∀ a k : Nat, pz_c (M a k)) (hI : pz_ic M) (hJ : pz_im M) (hR : pz_R M) (K : ∀ (M9 : pz_M) (H9 : Heap) (locs9 : List Loc), pz_ic M9 → pz_im M9 → pz_R M9 → va_P D vwCl (pz_ws ad cy M9) H9 → va_S A s.heap H9 locs9 → (∀ a k : Nat, pz_c (M9 a k)) → W p l e room_1 s m #[Value.ref b] below meth c H9 locs9 cells slots Q (F0 m 1407 ls [])) : W p l e room_1 s m #[Value.ref b] below meth c H locs cells slots Q (F0 m 1197 ls []) := by
  obtain ⟨hx, hb, hml, hown, hts, hXX⟩ := id Y
  refine lv_aload_n hx hb (k := 1) (show decode code 1197 = .ok (.aload_n 1, 1) from by decide +kernel) rfl (lv_at hl 1 rfl) ?_
  refine pz_la Y hX hbl hbA hL (i := i) (k := 1) (by omega) hl hS (show decode code 1198 = .ok (.aload_n 0, 1) from by decide +kernel) (show decode code 1199 = .ok (.iload_n 3, 1) from by decide +kernel) (show decode code 1200 = .ok (.iconst 1, 1) from by decide +kernel) (show decode code 1201 = .ok (.iadd, 1) from by decide +kernel) (show decode code 1202 = .ok (.iaload, 1) from by decide +kernel) ?_
  refine pz_crV Y hcs (v3_X11_soon (Nat.le_of_ble_eq_true rfl) (Nat.le_of_ble_eq_true rfl) pz_wq1057) H locs ls M [.inr (.inr (11, 0)), .inl (xs (i + 1)).toInt] [] 1203 (show decode code 1203 = .ok (.invokevirtual 145, 3) from by decide +kernel) hP hS hM ?_ hl.1 rfl (Nat.le_of_ble_eq_true rfl) (hI) (fun r1203 M1203 H1203 locs1203 hq hr hP hS hM => ?_)
  · skip
    exact (List.forall_mem_cons.mpr ⟨(show pz_kd 0 = 11 ∧ 0 < 231 from by decide), (List.forall_mem_cons.mpr ⟨(pz_tc _), List.forall_mem_nil _⟩)⟩)
  obtain ⟨w1203, rfl, C1203⟩ := hr
  have hq : _ ∧ _ := hq
  obtain ⟨q1203, z1203⟩ := hq
  have hR8 : pz_RZ M := hR
  have hR : pz_RZ M1203 := pz_RZ_k hI hR z1203
  have hJ : pz_im M1203 := pz_im_cg (fun b j q => z1203.2 b j (by unfold pq_Pk pq_Pw; unfold pz_mid at q; omega)) hJ
  have hI : pz_ic M1203 := z1203.1 hI
  refine lv_pop hx hb (show decode code 1206 = .ok (.pop, 1) from by decide +kernel) rfl ?_
  refine lv_aload_n hx hb (k := 2) (show decode code 1207 = .ok (.aload_n 2, 1) from by decide +kernel) rfl (lv_at hl 2 rfl) ?_
  refine pz_la Y hX hbl hbA hL (i := i) (k := 1) (by omega) hl hS (show decode code 1208 = .ok (.aload_n 0, 1) from by decide +kernel) (show decode code 1209 = .ok (.iload_n 3, 1) from by decide +kernel) (show decode code 1210 = .ok (.iconst 1, 1) from by decide +kernel) (show decode code 1211 = .ok (.iadd, 1) from by decide +kernel) (show decode code 1212 = .ok (.iaload, 1) from by decide +kernel) ?_
  refine pz_crV Y hcs (v3_X12_soon (Nat.le_of_ble_eq_true rfl) (Nat.le_of_ble_eq_true rfl) pz_wq1639) H1203 locs1203 ls M1203 [.inr (.inr (12, 1)), .inl (xs (i + 1)).toInt] [] 1213 (show decode code 1213 = .ok (.invokevirtual 148, 3) from by decide +kernel) hP hS hM ?_ hl.1 rfl (Nat.le_of_ble_eq_true rfl) (hJ) (fun r1213 M1213 H1213 locs1213 hq hr hP hS hM => ?_)
  · skip
    exact (List.forall_mem_cons.mpr ⟨(show pz_kd 1 = 12 ∧ 1 < 231 from by decide), (List.forall_mem_cons.mpr ⟨(pz_tc _), List.forall_mem_nil _⟩)⟩)
  obtain ⟨w1213, rfl, C1213⟩ := hr
  have hq : _ ∧ _ := hq
  obtain ⟨q1213, z1213⟩ := hq
  have hR : pz_RZ M1213 := pz_RZ_v hR z1213
  have hI : pz_ic M1213 := pz_ic_cg (fun b j q => z1213.2 b j (by unfold pz_QV; unfold pz_mid at q; omega)) hI
  have hJ : pz_im M1213 := z1213.1 hJ
  refine lv_pop hx hb (show decode code 1216 = .ok (.pop, 1) from by decide +kernel) rfl ?_
  refine lv_goto (tgt := 1407) hx hb (show decode code 1217 = .ok (.goto 190, 3) from by decide +kernel) (by decide) ?_
  have hR : pz_R M1213 := by
    exact hR
  exact K _ _ _ hI hJ hR hP hS hM
set_option maxRecDepth 100000 in
set_option maxHeartbeats 4000000 in
theorem pz_case32 (Y : pz_Y p s m #[Value.ref b] c code R_law 4 D ad adV cy A) (hcs : cells ≤ room_1.cells ∧ slots ≤ room_1.slots) (hX : va_X b L xs s s.heap) (hbl : b < s.heap.size) (hbA : ¬ A b) (hL : L ≤ 3072) {i : Nat} (hi : i + 6 ≤ L) {H : Heap} {locs : List Loc} {ls : Array Slot} {M : pz_M} (hl : lv_has ls 4 [(0, .ref b), (1, .ref (ad 0)), (2, .ref (ad 1)), (3, .int (Int32.ofNat i))]) (hP : va_P D vwCl (pz_ws ad cy M) H) (hS : va_S A s.heap H locs) (hM : ∀ a k : Nat, pz_c (M a k)) (hI : pz_ic M) (hJ : pz_im M) (hR : pz_R M) (K : ∀ (M9 : pz_M) (H9 : Heap) (locs9 : List Loc), pz_ic M9 → pz_im M9 → pz_R M9 → va_P D vwCl (pz_ws ad cy M9) H9 → va_S A s.heap H9 locs9 → (∀ a k : Nat, pz_c (M9 a k)) → W p l e room_1 s m #[Value.ref b] below meth c H9 locs9 cells slots Q (F0 m 1407 ls [])) : W p l e room_1 s m #[Value.ref b] below meth c H locs cells slots Q (F0 m 1220 ls []) := by
  obtain ⟨hx, hb, hml, hown, hts, hXX⟩ := id Y
  refine lv_aload_n hx hb (k := 1) (show decode code 1220 = .ok (.aload_n 1, 1) from by decide +kernel) rfl (lv_at hl 1 rfl) ?_
  refine pz_la Y hX hbl hbA hL (i := i) (k := 1) (by omega) hl hS (show decode code 1221 = .ok (.aload_n 0, 1) from by decide +kernel) (show decode code 1222 = .ok (.iload_n 3, 1) from by decide +kernel) (show decode code 1223 = .ok (.iconst 1, 1) from by decide +kernel) (show decode code 1224 = .ok (.iadd, 1) from by decide +kernel) (show decode code 1225 = .ok (.iaload, 1) from by decide +kernel) ?_
  refine pz_la Y hX hbl hbA hL (i := i) (k := 2) (by omega) hl hS (show decode code 1226 = .ok (.aload_n 0, 1) from by decide +kernel) (show decode code 1227 = .ok (.iload_n 3, 1) from by decide +kernel) (show decode code 1228 = .ok (.iconst 2, 1) from by decide +kernel) (show decode code 1229 = .ok (.iadd, 1) from by decide +kernel) (show decode code 1230 = .ok (.iaload, 1) from by decide +kernel) ?_
  refine pz_crV Y hcs (v3_X11_hurry (Nat.le_of_ble_eq_true rfl) (Nat.le_of_ble_eq_true rfl) pz_wq1065) H locs ls M [.inr (.inr (11, 0)), .inl (xs (i + 1)).toInt, .inl (xs (i + 2)).toInt] [] 1231 (show decode code 1231 = .ok (.invokevirtual 149, 3) from by decide +kernel) hP hS hM ?_ hl.1 rfl (Nat.le_of_ble_eq_true rfl) (hI) (fun r1231 M1231 H1231 locs1231 hq hr hP hS hM => ?_)
  · skip
    exact (List.forall_mem_cons.mpr ⟨(show pz_kd 0 = 11 ∧ 0 < 231 from by decide), (List.forall_mem_cons.mpr ⟨(pz_tc _), (List.forall_mem_cons.mpr ⟨(pz_tc _), List.forall_mem_nil _⟩)⟩)⟩)
  obtain ⟨w1231, rfl, C1231⟩ := hr
  have hq : _ ∧ _ := hq
  obtain ⟨q1231, z1231⟩ := hq
  have hR8 : pz_RZ M := hR
  have hR : pz_RZ M1231 := pz_RZ_k hI hR z1231
  have hJ : pz_im M1231 := pz_im_cg (fun b j q => z1231.2 b j (by unfold pq_Pk pq_Pw; unfold pz_mid at q; omega)) hJ
  have hI : pz_ic M1231 := z1231.1 hI
  refine lv_pop hx hb (show decode code 1234 = .ok (.pop, 1) from by decide +kernel) rfl ?_
  refine lv_aload_n hx hb (k := 2) (show decode code 1235 = .ok (.aload_n 2, 1) from by decide +kernel) rfl (lv_at hl 2 rfl) ?_
  refine pz_la Y hX hbl hbA hL (i := i) (k := 1) (by omega) hl hS (show decode code 1236 = .ok (.aload_n 0, 1) from by decide +kernel) (show decode code 1237 = .ok (.iload_n 3, 1) from by decide +kernel) (show decode code 1238 = .ok (.iconst 1, 1) from by decide +kernel) (show decode code 1239 = .ok (.iadd, 1) from by decide +kernel) (show decode code 1240 = .ok (.iaload, 1) from by decide +kernel) ?_
  refine pz_la Y hX hbl hbA hL (i := i) (k := 2) (by omega) hl hS (show decode code 1241 = .ok (.aload_n 0, 1) from by decide +kernel) (show decode code 1242 = .ok (.iload_n 3, 1) from by decide +kernel) (show decode code 1243 = .ok (.iconst 2, 1) from by decide +kernel) (show decode code 1244 = .ok (.iadd, 1) from by decide +kernel) (show decode code 1245 = .ok (.iaload, 1) from by decide +kernel) ?_
  refine pz_crV Y hcs (v3_X12_hurry (Nat.le_of_ble_eq_true rfl) (Nat.le_of_ble_eq_true rfl) pz_wq1644) H1231 locs1231 ls M1231 [.inr (.inr (12, 1)), .inl (xs (i + 1)).toInt, .inl (xs (i + 2)).toInt] [] 1246 (show decode code 1246 = .ok (.invokevirtual 152, 3) from by decide +kernel) hP hS hM ?_ hl.1 rfl (Nat.le_of_ble_eq_true rfl) (hJ) (fun r1246 M1246 H1246 locs1246 hq hr hP hS hM => ?_)
  · skip
    exact (List.forall_mem_cons.mpr ⟨(show pz_kd 1 = 12 ∧ 1 < 231 from by decide), (List.forall_mem_cons.mpr ⟨(pz_tc _), (List.forall_mem_cons.mpr ⟨(pz_tc _), List.forall_mem_nil _⟩)⟩)⟩)
  obtain ⟨w1246, rfl, C1246⟩ := hr
  have hq : _ ∧ _ := hq
  obtain ⟨q1246, z1246⟩ := hq
  have hR : pz_RZ M1246 := pz_RZ_v hR z1246
  have hI : pz_ic M1246 := pz_ic_cg (fun b j q => z1246.2 b j (by unfold pz_QV; unfold pz_mid at q; omega)) hI
  have hJ : pz_im M1246 := z1246.1 hJ
  refine lv_pop hx hb (show decode code 1249 = .ok (.pop, 1) from by decide +kernel) rfl ?_
  refine lv_goto (tgt := 1407) hx hb (show decode code 1250 = .ok (.goto 157, 3) from by decide +kernel) (by decide) ?_
  have hR : pz_R M1246 := by
    exact hR
  exact K _ _ _ hI hJ hR hP hS hM
set_option maxRecDepth 100000 in
set_option maxHeartbeats 4000000 in
theorem pz_case33 (Y : pz_Y p s m #[Value.ref b] c code R_law 4 D ad adV cy A) (hcs : cells ≤ room_1.cells ∧ slots ≤ room_1.slots) (hX : va_X b L xs s s.heap) (hbl : b < s.heap.size) (hbA : ¬ A b) (hL : L ≤ 3072) {i : Nat} (hi : i + 6 ≤ L) {H : Heap} {locs : List Loc} {ls : Array Slot} {M : pz_M} (hl : lv_has ls 4 [(0, .ref b), (1, .ref (ad 0)), (2, .ref (ad 1)), (3, .int (Int32.ofNat i))]) (hP : va_P D vwCl (pz_ws ad cy M) H) (hS : va_S A s.heap H locs) (hM : ∀ a k : Nat, pz_c (M a k)) (hI : pz_ic M) (hJ : pz_im M) (hR : pz_R M) (K : ∀ (M9 : pz_M) (H9 : Heap) (locs9 : List Loc), pz_ic M9 → pz_im M9 → pz_R M9 → va_P D vwCl (pz_ws ad cy M9) H9 → va_S A s.heap H9 locs9 → (∀ a k : Nat, pz_c (M9 a k)) → W p l e room_1 s m #[Value.ref b] below meth c H9 locs9 cells slots Q (F0 m 1407 ls [])) : W p l e room_1 s m #[Value.ref b] below meth c H locs cells slots Q (F0 m 1253 ls []) := by
  obtain ⟨hx, hb, hml, hown, hts, hXX⟩ := id Y
  refine lv_aload_n hx hb (k := 1) (show decode code 1253 = .ok (.aload_n 1, 1) from by decide +kernel) rfl (lv_at hl 1 rfl) ?_
  refine pz_la Y hX hbl hbA hL (i := i) (k := 1) (by omega) hl hS (show decode code 1254 = .ok (.aload_n 0, 1) from by decide +kernel) (show decode code 1255 = .ok (.iload_n 3, 1) from by decide +kernel) (show decode code 1256 = .ok (.iconst 1, 1) from by decide +kernel) (show decode code 1257 = .ok (.iadd, 1) from by decide +kernel) (show decode code 1258 = .ok (.iaload, 1) from by decide +kernel) ?_
  refine pz_la Y hX hbl hbA hL (i := i) (k := 2) (by omega) hl hS (show decode code 1259 = .ok (.aload_n 0, 1) from by decide +kernel) (show decode code 1260 = .ok (.iload_n 3, 1) from by decide +kernel) (show decode code 1261 = .ok (.iconst 2, 1) from by decide +kernel) (show decode code 1262 = .ok (.iadd, 1) from by decide +kernel) (show decode code 1263 = .ok (.iaload, 1) from by decide +kernel) ?_
  refine pz_crV Y hcs (v3_X11_split (Nat.le_of_ble_eq_true rfl) (Nat.le_of_ble_eq_true rfl) pz_wq1074) H locs ls M [.inr (.inr (11, 0)), .inl (xs (i + 1)).toInt, .inl (xs (i + 2)).toInt] [] 1264 (show decode code 1264 = .ok (.invokevirtual 153, 3) from by decide +kernel) hP hS hM ?_ hl.1 rfl (Nat.le_of_ble_eq_true rfl) (hI) (fun r1264 M1264 H1264 locs1264 hq hr hP hS hM => ?_)
  · skip
    exact (List.forall_mem_cons.mpr ⟨(show pz_kd 0 = 11 ∧ 0 < 231 from by decide), (List.forall_mem_cons.mpr ⟨(pz_tc _), (List.forall_mem_cons.mpr ⟨(pz_tc _), List.forall_mem_nil _⟩)⟩)⟩)
  obtain ⟨w1264, rfl, C1264⟩ := hr
  have hq : _ ∧ _ := hq
  obtain ⟨q1264, z1264⟩ := hq
  have hR8 : pz_RZ M := hR
  have hR : pz_RZ M1264 := pz_RZ_k hI hR z1264
  have hJ : pz_im M1264 := pz_im_cg (fun b j q => z1264.2 b j (by unfold pq_Pk pq_Pw; unfold pz_mid at q; omega)) hJ
  have hI : pz_ic M1264 := z1264.1 hI
  refine lv_pop hx hb (show decode code 1267 = .ok (.pop, 1) from by decide +kernel) rfl ?_
  refine lv_aload_n hx hb (k := 2) (show decode code 1268 = .ok (.aload_n 2, 1) from by decide +kernel) rfl (lv_at hl 2 rfl) ?_
  refine pz_la Y hX hbl hbA hL (i := i) (k := 1) (by omega) hl hS (show decode code 1269 = .ok (.aload_n 0, 1) from by decide +kernel) (show decode code 1270 = .ok (.iload_n 3, 1) from by decide +kernel) (show decode code 1271 = .ok (.iconst 1, 1) from by decide +kernel) (show decode code 1272 = .ok (.iadd, 1) from by decide +kernel) (show decode code 1273 = .ok (.iaload, 1) from by decide +kernel) ?_
  refine pz_la Y hX hbl hbA hL (i := i) (k := 2) (by omega) hl hS (show decode code 1274 = .ok (.aload_n 0, 1) from by decide +kernel) (show decode code 1275 = .ok (.iload_n 3, 1) from by decide +kernel) (show decode code 1276 = .ok (.iconst 2, 1) from by decide +kernel) (show decode code 1277 = .ok (.iadd, 1) from by decide +kernel) (show decode code 1278 = .ok (.iaload, 1) from by decide +kernel) ?_
  refine pz_crV Y hcs (v3_X12_split (Nat.le_of_ble_eq_true rfl) (Nat.le_of_ble_eq_true rfl) pz_wq1652) H1264 locs1264 ls M1264 [.inr (.inr (12, 1)), .inl (xs (i + 1)).toInt, .inl (xs (i + 2)).toInt] [] 1279 (show decode code 1279 = .ok (.invokevirtual 156, 3) from by decide +kernel) hP hS hM ?_ hl.1 rfl (Nat.le_of_ble_eq_true rfl) (hJ) (fun r1279 M1279 H1279 locs1279 hq hr hP hS hM => ?_)
  · skip
    exact (List.forall_mem_cons.mpr ⟨(show pz_kd 1 = 12 ∧ 1 < 231 from by decide), (List.forall_mem_cons.mpr ⟨(pz_tc _), (List.forall_mem_cons.mpr ⟨(pz_tc _), List.forall_mem_nil _⟩)⟩)⟩)
  obtain ⟨w1279, rfl, C1279⟩ := hr
  have hq : _ ∧ _ := hq
  obtain ⟨q1279, z1279⟩ := hq
  have hR : pz_RZ M1279 := pz_RZ_v hR z1279
  have hI : pz_ic M1279 := pz_ic_cg (fun b j q => z1279.2 b j (by unfold pz_QV; unfold pz_mid at q; omega)) hI
  have hJ : pz_im M1279 := z1279.1 hJ
  refine lv_pop hx hb (show decode code 1282 = .ok (.pop, 1) from by decide +kernel) rfl ?_
  refine lv_goto (tgt := 1407) hx hb (show decode code 1283 = .ok (.goto 124, 3) from by decide +kernel) (by decide) ?_
  have hR : pz_R M1279 := by
    exact hR
  exact K _ _ _ hI hJ hR hP hS hM
set_option maxRecDepth 100000 in
set_option maxHeartbeats 4000000 in
theorem pz_case34 (Y : pz_Y p s m #[Value.ref b] c code R_law 4 D ad adV cy A) (hcs : cells ≤ room_1.cells ∧ slots ≤ room_1.slots) (hX : va_X b L xs s s.heap) (hbl : b < s.heap.size) (hbA : ¬ A b) (hL : L ≤ 3072) {i : Nat} (hi : i + 6 ≤ L) {H : Heap} {locs : List Loc} {ls : Array Slot} {M : pz_M} (hl : lv_has ls 4 [(0, .ref b), (1, .ref (ad 0)), (2, .ref (ad 1)), (3, .int (Int32.ofNat i))]) (hP : va_P D vwCl (pz_ws ad cy M) H) (hS : va_S A s.heap H locs) (hM : ∀ a k : Nat, pz_c (M a k)) (hI : pz_ic M) (hJ : pz_im M) (hR : pz_R M) (K : ∀ (M9 : pz_M) (H9 : Heap) (locs9 : List Loc), pz_ic M9 → pz_im M9 → pz_R M9 → va_P D vwCl (pz_ws ad cy M9) H9 → va_S A s.heap H9 locs9 → (∀ a k : Nat, pz_c (M9 a k)) → W p l e room_1 s m #[Value.ref b] below meth c H9 locs9 cells slots Q (F0 m 1407 ls [])) : W p l e room_1 s m #[Value.ref b] below meth c H locs cells slots Q (F0 m 1286 ls []) := by
  obtain ⟨hx, hb, hml, hown, hts, hXX⟩ := id Y
  refine lv_aload_n hx hb (k := 1) (show decode code 1286 = .ok (.aload_n 1, 1) from by decide +kernel) rfl (lv_at hl 1 rfl) ?_
  refine pz_la Y hX hbl hbA hL (i := i) (k := 1) (by omega) hl hS (show decode code 1287 = .ok (.aload_n 0, 1) from by decide +kernel) (show decode code 1288 = .ok (.iload_n 3, 1) from by decide +kernel) (show decode code 1289 = .ok (.iconst 1, 1) from by decide +kernel) (show decode code 1290 = .ok (.iadd, 1) from by decide +kernel) (show decode code 1291 = .ok (.iaload, 1) from by decide +kernel) ?_
  refine pz_crV Y hcs (v3_X11_gap (Nat.le_of_ble_eq_true rfl) (Nat.le_of_ble_eq_true rfl) pz_wq1081) H locs ls M [.inr (.inr (11, 0)), .inl (xs (i + 1)).toInt] [] 1292 (show decode code 1292 = .ok (.invokevirtual 157, 3) from by decide +kernel) hP hS hM ?_ hl.1 rfl (Nat.le_of_ble_eq_true rfl) (hI) (fun r1292 M1292 H1292 locs1292 hq hr hP hS hM => ?_)
  · skip
    exact (List.forall_mem_cons.mpr ⟨(show pz_kd 0 = 11 ∧ 0 < 231 from by decide), (List.forall_mem_cons.mpr ⟨(pz_tc _), List.forall_mem_nil _⟩)⟩)
  obtain ⟨w1292, rfl, C1292⟩ := hr
  have hq : _ ∧ _ := hq
  obtain ⟨q1292, z1292⟩ := hq
  subst z1292
  refine lv_pop hx hb (show decode code 1295 = .ok (.pop, 1) from by decide +kernel) rfl ?_
  refine lv_aload_n hx hb (k := 2) (show decode code 1296 = .ok (.aload_n 2, 1) from by decide +kernel) rfl (lv_at hl 2 rfl) ?_
  refine pz_la Y hX hbl hbA hL (i := i) (k := 1) (by omega) hl hS (show decode code 1297 = .ok (.aload_n 0, 1) from by decide +kernel) (show decode code 1298 = .ok (.iload_n 3, 1) from by decide +kernel) (show decode code 1299 = .ok (.iconst 1, 1) from by decide +kernel) (show decode code 1300 = .ok (.iadd, 1) from by decide +kernel) (show decode code 1301 = .ok (.iaload, 1) from by decide +kernel) ?_
  refine pz_crV Y hcs (v3_X12_gap (Nat.le_of_ble_eq_true rfl) (Nat.le_of_ble_eq_true rfl) pz_wq1700) H1292 locs1292 ls M [.inr (.inr (12, 1)), .inl (xs (i + 1)).toInt] [] 1302 (show decode code 1302 = .ok (.invokevirtual 160, 3) from by decide +kernel) hP hS hM ?_ hl.1 rfl (Nat.le_of_ble_eq_true rfl) (hJ) (fun r1302 M1302 H1302 locs1302 hq hr hP hS hM => ?_)
  · skip
    exact (List.forall_mem_cons.mpr ⟨(show pz_kd 1 = 12 ∧ 1 < 231 from by decide), (List.forall_mem_cons.mpr ⟨(pz_tc _), List.forall_mem_nil _⟩)⟩)
  obtain ⟨w1302, rfl, C1302⟩ := hr
  have hq : _ ∧ _ := hq
  obtain ⟨q1302, z1302⟩ := hq
  subst z1302
  refine lv_pop hx hb (show decode code 1305 = .ok (.pop, 1) from by decide +kernel) rfl ?_
  refine lv_goto (tgt := 1407) hx hb (show decode code 1306 = .ok (.goto 101, 3) from by decide +kernel) (by decide) ?_
  have hR : pz_R M := by
    exact hR
  exact K _ _ _ hI hJ hR hP hS hM
set_option maxRecDepth 100000 in
set_option maxHeartbeats 4000000 in
theorem pz_case35 (Y : pz_Y p s m #[Value.ref b] c code R_law 4 D ad adV cy A) (hcs : cells ≤ room_1.cells ∧ slots ≤ room_1.slots) (hX : va_X b L xs s s.heap) (hbl : b < s.heap.size) (hbA : ¬ A b) (hL : L ≤ 3072) {i : Nat} (hi : i + 6 ≤ L) {H : Heap} {locs : List Loc} {ls : Array Slot} {M : pz_M} (hl : lv_has ls 4 [(0, .ref b), (1, .ref (ad 0)), (2, .ref (ad 1)), (3, .int (Int32.ofNat i))]) (hP : va_P D vwCl (pz_ws ad cy M) H) (hS : va_S A s.heap H locs) (hM : ∀ a k : Nat, pz_c (M a k)) (hI : pz_ic M) (hJ : pz_im M) (hR : pz_R M) (K : ∀ (M9 : pz_M) (H9 : Heap) (locs9 : List Loc), pz_ic M9 → pz_im M9 → pz_R M9 → va_P D vwCl (pz_ws ad cy M9) H9 → va_S A s.heap H9 locs9 → (∀ a k : Nat, pz_c (M9 a k)) → W p l e room_1 s m #[Value.ref b] below meth c H9 locs9 cells slots Q (F0 m 1407 ls [])) : W p l e room_1 s m #[Value.ref b] below meth c H locs cells slots Q (F0 m 1309 ls []) := by
  obtain ⟨hx, hb, hml, hown, hts, hXX⟩ := id Y
  refine lv_aload_n hx hb (k := 1) (show decode code 1309 = .ok (.aload_n 1, 1) from by decide +kernel) rfl (lv_at hl 1 rfl) ?_
  refine pz_la Y hX hbl hbA hL (i := i) (k := 1) (by omega) hl hS (show decode code 1310 = .ok (.aload_n 0, 1) from by decide +kernel) (show decode code 1311 = .ok (.iload_n 3, 1) from by decide +kernel) (show decode code 1312 = .ok (.iconst 1, 1) from by decide +kernel) (show decode code 1313 = .ok (.iadd, 1) from by decide +kernel) (show decode code 1314 = .ok (.iaload, 1) from by decide +kernel) ?_
  refine pz_crV Y hcs (v3_X11_runs (Nat.le_of_ble_eq_true rfl) (Nat.le_of_ble_eq_true rfl) pz_wq1086) H locs ls M [.inr (.inr (11, 0)), .inl (xs (i + 1)).toInt] [] 1315 (show decode code 1315 = .ok (.invokevirtual 161, 3) from by decide +kernel) hP hS hM ?_ hl.1 rfl (Nat.le_of_ble_eq_true rfl) (hI) (fun r1315 M1315 H1315 locs1315 hq hr hP hS hM => ?_)
  · skip
    exact (List.forall_mem_cons.mpr ⟨(show pz_kd 0 = 11 ∧ 0 < 231 from by decide), (List.forall_mem_cons.mpr ⟨(pz_tc _), List.forall_mem_nil _⟩)⟩)
  obtain ⟨w1315, rfl, C1315⟩ := hr
  have hq : _ ∧ _ := hq
  obtain ⟨q1315, z1315⟩ := hq
  subst z1315
  refine lv_pop hx hb (show decode code 1318 = .ok (.pop, 1) from by decide +kernel) rfl ?_
  refine lv_aload_n hx hb (k := 2) (show decode code 1319 = .ok (.aload_n 2, 1) from by decide +kernel) rfl (lv_at hl 2 rfl) ?_
  refine pz_la Y hX hbl hbA hL (i := i) (k := 1) (by omega) hl hS (show decode code 1320 = .ok (.aload_n 0, 1) from by decide +kernel) (show decode code 1321 = .ok (.iload_n 3, 1) from by decide +kernel) (show decode code 1322 = .ok (.iconst 1, 1) from by decide +kernel) (show decode code 1323 = .ok (.iadd, 1) from by decide +kernel) (show decode code 1324 = .ok (.iaload, 1) from by decide +kernel) ?_
  refine pz_crV Y hcs (v3_X12_runs (Nat.le_of_ble_eq_true rfl) (Nat.le_of_ble_eq_true rfl) pz_wq1704) H1315 locs1315 ls M [.inr (.inr (12, 1)), .inl (xs (i + 1)).toInt] [] 1325 (show decode code 1325 = .ok (.invokevirtual 164, 3) from by decide +kernel) hP hS hM ?_ hl.1 rfl (Nat.le_of_ble_eq_true rfl) (hJ) (fun r1325 M1325 H1325 locs1325 hq hr hP hS hM => ?_)
  · skip
    exact (List.forall_mem_cons.mpr ⟨(show pz_kd 1 = 12 ∧ 1 < 231 from by decide), (List.forall_mem_cons.mpr ⟨(pz_tc _), List.forall_mem_nil _⟩)⟩)
  obtain ⟨w1325, rfl, C1325⟩ := hr
  have hq : _ ∧ _ := hq
  obtain ⟨q1325, z1325⟩ := hq
  subst z1325
  refine lv_pop hx hb (show decode code 1328 = .ok (.pop, 1) from by decide +kernel) rfl ?_
  refine lv_goto (tgt := 1407) hx hb (show decode code 1329 = .ok (.goto 78, 3) from by decide +kernel) (by decide) ?_
  have hR : pz_R M := by
    exact hR
  exact K _ _ _ hI hJ hR hP hS hM
set_option maxRecDepth 100000 in
set_option maxHeartbeats 4000000 in
theorem pz_case36 (Y : pz_Y p s m #[Value.ref b] c code R_law 4 D ad adV cy A) (hcs : cells ≤ room_1.cells ∧ slots ≤ room_1.slots) (hX : va_X b L xs s s.heap) (hbl : b < s.heap.size) (hbA : ¬ A b) (hL : L ≤ 3072) {i : Nat} (hi : i + 6 ≤ L) {H : Heap} {locs : List Loc} {ls : Array Slot} {M : pz_M} (hl : lv_has ls 4 [(0, .ref b), (1, .ref (ad 0)), (2, .ref (ad 1)), (3, .int (Int32.ofNat i))]) (hP : va_P D vwCl (pz_ws ad cy M) H) (hS : va_S A s.heap H locs) (hM : ∀ a k : Nat, pz_c (M a k)) (hI : pz_ic M) (hJ : pz_im M) (hR : pz_R M) (K : ∀ (M9 : pz_M) (H9 : Heap) (locs9 : List Loc), pz_ic M9 → pz_im M9 → pz_R M9 → va_P D vwCl (pz_ws ad cy M9) H9 → va_S A s.heap H9 locs9 → (∀ a k : Nat, pz_c (M9 a k)) → W p l e room_1 s m #[Value.ref b] below meth c H9 locs9 cells slots Q (F0 m 1407 ls [])) : W p l e room_1 s m #[Value.ref b] below meth c H locs cells slots Q (F0 m 1332 ls []) := by
  obtain ⟨hx, hb, hml, hown, hts, hXX⟩ := id Y
  refine lv_aload_n hx hb (k := 1) (show decode code 1332 = .ok (.aload_n 1, 1) from by decide +kernel) rfl (lv_at hl 1 rfl) ?_
  refine pz_crV Y hcs (v_X11_undo (Nat.le_of_ble_eq_true rfl) (Nat.le_of_ble_eq_true rfl) pz_wq1090) H locs ls M [.inr (.inr (11, 0))] [] 1333 (show decode code 1333 = .ok (.invokevirtual 165, 3) from by decide +kernel) hP hS hM ?_ hl.1 rfl (Nat.le_of_ble_eq_true rfl) (hI) (fun r1333 M1333 H1333 locs1333 hq hr hP hS hM => ?_)
  · skip
    exact (List.forall_mem_cons.mpr ⟨(show pz_kd 0 = 11 ∧ 0 < 231 from by decide), List.forall_mem_nil _⟩)
  obtain ⟨w1333, rfl, C1333⟩ := hr
  have hq : _ ∧ _ := hq
  obtain ⟨q1333, z1333⟩ := hq
  have hI8 := hI
  have hR8 : pz_RZ M := hR
  have hJ : pz_im M1333 := pz_im_cg (fun b j q => z1333.1.2.1 b j (Or.inl q)) hJ
  have hI : pz_ic M1333 := z1333.1.1 hI
  refine lv_pop hx hb (show decode code 1336 = .ok (.pop, 1) from by decide +kernel) rfl ?_
  refine lv_aload_n hx hb (k := 2) (show decode code 1337 = .ok (.aload_n 2, 1) from by decide +kernel) rfl (lv_at hl 2 rfl) ?_
  refine pz_crV Y hcs (v3_X12_undo (Nat.le_of_ble_eq_true rfl) (Nat.le_of_ble_eq_true rfl) pz_wq1403) H1333 locs1333 ls M1333 [.inr (.inr (12, 1))] [] 1338 (show decode code 1338 = .ok (.invokevirtual 169, 3) from by decide +kernel) hP hS hM ?_ hl.1 rfl (Nat.le_of_ble_eq_true rfl) (hJ) (fun r1338 M1338 H1338 locs1338 hq hr hP hS hM => ?_)
  · skip
    exact (List.forall_mem_cons.mpr ⟨(show pz_kd 1 = 12 ∧ 1 < 231 from by decide), List.forall_mem_nil _⟩)
  obtain ⟨w1338, rfl, C1338⟩ := hr
  have hq : _ ∧ _ := hq
  obtain ⟨q1338, z1338⟩ := hq
  obtain ⟨E8, hR⟩ := pz_RZ_undo hI8 hR8 q1333 z1333 q1338 z1338
  have hI : pz_ic M1338 := pz_ic_cg (fun b j q => z1338.2 b j (by unfold pz_QK; unfold pz_mid at q; omega)) hI
  have hJ : pz_im M1338 := z1338.1 hJ
  refine lv_pop hx hb (show decode code 1341 = .ok (.pop, 1) from by decide +kernel) rfl ?_
  refine lv_goto (tgt := 1407) hx hb (show decode code 1342 = .ok (.goto 65, 3) from by decide +kernel) (by decide) ?_
  have hR : pz_R M1338 := by
    exact hR
  exact K _ _ _ hI hJ hR hP hS hM
set_option maxRecDepth 100000 in
set_option maxHeartbeats 4000000 in
theorem pz_case37 (Y : pz_Y p s m #[Value.ref b] c code R_law 4 D ad adV cy A) (hcs : cells ≤ room_1.cells ∧ slots ≤ room_1.slots) (hX : va_X b L xs s s.heap) (hbl : b < s.heap.size) (hbA : ¬ A b) (hL : L ≤ 3072) {i : Nat} (hi : i + 6 ≤ L) {H : Heap} {locs : List Loc} {ls : Array Slot} {M : pz_M} (hl : lv_has ls 4 [(0, .ref b), (1, .ref (ad 0)), (2, .ref (ad 1)), (3, .int (Int32.ofNat i))]) (hP : va_P D vwCl (pz_ws ad cy M) H) (hS : va_S A s.heap H locs) (hM : ∀ a k : Nat, pz_c (M a k)) (hI : pz_ic M) (hJ : pz_im M) (hR : pz_R M) (K : ∀ (M9 : pz_M) (H9 : Heap) (locs9 : List Loc), pz_ic M9 → pz_im M9 → pz_R M9 → va_P D vwCl (pz_ws ad cy M9) H9 → va_S A s.heap H9 locs9 → (∀ a k : Nat, pz_c (M9 a k)) → W p l e room_1 s m #[Value.ref b] below meth c H9 locs9 cells slots Q (F0 m 1407 ls [])) : W p l e room_1 s m #[Value.ref b] below meth c H locs cells slots Q (F0 m 1345 ls []) := by
  obtain ⟨hx, hb, hml, hown, hts, hXX⟩ := id Y
  refine lv_aload_n hx hb (k := 1) (show decode code 1345 = .ok (.aload_n 1, 1) from by decide +kernel) rfl (lv_at hl 1 rfl) ?_
  refine pz_la Y hX hbl hbA hL (i := i) (k := 1) (by omega) hl hS (show decode code 1346 = .ok (.aload_n 0, 1) from by decide +kernel) (show decode code 1347 = .ok (.iload_n 3, 1) from by decide +kernel) (show decode code 1348 = .ok (.iconst 1, 1) from by decide +kernel) (show decode code 1349 = .ok (.iadd, 1) from by decide +kernel) (show decode code 1350 = .ok (.iaload, 1) from by decide +kernel) ?_
  refine lv_if_eq (tgt := 1358) hx hb (show decode code 1351 = .ok (.ifCond .eq 7, 3) from by decide +kernel) (by decide) (fun g1351 => ?_) (fun g1351 => ?_)
  · skip
    refine lv_iconst hx hb (v := Int32.ofInt 0) (show decode code 1358 = .ok (.iconst 0, 1) from by decide +kernel) rfl ?_
    refine pz_crV Y hcs (v3_X11_image (Nat.le_of_ble_eq_true rfl) (Nat.le_of_ble_eq_true rfl) pz_wq1098) H locs ls M [.inr (.inr (11, 0)), .inl 0] [] 1359 (show decode code 1359 = .ok (.invokevirtual 170, 3) from by decide +kernel) hP hS hM ?_ hl.1 rfl (Nat.le_of_ble_eq_true rfl) (hI) (fun r1359 M1359 H1359 locs1359 hq hr hP hS hM => ?_)
    · skip
      exact (List.forall_mem_cons.mpr ⟨(show pz_kd 0 = 11 ∧ 0 < 231 from by decide), (List.forall_mem_cons.mpr ⟨(show pz_c _ from by unfold pz_c; omega), List.forall_mem_nil _⟩)⟩)
    obtain ⟨w1359, rfl, C1359⟩ := hr
    have hq : _ ∧ _ := hq
    obtain ⟨q1359, z1359⟩ := hq
    have hI8 := hI
    have hR8 : pz_RZ M := hR
    have hJ : pz_im M1359 := pz_im_cg (pz_img_mid (pz_img_x q1359.1)) hJ
    have hI : pz_ic M1359 := z1359 hI
    refine lv_pop hx hb (show decode code 1362 = .ok (.pop, 1) from by decide +kernel) rfl ?_
    refine lv_aload_n hx hb (k := 2) (show decode code 1363 = .ok (.aload_n 2, 1) from by decide +kernel) rfl (lv_at hl 2 rfl) ?_
    refine pz_la Y hX hbl hbA hL (i := i) (k := 1) (by omega) hl hS (show decode code 1364 = .ok (.aload_n 0, 1) from by decide +kernel) (show decode code 1365 = .ok (.iload_n 3, 1) from by decide +kernel) (show decode code 1366 = .ok (.iconst 1, 1) from by decide +kernel) (show decode code 1367 = .ok (.iadd, 1) from by decide +kernel) (show decode code 1368 = .ok (.iaload, 1) from by decide +kernel) ?_
    refine lv_if_eq (tgt := 1376) hx hb (show decode code 1369 = .ok (.ifCond .eq 7, 3) from by decide +kernel) (by decide) (fun g1369 => ?_) (fun g1369 => ?_)
    · skip
      refine lv_iconst hx hb (v := Int32.ofInt 0) (show decode code 1376 = .ok (.iconst 0, 1) from by decide +kernel) rfl ?_
      refine pz_crV Y hcs (v3_X12_image (Nat.le_of_ble_eq_true rfl) (Nat.le_of_ble_eq_true rfl) pz_wq1757) H1359 locs1359 ls M1359 [.inr (.inr (12, 1)), .inl 0] [] 1377 (show decode code 1377 = .ok (.invokevirtual 174, 3) from by decide +kernel) hP hS hM ?_ hl.1 rfl (Nat.le_of_ble_eq_true rfl) (hJ) (fun r1377 M1377 H1377 locs1377 hq hr hP hS hM => ?_)
      · skip
        exact (List.forall_mem_cons.mpr ⟨(show pz_kd 1 = 12 ∧ 1 < 231 from by decide), (List.forall_mem_cons.mpr ⟨(show pz_c _ from by unfold pz_c; omega), List.forall_mem_nil _⟩)⟩)
      obtain ⟨w1377, rfl, C1377⟩ := hr
      have hq : _ ∧ _ := hq
      obtain ⟨q1377, z1377⟩ := hq
      obtain ⟨E8, hR⟩ := pz_RZ_image hI8 hR8 q1359 q1377 z1377
      have hI : pz_ic M1377 := pz_ic_cg (fun b j q => z1377.2 b j (by unfold pz_QI; unfold pz_mid at q; omega)) hI
      have hJ : pz_im M1377 := z1377.1 hJ
      refine lv_pop hx hb (show decode code 1380 = .ok (.pop, 1) from by decide +kernel) rfl ?_
      refine lv_goto (tgt := 1407) hx hb (show decode code 1381 = .ok (.goto 26, 3) from by decide +kernel) (by decide) ?_
      have hR : pz_R M1377 := by
        exact hR
      exact K _ _ _ hI hJ hR hP hS hM
    · skip
      exact absurd g1351 g1369
  · skip
    refine lv_iconst hx hb (v := Int32.ofInt 1) (show decode code 1354 = .ok (.iconst 1, 1) from by decide +kernel) rfl ?_
    refine lv_goto (tgt := 1359) hx hb (show decode code 1355 = .ok (.goto 4, 3) from by decide +kernel) (by decide) ?_
    refine pz_crV Y hcs (v3_X11_image (Nat.le_of_ble_eq_true rfl) (Nat.le_of_ble_eq_true rfl) pz_wq1098) H locs ls M [.inr (.inr (11, 0)), .inl 1] [] 1359 (show decode code 1359 = .ok (.invokevirtual 170, 3) from by decide +kernel) hP hS hM ?_ hl.1 rfl (Nat.le_of_ble_eq_true rfl) (hI) (fun r1359 M1359 H1359 locs1359 hq hr hP hS hM => ?_)
    · skip
      exact (List.forall_mem_cons.mpr ⟨(show pz_kd 0 = 11 ∧ 0 < 231 from by decide), (List.forall_mem_cons.mpr ⟨(show pz_c _ from by unfold pz_c; omega), List.forall_mem_nil _⟩)⟩)
    obtain ⟨w1359, rfl, C1359⟩ := hr
    have hq : _ ∧ _ := hq
    obtain ⟨q1359, z1359⟩ := hq
    have hI8 := hI
    have hR8 : pz_RZ M := hR
    have hJ : pz_im M1359 := pz_im_cg (pz_img_mid (pz_img_x q1359.1)) hJ
    have hI : pz_ic M1359 := z1359 hI
    refine lv_pop hx hb (show decode code 1362 = .ok (.pop, 1) from by decide +kernel) rfl ?_
    refine lv_aload_n hx hb (k := 2) (show decode code 1363 = .ok (.aload_n 2, 1) from by decide +kernel) rfl (lv_at hl 2 rfl) ?_
    refine pz_la Y hX hbl hbA hL (i := i) (k := 1) (by omega) hl hS (show decode code 1364 = .ok (.aload_n 0, 1) from by decide +kernel) (show decode code 1365 = .ok (.iload_n 3, 1) from by decide +kernel) (show decode code 1366 = .ok (.iconst 1, 1) from by decide +kernel) (show decode code 1367 = .ok (.iadd, 1) from by decide +kernel) (show decode code 1368 = .ok (.iaload, 1) from by decide +kernel) ?_
    refine lv_if_eq (tgt := 1376) hx hb (show decode code 1369 = .ok (.ifCond .eq 7, 3) from by decide +kernel) (by decide) (fun g1369 => ?_) (fun g1369 => ?_)
    · skip
      exact absurd g1369 g1351
    · skip
      refine lv_iconst hx hb (v := Int32.ofInt 1) (show decode code 1372 = .ok (.iconst 1, 1) from by decide +kernel) rfl ?_
      refine lv_goto (tgt := 1377) hx hb (show decode code 1373 = .ok (.goto 4, 3) from by decide +kernel) (by decide) ?_
      refine pz_crV Y hcs (v3_X12_image (Nat.le_of_ble_eq_true rfl) (Nat.le_of_ble_eq_true rfl) pz_wq1757) H1359 locs1359 ls M1359 [.inr (.inr (12, 1)), .inl 1] [] 1377 (show decode code 1377 = .ok (.invokevirtual 174, 3) from by decide +kernel) hP hS hM ?_ hl.1 rfl (Nat.le_of_ble_eq_true rfl) (hJ) (fun r1377 M1377 H1377 locs1377 hq hr hP hS hM => ?_)
      · skip
        exact (List.forall_mem_cons.mpr ⟨(show pz_kd 1 = 12 ∧ 1 < 231 from by decide), (List.forall_mem_cons.mpr ⟨(show pz_c _ from by unfold pz_c; omega), List.forall_mem_nil _⟩)⟩)
      obtain ⟨w1377, rfl, C1377⟩ := hr
      have hq : _ ∧ _ := hq
      obtain ⟨q1377, z1377⟩ := hq
      obtain ⟨E8, hR⟩ := pz_RZ_image hI8 hR8 q1359 q1377 z1377
      have hI : pz_ic M1377 := pz_ic_cg (fun b j q => z1377.2 b j (by unfold pz_QI; unfold pz_mid at q; omega)) hI
      have hJ : pz_im M1377 := z1377.1 hJ
      refine lv_pop hx hb (show decode code 1380 = .ok (.pop, 1) from by decide +kernel) rfl ?_
      refine lv_goto (tgt := 1407) hx hb (show decode code 1381 = .ok (.goto 26, 3) from by decide +kernel) (by decide) ?_
      have hR : pz_R M1377 := by
        exact hR
      exact K _ _ _ hI hJ hR hP hS hM
set_option maxRecDepth 100000 in
set_option maxHeartbeats 4000000 in
theorem pz_case38 (Y : pz_Y p s m #[Value.ref b] c code R_law 4 D ad adV cy A) (hcs : cells ≤ room_1.cells ∧ slots ≤ room_1.slots) (hX : va_X b L xs s s.heap) (hbl : b < s.heap.size) (hbA : ¬ A b) (hL : L ≤ 3072) {i : Nat} (hi : i + 6 ≤ L) {H : Heap} {locs : List Loc} {ls : Array Slot} {M : pz_M} (hl : lv_has ls 4 [(0, .ref b), (1, .ref (ad 0)), (2, .ref (ad 1)), (3, .int (Int32.ofNat i))]) (hP : va_P D vwCl (pz_ws ad cy M) H) (hS : va_S A s.heap H locs) (hM : ∀ a k : Nat, pz_c (M a k)) (hI : pz_ic M) (hJ : pz_im M) (hR : pz_R M) (K : ∀ (M9 : pz_M) (H9 : Heap) (locs9 : List Loc), pz_ic M9 → pz_im M9 → pz_R M9 → va_P D vwCl (pz_ws ad cy M9) H9 → va_S A s.heap H9 locs9 → (∀ a k : Nat, pz_c (M9 a k)) → W p l e room_1 s m #[Value.ref b] below meth c H9 locs9 cells slots Q (F0 m 1407 ls [])) : W p l e room_1 s m #[Value.ref b] below meth c H locs cells slots Q (F0 m 1384 ls []) := by
  obtain ⟨hx, hb, hml, hown, hts, hXX⟩ := id Y
  refine lv_aload_n hx hb (k := 1) (show decode code 1384 = .ok (.aload_n 1, 1) from by decide +kernel) rfl (lv_at hl 1 rfl) ?_
  refine pz_la Y hX hbl hbA hL (i := i) (k := 1) (by omega) hl hS (show decode code 1385 = .ok (.aload_n 0, 1) from by decide +kernel) (show decode code 1386 = .ok (.iload_n 3, 1) from by decide +kernel) (show decode code 1387 = .ok (.iconst 1, 1) from by decide +kernel) (show decode code 1388 = .ok (.iadd, 1) from by decide +kernel) (show decode code 1389 = .ok (.iaload, 1) from by decide +kernel) ?_
  refine pz_crV Y hcs (v3_X11_look (Nat.le_of_ble_eq_true rfl) (Nat.le_of_ble_eq_true rfl) pz_wq1109) H locs ls M [.inr (.inr (11, 0)), .inl (xs (i + 1)).toInt] [] 1390 (show decode code 1390 = .ok (.invokevirtual 175, 3) from by decide +kernel) hP hS hM ?_ hl.1 rfl (Nat.le_of_ble_eq_true rfl) (hI) (fun r1390 M1390 H1390 locs1390 hq hr hP hS hM => ?_)
  · skip
    exact (List.forall_mem_cons.mpr ⟨(show pz_kd 0 = 11 ∧ 0 < 231 from by decide), (List.forall_mem_cons.mpr ⟨(pz_tc _), List.forall_mem_nil _⟩)⟩)
  obtain ⟨w1390, rfl, C1390⟩ := hr
  have hq : _ ∧ _ := hq
  obtain ⟨q1390, z1390⟩ := hq
  subst z1390
  refine lv_pop hx hb (show decode code 1393 = .ok (.pop, 1) from by decide +kernel) rfl ?_
  refine lv_aload_n hx hb (k := 2) (show decode code 1394 = .ok (.aload_n 2, 1) from by decide +kernel) rfl (lv_at hl 2 rfl) ?_
  refine pz_la Y hX hbl hbA hL (i := i) (k := 1) (by omega) hl hS (show decode code 1395 = .ok (.aload_n 0, 1) from by decide +kernel) (show decode code 1396 = .ok (.iload_n 3, 1) from by decide +kernel) (show decode code 1397 = .ok (.iconst 1, 1) from by decide +kernel) (show decode code 1398 = .ok (.iadd, 1) from by decide +kernel) (show decode code 1399 = .ok (.iaload, 1) from by decide +kernel) ?_
  refine pz_crV Y hcs (v3_X12_look (Nat.le_of_ble_eq_true rfl) (Nat.le_of_ble_eq_true rfl) pz_wq1761) H1390 locs1390 ls M [.inr (.inr (12, 1)), .inl (xs (i + 1)).toInt] [] 1400 (show decode code 1400 = .ok (.invokevirtual 178, 3) from by decide +kernel) hP hS hM ?_ hl.1 rfl (Nat.le_of_ble_eq_true rfl) (hJ) (fun r1400 M1400 H1400 locs1400 hq hr hP hS hM => ?_)
  · skip
    exact (List.forall_mem_cons.mpr ⟨(show pz_kd 1 = 12 ∧ 1 < 231 from by decide), (List.forall_mem_cons.mpr ⟨(pz_tc _), List.forall_mem_nil _⟩)⟩)
  obtain ⟨w1400, rfl, C1400⟩ := hr
  have hq : _ ∧ _ := hq
  obtain ⟨q1400, z1400⟩ := hq
  subst z1400
  refine lv_pop hx hb (show decode code 1403 = .ok (.pop, 1) from by decide +kernel) rfl ?_
  refine lv_goto (tgt := 1407) hx hb (show decode code 1404 = .ok (.goto 3, 3) from by decide +kernel) (by decide) ?_
  have hR : pz_R M := by
    exact hR
  exact K _ _ _ hI hJ hR hP hS hM
end PZL
