set_option maxRecDepth 100000 in
set_option maxHeartbeats 4000000 in
theorem whole_start {p : Program} {e : Env} {s : State} {m : MethodId} {below : List Frame} {meth : Method} {c : Code} (l : Launch) {b L : Nat} {xs : Nat → Int32} (hL : L ≤ 3072) (C0 : lw_At p s m meth c b L xs) : W p l e room_1 s m #[Value.ref b] below meth c s.heap [] 0 0 (lw_Z below #[Value.ref b] s) (entryFrame m ([Value.ref b] : List Value).toArray 4) := by
  obtain ⟨hx, hb, hr, hml, hown, hts, hX, hbl, hlocks, hgv⟩ := id C0
  have hts9 : ∀ w ∈ pz_tbl, w.before #[Value.ref b] s = true := fun w hw => hts w (List.mem_filter.mp hw).1
  obtain ⟨A, hAe⟩ : ∃ A : Nat → Prop, A = fun q : Nat => s.heap.size ≤ q := ⟨_, rfl⟩
  have hA : ∀ q : Nat, s.heap.size ≤ q → A q := fun q h => by rw [hAe]; exact h
  have hA2 : ∀ q : Nat, q < s.heap.size → ¬ A q := fun q h z => by rw [hAe] at z; exact absurd z (Nat.not_le.mpr h)
  have hbA : ¬ A b := hA2 b hbl
  obtain ⟨D, cy, hB⟩ := pz_D0 hts
  obtain ⟨adK, adV, hSt⟩ := pz_start (A := A) hts hgv hA2
  have Y1 : pz_Ym p s m #[Value.ref b] c code R_law 4 D cy := ⟨hx, hb, hml, hown, hts9, hB⟩
  have hS : va_S A s.heap s.heap [] := va_S.rf
  have hP : va_P D vwCl [] s.heap := fun k q h => by simp at h
  have hD : va_D A [] := ⟨fun i j p q h => by simp at h, fun k q h => by simp at h⟩
  have hl := lv_entry ([.ref b]) (n := 4) (Nat.le_of_ble_eq_true rfl)
  rw [lg_entry_eq]
  generalize (lg_sl ([.ref b]) ++ List.replicate (4 - (lg_sl ([.ref b])).length) Slot.unset).toArray = ls at hl ⊢
  have hl : lv_has ls 4 [(0, .ref b)] := hl
  refine va_new (ci := 11) (fs := [.null, .null, .null, .null, .null, .null, .null, .null, .null, .null, .null, .null, .null, .int 0]) (C := RX11) (T := TX11) (N := 14) hx hb hts9 (fun w hw => pz_tbl_in (pz_in11 w hw) (pz_layg w hw)) tyX11 tyX11_ok hown (hts (.classLink R_law 7 RX11) (by decide +kernel)) (hts (.instantiable RX11 14) (by decide +kernel)) (hts (.initialized RX11) (by decide +kernel)) hB.1 hP hD hS hA rfl (fun j hj => match j, hj with | 0, _ => rfl | 1, _ => rfl | 2, _ => rfl | 3, _ => rfl | 4, _ => rfl | 5, _ => rfl | 6, _ => rfl | 7, _ => rfl | 8, _ => rfl | 9, _ => rfl | 10, _ => rfl | 11, _ => rfl | 12, _ => rfl | 13, _ => rfl | n + 14, h => absurd h (by omega)) (Nat.le_of_ble_eq_true rfl) (Nat.le_of_ble_eq_true rfl) (show decode code 0 = .ok (.new 7, 3) from by decide +kernel) (fun h0 H hP hD hS => ?_)
  refine W.widen (k := 1) (n := 14) (Nat.le_of_ble_eq_true rfl) (Nat.le_of_ble_eq_true rfl) ?_
  refine lv_dup hx hb (show decode code 3 = .ok (.dup, 1) from by decide +kernel) rfl ?_
  refine pz_NcI (i := 9) (n := 0) Y1 hA (h_N_X11 (X := []) (h0 := h0)) ⟨(Nat.le_of_ble_eq_true rfl), (Nat.le_of_ble_eq_true rfl)⟩ (Nat.le_of_ble_eq_true rfl) (Nat.le_of_ble_eq_true rfl) rfl rfl ⟨(by decide +kernel), (by decide +kernel), (by decide +kernel)⟩ ⟨(by decide +kernel), (by decide +kernel), (by decide +kernel)⟩ (Or.inl (by decide +kernel)) rfl (show decode code 4 = .ok (.invokespecial 9, 3) from by decide +kernel) hP hD hS hl.1 (Nat.le_of_ble_eq_true rfl) (fun H locs ws9 hq hP hD hS => ?_)
  obtain ⟨c1, g1, c2, g2, tx, gtx, pg, dd, gd, kp, gkp, tp, gtp, tl, gtl, lk, glk, ph, gph, c3, g3, tx2, gtx2, pg2, rfl⟩ := hq
  rw [List.nil_append] at hP hD
  refine W.widen (k := 194) (n := 10474) (Nat.le_of_ble_eq_true rfl) (Nat.le_of_ble_eq_true rfl) ?_
  refine lv_astore_n hx hb (k := 1) (show decode code 7 = .ok (.astore_n 1, 1) from by decide +kernel) rfl hl (by decide) rfl (fun ls hl => ?_)
  have hl : lv_has ls 4 [(1, .ref h0), (0, .ref b)] := hl
  refine va_new (ci := 12) (fs := [.null, .null, .null, .null, .int 0, .int 0, .null, .null, .null, .null, .null, .null, .int 0, .int 0, .int 0, .int 0, .int 0, .int 0, .int 0, .int 0, .int 0, .int 0, .int 0, .int 0, .int 0, .int 0, .int 0, .null]) (C := RX12) (T := TX12) (N := 28) hx hb hts9 (fun w hw => pz_tbl_in (pz_in12 w hw) (pz_layg w hw)) tyX12 tyX12_ok hown (hts (.classLink R_law 10 RX12) (by decide +kernel)) (hts (.instantiable RX12 28) (by decide +kernel)) (hts (.initialized RX12) (by decide +kernel)) hB.1 hP hD hS hA rfl (fun j hj => match j, hj with | 0, _ => rfl | 1, _ => rfl | 2, _ => rfl | 3, _ => rfl | 4, _ => rfl | 5, _ => rfl | 6, _ => rfl | 7, _ => rfl | 8, _ => rfl | 9, _ => rfl | 10, _ => rfl | 11, _ => rfl | 12, _ => rfl | 13, _ => rfl | 14, _ => rfl | 15, _ => rfl | 16, _ => rfl | 17, _ => rfl | 18, _ => rfl | 19, _ => rfl | 20, _ => rfl | 21, _ => rfl | 22, _ => rfl | 23, _ => rfl | 24, _ => rfl | 25, _ => rfl | 26, _ => rfl | 27, _ => rfl | n + 28, h => absurd h (by omega)) (Nat.le_of_ble_eq_true rfl) (Nat.le_of_ble_eq_true rfl) (show decode code 8 = .ok (.new 10, 3) from by decide +kernel) (fun h1 H hP hD hS => ?_)
  refine W.widen (k := 195) (n := 10502) (Nat.le_of_ble_eq_true rfl) (Nat.le_of_ble_eq_true rfl) ?_
  refine lv_dup hx hb (show decode code 11 = .ok (.dup, 1) from by decide +kernel) rfl ?_
  refine pz_NcI (i := 12) (n := 0) Y1 hA (h_N_X12 (X := (pz_b11 cy h0 c1 g1 c2 g2 tx gtx pg dd gd kp gkp tp gtp tl gtl lk glk ph gph c3 g3 tx2 gtx2 pg2)) (h0 := h1)) ⟨(Nat.le_of_ble_eq_true rfl), (Nat.le_of_ble_eq_true rfl)⟩ (Nat.le_of_ble_eq_true rfl) (Nat.le_of_ble_eq_true rfl) rfl rfl ⟨(by decide +kernel), (by decide +kernel), (by decide +kernel)⟩ ⟨(by decide +kernel), (by decide +kernel), (by decide +kernel)⟩ (Or.inl (by decide +kernel)) rfl (show decode code 12 = .ok (.invokespecial 12, 3) from by decide +kernel) hP hD hS hl.1 (Nat.le_of_ble_eq_true rfl) (fun H locs ws9 hq hP hD hS => ?_)
  obtain ⟨gm, rfl⟩ := hq
  refine W.widen (k := 206) (n := 20458) (Nat.le_of_ble_eq_true rfl) (Nat.le_of_ble_eq_true rfl) ?_
  refine lv_astore_n hx hb (k := 2) (show decode code 15 = .ok (.astore_n 2, 1) from by decide +kernel) rfl hl (by decide) rfl (fun ls hl => ?_)
  have hl : lv_has ls 4 [(2, .ref h1), (1, .ref h0), (0, .ref b)] := hl
  refine lv_iconst hx hb (v := 0) (show decode code 16 = .ok (.iconst 0, 1) from by decide +kernel) (by decide) ?_
  refine lv_istore_n hx hb (k := 3) (show decode code 17 = .ok (.istore_n 3, 1) from by decide +kernel) rfl hl (by decide) rfl (fun ls hl => ?_)
  have hl : lv_has ls 4 [(3, .int 0), (2, .ref h1), (1, .ref h0), (0, .ref b)] := hl
  have hP0 := pz_asmP (adS := adK) hP
  obtain ⟨j1, j2⟩ := pz_asmD (adS := adK) hD
  have a0 : (pz_ad (pz_adl h0 c1 g1 c2 g2 tx gtx pg dd gd kp gkp tp gtp tl gtl lk glk ph gph c3 g3 tx2 gtx2 pg2 h1 gm) adK) 0 = h0 := rfl
  have a1 : (pz_ad (pz_adl h0 c1 g1 c2 g2 tx gtx pg dd gd kp gkp tp gtp tl gtl lk glk ph gph c3 g3 tx2 gtx2 pg2 h1 gm) adK) 1 = h1 := rfl
  have hSt2 := hSt (pz_ad (pz_adl h0 c1 g1 c2 g2 tx gtx pg dd gd kp gkp tp gtp tl gtl lk glk ph gph c3 g3 tx2 gtx2 pg2 h1 gm) adK) (fun i hi => by
    unfold pz_ad
    rw [if_neg (by omega), show 206 + i - 206 = i by omega])
  generalize (pz_ad (pz_adl h0 c1 g1 c2 g2 tx gtx pg dd gd kp gkp tp gtp tl gtl lk glk ph gph c3 g3 tx2 gtx2 pg2 h1 gm) adK) = ad at hP0 j1 j2 a0 a1 hSt2
  have hl : lv_has ls 4 [(0, .ref b), (1, .ref (ad 0)), (2, .ref (ad 1)), (3, .int (Int32.ofNat 0))] := by
    rw [a0, a1]
    exact lv_sub hl [3, 2, 1, 0] rfl
  have Y : pz_Y p s m #[Value.ref b] c code R_law 4 D ad adV cy A := ⟨hx, hb, hml, hown, hts9, ⟨hB.1, j1, j2, hSt2⟩⟩
  refine pz_loop Y ⟨(Nat.le_of_ble_eq_true rfl), (Nat.le_of_ble_eq_true rfl)⟩ hX hbl hbA hL (fun H locs ls hS => ?_) (L + 7) 0 H locs ls pz_M0 (by omega) (by omega) hl hP0 hS pz_M0_c pz_M0_ic pz_M0_im (show pz_R pz_M0 from ⟨⟨⟨rfl, by decide +kernel, rfl, by decide +kernel, Or.inl ⟨rfl, rfl⟩, ⟨by decide +kernel, fun t ht => absurd ht (by rw [show pz_M0 3 2 = 0 from rfl]; omega)⟩⟩, ⟨rfl, fun t ht => absurd ht (by rw [show pz_M0 4 1 = 0 from rfl]; omega)⟩, rfl, rfl⟩, ⟨[], [], [], [], ⟨⟨rfl, rfl, fun k hk => absurd hk (Nat.not_lt_zero _), fun k hk => absurd hk (Nat.not_lt_zero _)⟩, ⟨rfl, fun k hk => absurd hk (Nat.not_lt_zero _), fun k hk => absurd hk (Nat.not_lt_zero _)⟩, Nat.zero_le _, Nat.zero_le _, fun _ => 101, fun _ => 0, .z rfl⟩, ⟨⟨rfl, fun r c hr => absurd hr (Nat.not_lt_zero _)⟩, ⟨rfl, fun r c hr => absurd hr (Nat.not_lt_zero _)⟩, Nat.zero_le _, fun r hr => absurd hr (Nat.not_lt_zero _)⟩, ⟨⟨rfl, fun r c hr => absurd hr (Nat.not_lt_zero _)⟩, ⟨rfl, fun i hi hn => absurd hn (by rw [show pz_M0 71 3 = 0 from rfl]; omega)⟩, Nat.zero_le _, fun r hr => absurd hr (Nat.not_lt_zero _)⟩, ⟨⟨rfl, fun r c hr => absurd hr (Nat.not_lt_zero _)⟩, ⟨rfl, fun r c hr => absurd hr (Nat.not_lt_zero _)⟩, Nat.zero_le _, fun r hr => absurd hr (Nat.not_lt_zero _)⟩⟩, ⟨[], [], [], [], ⟨⟨rfl, rfl, fun k hk => absurd hk (Nat.not_lt_zero _), fun k hk => absurd hk (Nat.not_lt_zero _)⟩, ⟨rfl, fun k hk => absurd hk (Nat.not_lt_zero _), fun k hk => absurd hk (Nat.not_lt_zero _)⟩, Nat.zero_le _, Nat.zero_le _, fun _ => 101, fun _ => 0, .z rfl⟩, ⟨⟨rfl, fun r c hr => absurd hr (Nat.not_lt_zero _)⟩, ⟨rfl, fun r c hr => absurd hr (Nat.not_lt_zero _)⟩, Nat.zero_le _, fun r hr => absurd hr (Nat.not_lt_zero _)⟩, ⟨⟨rfl, fun r c hr => absurd hr (Nat.not_lt_zero _)⟩, ⟨rfl, fun i hi hn => absurd hn (by rw [show pz_M0 73 3 = 0 from rfl]; omega)⟩, Nat.zero_le _, fun r hr => absurd hr (Nat.not_lt_zero _)⟩, ⟨⟨rfl, fun r c hr => absurd hr (Nat.not_lt_zero _)⟩, ⟨rfl, fun r c hr => absurd hr (Nat.not_lt_zero _)⟩, Nat.zero_le _, fun r hr => absurd hr (Nat.not_lt_zero _)⟩⟩⟩)
  refine lv_iconst hx hb (v := 1) (show decode code 1413 = .ok (.iconst 1, 1) from by decide +kernel) (by decide) ?_
  refine va_forget (fun q hq => by have z := hS.2.2 q hq; rw [hAe] at z; exact z) ?_
  refine W.widen (k := 600000) (n := 7302250) (Nat.le_of_ble_eq_true rfl) (Nat.le_of_ble_eq_true rfl) ?_
  exact lw_ret hx hb hr hlocks (show decode code 1414 = .ok (.ireturn, 1) from by decide +kernel)
