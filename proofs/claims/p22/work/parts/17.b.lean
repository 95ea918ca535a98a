section
theorem pz_kar {s : State} {args : Array Value} {ty : FieldType} (h : (Cond.arrayClass ty).before args s = true) (hno : ∀ C, ty ≠ .object C) : ∃ cA : ClassId, ArrOfT s cA ty ∧ va_RA s cA ty := by
  obtain ⟨cA, kA, comp, h1, h2, h3⟩ := Cond.arrayClass_spec h
  refine ⟨cA, fun n z => ⟨fun k h => (by cases h), kA, h2, comp, h3⟩, ?_⟩
  cases ty with
  | object C => exact absurd rfl (hno C)
  | _ => exact h1
theorem pz_kao {s : State} {args : Array Value} {C : String} (h : (Cond.arrayOver (.object C)).before args s = true) : ∃ cA : ClassId, ArrOfT s cA (.object C) ∧ va_RA s cA (.object C) := by
  obtain ⟨comp, cA, kA, h1, -, h2, h3, h4⟩ := Cond.arrayOver_spec h
  exact ⟨cA, fun n z => ⟨fun k h => (by cases h), kA, h2, comp, h3⟩, kA, comp, h2, h3, h1, h4⟩
theorem pz_D0 {s : State} {args : Array Value} (hts : ∀ w ∈ lw_tbl, w.before args s = true) : ∃ (D : va_G) (cy : Nat → ClassId), pz_B D cy s := by
  obtain ⟨c0, i0, h0⟩ := u_known (C := RX0) (T := TX0) (N := 8) (n := 8) hts pz_in0 (hts (.instantiable RX0 8) (by decide +kernel))
  obtain ⟨c1, i1, h1⟩ := u_known (C := RX1) (T := TX1) (N := 2) (n := 2) hts pz_in1 (hts (.instantiable RX1 2) (by decide +kernel))
  obtain ⟨c2, i2, h2⟩ := u_known (C := RX2) (T := TX2) (N := 3) (n := 3) hts pz_in2 (hts (.instantiable RX2 3) (by decide +kernel))
  obtain ⟨c3, i3, h3⟩ := u_known (C := RX3) (T := TX3) (N := 8) (n := 8) hts pz_in3 (hts (.instantiable RX3 8) (by decide +kernel))
  obtain ⟨c4, i4, h4⟩ := u_known (C := RX4) (T := TX4) (N := 5) (n := 5) hts pz_in4 (hts (.instantiable RX4 5) (by decide +kernel))
  obtain ⟨c5, i5, h5⟩ := u_known (C := RX5) (T := TX5) (N := 8) (n := 8) hts pz_in5 (hts (.instantiable RX5 8) (by decide +kernel))
  obtain ⟨c6, i6, h6⟩ := u_known (C := RX6) (T := TX6) (N := 2) (n := 2) hts pz_in6 (hts (.instantiable RX6 2) (by decide +kernel))
  obtain ⟨c7, i7, h7⟩ := u_known (C := RX7) (T := TX7) (N := 5) (n := 5) hts pz_in7 (hts (.instantiable RX7 5) (by decide +kernel))
  obtain ⟨c8, i8, h8⟩ := u_known (C := RX8) (T := TX8) (N := 8) (n := 8) hts pz_in8 (hts (.instantiable RX8 8) (by decide +kernel))
  obtain ⟨c9, i9, h9⟩ := u_known (C := RX9) (T := TX9) (N := 10) (n := 10) hts pz_in9 (hts (.instantiable RX9 10) (by decide +kernel))
  obtain ⟨c10, i10, h10⟩ := u_known (C := RX10) (T := TX10) (N := 4) (n := 4) hts pz_in10 (hts (.instantiable RX10 4) (by decide +kernel))
  obtain ⟨c11, i11, h11⟩ := u_known (C := RX11) (T := TX11) (N := 14) (n := 14) hts pz_in11 (hts (.instantiable RX11 14) (by decide +kernel))
  obtain ⟨c12, i12, h12⟩ := u_known (C := RX12) (T := TX12) (N := 28) (n := 28) hts pz_in12 (hts (.instantiable RX12 28) (by decide +kernel))
  obtain ⟨a0, q0⟩ := pz_kar (ty := .int) (hts (.arrayClass .int) (by decide +kernel)) (fun C h => by cases h)
  obtain ⟨a1, q1⟩ := pz_kar (ty := .byte) (hts (.arrayClass .byte) (by decide +kernel)) (fun C h => by cases h)
  have o2 := hts (.arrayOver (.object "TwelveChain$Link")) (by decide +kernel)
  have o3 := hts (.arrayOver (.object "TwelveChain$Chain")) (by decide +kernel)
  obtain ⟨a2, q2⟩ := pz_kao o2
  obtain ⟨a3, q3⟩ := pz_kao o3
  refine ⟨(fun k => [c0, c1, c2, c3, c4, c5, c6, c7, c8, c9, c10, c11, c12].getD k 0, fun k => [i0, i1, i2, i3, i4, i5, i6, i7, i8, i9, i10, i11, i12].getD k (fun _ => 0)), fun k => [a0, a1, a2, a3].getD k 0, ⟨fun k q hq => ?_, fun k q hq => ?_⟩, fun q hq => ?_, va_AO.of o2, va_AO.of o3⟩
  · match k, hq with
    | 0, hq => cases hq; exact h0
    | 1, hq => cases hq; exact h1
    | 2, hq => cases hq; exact h2
    | 3, hq => cases hq; exact h3
    | 4, hq => cases hq; exact h4
    | 5, hq => cases hq; exact h5
    | 6, hq => cases hq; exact h6
    | 7, hq => cases hq; exact h7
    | 8, hq => cases hq; exact h8
    | 9, hq => cases hq; exact h9
    | 10, hq => cases hq; exact h10
    | 11, hq => cases hq; exact h11
    | 12, hq => cases hq; exact h12
    | k + 13, hq => simp [vwCl] at hq
  · match k, hq with
    | 0, hq => cases hq; exact q0
    | 1, hq => cases hq; exact q1
    | 2, hq => cases hq; exact q2
    | 3, hq => cases hq; exact q3
    | k + 4, hq => simp [pz_ty] at hq
  · have key : ∀ q ∈ pz_nws, Cond.methodLinkNest q.1 q.2.1 q.2.2 "TwelveChain" ∈ lw_tbl := by decide +kernel
    exact va_Nw.of rfl (hts _ (key q hq))
theorem pz_dts : decode code 33 = .ok (.tableswitch 1374 0 38 #[171, 194, 247, 290, 323, 346, 389, 412, 435, 458, 521, 544, 567, 590, 623, 656, 689, 722, 745, 778, 811, 854, 887, 930, 983, 1026, 1049, 1082, 1115, 1128, 1141, 1164, 1187, 1220, 1253, 1276, 1299, 1312, 1351], 171) := by decide +kernel
section PZM
variable {p : Program} {l : Launch} {e : Env} {s : State} {m : MethodId} {below : List Frame} {meth : Method} {c : Code} {cells slots : Nat} {Q : State → Prop}
variable {D : va_G} {ad adV : Nat → Nat} {cy : Nat → ClassId} {A : Nat → Prop} {b L : Nat} {xs : Nat → Int32}
theorem pz_and63 (x : Int32) : 0 ≤ (x &&& 63).toInt ∧ (x &&& 63).toInt ≤ 63 := by
  have h : (x &&& 63).toBitVec.toNat ≤ 63 := by
    show (x.toBitVec &&& (63 : Int32).toBitVec).toNat ≤ 63
    rw [BitVec.toNat_and]
    exact Nat.and_le_right
  have e : (x &&& 63).toInt = ((x &&& 63).toBitVec.toNat : Int) := by
    show (x &&& 63).toBitVec.toInt = _
    rw [BitVec.toInt_eq_toNat_cond]
    rw [if_pos (by first | decide | omega)]
  rw [e]
  omega
theorem pz_loop (Y : pz_Y p s m #[Value.ref b] c code R_law 4 D ad adV cy A) (hcs : cells ≤ room_1.cells ∧ slots ≤ room_1.slots) (hX : va_X b L xs s s.heap) (hbl : b < s.heap.size) (hbA : ¬ A b) (hL : L ≤ 3072)
    (KE : ∀ (H : Heap) (locs : List Loc) (ls : Array Slot), va_S A s.heap H locs → W p l e room_1 s m #[Value.ref b] below meth c H locs cells slots Q (F0 m 1413 ls [])) :
    ∀ (n i : Nat) (H : Heap) (locs : List Loc) (ls : Array Slot) (M : pz_M), L + 6 - i < n → i ≤ L → lv_has ls 4 [(0, .ref b), (1, .ref (ad 0)), (2, .ref (ad 1)), (3, .int (Int32.ofNat i))] → va_P D vwCl (pz_ws ad cy M) H → va_S A s.heap H locs → (∀ a k : Nat, pz_c (M a k)) → pz_ic M → pz_im M → pz_R M → W p l e room_1 s m #[Value.ref b] below meth c H locs cells slots Q (F0 m 18 ls []) := by
  obtain ⟨hx, hb, hml, hown, hts, hXX⟩ := id Y
  intro n
  induction n with
  | zero => exact fun i H locs ls M h => absurd h (Nat.not_lt_zero _)
  | succ n ih =>
    intro i H locs ls M hn hiL hl hP hS hM hI hJ hR
    refine lv_iload_n hx hb (k := 3) (show decode code 18 = .ok (.iload_n 3, 1) from pz_dlL0 (18, .iload_n 3, 1, 19, []) (List.mem_of_getElem? (i := 10) rfl)) rfl (lv_at hl 3 rfl) ?_
    refine lv_aload_n hx hb (k := 0) (show decode code 19 = .ok (.aload_n 0, 1) from pz_dlL0 (19, .aload_n 0, 1, 20, []) (List.mem_of_getElem? (i := 11) rfl)) rfl (lv_at hl 0 rfl) ?_
    refine va_slen hx hb hX hbl hbA hS (show decode code 20 = .ok (.arraylength, 1) from pz_dlL0 (20, .arraylength, 1, 21, []) (List.mem_of_getElem? (i := 12) rfl)) ?_
    refine lv_bipush hx hb (v := 6) (show decode code 21 = .ok (.bipush 6, 2) from pz_dlL0 (21, .bipush 6, 2, 23, []) (List.mem_of_getElem? (i := 13) rfl)) (by decide) ?_
    refine lv_isub hx hb (show decode code 23 = .ok (.isub, 1) from pz_dlL0 (23, .isub, 1, 24, []) (List.mem_of_getElem? (i := 14) rfl)) ?_
    have eL : Int32.ofNat L - 6 = Int32.ofInt ((L : Int) - 6) := by
      rw [Int32.ofInt_sub, ← Int32.ofInt_eq_ofNat]
      rfl
    have ei : Int32.ofNat i = Int32.ofInt (i : Int) := by rw [← Int32.ofInt_eq_ofNat]
    have cL : pz_c ((L : Int) - 6) := by unfold pz_c; omega
    have ci : pz_c (i : Int) := by unfold pz_c; omega
    refine lv_icmp_gt (tgt := 1413) hx hb (show decode code 24 = .ok (.if_icmp .gt 1389, 3) from pz_dlL0 (24, .if_icmp .gt 1389, 3, 27, [1413]) (List.mem_of_getElem? (i := 15) rfl)) (by decide) (fun _ => KE H locs ls hS) (fun hle => ?_)
    rw [eL, ei, pz_lt cL ci] at hle
    have hi : i + 6 ≤ L := by omega
    refine lv_aload_n hx hb (k := 0) (show decode code 27 = .ok (.aload_n 0, 1) from pz_dlL1 (27, .aload_n 0, 1, 28, []) (List.mem_of_getElem? (i := 0) rfl)) rfl (lv_at hl 0 rfl) ?_
    refine lv_iload_n hx hb (k := 3) (show decode code 28 = .ok (.iload_n 3, 1) from pz_dlL1 (28, .iload_n 3, 1, 29, []) (List.mem_of_getElem? (i := 1) rfl)) rfl (lv_at hl 3 rfl) ?_
    have g1 : (Int32.ofNat i).toNatClampNeg = i := by
      rw [ei, pz_clamp ci]
      omega
    have g2 : ¬ Int32.ofNat i < 0 := fun q => by
      rw [ei] at q
      have := (pz_lt ci (show pz_c 0 by unfold pz_c; omega)).mp q
      omega
    refine va_sld hx hb hX hbl hbA hS (fun q => by rcases q with q | q; exact g2 q; rw [g1] at q; omega) (show decode code 29 = .ok (.iaload, 1) from pz_dlL1 (29, .iaload, 1, 30, []) (List.mem_of_getElem? (i := 2) rfl)) ?_
    refine lv_bipush hx hb (v := 63) (show decode code 30 = .ok (.bipush 63, 2) from pz_dlL1 (30, .bipush 63, 2, 32, []) (List.mem_of_getElem? (i := 3) rfl)) (by decide) ?_
    refine lv_iand hx hb (show decode code 32 = .ok (.iand, 1) from pz_dlL1 (32, .iand, 1, 33, []) (List.mem_of_getElem? (i := 4) rfl)) ?_
    have K : ∀ (M9 : pz_M) (H9 : Heap) (locs9 : List Loc), pz_ic M9 → pz_im M9 → pz_R M9 → va_P D vwCl (pz_ws ad cy M9) H9 → va_S A s.heap H9 locs9 → (∀ a k : Nat, pz_c (M9 a k)) → W p l e room_1 s m #[Value.ref b] below meth c H9 locs9 cells slots Q (F0 m 1407 ls []) := by
      intro M9 H9 locs9 hI9 hJ9 hR9 hP9 hS9 hM9
      refine lv_iinc hx hb (k := 3) (v := Int32.ofNat (i + 6)) (show decode code 1407 = .ok (.iinc 3 6, 3) from pz_dlL61 (1407, .iinc 3 6, 3, 1410, []) (List.mem_of_getElem? (i := 7) rfl)) hl rfl (by rw [Int32.ofNat_add]; rfl) (by decide) rfl (fun ls9 hl9 => ?_)
      refine lv_goto (tgt := 18) hx hb (show decode code 1410 = .ok (.goto (-1392), 3) from pz_dlL61 (1410, .goto (-1392), 3, 1413, [18]) (List.mem_of_getElem? (i := 8) rfl)) (by decide) ?_
      exact ih (i + 6) H9 locs9 ls9 M9 (by first | decide | omega) (by first | decide | omega) (lv_sub hl9 [1, 2, 3, 0] rfl) hP9 hS9 hM9 hI9 hJ9 hR9
    generalize hz : xs (Int32.ofNat i).toNatClampNeg &&& 63 = z
    have z0 := pz_and63 (xs (Int32.ofNat i).toNatClampNeg)
    rw [hz] at z0
    by_cases hz9 : 38 < z.toInt
    · exact lv_tableOut (tgt := 1407) hx hb pz_dts (Or.inr hz9) (by decide) (K M H locs hI hJ hR hP hS hM)
    · have hz8 : z.toInt = 0 ∨ z.toInt = 1 ∨ z.toInt = 2 ∨ z.toInt = 3 ∨ z.toInt = 4 ∨ z.toInt = 5 ∨ z.toInt = 6 ∨ z.toInt = 7 ∨ z.toInt = 8 ∨ z.toInt = 9 ∨ z.toInt = 10 ∨ z.toInt = 11 ∨ z.toInt = 12 ∨ z.toInt = 13 ∨ z.toInt = 14 ∨ z.toInt = 15 ∨ z.toInt = 16 ∨ z.toInt = 17 ∨ z.toInt = 18 ∨ z.toInt = 19 ∨ z.toInt = 20 ∨ z.toInt = 21 ∨ z.toInt = 22 ∨ z.toInt = 23 ∨ z.toInt = 24 ∨ z.toInt = 25 ∨ z.toInt = 26 ∨ z.toInt = 27 ∨ z.toInt = 28 ∨ z.toInt = 29 ∨ z.toInt = 30 ∨ z.toInt = 31 ∨ z.toInt = 32 ∨ z.toInt = 33 ∨ z.toInt = 34 ∨ z.toInt = 35 ∨ z.toInt = 36 ∨ z.toInt = 37 ∨ z.toInt = 38 := by omega
      rcases hz8 with hz8 | hz8 | hz8 | hz8 | hz8 | hz8 | hz8 | hz8 | hz8 | hz8 | hz8 | hz8 | hz8 | hz8 | hz8 | hz8 | hz8 | hz8 | hz8 | hz8 | hz8 | hz8 | hz8 | hz8 | hz8 | hz8 | hz8 | hz8 | hz8 | hz8 | hz8 | hz8 | hz8 | hz8 | hz8 | hz8 | hz8 | hz8 | hz8
      · exact lv_tableIn (off := 171) (tgt := 204) hx hb pz_dts (by rw [hz8]; decide) (by rw [hz8]; decide) (by rw [hz8]; rfl) (by decide) (pz_case0 Y hcs hX hbl hbA hL hi hl hP hS hM hI hJ hR K)
      · exact lv_tableIn (off := 194) (tgt := 227) hx hb pz_dts (by rw [hz8]; decide) (by rw [hz8]; decide) (by rw [hz8]; rfl) (by decide) (pz_case1 Y hcs hX hbl hbA hL hi hl hP hS hM hI hJ hR K)
      · exact lv_tableIn (off := 247) (tgt := 280) hx hb pz_dts (by rw [hz8]; decide) (by rw [hz8]; decide) (by rw [hz8]; rfl) (by decide) (pz_case2 Y hcs hX hbl hbA hL hi hl hP hS hM hI hJ hR K)
      · exact lv_tableIn (off := 290) (tgt := 323) hx hb pz_dts (by rw [hz8]; decide) (by rw [hz8]; decide) (by rw [hz8]; rfl) (by decide) (pz_case3 Y hcs hX hbl hbA hL hi hl hP hS hM hI hJ hR K)
      · exact lv_tableIn (off := 323) (tgt := 356) hx hb pz_dts (by rw [hz8]; decide) (by rw [hz8]; decide) (by rw [hz8]; rfl) (by decide) (pz_case4 Y hcs hX hbl hbA hL hi hl hP hS hM hI hJ hR K)
      · exact lv_tableIn (off := 346) (tgt := 379) hx hb pz_dts (by rw [hz8]; decide) (by rw [hz8]; decide) (by rw [hz8]; rfl) (by decide) (pz_case5 Y hcs hX hbl hbA hL hi hl hP hS hM hI hJ hR K)
      · exact lv_tableIn (off := 389) (tgt := 422) hx hb pz_dts (by rw [hz8]; decide) (by rw [hz8]; decide) (by rw [hz8]; rfl) (by decide) (pz_case6 Y hcs hX hbl hbA hL hi hl hP hS hM hI hJ hR K)
      · exact lv_tableIn (off := 412) (tgt := 445) hx hb pz_dts (by rw [hz8]; decide) (by rw [hz8]; decide) (by rw [hz8]; rfl) (by decide) (pz_case7 Y hcs hX hbl hbA hL hi hl hP hS hM hI hJ hR K)
      · exact lv_tableIn (off := 435) (tgt := 468) hx hb pz_dts (by rw [hz8]; decide) (by rw [hz8]; decide) (by rw [hz8]; rfl) (by decide) (pz_case8 Y hcs hX hbl hbA hL hi hl hP hS hM hI hJ hR K)
      · exact lv_tableIn (off := 458) (tgt := 491) hx hb pz_dts (by rw [hz8]; decide) (by rw [hz8]; decide) (by rw [hz8]; rfl) (by decide) (pz_case9 Y hcs hX hbl hbA hL hi hl hP hS hM hI hJ hR K)
      · exact lv_tableIn (off := 521) (tgt := 554) hx hb pz_dts (by rw [hz8]; decide) (by rw [hz8]; decide) (by rw [hz8]; rfl) (by decide) (pz_case10 Y hcs hX hbl hbA hL hi hl hP hS hM hI hJ hR K)
      · exact lv_tableIn (off := 544) (tgt := 577) hx hb pz_dts (by rw [hz8]; decide) (by rw [hz8]; decide) (by rw [hz8]; rfl) (by decide) (pz_case11 Y hcs hX hbl hbA hL hi hl hP hS hM hI hJ hR K)
      · exact lv_tableIn (off := 567) (tgt := 600) hx hb pz_dts (by rw [hz8]; decide) (by rw [hz8]; decide) (by rw [hz8]; rfl) (by decide) (pz_case12 Y hcs hX hbl hbA hL hi hl hP hS hM hI hJ hR K)
      · exact lv_tableIn (off := 590) (tgt := 623) hx hb pz_dts (by rw [hz8]; decide) (by rw [hz8]; decide) (by rw [hz8]; rfl) (by decide) (pz_case13 Y hcs hX hbl hbA hL hi hl hP hS hM hI hJ hR K)
      · exact lv_tableIn (off := 623) (tgt := 656) hx hb pz_dts (by rw [hz8]; decide) (by rw [hz8]; decide) (by rw [hz8]; rfl) (by decide) (pz_case14 Y hcs hX hbl hbA hL hi hl hP hS hM hI hJ hR K)
      · exact lv_tableIn (off := 656) (tgt := 689) hx hb pz_dts (by rw [hz8]; decide) (by rw [hz8]; decide) (by rw [hz8]; rfl) (by decide) (pz_case15 Y hcs hX hbl hbA hL hi hl hP hS hM hI hJ hR K)
      · exact lv_tableIn (off := 689) (tgt := 722) hx hb pz_dts (by rw [hz8]; decide) (by rw [hz8]; decide) (by rw [hz8]; rfl) (by decide) (pz_case16 Y hcs hX hbl hbA hL hi hl hP hS hM hI hJ hR K)
      · exact lv_tableIn (off := 722) (tgt := 755) hx hb pz_dts (by rw [hz8]; decide) (by rw [hz8]; decide) (by rw [hz8]; rfl) (by decide) (pz_case17 Y hcs hX hbl hbA hL hi hl hP hS hM hI hJ hR K)
      · exact lv_tableIn (off := 745) (tgt := 778) hx hb pz_dts (by rw [hz8]; decide) (by rw [hz8]; decide) (by rw [hz8]; rfl) (by decide) (pz_case18 Y hcs hX hbl hbA hL hi hl hP hS hM hI hJ hR K)
      · exact lv_tableIn (off := 778) (tgt := 811) hx hb pz_dts (by rw [hz8]; decide) (by rw [hz8]; decide) (by rw [hz8]; rfl) (by decide) (pz_case19 Y hcs hX hbl hbA hL hi hl hP hS hM hI hJ hR K)
      · exact lv_tableIn (off := 811) (tgt := 844) hx hb pz_dts (by rw [hz8]; decide) (by rw [hz8]; decide) (by rw [hz8]; rfl) (by decide) (pz_case20 Y hcs hX hbl hbA hL hi hl hP hS hM hI hJ hR K)
      · exact lv_tableIn (off := 854) (tgt := 887) hx hb pz_dts (by rw [hz8]; decide) (by rw [hz8]; decide) (by rw [hz8]; rfl) (by decide) (pz_case21 Y hcs hX hbl hbA hL hi hl hP hS hM hI hJ hR K)
      · exact lv_tableIn (off := 887) (tgt := 920) hx hb pz_dts (by rw [hz8]; decide) (by rw [hz8]; decide) (by rw [hz8]; rfl) (by decide) (pz_case22 Y hcs hX hbl hbA hL hi hl hP hS hM hI hJ hR K)
      · exact lv_tableIn (off := 930) (tgt := 963) hx hb pz_dts (by rw [hz8]; decide) (by rw [hz8]; decide) (by rw [hz8]; rfl) (by decide) (pz_case23 Y hcs hX hbl hbA hL hi hl hP hS hM hI hJ hR K)
      · exact lv_tableIn (off := 983) (tgt := 1016) hx hb pz_dts (by rw [hz8]; decide) (by rw [hz8]; decide) (by rw [hz8]; rfl) (by decide) (pz_case24 Y hcs hX hbl hbA hL hi hl hP hS hM hI hJ hR K)
      · exact lv_tableIn (off := 1026) (tgt := 1059) hx hb pz_dts (by rw [hz8]; decide) (by rw [hz8]; decide) (by rw [hz8]; rfl) (by decide) (pz_case25 Y hcs hX hbl hbA hL hi hl hP hS hM hI hJ hR K)
      · exact lv_tableIn (off := 1049) (tgt := 1082) hx hb pz_dts (by rw [hz8]; decide) (by rw [hz8]; decide) (by rw [hz8]; rfl) (by decide) (pz_case26 Y hcs hX hbl hbA hL hi hl hP hS hM hI hJ hR K)
      · exact lv_tableIn (off := 1082) (tgt := 1115) hx hb pz_dts (by rw [hz8]; decide) (by rw [hz8]; decide) (by rw [hz8]; rfl) (by decide) (pz_case27 Y hcs hX hbl hbA hL hi hl hP hS hM hI hJ hR K)
      · exact lv_tableIn (off := 1115) (tgt := 1148) hx hb pz_dts (by rw [hz8]; decide) (by rw [hz8]; decide) (by rw [hz8]; rfl) (by decide) (pz_case28 Y hcs hX hbl hbA hL hi hl hP hS hM hI hJ hR K)
      · exact lv_tableIn (off := 1128) (tgt := 1161) hx hb pz_dts (by rw [hz8]; decide) (by rw [hz8]; decide) (by rw [hz8]; rfl) (by decide) (pz_case29 Y hcs hX hbl hbA hL hi hl hP hS hM hI hJ hR K)
      · exact lv_tableIn (off := 1141) (tgt := 1174) hx hb pz_dts (by rw [hz8]; decide) (by rw [hz8]; decide) (by rw [hz8]; rfl) (by decide) (pz_case30 Y hcs hX hbl hbA hL hi hl hP hS hM hI hJ hR K)
      · exact lv_tableIn (off := 1164) (tgt := 1197) hx hb pz_dts (by rw [hz8]; decide) (by rw [hz8]; decide) (by rw [hz8]; rfl) (by decide) (pz_case31 Y hcs hX hbl hbA hL hi hl hP hS hM hI hJ hR K)
      · exact lv_tableIn (off := 1187) (tgt := 1220) hx hb pz_dts (by rw [hz8]; decide) (by rw [hz8]; decide) (by rw [hz8]; rfl) (by decide) (pz_case32 Y hcs hX hbl hbA hL hi hl hP hS hM hI hJ hR K)
      · exact lv_tableIn (off := 1220) (tgt := 1253) hx hb pz_dts (by rw [hz8]; decide) (by rw [hz8]; decide) (by rw [hz8]; rfl) (by decide) (pz_case33 Y hcs hX hbl hbA hL hi hl hP hS hM hI hJ hR K)
      · exact lv_tableIn (off := 1253) (tgt := 1286) hx hb pz_dts (by rw [hz8]; decide) (by rw [hz8]; decide) (by rw [hz8]; rfl) (by decide) (pz_case34 Y hcs hX hbl hbA hL hi hl hP hS hM hI hJ hR K)
      · exact lv_tableIn (off := 1276) (tgt := 1309) hx hb pz_dts (by rw [hz8]; decide) (by rw [hz8]; decide) (by rw [hz8]; rfl) (by decide) (pz_case35 Y hcs hX hbl hbA hL hi hl hP hS hM hI hJ hR K)
      · exact lv_tableIn (off := 1299) (tgt := 1332) hx hb pz_dts (by rw [hz8]; decide) (by rw [hz8]; decide) (by rw [hz8]; rfl) (by decide) (pz_case36 Y hcs hX hbl hbA hL hi hl hP hS hM hI hJ hR K)
      · exact lv_tableIn (off := 1312) (tgt := 1345) hx hb pz_dts (by rw [hz8]; decide) (by rw [hz8]; decide) (by rw [hz8]; rfl) (by decide) (pz_case37 Y hcs hX hbl hbA hL hi hl hP hS hM hI hJ hR K)
      · exact lv_tableIn (off := 1351) (tgt := 1384) hx hb pz_dts (by rw [hz8]; decide) (by rw [hz8]; decide) (by rw [hz8]; rfl) (by decide) (pz_case38 Y hcs hX hbl hbA hL hi hl hP hS hM hI hJ hR K)
end PZM
end
section
set_option maxRecDepth 100000 in
set_option maxHeartbeats 4000000 in
theorem whole_start {p : Program} {e : Env} {s : State} {m : MethodId} {below : List Frame} {meth : Method} {c : Code} (l : Launch) {b L : Nat} {xs : Nat → Int32} (hL : L ≤ 3072) (C0 : lw_At p s m meth c b L xs) : W p l e room_1 s m #[Value.ref b] below meth c s.heap [] 0 0 (lw_Z below #[Value.ref b] s) (entryFrame m ([Value.ref b] : List Value).toArray 4) := by
  obtain ⟨hx, hb, hr, hml, hown, hts, hX, hbl, hlocks, hgv⟩ := id C0
  have hts9 : ∀ w ∈ pz_tbl, w.before #[Value.ref b] s = true := fun w hw => hts w (List.mem_filter.mp hw).1
  obtain ⟨A, hAe⟩ : ∃ A : Nat → Prop, A = fun q : Nat => s.heap.size ≤ q := ⟨_, rfl⟩
  have hA : ∀ q : Nat, s.heap.size ≤ q → A q := fun q h => by rw [hAe]; exact h
  have hA2 : ∀ q : Nat, q < s.heap.size → ¬ A q := fun q h z => by rw [hAe] at z; exact absurd z (Nat.not_le.mpr h)
  have hbA : ¬ A b := hA2 b hbl
  obtain ⟨D, cy, hB⟩ := pz_D0 hts
  obtain ⟨adK, adV, hSt⟩ := pz_start (A := A) hts hgv hA2
  have Y1 : pz_Ym p s m #[Value.ref b] c code R_law 4 D cy := ⟨hx, hb, hml, hown, hts9, hB⟩
  have hS : va_S A s.heap s.heap [] := va_S.rf
  have hP : va_P D vwCl [] s.heap := fun k q h => by simp at h
  have hD : va_D A [] := ⟨fun i j p q h => by simp at h, fun k q h => by simp at h⟩
  have hl := lv_entry ([.ref b]) (n := 4) (Nat.le_of_ble_eq_true rfl)
  rw [lg_entry_eq]
  generalize (lg_sl ([.ref b]) ++ List.replicate (4 - (lg_sl ([.ref b])).length) Slot.unset).toArray = ls at hl ⊢
  have hl : lv_has ls 4 [(0, .ref b)] := hl
  refine va_new (ci := 11) (fs := [.null, .null, .null, .null, .null, .null, .null, .null, .null, .null, .null, .null, .null, .int 0]) (C := RX11) (T := TX11) (N := 14) hx hb hts9 (fun w hw => pz_tbl_in (pz_in11 w hw) (pz_layg w hw)) tyX11 tyX11_ok hown (hts (.classLink R_law 7 RX11) (by decide +kernel)) (hts (.instantiable RX11 14) (by decide +kernel)) (hts (.initialized RX11) (by decide +kernel)) hB.1 hP hD hS hA rfl (fun j hj => match j, hj with | 0, _ => rfl | 1, _ => rfl | 2, _ => rfl | 3, _ => rfl | 4, _ => rfl | 5, _ => rfl | 6, _ => rfl | 7, _ => rfl | 8, _ => rfl | 9, _ => rfl | 10, _ => rfl | 11, _ => rfl | 12, _ => rfl | 13, _ => rfl | n + 14, h => absurd h (by first | decide | omega)) (Nat.le_of_ble_eq_true rfl) (Nat.le_of_ble_eq_true rfl) (show decode code 0 = .ok (.new 7, 3) from pz_dlL0 (0, .new 7, 3, 3, []) (List.mem_of_getElem? (i := 0) rfl)) (fun h0 H hP hD hS => ?_)
  refine W.widen (k := 1) (n := 14) (Nat.le_of_ble_eq_true rfl) (Nat.le_of_ble_eq_true rfl) ?_
  refine lv_dup hx hb (show decode code 3 = .ok (.dup, 1) from pz_dlL0 (3, .dup, 1, 4, []) (List.mem_of_getElem? (i := 1) rfl)) rfl ?_
  refine pz_NcI (i := 9) (n := 0) Y1 hA (h_N_X11 (X := []) (h0 := h0)) ⟨(Nat.le_of_ble_eq_true rfl), (Nat.le_of_ble_eq_true rfl)⟩ (Nat.le_of_ble_eq_true rfl) (Nat.le_of_ble_eq_true rfl) rfl rfl ⟨(by decide +kernel), (by decide +kernel), (by decide +kernel)⟩ ⟨(by decide +kernel), (by decide +kernel), (by decide +kernel)⟩ (Or.inl (by decide +kernel)) rfl (show decode code 4 = .ok (.invokespecial 9, 3) from pz_dlL0 (4, .invokespecial 9, 3, 7, []) (List.mem_of_getElem? (i := 2) rfl)) hP hD hS hl.1 (Nat.le_of_ble_eq_true rfl) (fun H locs ws9 hq hP hD hS => ?_)
  obtain ⟨c1, g1, c2, g2, tx, gtx, pg, dd, gd, kp, gkp, tp, gtp, tl, gtl, lk, glk, ph, gph, c3, g3, tx2, gtx2, pg2, rfl⟩ := hq
  rw [List.nil_append] at hP hD
  refine W.widen (k := 194) (n := 10474) (Nat.le_of_ble_eq_true rfl) (Nat.le_of_ble_eq_true rfl) ?_
  refine lv_astore_n hx hb (k := 1) (show decode code 7 = .ok (.astore_n 1, 1) from pz_dlL0 (7, .astore_n 1, 1, 8, []) (List.mem_of_getElem? (i := 3) rfl)) rfl hl (by decide) rfl (fun ls hl => ?_)
  have hl : lv_has ls 4 [(1, .ref h0), (0, .ref b)] := hl
  refine va_new (ci := 12) (fs := [.null, .null, .null, .null, .int 0, .int 0, .null, .null, .null, .null, .null, .null, .int 0, .int 0, .int 0, .int 0, .int 0, .int 0, .int 0, .int 0, .int 0, .int 0, .int 0, .int 0, .int 0, .int 0, .int 0, .null]) (C := RX12) (T := TX12) (N := 28) hx hb hts9 (fun w hw => pz_tbl_in (pz_in12 w hw) (pz_layg w hw)) tyX12 tyX12_ok hown (hts (.classLink R_law 10 RX12) (by decide +kernel)) (hts (.instantiable RX12 28) (by decide +kernel)) (hts (.initialized RX12) (by decide +kernel)) hB.1 hP hD hS hA rfl (fun j hj => match j, hj with | 0, _ => rfl | 1, _ => rfl | 2, _ => rfl | 3, _ => rfl | 4, _ => rfl | 5, _ => rfl | 6, _ => rfl | 7, _ => rfl | 8, _ => rfl | 9, _ => rfl | 10, _ => rfl | 11, _ => rfl | 12, _ => rfl | 13, _ => rfl | 14, _ => rfl | 15, _ => rfl | 16, _ => rfl | 17, _ => rfl | 18, _ => rfl | 19, _ => rfl | 20, _ => rfl | 21, _ => rfl | 22, _ => rfl | 23, _ => rfl | 24, _ => rfl | 25, _ => rfl | 26, _ => rfl | 27, _ => rfl | n + 28, h => absurd h (by first | decide | omega)) (Nat.le_of_ble_eq_true rfl) (Nat.le_of_ble_eq_true rfl) (show decode code 8 = .ok (.new 10, 3) from pz_dlL0 (8, .new 10, 3, 11, []) (List.mem_of_getElem? (i := 4) rfl)) (fun h1 H hP hD hS => ?_)
  refine W.widen (k := 195) (n := 10502) (Nat.le_of_ble_eq_true rfl) (Nat.le_of_ble_eq_true rfl) ?_
  refine lv_dup hx hb (show decode code 11 = .ok (.dup, 1) from pz_dlL0 (11, .dup, 1, 12, []) (List.mem_of_getElem? (i := 5) rfl)) rfl ?_
  refine pz_NcI (i := 12) (n := 0) Y1 hA (h_N_X12 (X := (pz_b11 cy h0 c1 g1 c2 g2 tx gtx pg dd gd kp gkp tp gtp tl gtl lk glk ph gph c3 g3 tx2 gtx2 pg2)) (h0 := h1)) ⟨(Nat.le_of_ble_eq_true rfl), (Nat.le_of_ble_eq_true rfl)⟩ (Nat.le_of_ble_eq_true rfl) (Nat.le_of_ble_eq_true rfl) rfl rfl ⟨(by decide +kernel), (by decide +kernel), (by decide +kernel)⟩ ⟨(by decide +kernel), (by decide +kernel), (by decide +kernel)⟩ (Or.inl (by decide +kernel)) rfl (show decode code 12 = .ok (.invokespecial 12, 3) from pz_dlL0 (12, .invokespecial 12, 3, 15, []) (List.mem_of_getElem? (i := 6) rfl)) hP hD hS hl.1 (Nat.le_of_ble_eq_true rfl) (fun H locs ws9 hq hP hD hS => ?_)
  obtain ⟨gm, rfl⟩ := hq
  refine W.widen (k := 206) (n := 20458) (Nat.le_of_ble_eq_true rfl) (Nat.le_of_ble_eq_true rfl) ?_
  refine lv_astore_n hx hb (k := 2) (show decode code 15 = .ok (.astore_n 2, 1) from pz_dlL0 (15, .astore_n 2, 1, 16, []) (List.mem_of_getElem? (i := 7) rfl)) rfl hl (by decide) rfl (fun ls hl => ?_)
  have hl : lv_has ls 4 [(2, .ref h1), (1, .ref h0), (0, .ref b)] := hl
  refine lv_iconst hx hb (v := 0) (show decode code 16 = .ok (.iconst 0, 1) from pz_dlL0 (16, .iconst 0, 1, 17, []) (List.mem_of_getElem? (i := 8) rfl)) (by decide) ?_
  refine lv_istore_n hx hb (k := 3) (show decode code 17 = .ok (.istore_n 3, 1) from pz_dlL0 (17, .istore_n 3, 1, 18, []) (List.mem_of_getElem? (i := 9) rfl)) rfl hl (by decide) rfl (fun ls hl => ?_)
  have hl : lv_has ls 4 [(3, .int 0), (2, .ref h1), (1, .ref h0), (0, .ref b)] := hl
  have hP0 := pz_asmP (adS := adK) hP
  obtain ⟨j1, j2⟩ := pz_asmD (adS := adK) hD
  have a0 : (pz_ad (pz_adl h0 c1 g1 c2 g2 tx gtx pg dd gd kp gkp tp gtp tl gtl lk glk ph gph c3 g3 tx2 gtx2 pg2 h1 gm) adK) 0 = h0 := rfl
  have a1 : (pz_ad (pz_adl h0 c1 g1 c2 g2 tx gtx pg dd gd kp gkp tp gtp tl gtl lk glk ph gph c3 g3 tx2 gtx2 pg2 h1 gm) adK) 1 = h1 := rfl
  have hSt2 := hSt (pz_ad (pz_adl h0 c1 g1 c2 g2 tx gtx pg dd gd kp gkp tp gtp tl gtl lk glk ph gph c3 g3 tx2 gtx2 pg2 h1 gm) adK) (fun i hi => by
    unfold pz_ad
    rw [if_neg (by first | decide | omega), show 206 + i - 206 = i by omega])
  generalize (pz_ad (pz_adl h0 c1 g1 c2 g2 tx gtx pg dd gd kp gkp tp gtp tl gtl lk glk ph gph c3 g3 tx2 gtx2 pg2 h1 gm) adK) = ad at hP0 j1 j2 a0 a1 hSt2
  have hl : lv_has ls 4 [(0, .ref b), (1, .ref (ad 0)), (2, .ref (ad 1)), (3, .int (Int32.ofNat 0))] := by
    rw [a0, a1]
    exact lv_sub hl [3, 2, 1, 0] rfl
  have Y : pz_Y p s m #[Value.ref b] c code R_law 4 D ad adV cy A := ⟨hx, hb, hml, hown, hts9, ⟨hB.1, j1, j2, hSt2⟩⟩
  refine pz_loop Y ⟨(Nat.le_of_ble_eq_true rfl), (Nat.le_of_ble_eq_true rfl)⟩ hX hbl hbA hL (fun H locs ls hS => ?_) (L + 7) 0 H locs ls pz_M0 (by first | decide | omega) (by first | decide | omega) hl hP0 hS pz_M0_c pz_M0_ic pz_M0_im (show pz_R pz_M0 from ⟨⟨⟨⟨rfl, by decide +kernel, rfl, by decide +kernel, Or.inl ⟨rfl, rfl⟩, ⟨by decide +kernel, fun t ht => absurd ht (by rw [show pz_M0 3 2 = 0 from rfl]; omega)⟩⟩, ⟨rfl, fun t ht => absurd ht (by rw [show pz_M0 4 1 = 0 from rfl]; omega)⟩, rfl, rfl⟩, ⟨[], [], [], [], ⟨⟨rfl, rfl, fun k hk => absurd hk (Nat.not_lt_zero _), fun k hk => absurd hk (Nat.not_lt_zero _)⟩, ⟨rfl, fun k hk => absurd hk (Nat.not_lt_zero _), fun k hk => absurd hk (Nat.not_lt_zero _)⟩, Nat.zero_le _, Nat.zero_le _, fun _ => 101, fun _ => 0, .z rfl⟩, ⟨⟨rfl, fun r c hr => absurd hr (Nat.not_lt_zero _)⟩, ⟨rfl, fun r c hr => absurd hr (Nat.not_lt_zero _)⟩, Nat.zero_le _, fun r hr => absurd hr (Nat.not_lt_zero _)⟩, ⟨⟨rfl, fun r c hr => absurd hr (Nat.not_lt_zero _)⟩, ⟨rfl, fun i hi hn => absurd hn (by rw [show pz_M0 71 3 = 0 from rfl]; omega)⟩, Nat.zero_le _, fun r hr => absurd hr (Nat.not_lt_zero _)⟩, ⟨⟨rfl, fun r c hr => absurd hr (Nat.not_lt_zero _)⟩, ⟨rfl, fun r c hr => absurd hr (Nat.not_lt_zero _)⟩, Nat.zero_le _, fun r hr => absurd hr (Nat.not_lt_zero _)⟩⟩, ⟨[], [], [], [], ⟨⟨rfl, rfl, fun k hk => absurd hk (Nat.not_lt_zero _), fun k hk => absurd hk (Nat.not_lt_zero _)⟩, ⟨rfl, fun k hk => absurd hk (Nat.not_lt_zero _), fun k hk => absurd hk (Nat.not_lt_zero _)⟩, Nat.zero_le _, Nat.zero_le _, fun _ => 101, fun _ => 0, .z rfl⟩, ⟨⟨rfl, fun r c hr => absurd hr (Nat.not_lt_zero _)⟩, ⟨rfl, fun r c hr => absurd hr (Nat.not_lt_zero _)⟩, Nat.zero_le _, fun r hr => absurd hr (Nat.not_lt_zero _)⟩, ⟨⟨rfl, fun r c hr => absurd hr (Nat.not_lt_zero _)⟩, ⟨rfl, fun i hi hn => absurd hn (by rw [show pz_M0 73 3 = 0 from rfl]; omega)⟩, Nat.zero_le _, fun r hr => absurd hr (Nat.not_lt_zero _)⟩, ⟨⟨rfl, fun r c hr => absurd hr (Nat.not_lt_zero _)⟩, ⟨rfl, fun r c hr => absurd hr (Nat.not_lt_zero _)⟩, Nat.zero_le _, fun r hr => absurd hr (Nat.not_lt_zero _)⟩⟩⟩, ⟨⟨rfl, by decide +kernel⟩, ⟨⟨rfl, rfl, rfl, rfl, rfl, (fun i f hi _ => absurd hi (by rw [show pz_M0 60 88 = 0 from rfl]; omega))⟩, (fun k hk => (pz_M0_z (by first | decide | omega) (by first | decide | omega) (by first | decide | omega) (by first | decide | omega)).trans (pz_M0_z (a := 60) (by first | decide | omega) (by first | decide | omega) (by first | decide | omega) (by first | decide | omega)).symm), ⟨by decide +kernel, by decide +kernel, fun i hi => absurd hi (by rw [show pz_M0 60 88 = 0 from rfl]; omega)⟩⟩, ⟨[], [], ⟨⟨rfl, rfl, fun k hk => absurd hk (Nat.not_lt_zero _), fun k hk => absurd hk (Nat.not_lt_zero _)⟩, ⟨rfl, fun k hk => absurd hk (Nat.not_lt_zero _), fun k hk => absurd hk (Nat.not_lt_zero _)⟩, ⟨Nat.zero_le _, Nat.zero_le _, fun _ => 101, fun _ => 0, .z rfl⟩, fun q hq => absurd hq List.not_mem_nil⟩, ⟨rfl, fun r c hr => absurd hr (Nat.not_lt_zero _)⟩, ⟨rfl, fun r c hr => absurd hr (Nat.not_lt_zero _)⟩, 0, Nat.zero_le _, fun r hr => absurd hr (Nat.not_lt_zero _)⟩, ⟨[], sd_ck_0 rfl, sd_mq_0 rfl⟩, ⟨rfl, rfl, rfl, rfl, rfl, (fun i f hi _ => absurd hi (by rw [show pz_M0 61 88 = 0 from rfl]; omega))⟩, (fun k hk => (pz_M0_z (by first | decide | omega) (by first | decide | omega) (by first | decide | omega) (by first | decide | omega)).trans (pz_M0_z (a := 61) (by first | decide | omega) (by first | decide | omega) (by first | decide | omega) (by first | decide | omega)).symm), ⟨by decide +kernel, by decide +kernel, fun i hi => absurd hi (by rw [show pz_M0 61 88 = 0 from rfl]; omega)⟩, ⟨[], [], ⟨⟨rfl, rfl, fun k hk => absurd hk (Nat.not_lt_zero _), fun k hk => absurd hk (Nat.not_lt_zero _)⟩, ⟨rfl, fun k hk => absurd hk (Nat.not_lt_zero _), fun k hk => absurd hk (Nat.not_lt_zero _)⟩, ⟨Nat.zero_le _, Nat.zero_le _, fun _ => 101, fun _ => 0, .z rfl⟩, fun q hq => absurd hq List.not_mem_nil⟩, ⟨rfl, fun r c hr => absurd hr (Nat.not_lt_zero _)⟩, ⟨rfl, fun r c hr => absurd hr (Nat.not_lt_zero _)⟩, 0, Nat.zero_le _, fun r hr => absurd hr (Nat.not_lt_zero _)⟩⟩⟩)
  refine lv_iconst hx hb (v := 1) (show decode code 1413 = .ok (.iconst 1, 1) from pz_dlL61 (1413, .iconst 1, 1, 1414, []) (List.mem_of_getElem? (i := 9) rfl)) (by decide) ?_
  refine va_forget (fun q hq => by have z := hS.2.2 q hq; rw [hAe] at z; exact z) ?_
  refine W.widen (k := 600000) (n := 7302250) (Nat.le_of_ble_eq_true rfl) (Nat.le_of_ble_eq_true rfl) ?_
  exact lw_ret hx hb hr hlocks (show decode code 1414 = .ok (.ireturn, 1) from pz_dlL61 (1414, .ireturn, 1, 1415, []) (List.mem_of_getElem? (i := 10) rfl))
end
