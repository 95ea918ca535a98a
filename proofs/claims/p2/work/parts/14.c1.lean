def k_X12_ask : pz_C := (3, 1, fun a M => (match a with | [.inr (.inr (12, th)), .inl i, .inl n] => pz_im M | _ => False), fun a M r M' => (match a, r with | [.inr (.inr (12, th)), .inl i, .inl n], some (.inl v) => (True) ∧ pz_sm M M' | _, _ => False))
abbrev ct_X12_ask : List (Bool × Nat × pz_C) := [(true, 327, k_X12_canAsk), (false, 54, k_X12_isIn), (true, 330, k_X12_keeps), (true, 333, k_X12_asks)]
set_option maxRecDepth 100000 in
set_option maxHeartbeats 4000000 in
theorem h_X12_ask : pz_H yX12_ask cX12_ask 3 (some .int) k_X12_ask 6 140 := by
  refine pz_mk (own := RX12) (tb := t_X12_ask) (fl := pz_flf fl_RX12) (ci := pz_cif ci_RX12) (ct := pz_ctf ct_X12_ask) (rz := false) (by decide +kernel) rfl t_X12_ask_ok (pz_flk fl_RX12_ok) (pz_cik ci_RX12_ok) ?_ ?_ (Or.inl ⟨rfl, rfl⟩) ?_ ?_
  · exact fun i k' h => pz_ctk (l := ct_X12_ask) (P := fun b i k => b = true → pz_cV 6 140 RX12 i k) (List.forall_mem_cons.mpr ⟨(fun _ => v_X12_canAsk (by decide) (by decide) (pz_mt 1411 (by decide +kernel))), List.forall_mem_cons.mpr ⟨((fun z => by cases z)), List.forall_mem_cons.mpr ⟨(fun _ => v_X12_keeps (by decide) (by decide) (pz_mt 1427 (by decide +kernel))), List.forall_mem_cons.mpr ⟨(fun _ => v_X12_asks (by decide) (by decide) (pz_mt 1431 (by decide +kernel))), fun _ h => absurd h List.not_mem_nil⟩⟩⟩⟩) true i k' h rfl
  · exact fun i k' h => pz_ctk (l := ct_X12_ask) (P := fun b i k => b = false → (pz_cS 6 140 RX12 i k ∨ (k = pz_kac ∧ 1 ≤ 6 ∧ 60 ≤ 140 ∧ Cond.methodLink RX12 i arraycopyName ∈ pz_tbl))) (List.forall_mem_cons.mpr ⟨((fun z => by cases z)), List.forall_mem_cons.mpr ⟨(fun _ => Or.inl (s_X12_isIn (by decide) (by decide) (Or.inl (pz_mt 1217 (by decide +kernel))))), List.forall_mem_cons.mpr ⟨((fun z => by cases z)), List.forall_mem_cons.mpr ⟨((fun z => by cases z)), fun _ h => absurd h List.not_mem_nil⟩⟩⟩⟩) false i k' h rfl
  · intro a M hlen hpre
    obtain ⟨th, i, n, rfl, hpre⟩ : ∃ th i n, a = [.inr (.inr (12, th)), .inl i, .inl n] ∧ (pz_im M) := by
      have hpre : (match (generalizing := false) a with | [.inr (.inr (12, th)), .inl i, .inl n] => pz_im M | _ => False) := hpre
      split at hpre
      · exact ⟨_, _, _, rfl, hpre⟩
      · exact hpre.elim
    exact Nat.le_of_ble_eq_true rfl
  · intro a M hlen hcan hM hpre Ok hgo
    obtain ⟨th, i, n, rfl, hpre⟩ : ∃ th i n, a = [.inr (.inr (12, th)), .inl i, .inl n] ∧ (pz_im M) := by
      have hpre : (match (generalizing := false) a with | [.inr (.inr (12, th)), .inl i, .inl n] => pz_im M | _ => False) := hpre
      split at hpre
      · exact ⟨_, _, _, rfl, hpre⟩
      · exact hpre.elim
    obtain ⟨k_th, hc_th⟩ := pz_tlm hcan
    have k_th : pz_kd th = 12 ∧ th < 231 := k_th
    have R_th := pz_kd12 k_th.1
    subst R_th
    clear k_th
    obtain ⟨k_i, hc_i⟩ := pz_tlm hc_th
    have l_i : -2147483648 ≤ i := k_i.1
    have u_i : i ≤ 2147483647 := k_i.2
    obtain ⟨k_n, hc_n⟩ := pz_tlm hc_i
    have l_n : -2147483648 ≤ n := k_n.1
    have u_n : n ≤ 2147483647 := k_n.2
    have hI : pz_im M := hpre
    have hI0 := hI
    have hS : pz_sm M M := pz_sm.rf
    refine hgo (fun _ => false) 20 0 _ [] M ?_
    refine And.intro (hI) ?_
    intro v2 M2 a2 b2 q2
    obtain ⟨q2, z2⟩ := q2
    subst z2
    clear a2 b2
    refine And.intro (fun h5 => ?_) (fun h5 => ?_)
    · skip
      replace q2 := q2.resolve_left (fun z => absurd (z.1.symm.trans h5) (by decide))
      clear h5 q2
      refine And.intro rfl ?_
      exact ⟨trivial, hS⟩
    · skip
      replace q2 := q2.resolve_right h5
      clear h5
      refine And.intro (True.intro) ?_
      intro v12 M12 a12 b12 q12
      obtain ⟨q12, z12⟩ := q12
      subst z12
      clear a12 b12
      refine And.intro (fun h15 => ?_) (fun h15 => ?_)
      · skip
        replace q12 := q12.resolve_right (fun z => h15 z.1)
        clear h15
        refine And.intro (hI) ?_
        intro M21 q21
        obtain ⟨q21, z21⟩ := q21
        have hS : pz_sm M M21 := hS.tr z21
        have hI : pz_im M21 := hS.1.1.1 hI0
        refine And.intro (And.intro hI (And.intro (by omega) (by omega))) ?_
        intro v27 M27 a27 b27 q27
        obtain ⟨q27, z27⟩ := q27
        have hS : pz_sm M M27 := hS.tr z27
        have hI : pz_im M27 := hS.1.1.1 hI0
        refine And.intro rfl ?_
        exact ⟨trivial, hS⟩
      · skip
        replace q12 := q12.resolve_left (fun z => absurd (z.1.symm.trans h15) (by decide))
        clear h15
        refine And.intro rfl ?_
        exact ⟨trivial, hS⟩
theorem v_X12_ask {fr lo i : Nat} {own : String} (h1 : 6 + 1 ≤ fr) (h2 : 8 + (3 + 11) + 140 ≤ lo) (h3 : .methodLink own i yX12_ask ∈ lw_tbl) : pz_cV fr lo own i k_X12_ask :=
  pz_cVk (maxL := 3) (fr' := 6) (lo' := 140) 2 12 h_X12_ask rfl ⟨by decide +kernel, by decide +kernel, by decide +kernel⟩ ⟨(pz_mt 1410 (by decide +kernel)), (pz_mt 1408 (by decide +kernel)), (pz_mt 1409 (by decide +kernel)), (pz_mt 13 (by decide +kernel))⟩ (Or.inl ⟨TX12, 28, rfl⟩) (fun a M _ h => by
    have h : (match (generalizing := false) a with | [.inr (.inr (12, th)), .inl i, .inl n] => pz_im M | _ => False) := h
    split at h
    · exact ⟨_, _, rfl⟩
    · exact h.elim) h1 h2 h3
def k_X12_bridge : pz_C := (2, 1, fun a M => (match a with | [.inr (.inr (12, th)), .inl i] => pz_im M | _ => False), fun a M r M' => (match a, r with | [.inr (.inr (12, th)), .inl i], some (.inl v) => (v = 0 ∨ v = 1) ∧ pz_sm M M' | _, _ => False))
abbrev ct_X12_bridge : List (Bool × Nat × pz_C) := [(true, 336, k_X12_canBridge), (true, 330, k_X12_keeps), (true, 339, k_X12_bridges0)]
set_option maxRecDepth 100000 in
set_option maxHeartbeats 4000000 in
theorem h_X12_bridge : pz_H yX12_bridge cX12_bridge 2 (some .boolean) k_X12_bridge 4 85 := by
  refine pz_mk (own := RX12) (tb := t_X12_bridge) (fl := pz_flf fl_RX12) (ci := pz_cif ci_RX12) (ct := pz_ctf ct_X12_bridge) (rz := true) (by decide +kernel) rfl t_X12_bridge_ok (pz_flk fl_RX12_ok) (pz_cik ci_RX12_ok) ?_ ?_ (Or.inr ⟨rfl, rfl⟩) ?_ ?_
  · exact fun i k' h => pz_ctk (l := ct_X12_bridge) (P := fun b i k => b = true → pz_cV 4 85 RX12 i k) (List.forall_mem_cons.mpr ⟨(fun _ => v_X12_canBridge (by decide) (by decide) (pz_mt 1491 (by decide +kernel))), List.forall_mem_cons.mpr ⟨(fun _ => v_X12_keeps (by decide) (by decide) (pz_mt 1427 (by decide +kernel))), List.forall_mem_cons.mpr ⟨(fun _ => v_X12_bridges0 (by decide) (by decide) (pz_mt 1495 (by decide +kernel))), fun _ h => absurd h List.not_mem_nil⟩⟩⟩) true i k' h rfl
  · exact fun i k' h => pz_ctk (l := ct_X12_bridge) (P := fun b i k => b = false → (pz_cS 4 85 RX12 i k ∨ (k = pz_kac ∧ 1 ≤ 4 ∧ 60 ≤ 85 ∧ Cond.methodLink RX12 i arraycopyName ∈ pz_tbl))) (List.forall_mem_cons.mpr ⟨((fun z => by cases z)), List.forall_mem_cons.mpr ⟨((fun z => by cases z)), List.forall_mem_cons.mpr ⟨((fun z => by cases z)), fun _ h => absurd h List.not_mem_nil⟩⟩⟩) false i k' h rfl
  · intro a M hlen hpre
    obtain ⟨th, i, rfl, hpre⟩ : ∃ th i, a = [.inr (.inr (12, th)), .inl i] ∧ (pz_im M) := by
      have hpre : (match (generalizing := false) a with | [.inr (.inr (12, th)), .inl i] => pz_im M | _ => False) := hpre
      split at hpre
      · exact ⟨_, _, rfl, hpre⟩
      · exact hpre.elim
    exact Nat.le_of_ble_eq_true rfl
  · intro a M hlen hcan hM hpre Ok hgo
    obtain ⟨th, i, rfl, hpre⟩ : ∃ th i, a = [.inr (.inr (12, th)), .inl i] ∧ (pz_im M) := by
      have hpre : (match (generalizing := false) a with | [.inr (.inr (12, th)), .inl i] => pz_im M | _ => False) := hpre
      split at hpre
      · exact ⟨_, _, rfl, hpre⟩
      · exact hpre.elim
    obtain ⟨k_th, hc_th⟩ := pz_tlm hcan
    have k_th : pz_kd th = 12 ∧ th < 231 := k_th
    have R_th := pz_kd12 k_th.1
    subst R_th
    clear k_th
    obtain ⟨k_i, hc_i⟩ := pz_tlm hc_th
    have l_i : -2147483648 ≤ i := k_i.1
    have u_i : i ≤ 2147483647 := k_i.2
    have hI : pz_im M := hpre
    have hI0 := hI
    have hS : pz_sm M M := pz_sm.rf
    refine hgo (fun _ => false) 15 0 _ [] M ?_
    refine And.intro (hI) ?_
    intro v2 M2 a2 b2 q2
    obtain ⟨q2, z2⟩ := q2
    subst z2
    clear a2 b2
    refine And.intro (fun h5 => ?_) (fun h5 => ?_)
    · skip
      replace q2 := q2.resolve_right h5
      clear h5
      refine And.intro (hI) ?_
      intro M11 q11
      obtain ⟨q11, z11⟩ := q11
      have hS : pz_sm M M11 := hS.tr z11
      have hI : pz_im M11 := hS.1.1.1 hI0
      refine And.intro (And.intro hI (And.intro (by omega) (by omega))) ?_
      intro M16 q16
      obtain ⟨q16, z16⟩ := q16
      have hS : pz_sm M M16 := hS.tr z16
      have hI : pz_im M16 := hS.1.1.1 hI0
      refine And.intro (by omega) ?_
      refine And.intro rfl ?_
      exact ⟨by omega, hS⟩
    · skip
      replace q2 := q2.resolve_left (fun z => absurd (z.1.symm.trans h5) (by decide))
      clear h5 q2
      refine And.intro (by omega) ?_
      refine And.intro rfl ?_
      exact ⟨by omega, hS⟩
theorem v_X12_bridge {fr lo i : Nat} {own : String} (h1 : 4 + 1 ≤ fr) (h2 : 8 + (2 + 11) + 85 ≤ lo) (h3 : .methodLink own i yX12_bridge ∈ lw_tbl) : pz_cV fr lo own i k_X12_bridge :=
  pz_cVk (maxL := 2) (fr' := 4) (lo' := 85) 1 12 h_X12_bridge rfl ⟨by decide +kernel, by decide +kernel, by decide +kernel⟩ ⟨(pz_mt 1490 (by decide +kernel)), (pz_mt 1488 (by decide +kernel)), (pz_mt 1489 (by decide +kernel)), (pz_mt 13 (by decide +kernel))⟩ (Or.inl ⟨TX12, 28, rfl⟩) (fun a M _ h => by
    have h : (match (generalizing := false) a with | [.inr (.inr (12, th)), .inl i] => pz_im M | _ => False) := h
    split at h
    · exact ⟨_, _, rfl⟩
    · exact h.elim) h1 h2 h3
def k_X12_pay : pz_C := (4, 1, fun a M => (match a with | [.inr (.inr (12, th)), .inl i, .inl j, .inl n] => pz_im M | _ => False), fun a M r M' => (match a, r with | [.inr (.inr (12, th)), .inl i, .inl j, .inl n], some (.inl v) => (v = 0 ∨ v = 1) ∧ pz_sm M M' | _, _ => False))
abbrev ct_X12_pay : List (Bool × Nat × pz_C) := [(false, 54, k_X12_isIn), (true, 343, k_X12_canPay0), (true, 330, k_X12_keeps), (true, 346, k_X12_pays)]
set_option maxRecDepth 100000 in
set_option maxHeartbeats 4000000 in
theorem h_X12_pay : pz_H yX12_pay cX12_pay 4 (some .boolean) k_X12_pay 3 66 := by
  refine pz_mk (own := RX12) (tb := t_X12_pay) (fl := pz_flf fl_RX12) (ci := pz_cif ci_RX12) (ct := pz_ctf ct_X12_pay) (rz := true) (by decide +kernel) rfl t_X12_pay_ok (pz_flk fl_RX12_ok) (pz_cik ci_RX12_ok) ?_ ?_ (Or.inr ⟨rfl, rfl⟩) ?_ ?_
  · exact fun i k' h => pz_ctk (l := ct_X12_pay) (P := fun b i k => b = true → pz_cV 3 66 RX12 i k) (List.forall_mem_cons.mpr ⟨((fun z => by cases z)), List.forall_mem_cons.mpr ⟨(fun _ => v_X12_canPay0 (by decide) (by decide) (pz_mt 1503 (by decide +kernel))), List.forall_mem_cons.mpr ⟨(fun _ => v_X12_keeps (by decide) (by decide) (pz_mt 1427 (by decide +kernel))), List.forall_mem_cons.mpr ⟨(fun _ => v_X12_pays (by decide) (by decide) (pz_mt 1507 (by decide +kernel))), fun _ h => absurd h List.not_mem_nil⟩⟩⟩⟩) true i k' h rfl
  · exact fun i k' h => pz_ctk (l := ct_X12_pay) (P := fun b i k => b = false → (pz_cS 3 66 RX12 i k ∨ (k = pz_kac ∧ 1 ≤ 3 ∧ 60 ≤ 66 ∧ Cond.methodLink RX12 i arraycopyName ∈ pz_tbl))) (List.forall_mem_cons.mpr ⟨(fun _ => Or.inl (s_X12_isIn (by decide) (by decide) (Or.inl (pz_mt 1217 (by decide +kernel))))), List.forall_mem_cons.mpr ⟨((fun z => by cases z)), List.forall_mem_cons.mpr ⟨((fun z => by cases z)), List.forall_mem_cons.mpr ⟨((fun z => by cases z)), fun _ h => absurd h List.not_mem_nil⟩⟩⟩⟩) false i k' h rfl
  · intro a M hlen hpre
    obtain ⟨th, i, j, n, rfl, hpre⟩ : ∃ th i j n, a = [.inr (.inr (12, th)), .inl i, .inl j, .inl n] ∧ (pz_im M) := by
      have hpre : (match (generalizing := false) a with | [.inr (.inr (12, th)), .inl i, .inl j, .inl n] => pz_im M | _ => False) := hpre
      split at hpre
      · exact ⟨_, _, _, _, rfl, hpre⟩
      · exact hpre.elim
    exact Nat.le_of_ble_eq_true rfl
  · intro a M hlen hcan hM hpre Ok hgo
    obtain ⟨th, i, j, n, rfl, hpre⟩ : ∃ th i j n, a = [.inr (.inr (12, th)), .inl i, .inl j, .inl n] ∧ (pz_im M) := by
      have hpre : (match (generalizing := false) a with | [.inr (.inr (12, th)), .inl i, .inl j, .inl n] => pz_im M | _ => False) := hpre
      split at hpre
      · exact ⟨_, _, _, _, rfl, hpre⟩
      · exact hpre.elim
    obtain ⟨k_th, hc_th⟩ := pz_tlm hcan
    have k_th : pz_kd th = 12 ∧ th < 231 := k_th
    have R_th := pz_kd12 k_th.1
    subst R_th
    clear k_th
    obtain ⟨k_i, hc_i⟩ := pz_tlm hc_th
    have l_i : -2147483648 ≤ i := k_i.1
    have u_i : i ≤ 2147483647 := k_i.2
    obtain ⟨k_j, hc_j⟩ := pz_tlm hc_i
    have l_j : -2147483648 ≤ j := k_j.1
    have u_j : j ≤ 2147483647 := k_j.2
    obtain ⟨k_n, hc_n⟩ := pz_tlm hc_j
    have l_n : -2147483648 ≤ n := k_n.1
    have u_n : n ≤ 2147483647 := k_n.2
    have hI : pz_im M := hpre
    have hI0 := hI
    have hS : pz_sm M M := pz_sm.rf
    refine hgo (fun _ => false) 24 0 _ [] M ?_
    refine And.intro (True.intro) ?_
    intro v4 M4 a4 b4 q4
    obtain ⟨q4, z4⟩ := q4
    subst z4
    clear a4 b4
    refine And.intro (fun h7 => ?_) (fun h7 => ?_)
    · skip
      replace q4 := q4.resolve_left (fun z => absurd (z.1.symm.trans h7) (by decide))
      clear h7
      refine And.intro (by omega) ?_
      refine And.intro rfl ?_
      exact ⟨by omega, hS⟩
    · skip
      replace q4 := q4.resolve_right (fun z => h7 z.1)
      clear h7
      refine And.intro (hI) ?_
      intro v14 M14 a14 b14 q14
      obtain ⟨q14, z14⟩ := q14
      subst z14
      clear a14 b14
      refine And.intro (fun h17 => ?_) (fun h17 => ?_)
      · skip
        replace q14 := q14.resolve_right h17
        clear h17
        refine And.intro (hI) ?_
        intro M23 q23
        obtain ⟨q23, z23⟩ := q23
        have hS : pz_sm M M23 := hS.tr z23
        have hI : pz_im M23 := hS.1.1.1 hI0
        refine And.intro (And.intro hI (And.intro (by omega) (And.intro (by omega) (And.intro (by omega) (by omega))))) ?_
        intro M30 q30
        obtain ⟨q30, z30⟩ := q30
        have hS : pz_sm M M30 := hS.tr z30
        have hI : pz_im M30 := hS.1.1.1 hI0
        refine And.intro (by omega) ?_
        refine And.intro rfl ?_
        exact ⟨by omega, hS⟩
      · skip
        replace q14 := q14.resolve_left (fun z => absurd (z.1.symm.trans h17) (by decide))
        clear h17 q14
        refine And.intro (by omega) ?_
        refine And.intro rfl ?_
        exact ⟨by omega, hS⟩
theorem v_X12_pay {fr lo i : Nat} {own : String} (h1 : 3 + 1 ≤ fr) (h2 : 8 + (4 + 11) + 66 ≤ lo) (h3 : .methodLink own i yX12_pay ∈ lw_tbl) : pz_cV fr lo own i k_X12_pay :=
  pz_cVk (maxL := 4) (fr' := 3) (lo' := 66) 3 12 h_X12_pay rfl ⟨by decide +kernel, by decide +kernel, by decide +kernel⟩ ⟨(pz_mt 1502 (by decide +kernel)), (pz_mt 1500 (by decide +kernel)), (pz_mt 1501 (by decide +kernel)), (pz_mt 13 (by decide +kernel))⟩ (Or.inl ⟨TX12, 28, rfl⟩) (fun a M _ h => by
    have h : (match (generalizing := false) a with | [.inr (.inr (12, th)), .inl i, .inl j, .inl n] => pz_im M | _ => False) := h
    split at h
    · exact ⟨_, _, rfl⟩
    · exact h.elim) h1 h2 h3
def k_X12_paper : pz_C := (2, 1, fun a M => (match a with | [.inr (.inr (12, th)), .inl i] => pz_im M | _ => False), fun a M r M' => (match a, r with | [.inr (.inr (12, th)), .inl i], some (.inl v) => (v = 0 ∨ v = 1) ∧ pz_sm M M' | _, _ => False))
abbrev ct_X12_paper : List (Bool × Nat × pz_C) := [(true, 349, k_X12_canPaper), (true, 330, k_X12_keeps), (true, 352, k_X12_getsReady)]
set_option maxRecDepth 100000 in
set_option maxHeartbeats 4000000 in
theorem h_X12_paper : pz_H yX12_paper cX12_paper 2 (some .boolean) k_X12_paper 4 85 := by
  refine pz_mk (own := RX12) (tb := t_X12_paper) (fl := pz_flf fl_RX12) (ci := pz_cif ci_RX12) (ct := pz_ctf ct_X12_paper) (rz := true) (by decide +kernel) rfl t_X12_paper_ok (pz_flk fl_RX12_ok) (pz_cik ci_RX12_ok) ?_ ?_ (Or.inr ⟨rfl, rfl⟩) ?_ ?_
  · exact fun i k' h => pz_ctk (l := ct_X12_paper) (P := fun b i k => b = true → pz_cV 4 85 RX12 i k) (List.forall_mem_cons.mpr ⟨(fun _ => v_X12_canPaper (by decide) (by decide) (pz_mt 1515 (by decide +kernel))), List.forall_mem_cons.mpr ⟨(fun _ => v_X12_keeps (by decide) (by decide) (pz_mt 1427 (by decide +kernel))), List.forall_mem_cons.mpr ⟨(fun _ => v_X12_getsReady (by decide) (by decide) (pz_mt 1519 (by decide +kernel))), fun _ h => absurd h List.not_mem_nil⟩⟩⟩) true i k' h rfl
  · exact fun i k' h => pz_ctk (l := ct_X12_paper) (P := fun b i k => b = false → (pz_cS 4 85 RX12 i k ∨ (k = pz_kac ∧ 1 ≤ 4 ∧ 60 ≤ 85 ∧ Cond.methodLink RX12 i arraycopyName ∈ pz_tbl))) (List.forall_mem_cons.mpr ⟨((fun z => by cases z)), List.forall_mem_cons.mpr ⟨((fun z => by cases z)), List.forall_mem_cons.mpr ⟨((fun z => by cases z)), fun _ h => absurd h List.not_mem_nil⟩⟩⟩) false i k' h rfl
  · intro a M hlen hpre
    obtain ⟨th, i, rfl, hpre⟩ : ∃ th i, a = [.inr (.inr (12, th)), .inl i] ∧ (pz_im M) := by
      have hpre : (match (generalizing := false) a with | [.inr (.inr (12, th)), .inl i] => pz_im M | _ => False) := hpre
      split at hpre
      · exact ⟨_, _, rfl, hpre⟩
      · exact hpre.elim
    exact Nat.le_of_ble_eq_true rfl
  · intro a M hlen hcan hM hpre Ok hgo
    obtain ⟨th, i, rfl, hpre⟩ : ∃ th i, a = [.inr (.inr (12, th)), .inl i] ∧ (pz_im M) := by
      have hpre : (match (generalizing := false) a with | [.inr (.inr (12, th)), .inl i] => pz_im M | _ => False) := hpre
      split at hpre
      · exact ⟨_, _, rfl, hpre⟩
      · exact hpre.elim
    obtain ⟨k_th, hc_th⟩ := pz_tlm hcan
    have k_th : pz_kd th = 12 ∧ th < 231 := k_th
    have R_th := pz_kd12 k_th.1
    subst R_th
    clear k_th
    obtain ⟨k_i, hc_i⟩ := pz_tlm hc_th
    have l_i : -2147483648 ≤ i := k_i.1
    have u_i : i ≤ 2147483647 := k_i.2
    have hI : pz_im M := hpre
    have hI0 := hI
    have hS : pz_sm M M := pz_sm.rf
    refine hgo (fun _ => false) 15 0 _ [] M ?_
    refine And.intro (hI) ?_
    intro v2 M2 a2 b2 q2
    obtain ⟨q2, z2⟩ := q2
    subst z2
    clear a2 b2
    refine And.intro (fun h5 => ?_) (fun h5 => ?_)
    · skip
      replace q2 := q2.resolve_right h5
      clear h5
      refine And.intro (hI) ?_
      intro M11 q11
      obtain ⟨q11, z11⟩ := q11
      have hS : pz_sm M M11 := hS.tr z11
      have hI : pz_im M11 := hS.1.1.1 hI0
      refine And.intro (And.intro hI (And.intro (by omega) (by omega))) ?_
      intro M16 q16
      obtain ⟨q16, z16⟩ := q16
      have hS : pz_sm M M16 := hS.tr z16
      have hI : pz_im M16 := hS.1.1.1 hI0
      refine And.intro (by omega) ?_
      refine And.intro rfl ?_
      exact ⟨by omega, hS⟩
    · skip
      replace q2 := q2.resolve_left (fun z => absurd (z.1.symm.trans h5) (by decide))
      clear h5 q2
      refine And.intro (by omega) ?_
      refine And.intro rfl ?_
      exact ⟨by omega, hS⟩
theorem v_X12_paper {fr lo i : Nat} {own : String} (h1 : 4 + 1 ≤ fr) (h2 : 8 + (2 + 11) + 85 ≤ lo) (h3 : .methodLink own i yX12_paper ∈ lw_tbl) : pz_cV fr lo own i k_X12_paper :=
  pz_cVk (maxL := 2) (fr' := 4) (lo' := 85) 1 12 h_X12_paper rfl ⟨by decide +kernel, by decide +kernel, by decide +kernel⟩ ⟨(pz_mt 1514 (by decide +kernel)), (pz_mt 1512 (by decide +kernel)), (pz_mt 1513 (by decide +kernel)), (pz_mt 13 (by decide +kernel))⟩ (Or.inl ⟨TX12, 28, rfl⟩) (fun a M _ h => by
    have h : (match (generalizing := false) a with | [.inr (.inr (12, th)), .inl i] => pz_im M | _ => False) := h
    split at h
    · exact ⟨_, _, rfl⟩
    · exact h.elim) h1 h2 h3
def k_X12_join : pz_C := (2, 1, fun a M => (match a with | [.inr (.inr (12, th)), .inl i] => pz_im M | _ => False), fun a M r M' => (match a, r with | [.inr (.inr (12, th)), .inl i], some (.inl v) => (v = 0 ∨ v = 1) ∧ pz_sm M M' | _, _ => False))
abbrev ct_X12_join : List (Bool × Nat × pz_C) := [(true, 58, k_X12_isLink), (true, 62, k_X12_isOut), (true, 330, k_X12_keeps), (true, 323, k_X12_notes)]
set_option maxRecDepth 100000 in
set_option maxHeartbeats 4000000 in
theorem h_X12_join : pz_H yX12_join cX12_join 2 (some .boolean) k_X12_join 2 43 := by
  refine pz_mk (own := RX12) (tb := t_X12_join) (fl := pz_flf fl_RX12) (ci := pz_cif ci_RX12) (ct := pz_ctf ct_X12_join) (rz := true) (by decide +kernel) rfl t_X12_join_ok (pz_flk fl_RX12_ok) (pz_cik ci_RX12_ok) ?_ ?_ (Or.inr ⟨rfl, rfl⟩) ?_ ?_
  · exact fun i k' h => pz_ctk (l := ct_X12_join) (P := fun b i k => b = true → pz_cV 2 43 RX12 i k) (List.forall_mem_cons.mpr ⟨(fun _ => v_X12_isLink (by decide) (by decide) (pz_mt 1224 (by decide +kernel))), List.forall_mem_cons.mpr ⟨(fun _ => v_X12_isOut (by decide) (by decide) (pz_mt 1419 (by decide +kernel))), List.forall_mem_cons.mpr ⟨(fun _ => v_X12_keeps (by decide) (by decide) (pz_mt 1427 (by decide +kernel))), List.forall_mem_cons.mpr ⟨(fun _ => v_X12_notes (by decide) (by decide) (pz_mt 1483 (by decide +kernel))), fun _ h => absurd h List.not_mem_nil⟩⟩⟩⟩) true i k' h rfl
  · exact fun i k' h => pz_ctk (l := ct_X12_join) (P := fun b i k => b = false → (pz_cS 2 43 RX12 i k ∨ (k = pz_kac ∧ 1 ≤ 2 ∧ 60 ≤ 43 ∧ Cond.methodLink RX12 i arraycopyName ∈ pz_tbl))) (List.forall_mem_cons.mpr ⟨((fun z => by cases z)), List.forall_mem_cons.mpr ⟨((fun z => by cases z)), List.forall_mem_cons.mpr ⟨((fun z => by cases z)), List.forall_mem_cons.mpr ⟨((fun z => by cases z)), fun _ h => absurd h List.not_mem_nil⟩⟩⟩⟩) false i k' h rfl
  · intro a M hlen hpre
    obtain ⟨th, i, rfl, hpre⟩ : ∃ th i, a = [.inr (.inr (12, th)), .inl i] ∧ (pz_im M) := by
      have hpre : (match (generalizing := false) a with | [.inr (.inr (12, th)), .inl i] => pz_im M | _ => False) := hpre
      split at hpre
      · exact ⟨_, _, rfl, hpre⟩
      · exact hpre.elim
    exact Nat.le_of_ble_eq_true rfl
  · intro a M hlen hcan hM hpre Ok hgo
    obtain ⟨th, i, rfl, hpre⟩ : ∃ th i, a = [.inr (.inr (12, th)), .inl i] ∧ (pz_im M) := by
      have hpre : (match (generalizing := false) a with | [.inr (.inr (12, th)), .inl i] => pz_im M | _ => False) := hpre
      split at hpre
      · exact ⟨_, _, rfl, hpre⟩
      · exact hpre.elim
    obtain ⟨k_th, hc_th⟩ := pz_tlm hcan
    have k_th : pz_kd th = 12 ∧ th < 231 := k_th
    have R_th := pz_kd12 k_th.1
    subst R_th
    clear k_th
    obtain ⟨k_i, hc_i⟩ := pz_tlm hc_th
    have l_i : -2147483648 ≤ i := k_i.1
    have u_i : i ≤ 2147483647 := k_i.2
    have hI : pz_im M := hpre
    have hI0 := hI
    have hS : pz_sm M M := pz_sm.rf
    refine hgo (fun _ => false) 35 0 _ [] M ?_
    refine And.intro (hI) ?_
    intro v2 M2 a2 b2 q2
    obtain ⟨q2, z2⟩ := q2
    subst z2
    clear a2 b2
    refine And.intro (fun h5 => ?_) (fun h5 => ?_)
    · skip
      replace q2 := q2.resolve_left (fun z => absurd (z.1.symm.trans h5) (by decide))
      clear h5
      refine And.intro (by omega) ?_
      refine And.intro rfl ?_
      exact ⟨by omega, hS⟩
    · skip
      replace q2 := q2.resolve_right (fun z => h5 z.1)
      clear h5
      refine And.intro (And.intro hI (And.intro (by omega) (by omega))) ?_
      intro v10 M10 a10 b10 q10
      obtain ⟨q10, z10⟩ := q10
      subst z10
      clear a10 b10
      refine And.intro (fun h13 => ?_) (fun h13 => ?_)
      · skip
        clear h13 q10
        refine And.intro (hI) ?_
        intro M19 q19
        obtain ⟨q19, z19⟩ := q19
        have hS : pz_sm M M19 := hS.tr z19
        have hI : pz_im M19 := hS.1.1.1 hI0
        refine pz_nrc (c := 60) rfl ?_
        intro v29 e29 a29 b29
        rw [pz_wi (by omega) (by omega)] at e29
        clear a29 b29
        refine And.intro (by omega) (And.intro (show _ < (1725 : Int) from by omega) ?_)
        intro M31 e31
        have hS : pz_sm M M31 := by
          rw [e31]
          exact pz_sm_u hS (pz_mn_60 (by omega)) (fun h => absurd h.1 (by decide)) (by omega) (pz_iom_w1 (by omega) (by omega))
        have hI : pz_im M31 := hS.1.1.1 hI0
        clear e29
        refine pz_nrc (c := 60) rfl ?_
        intro v39 e39 a39 b39
        rw [pz_wi (by omega) (by omega)] at e39
        clear a39 b39
        refine And.intro (by omega) (And.intro (show _ < (1725 : Int) from by omega) ?_)
        intro M41 e41
        have hS : pz_sm M M41 := by
          rw [e41]
          exact pz_sm_u hS (pz_mn_60 (by omega)) (fun h => absurd h.1 (by decide)) (by omega) (pz_iom_w1 (by omega) (by omega))
        have hI : pz_im M41 := hS.1.1.1 hI0
        clear e39
        refine And.intro (hI) ?_
        intro M47 q47
        obtain ⟨q47, z47⟩ := q47
        have hS : pz_sm M M47 := hS.tr z47
        have hI : pz_im M47 := hS.1.1.1 hI0
        refine And.intro (by omega) ?_
        refine And.intro rfl ?_
        exact ⟨by omega, hS⟩
      · skip
        clear h13 q10
        refine And.intro (by omega) ?_
        refine And.intro rfl ?_
        exact ⟨by omega, hS⟩
theorem v_X12_join {fr lo i : Nat} {own : String} (h1 : 2 + 1 ≤ fr) (h2 : 8 + (2 + 11) + 43 ≤ lo) (h3 : .methodLink own i yX12_join ∈ lw_tbl) : pz_cV fr lo own i k_X12_join :=
  pz_cVk (maxL := 2) (fr' := 2) (lo' := 43) 1 12 h_X12_join rfl ⟨by decide +kernel, by decide +kernel, by decide +kernel⟩ ⟨(pz_mt 1526 (by decide +kernel)), (pz_mt 1524 (by decide +kernel)), (pz_mt 1525 (by decide +kernel)), (pz_mt 13 (by decide +kernel))⟩ (Or.inl ⟨TX12, 28, rfl⟩) (fun a M _ h => by
    have h : (match (generalizing := false) a with | [.inr (.inr (12, th)), .inl i] => pz_im M | _ => False) := h
    split at h
    · exact ⟨_, _, rfl⟩
    · exact h.elim) h1 h2 h3
def k_X12_does : pz_C := (2, 0, fun a M => (match a with | [.inr (.inr (12, th)), .inl i] => pz_im M ∧ 0 ≤ i ∧ i < 1000 | _ => False), fun a M r M' => (match a, r with | [.inr (.inr (12, th)), .inl i], none => (True) ∧ pz_sm M M' | _, _ => False))
abbrev ct_X12_does : List (Bool × Nat × pz_C) := [(true, 327, k_X12_canAsk), (true, 333, k_X12_asks), (true, 336, k_X12_canBridge), (true, 339, k_X12_bridges0), (true, 343, k_X12_canPay0), (true, 346, k_X12_pays), (true, 349, k_X12_canPaper), (true, 352, k_X12_getsReady)]
set_option maxRecDepth 100000 in
set_option maxHeartbeats 4000000 in
theorem h_X12_does : pz_H yX12_does cX12_does 3 none k_X12_does 6 140 := by
  refine pz_mk (own := RX12) (tb := t_X12_does) (fl := pz_flf fl_RX12) (ci := pz_cif ci_RX12) (ct := pz_ctf ct_X12_does) (rz := false) (by decide +kernel) rfl t_X12_does_ok (pz_flk fl_RX12_ok) (pz_cik ci_RX12_ok) ?_ ?_ (rfl) ?_ ?_
  · exact fun i k' h => pz_ctk (l := ct_X12_does) (P := fun b i k => b = true → pz_cV 6 140 RX12 i k) (List.forall_mem_cons.mpr ⟨(fun _ => v_X12_canAsk (by decide) (by decide) (pz_mt 1411 (by decide +kernel))), List.forall_mem_cons.mpr ⟨(fun _ => v_X12_asks (by decide) (by decide) (pz_mt 1431 (by decide +kernel))), List.forall_mem_cons.mpr ⟨(fun _ => v_X12_canBridge (by decide) (by decide) (pz_mt 1491 (by decide +kernel))), List.forall_mem_cons.mpr ⟨(fun _ => v_X12_bridges0 (by decide) (by decide) (pz_mt 1495 (by decide +kernel))), List.forall_mem_cons.mpr ⟨(fun _ => v_X12_canPay0 (by decide) (by decide) (pz_mt 1503 (by decide +kernel))), List.forall_mem_cons.mpr ⟨(fun _ => v_X12_pays (by decide) (by decide) (pz_mt 1507 (by decide +kernel))), List.forall_mem_cons.mpr ⟨(fun _ => v_X12_canPaper (by decide) (by decide) (pz_mt 1515 (by decide +kernel))), List.forall_mem_cons.mpr ⟨(fun _ => v_X12_getsReady (by decide) (by decide) (pz_mt 1519 (by decide +kernel))), fun _ h => absurd h List.not_mem_nil⟩⟩⟩⟩⟩⟩⟩⟩) true i k' h rfl
  · exact fun i k' h => pz_ctk (l := ct_X12_does) (P := fun b i k => b = false → (pz_cS 6 140 RX12 i k ∨ (k = pz_kac ∧ 1 ≤ 6 ∧ 60 ≤ 140 ∧ Cond.methodLink RX12 i arraycopyName ∈ pz_tbl))) (List.forall_mem_cons.mpr ⟨((fun z => by cases z)), List.forall_mem_cons.mpr ⟨((fun z => by cases z)), List.forall_mem_cons.mpr ⟨((fun z => by cases z)), List.forall_mem_cons.mpr ⟨((fun z => by cases z)), List.forall_mem_cons.mpr ⟨((fun z => by cases z)), List.forall_mem_cons.mpr ⟨((fun z => by cases z)), List.forall_mem_cons.mpr ⟨((fun z => by cases z)), List.forall_mem_cons.mpr ⟨((fun z => by cases z)), fun _ h => absurd h List.not_mem_nil⟩⟩⟩⟩⟩⟩⟩⟩) false i k' h rfl
  · intro a M hlen hpre
    obtain ⟨th, i, rfl, hpre⟩ : ∃ th i, a = [.inr (.inr (12, th)), .inl i] ∧ (pz_im M ∧ 0 ≤ i ∧ i < 1000) := by
      have hpre : (match (generalizing := false) a with | [.inr (.inr (12, th)), .inl i] => pz_im M ∧ 0 ≤ i ∧ i < 1000 | _ => False) := hpre
      split at hpre
      · exact ⟨_, _, rfl, hpre⟩
      · exact hpre.elim
    exact Nat.le_of_ble_eq_true rfl
  · intro a M hlen hcan hM hpre Ok hgo
    obtain ⟨th, i, rfl, hpre⟩ : ∃ th i, a = [.inr (.inr (12, th)), .inl i] ∧ (pz_im M ∧ 0 ≤ i ∧ i < 1000) := by
      have hpre : (match (generalizing := false) a with | [.inr (.inr (12, th)), .inl i] => pz_im M ∧ 0 ≤ i ∧ i < 1000 | _ => False) := hpre
      split at hpre
      · exact ⟨_, _, rfl, hpre⟩
      · exact hpre.elim
    obtain ⟨k_th, hc_th⟩ := pz_tlm hcan
    have k_th : pz_kd th = 12 ∧ th < 231 := k_th
    have R_th := pz_kd12 k_th.1
    subst R_th
    clear k_th
    obtain ⟨k_i, hc_i⟩ := pz_tlm hc_th
    have l_i : -2147483648 ≤ i := k_i.1
    have u_i : i ≤ 2147483647 := k_i.2
    have hI : pz_im M := hpre.1
    have hI0 := hI
    have hS : pz_sm M M := pz_sm.rf
    refine hgo (fun _ => false) 79 0 _ [] M ?_
    refine pz_nrc (c := 60) rfl ?_
    intro v6 e6 a6 b6
    rw [pz_wi (by omega) (by omega)] at e6
    clear a6 b6
    refine And.intro (by omega) (And.intro (show _ < (1725 : Int) from by omega) ?_)
    intro v7 e7 a7 b7
    refine pz_nrc (c := 60) rfl ?_
    intro v15 e15 a15 b15
    rw [pz_wi (by omega) (by omega)] at e15
    clear a15 b15
    refine And.intro (by omega) (And.intro (show _ < (1725 : Int) from by omega) ?_)
    intro v16 e16 a16 b16
    refine And.intro ?_ ?_
    · skip
      refine And.intro (fun h17 => ?_) ?_
      · skip
        refine And.intro (hI) ?_
        intro v46 M46 a46 b46 q46
        obtain ⟨q46, z46⟩ := q46
        subst z46
        clear a46 b46
        refine And.intro (fun h49 => ?_) (fun h49 => ?_)
        · skip
          replace q46 := q46.resolve_left (fun z => absurd (z.1.symm.trans h49) (by decide))
          clear h49 q46
          refine And.intro rfl ?_
          exact ⟨trivial, hS⟩
        · skip
          replace q46 := q46.resolve_right h49
          clear h49
          refine pz_nrc (c := 60) rfl ?_
          intro v60 e60 a60 b60
          rw [pz_wi (by omega) (by omega)] at e60
          clear a60 b60
          refine And.intro (by omega) (And.intro (show _ < (1725 : Int) from by omega) ?_)
          intro v61 e61 a61 b61
          refine And.intro (And.intro hI (And.intro (by omega) (by omega))) ?_
          intro v62 M62 a62 b62 q62
          obtain ⟨q62, z62⟩ := q62
          have hS : pz_sm M M62 := hS.tr z62
          have hI : pz_im M62 := hS.1.1.1 hI0
          refine And.intro rfl ?_
          exact ⟨trivial, hS⟩
      refine And.intro (fun h17 => ?_) ?_
      · skip
        refine And.intro (hI) ?_
        intro v71 M71 a71 b71 q71
        obtain ⟨q71, z71⟩ := q71
        subst z71
        clear a71 b71
        refine And.intro (fun h74 => ?_) (fun h74 => ?_)
        · skip
          replace q71 := q71.resolve_left (fun z => absurd (z.1.symm.trans h74) (by decide))
          clear h74 q71
          refine And.intro rfl ?_
          exact ⟨trivial, hS⟩
        · skip
          replace q71 := q71.resolve_right h74
          clear h74
          refine And.intro (And.intro hI (And.intro (by omega) (by omega))) ?_
          intro M79 q79
          obtain ⟨q79, z79⟩ := q79
          have hS : pz_sm M M79 := hS.tr z79
          have hI : pz_im M79 := hS.1.1.1 hI0
          refine And.intro rfl ?_
          exact ⟨trivial, hS⟩
      refine And.intro (fun h17 => ?_) ?_
      · skip
        refine pz_nrc (c := 60) rfl ?_
        intro v93 e93 a93 b93
        rw [pz_wi (by omega) (by omega)] at e93
        clear a93 b93
        refine And.intro (by omega) (And.intro (show _ < (1725 : Int) from by omega) ?_)
        intro v94 e94 a94 b94
        refine pz_nrc (c := 60) rfl ?_
        intro v101 e101 a101 b101
        rw [pz_wi (by omega) (by omega)] at e101
        clear a101 b101
        refine And.intro (by omega) (And.intro (show _ < (1725 : Int) from by omega) ?_)
        intro v102 e102 a102 b102
        refine And.intro (hI) ?_
        intro v103 M103 a103 b103 q103
        obtain ⟨q103, z103⟩ := q103
        subst z103
        clear a103 b103
        refine And.intro (fun h106 => ?_) (fun h106 => ?_)
        · skip
          replace q103 := q103.resolve_left (fun z => absurd (z.1.symm.trans h106) (by decide))
          clear h106 q103
          refine And.intro rfl ?_
          exact ⟨trivial, hS⟩
        · skip
          replace q103 := q103.resolve_right h106
          clear h106
          refine pz_nrc (c := 60) rfl ?_
          intro v117 e117 a117 b117
          rw [pz_wi (by omega) (by omega)] at e117
          clear a117 b117
          refine And.intro (by omega) (And.intro (show _ < (1725 : Int) from by omega) ?_)
          intro v118 e118 a118 b118
          rw [show v117 = v93 by omega] at e118
          refine pz_nrc (c := 60) rfl ?_
          intro v125 e125 a125 b125
          rw [pz_wi (by omega) (by omega)] at e125
          clear a125 b125
          refine And.intro (by omega) (And.intro (show _ < (1725 : Int) from by omega) ?_)
          intro v126 e126 a126 b126
          refine And.intro (And.intro hI (And.intro (by omega) (And.intro (by omega) (And.intro (by omega) (by omega))))) ?_
          intro M127 q127
          obtain ⟨q127, z127⟩ := q127
          have hS : pz_sm M M127 := hS.tr z127
          have hI : pz_im M127 := hS.1.1.1 hI0
          refine And.intro rfl ?_
          exact ⟨trivial, hS⟩
      exact True.intro
    · intro h17
      refine And.intro (hI) ?_
      intro v135 M135 a135 b135 q135
      obtain ⟨q135, z135⟩ := q135
      subst z135
      clear a135 b135
      refine And.intro (fun h138 => ?_) (fun h138 => ?_)
      · skip
        replace q135 := q135.resolve_left (fun z => absurd (z.1.symm.trans h138) (by decide))
        clear h138 q135
        refine And.intro rfl ?_
        exact ⟨trivial, hS⟩
      · skip
        replace q135 := q135.resolve_right h138
        clear h138
        refine And.intro (And.intro hI (And.intro (by omega) (by omega))) ?_
        intro M143 q143
        obtain ⟨q143, z143⟩ := q143
        have hS : pz_sm M M143 := hS.tr z143
        have hI : pz_im M143 := hS.1.1.1 hI0
        refine And.intro rfl ?_
        exact ⟨trivial, hS⟩
theorem v_X12_does {fr lo i : Nat} {own : String} (h1 : 6 + 1 ≤ fr) (h2 : 8 + (3 + 11) + 140 ≤ lo) (h3 : .methodLink own i yX12_does ∈ lw_tbl) : pz_cV fr lo own i k_X12_does :=
  pz_cVk (maxL := 3) (fr' := 6) (lo' := 140) 1 12 h_X12_does rfl ⟨by decide +kernel, by decide +kernel, by decide +kernel⟩ ⟨(pz_mt 1538 (by decide +kernel)), (pz_mt 1537 (by decide +kernel)), (pz_ms 60 (by decide +kernel)), (pz_mt 13 (by decide +kernel))⟩ (Or.inl ⟨TX12, 28, rfl⟩) (fun a M _ h => by
    have h : (match (generalizing := false) a with | [.inr (.inr (12, th)), .inl i] => pz_im M ∧ 0 ≤ i ∧ i < 1000 | _ => False) := h
    split at h
    · exact ⟨_, _, rfl⟩
    · exact h.elim) h1 h2 h3
def k_X12_falls : pz_C := (2, 1, fun a M => (match a with | [.inr (.inr (12, th)), .inl x] => pz_im M | _ => False), fun a M r M' => (match a, r with | [.inr (.inr (12, th)), .inl x], some (.inl v) => (v = 0 ∨ v = 1) ∧ pz_sm M M' | _, _ => False))
abbrev ct_X12_falls : List (Bool × Nat × pz_C) := [(true, 355, k_X12_draw)]
set_option maxRecDepth 100000 in
set_option maxHeartbeats 4000000 in
theorem h_X12_falls : pz_H yX12_falls cX12_falls 2 (some .boolean) k_X12_falls 1 21 := by
  refine pz_mk (own := RX12) (tb := t_X12_falls) (fl := pz_flf fl_RX12) (ci := pz_cif ci_RX12) (ct := pz_ctf ct_X12_falls) (rz := true) (by decide +kernel) rfl t_X12_falls_ok (pz_flk fl_RX12_ok) (pz_cik ci_RX12_ok) ?_ ?_ (Or.inr ⟨rfl, rfl⟩) ?_ ?_
  · exact fun i k' h => pz_ctk (l := ct_X12_falls) (P := fun b i k => b = true → pz_cV 1 21 RX12 i k) (List.forall_mem_cons.mpr ⟨(fun _ => v_X12_draw (by decide) (by decide) (pz_mt 1547 (by decide +kernel))), fun _ h => absurd h List.not_mem_nil⟩) true i k' h rfl
  · exact fun i k' h => pz_ctk (l := ct_X12_falls) (P := fun b i k => b = false → (pz_cS 1 21 RX12 i k ∨ (k = pz_kac ∧ 1 ≤ 1 ∧ 60 ≤ 21 ∧ Cond.methodLink RX12 i arraycopyName ∈ pz_tbl))) (List.forall_mem_cons.mpr ⟨((fun z => by cases z)), fun _ h => absurd h List.not_mem_nil⟩) false i k' h rfl
  · intro a M hlen hpre
    obtain ⟨th, x, rfl, hpre⟩ : ∃ th x, a = [.inr (.inr (12, th)), .inl x] ∧ (pz_im M) := by
      have hpre : (match (generalizing := false) a with | [.inr (.inr (12, th)), .inl x] => pz_im M | _ => False) := hpre
      split at hpre
      · exact ⟨_, _, rfl, hpre⟩
      · exact hpre.elim
    exact Nat.le_of_ble_eq_true rfl
  · intro a M hlen hcan hM hpre Ok hgo
    obtain ⟨th, x, rfl, hpre⟩ : ∃ th x, a = [.inr (.inr (12, th)), .inl x] ∧ (pz_im M) := by
      have hpre : (match (generalizing := false) a with | [.inr (.inr (12, th)), .inl x] => pz_im M | _ => False) := hpre
      split at hpre
      · exact ⟨_, _, rfl, hpre⟩
      · exact hpre.elim
    obtain ⟨k_th, hc_th⟩ := pz_tlm hcan
    have k_th : pz_kd th = 12 ∧ th < 231 := k_th
    have R_th := pz_kd12 k_th.1
    subst R_th
    clear k_th
    obtain ⟨k_x, hc_x⟩ := pz_tlm hc_th
    have l_x : -2147483648 ≤ x := k_x.1
    have u_x : x ≤ 2147483647 := k_x.2
    have hI : pz_im M := hpre
    have hI0 := hI
    have hS : pz_sm M M := pz_sm.rf
    refine hgo (fun _ => false) 21 0 _ [] M ?_
    intro v1 e1 a1 b1
    refine And.intro (fun h4 => ?_) (fun h4 => ?_)
    · skip
      refine And.intro (fun h30 => ?_) (fun h30 => ?_)
      · skip
        refine And.intro (by omega) ?_
        refine And.intro rfl ?_
        exact ⟨by omega, hS⟩
      · skip
        refine And.intro (by omega) ?_
        refine And.intro rfl ?_
        exact ⟨by omega, hS⟩
    · skip
      refine And.intro (And.intro hI (by omega)) ?_
      intro v11 M11 a11 b11 q11
      obtain ⟨q11, z11⟩ := q11
      have hS : pz_sm M M11 := hS.tr z11
      have hI : pz_im M11 := hS.1.1.1 hI0
      refine And.intro (fun h15 => ?_) (fun h15 => ?_)
      · skip
        refine And.intro (by omega) ?_
        refine And.intro rfl ?_
        exact ⟨by omega, hS⟩
      · skip
        refine And.intro (by omega) ?_
        refine And.intro rfl ?_
        exact ⟨by omega, hS⟩
theorem v_X12_falls {fr lo i : Nat} {own : String} (h1 : 1 + 1 ≤ fr) (h2 : 8 + (2 + 11) + 21 ≤ lo) (h3 : .methodLink own i yX12_falls ∈ lw_tbl) : pz_cV fr lo own i k_X12_falls :=
  pz_cVk (maxL := 2) (fr' := 1) (lo' := 21) 1 12 h_X12_falls rfl ⟨by decide +kernel, by decide +kernel, by decide +kernel⟩ ⟨(pz_mt 1546 (by decide +kernel)), (pz_mt 1545 (by decide +kernel)), (pz_ms 62 (by decide +kernel)), (pz_mt 13 (by decide +kernel))⟩ (Or.inl ⟨TX12, 28, rfl⟩) (fun a M _ h => by
    have h : (match (generalizing := false) a with | [.inr (.inr (12, th)), .inl x] => pz_im M | _ => False) := h
    split at h
    · exact ⟨_, _, rfl⟩
    · exact h.elim) h1 h2 h3
def k_X12_unreadies : pz_C := (2, 0, fun a M => (match a with | [.inr (.inr (12, th)), .inl i] => pz_im M | _ => False), fun a M r M' => (match a, r with | [.inr (.inr (12, th)), .inl i], none => (True) ∧ pz_sm M M' | _, _ => False))
abbrev ct_X12_unreadies : List (Bool × Nat × pz_C) := [(true, 58, k_X12_isLink), (true, 65, k_X12_hasMoved)]
set_option maxRecDepth 100000 in
set_option maxHeartbeats 4000000 in
theorem h_X12_unreadies : pz_H yX12_unreadies cX12_unreadies 2 none k_X12_unreadies 2 43 := by
  refine pz_mk (own := RX12) (tb := t_X12_unreadies) (fl := pz_flf fl_RX12) (ci := pz_cif ci_RX12) (ct := pz_ctf ct_X12_unreadies) (rz := false) (by decide +kernel) rfl t_X12_unreadies_ok (pz_flk fl_RX12_ok) (pz_cik ci_RX12_ok) ?_ ?_ (rfl) ?_ ?_
  · exact fun i k' h => pz_ctk (l := ct_X12_unreadies) (P := fun b i k => b = true → pz_cV 2 43 RX12 i k) (List.forall_mem_cons.mpr ⟨(fun _ => v_X12_isLink (by decide) (by decide) (pz_mt 1224 (by decide +kernel))), List.forall_mem_cons.mpr ⟨(fun _ => v_X12_hasMoved (by decide) (by decide) (pz_mt 1423 (by decide +kernel))), fun _ h => absurd h List.not_mem_nil⟩⟩) true i k' h rfl
  · exact fun i k' h => pz_ctk (l := ct_X12_unreadies) (P := fun b i k => b = false → (pz_cS 2 43 RX12 i k ∨ (k = pz_kac ∧ 1 ≤ 2 ∧ 60 ≤ 43 ∧ Cond.methodLink RX12 i arraycopyName ∈ pz_tbl))) (List.forall_mem_cons.mpr ⟨((fun z => by cases z)), List.forall_mem_cons.mpr ⟨((fun z => by cases z)), fun _ h => absurd h List.not_mem_nil⟩⟩) false i k' h rfl
  · intro a M hlen hpre
    obtain ⟨th, i, rfl, hpre⟩ : ∃ th i, a = [.inr (.inr (12, th)), .inl i] ∧ (pz_im M) := by
      have hpre : (match (generalizing := false) a with | [.inr (.inr (12, th)), .inl i] => pz_im M | _ => False) := hpre
      split at hpre
      · exact ⟨_, _, rfl, hpre⟩
      · exact hpre.elim
    exact Nat.le_of_ble_eq_true rfl
  · intro a M hlen hcan hM hpre Ok hgo
    obtain ⟨th, i, rfl, hpre⟩ : ∃ th i, a = [.inr (.inr (12, th)), .inl i] ∧ (pz_im M) := by
      have hpre : (match (generalizing := false) a with | [.inr (.inr (12, th)), .inl i] => pz_im M | _ => False) := hpre
      split at hpre
      · exact ⟨_, _, rfl, hpre⟩
      · exact hpre.elim
    obtain ⟨k_th, hc_th⟩ := pz_tlm hcan
    have k_th : pz_kd th = 12 ∧ th < 231 := k_th
    have R_th := pz_kd12 k_th.1
    subst R_th
    clear k_th
    obtain ⟨k_i, hc_i⟩ := pz_tlm hc_th
    have l_i : -2147483648 ≤ i := k_i.1
    have u_i : i ≤ 2147483647 := k_i.2
    have hI : pz_im M := hpre
    have hI0 := hI
    have hS : pz_sm M M := pz_sm.rf
    refine hgo (fun _ => false) 18 0 _ [] M ?_
    refine And.intro (hI) ?_
    intro v2 M2 a2 b2 q2
    obtain ⟨q2, z2⟩ := q2
    subst z2
    clear a2 b2
    refine And.intro (fun h5 => ?_) (fun h5 => ?_)
    · skip
      replace q2 := q2.resolve_left (fun z => absurd (z.1.symm.trans h5) (by decide))
      clear h5
      refine And.intro rfl ?_
      exact ⟨trivial, hS⟩
    · skip
      replace q2 := q2.resolve_right (fun z => h5 z.1)
      clear h5
      refine And.intro (And.intro hI (And.intro (by omega) (by omega))) ?_
      intro v10 M10 a10 b10 q10
      obtain ⟨q10, z10⟩ := q10
      subst z10
      clear a10 b10
      refine And.intro (fun h13 => ?_) (fun h13 => ?_)
      · skip
        clear h13 q10
        refine And.intro rfl ?_
        exact ⟨trivial, hS⟩
      · skip
        clear h13 q10
        refine pz_nrc (c := 60) rfl ?_
        intro v23 e23 a23 b23
        rw [pz_wi (by omega) (by omega)] at e23
        clear a23 b23
        refine And.intro (by omega) (And.intro (show _ < (1725 : Int) from by omega) ?_)
        intro M25 e25
        have hS : pz_sm M M25 := by
          rw [e25]
          exact pz_sm_u hS (pz_mn_60 (by omega)) (fun h => absurd h.1 (by decide)) (by omega) (pz_iom_w1 (by omega) (by omega))
        have hI : pz_im M25 := hS.1.1.1 hI0
        clear e23
        refine And.intro rfl ?_
        exact ⟨trivial, hS⟩
theorem v_X12_unreadies {fr lo i : Nat} {own : String} (h1 : 2 + 1 ≤ fr) (h2 : 8 + (2 + 11) + 43 ≤ lo) (h3 : .methodLink own i yX12_unreadies ∈ lw_tbl) : pz_cV fr lo own i k_X12_unreadies :=
  pz_cVk (maxL := 2) (fr' := 2) (lo' := 43) 1 12 h_X12_unreadies rfl ⟨by decide +kernel, by decide +kernel, by decide +kernel⟩ ⟨(pz_mt 1564 (by decide +kernel)), (pz_mt 1563 (by decide +kernel)), (pz_ms 66 (by decide +kernel)), (pz_mt 13 (by decide +kernel))⟩ (Or.inl ⟨TX12, 28, rfl⟩) (fun a M _ h => by
    have h : (match (generalizing := false) a with | [.inr (.inr (12, th)), .inl i] => pz_im M | _ => False) := h
    split at h
    · exact ⟨_, _, rfl⟩
    · exact h.elim) h1 h2 h3
def k_X12_leaves : pz_C := (2, 0, fun a M => (match a with | [.inr (.inr (12, th)), .inl i] => pz_im M ∧ 0 ≤ i ∧ i < 12 | _ => False), fun a M r M' => (match a, r with | [.inr (.inr (12, th)), .inl i], none => (True) ∧ pz_sm M M' | _, _ => False))
abbrev ct_X12_leaves : List (Bool × Nat × pz_C) := [(true, 358, k_X12_unreadies), (true, 323, k_X12_notes)]
set_option maxRecDepth 100000 in
set_option maxHeartbeats 4000000 in
theorem h_X12_leaves : pz_H yX12_leaves cX12_leaves 2 none k_X12_leaves 3 64 := by
  refine pz_mk (own := RX12) (tb := t_X12_leaves) (fl := pz_flf fl_RX12) (ci := pz_cif ci_RX12) (ct := pz_ctf ct_X12_leaves) (rz := false) (by decide +kernel) rfl t_X12_leaves_ok (pz_flk fl_RX12_ok) (pz_cik ci_RX12_ok) ?_ ?_ (rfl) ?_ ?_
  · exact fun i k' h => pz_ctk (l := ct_X12_leaves) (P := fun b i k => b = true → pz_cV 3 64 RX12 i k) (List.forall_mem_cons.mpr ⟨(fun _ => v_X12_unreadies (by decide) (by decide) (pz_mt 1561 (by decide +kernel))), List.forall_mem_cons.mpr ⟨(fun _ => v_X12_notes (by decide) (by decide) (pz_mt 1483 (by decide +kernel))), fun _ h => absurd h List.not_mem_nil⟩⟩) true i k' h rfl
  · exact fun i k' h => pz_ctk (l := ct_X12_leaves) (P := fun b i k => b = false → (pz_cS 3 64 RX12 i k ∨ (k = pz_kac ∧ 1 ≤ 3 ∧ 60 ≤ 64 ∧ Cond.methodLink RX12 i arraycopyName ∈ pz_tbl))) (List.forall_mem_cons.mpr ⟨((fun z => by cases z)), List.forall_mem_cons.mpr ⟨((fun z => by cases z)), fun _ h => absurd h List.not_mem_nil⟩⟩) false i k' h rfl
  · intro a M hlen hpre
    obtain ⟨th, i, rfl, hpre⟩ : ∃ th i, a = [.inr (.inr (12, th)), .inl i] ∧ (pz_im M ∧ 0 ≤ i ∧ i < 12) := by
      have hpre : (match (generalizing := false) a with | [.inr (.inr (12, th)), .inl i] => pz_im M ∧ 0 ≤ i ∧ i < 12 | _ => False) := hpre
      split at hpre
      · exact ⟨_, _, rfl, hpre⟩
      · exact hpre.elim
    exact Nat.le_of_ble_eq_true rfl
  · intro a M hlen hcan hM hpre Ok hgo
    obtain ⟨th, i, rfl, hpre⟩ : ∃ th i, a = [.inr (.inr (12, th)), .inl i] ∧ (pz_im M ∧ 0 ≤ i ∧ i < 12) := by
      have hpre : (match (generalizing := false) a with | [.inr (.inr (12, th)), .inl i] => pz_im M ∧ 0 ≤ i ∧ i < 12 | _ => False) := hpre
      split at hpre
      · exact ⟨_, _, rfl, hpre⟩
      · exact hpre.elim
    obtain ⟨k_th, hc_th⟩ := pz_tlm hcan
    have k_th : pz_kd th = 12 ∧ th < 231 := k_th
    have R_th := pz_kd12 k_th.1
    subst R_th
    clear k_th
    obtain ⟨k_i, hc_i⟩ := pz_tlm hc_th
    have l_i : -2147483648 ≤ i := k_i.1
    have u_i : i ≤ 2147483647 := k_i.2
    have hI : pz_im M := hpre.1
    have hI0 := hI
    have hS : pz_sm M M := pz_sm.rf
    refine hgo (fun _ => false) 40 0 _ [] M ?_
    refine pz_nrc (c := 60) rfl ?_
    intro v7 e7 a7 b7
    rw [pz_wi (by omega) (by omega)] at e7
    clear a7 b7
    refine And.intro (by omega) (And.intro (show _ < (1725 : Int) from by omega) ?_)
    intro M9 e9
    have hS : pz_sm M M9 := by
      rw [e9]
      exact pz_sm_u hS (pz_mn_60 (by omega)) (fun h => absurd h.1 (by decide)) (by omega) (pz_iom_w1 (by omega) (by omega))
    have hI : pz_im M9 := hS.1.1.1 hI0
    clear e7
    refine pz_nrc (c := 60) rfl ?_
    refine And.intro (by omega) (And.intro (show _ < (1725 : Int) from by omega) ?_)
    intro v16 e16 a16 b16
    replace e16 : v16 = M9 60 1 := e16
    intro v18 e18 a18 b18
    refine And.intro (by omega) (And.intro (show _ < (1725 : Int) from by omega) ?_)
    intro M19 e19
    have hS : pz_sm M M19 := by
      rw [e19]
      exact pz_sm_u hS (pz_mn_60 (by omega)) (fun h => absurd h.1 (by decide)) (by omega) (pz_iom_w0 (by omega))
    have hI : pz_im M19 := hS.1.1.1 hI0
    clear e18
    refine pz_nrc (c := 60) rfl ?_
    intro v27 e27 a27 b27
    rw [pz_wi (by omega) (by omega)] at e27
    clear a27 b27
    refine And.intro (by omega) (And.intro (show _ < (1725 : Int) from by omega) ?_)
    intro M29 e29
    have hS : pz_sm M M29 := by
      rw [e29]
      exact pz_sm_u hS (pz_mn_60 (by omega)) (fun h => absurd h.1 (by decide)) (by omega) (pz_iom_w1 (by omega) (by omega))
    have hI : pz_im M29 := hS.1.1.1 hI0
    clear e27
    intro v33 e33 a33 b33
    rw [pz_wi (by omega) (by omega)] at e33
    clear a33 b33
    refine And.intro (hI) ?_
    intro M34 q34
    obtain ⟨q34, z34⟩ := q34
    have hS : pz_sm M M34 := hS.tr z34
    have hI : pz_im M34 := hS.1.1.1 hI0
    intro v40 e40 a40 b40
    rw [pz_wi (by omega) (by omega)] at e40
    clear a40 b40
    refine And.intro (hI) ?_
    intro M41 q41
    obtain ⟨q41, z41⟩ := q41
    have hS : pz_sm M M41 := hS.tr z41
    have hI : pz_im M41 := hS.1.1.1 hI0
    refine And.intro (hI) ?_
    intro M48 q48
    obtain ⟨q48, z48⟩ := q48
    have hS : pz_sm M M48 := hS.tr z48
    have hI : pz_im M48 := hS.1.1.1 hI0
    refine And.intro rfl ?_
    exact ⟨trivial, hS⟩
theorem v_X12_leaves {fr lo i : Nat} {own : String} (h1 : 3 + 1 ≤ fr) (h2 : 8 + (2 + 11) + 64 ≤ lo) (h3 : .methodLink own i yX12_leaves ∈ lw_tbl) : pz_cV fr lo own i k_X12_leaves :=
  pz_cVk (maxL := 2) (fr' := 3) (lo' := 64) 1 12 h_X12_leaves rfl ⟨by decide +kernel, by decide +kernel, by decide +kernel⟩ ⟨(pz_mt 1560 (by decide +kernel)), (pz_mt 1559 (by decide +kernel)), (pz_ms 65 (by decide +kernel)), (pz_mt 13 (by decide +kernel))⟩ (Or.inl ⟨TX12, 28, rfl⟩) (fun a M _ h => by
    have h : (match (generalizing := false) a with | [.inr (.inr (12, th)), .inl i] => pz_im M ∧ 0 ≤ i ∧ i < 12 | _ => False) := h
    split at h
    · exact ⟨_, _, rfl⟩
    · exact h.elim) h1 h2 h3
def k_X12_canMove : pz_C := (3, 1, fun a M => (match a with | [.inr (.inr (12, th)), .inl i, .inl j] => pz_im M ∧ 0 ≤ i ∧ j < 12 | _ => False), fun a M r M' => (match a, r with | [.inr (.inr (12, th)), .inl i, .inl j], some (.inl v) => (v = 0 ∨ v = 1) ∧ M = M' | _, _ => False))
abbrev ct_X12_canMove : List (Bool × Nat × pz_C) := [(true, 297, k_X12_isReady), (true, 62, k_X12_isOut), (true, 361, k_X12_canPay)]
set_option maxRecDepth 100000 in
set_option maxHeartbeats 4000000 in
theorem h_X12_canMove : pz_H yX12_canMove cX12_canMove 4 (some .boolean) k_X12_canMove 1 21 := by
  refine pz_mk (own := RX12) (tb := t_X12_canMove) (fl := pz_flf fl_RX12) (ci := pz_cif ci_RX12) (ct := pz_ctf ct_X12_canMove) (rz := true) (by decide +kernel) rfl t_X12_canMove_ok (pz_flk fl_RX12_ok) (pz_cik ci_RX12_ok) ?_ ?_ (Or.inr ⟨rfl, rfl⟩) ?_ ?_
  · exact fun i k' h => pz_ctk (l := ct_X12_canMove) (P := fun b i k => b = true → pz_cV 1 21 RX12 i k) (List.forall_mem_cons.mpr ⟨(fun _ => v_X12_isReady (by decide) (by decide) (pz_mt 1465 (by decide +kernel))), List.forall_mem_cons.mpr ⟨(fun _ => v_X12_isOut (by decide) (by decide) (pz_mt 1419 (by decide +kernel))), List.forall_mem_cons.mpr ⟨(fun _ => v_X12_canPay (by decide) (by decide) (pz_mt 1573 (by decide +kernel))), fun _ h => absurd h List.not_mem_nil⟩⟩⟩) true i k' h rfl
  · exact fun i k' h => pz_ctk (l := ct_X12_canMove) (P := fun b i k => b = false → (pz_cS 1 21 RX12 i k ∨ (k = pz_kac ∧ 1 ≤ 1 ∧ 60 ≤ 21 ∧ Cond.methodLink RX12 i arraycopyName ∈ pz_tbl))) (List.forall_mem_cons.mpr ⟨((fun z => by cases z)), List.forall_mem_cons.mpr ⟨((fun z => by cases z)), List.forall_mem_cons.mpr ⟨((fun z => by cases z)), fun _ h => absurd h List.not_mem_nil⟩⟩⟩) false i k' h rfl
  · intro a M hlen hpre
    obtain ⟨th, i, j, rfl, hpre⟩ : ∃ th i j, a = [.inr (.inr (12, th)), .inl i, .inl j] ∧ (pz_im M ∧ 0 ≤ i ∧ j < 12) := by
      have hpre : (match (generalizing := false) a with | [.inr (.inr (12, th)), .inl i, .inl j] => pz_im M ∧ 0 ≤ i ∧ j < 12 | _ => False) := hpre
      split at hpre
      · exact ⟨_, _, _, rfl, hpre⟩
      · exact hpre.elim
    exact Nat.le_of_ble_eq_true rfl
  · intro a M hlen hcan hM hpre Ok hgo
    obtain ⟨th, i, j, rfl, hpre⟩ : ∃ th i j, a = [.inr (.inr (12, th)), .inl i, .inl j] ∧ (pz_im M ∧ 0 ≤ i ∧ j < 12) := by
      have hpre : (match (generalizing := false) a with | [.inr (.inr (12, th)), .inl i, .inl j] => pz_im M ∧ 0 ≤ i ∧ j < 12 | _ => False) := hpre
      split at hpre
      · exact ⟨_, _, _, rfl, hpre⟩
      · exact hpre.elim
    obtain ⟨k_th, hc_th⟩ := pz_tlm hcan
    have k_th : pz_kd th = 12 ∧ th < 231 := k_th
    have R_th := pz_kd12 k_th.1
    subst R_th
    clear k_th
    obtain ⟨k_i, hc_i⟩ := pz_tlm hc_th
    have l_i : -2147483648 ≤ i := k_i.1
    have u_i : i ≤ 2147483647 := k_i.2
    obtain ⟨k_j, hc_j⟩ := pz_tlm hc_i
    have l_j : -2147483648 ≤ j := k_j.1
    have u_j : j ≤ 2147483647 := k_j.2
    have hI : pz_im M := hpre.1
    have L2 : ∀ (fu : Nat) (x3 : Int), (12 - x3).toNat < fu → (0 ≤ x3) → Ok 2 [some (.inr (.inr (12, 1))), some (.inl i), some (.inl j), some (.inl x3)] [] M := by
      intro fu
      induction fu with
      | zero => exact fun _ hn => absurd hn (Nat.not_lt_zero _)
      | succ fu ih2 =>
        intro x3 hn2 g2_0
        have L38 : ∀ (x3 : Int), (0 ≤ x3) → (x3 < 12) → ((12 - x3).toNat < fu + 1) → Ok 38 [some (.inr (.inr (12, 1))), some (.inl i), some (.inl j), some (.inl x3)] [] M := by
          intro x3 g38_0 g38_1 g38_2
          refine hgo (fun p => Nat.beq p 2 || Nat.beq p 38) 28 38 _ _ _ ?_
          intro v38 e38 a38 b38
          rw [pz_wi (by omega) (by omega)] at e38
          clear a38 b38
          exact ih2 _ (by omega) (by omega)
        refine hgo (fun p => Nat.beq p 2 || Nat.beq p 38) 28 2 _ _ _ ?_
        refine And.intro (fun h4 => ?_) (fun h4 => ?_)
        · skip
          refine And.intro (by omega) ?_
          refine And.intro rfl ?_
          exact ⟨by omega, rfl⟩
        · skip
          refine And.intro (And.intro hI (And.intro (by omega) (by omega))) ?_
          intro v9 M9 a9 b9 q9
          obtain ⟨q9, z9⟩ := q9
          subst z9
          clear a9 b9
          refine And.intro (fun h12 => ?_) (fun h12 => ?_)
          · skip
            clear h12 q9
            refine And.intro (by omega) ?_
            refine And.intro rfl ?_
            exact ⟨by omega, rfl⟩
          · skip
            clear h12 q9
            refine And.intro (And.intro hI (And.intro (by omega) (by omega))) ?_
            intro v17 M17 a17 b17 q17
            obtain ⟨q17, z17⟩ := q17
            subst z17
            clear a17 b17
            refine And.intro (fun h20 => ?_) (fun h20 => ?_)
            · skip
              clear h20 q17
              refine And.intro (by omega) ?_
              refine And.intro rfl ?_
              exact ⟨by omega, rfl⟩
            · skip
              clear h20 q17
              refine And.intro (fun h25 => ?_) (fun h25 => ?_)
              · skip
                exact L38 _ (by omega) (by omega) (by omega)
              · skip
                refine And.intro (And.intro hI (And.intro (by omega) (by omega))) ?_
                intro v30 M30 a30 b30 q30
                obtain ⟨q30, z30⟩ := q30
                subst z30
                clear a30 b30
                refine And.intro (fun h33 => ?_) (fun h33 => ?_)
                · skip
                  clear h33 q30
                  exact L38 _ (by omega) (by omega) (by omega)
                · skip
                  clear h33 q30
                  refine And.intro (by omega) ?_
                  refine And.intro rfl ?_
                  exact ⟨by omega, rfl⟩
    refine hgo (fun p => Nat.beq p 2 || Nat.beq p 38) 28 0 _ [] M ?_
    exact L2 _ _ (Nat.lt_succ_self _) (by omega)
theorem v_X12_canMove {fr lo i : Nat} {own : String} (h1 : 1 + 1 ≤ fr) (h2 : 8 + (4 + 11) + 21 ≤ lo) (h3 : .methodLink own i yX12_canMove ∈ lw_tbl) : pz_cV fr lo own i k_X12_canMove :=
  pz_cVk (maxL := 4) (fr' := 1) (lo' := 21) 2 12 h_X12_canMove rfl ⟨by decide +kernel, by decide +kernel, by decide +kernel⟩ ⟨(pz_mt 1572 (by decide +kernel)), (pz_mt 1571 (by decide +kernel)), (pz_ms 68 (by decide +kernel)), (pz_mt 13 (by decide +kernel))⟩ (Or.inl ⟨TX12, 28, rfl⟩) (fun a M _ h => by
    have h : (match (generalizing := false) a with | [.inr (.inr (12, th)), .inl i, .inl j] => pz_im M ∧ 0 ≤ i ∧ j < 12 | _ => False) := h
    split at h
    · exact ⟨_, _, rfl⟩
    · exact h.elim) h1 h2 h3
def k_X12_moves : pz_C := (1, 1, fun a M => (match a with | [.inr (.inr (12, th))] => pz_im M | _ => False), fun a M r M' => (match a, r with | [.inr (.inr (12, th))], some (.inl v) => (True) ∧ pz_sm M M' | _, _ => False))
abbrev ct_X12_moves : List (Bool × Nat × pz_C) := [(true, 291, k_X12_bridgedOnes), (true, 294, k_X12_endOf), (true, 364, k_X12_canMove), (true, 65, k_X12_hasMoved), (true, 323, k_X12_notes)]
set_option maxRecDepth 100000 in
set_option maxHeartbeats 4000000 in
theorem h_X12_moves : pz_H yX12_moves cX12_moves 8 (some .int) k_X12_moves 2 44 := by
  refine pz_mk (own := RX12) (tb := t_X12_moves) (fl := pz_flf fl_RX12) (ci := pz_cif ci_RX12) (ct := pz_ctf ct_X12_moves) (rz := false) (by decide +kernel) rfl t_X12_moves_ok (pz_flk fl_RX12_ok) (pz_cik ci_RX12_ok) ?_ ?_ (Or.inl ⟨rfl, rfl⟩) ?_ ?_
  · exact fun i k' h => pz_ctk (l := ct_X12_moves) (P := fun b i k => b = true → pz_cV 2 44 RX12 i k) (List.forall_mem_cons.mpr ⟨(fun _ => v_X12_bridgedOnes (by decide) (by decide) (pz_mt 1454 (by decide +kernel))), List.forall_mem_cons.mpr ⟨(fun _ => v_X12_endOf (by decide) (by decide) (pz_mt 1458 (by decide +kernel))), List.forall_mem_cons.mpr ⟨(fun _ => v_X12_canMove (by decide) (by decide) (pz_mt 1569 (by decide +kernel))), List.forall_mem_cons.mpr ⟨(fun _ => v_X12_hasMoved (by decide) (by decide) (pz_mt 1423 (by decide +kernel))), List.forall_mem_cons.mpr ⟨(fun _ => v_X12_notes (by decide) (by decide) (pz_mt 1483 (by decide +kernel))), fun _ h => absurd h List.not_mem_nil⟩⟩⟩⟩⟩) true i k' h rfl
  · exact fun i k' h => pz_ctk (l := ct_X12_moves) (P := fun b i k => b = false → (pz_cS 2 44 RX12 i k ∨ (k = pz_kac ∧ 1 ≤ 2 ∧ 60 ≤ 44 ∧ Cond.methodLink RX12 i arraycopyName ∈ pz_tbl))) (List.forall_mem_cons.mpr ⟨((fun z => by cases z)), List.forall_mem_cons.mpr ⟨((fun z => by cases z)), List.forall_mem_cons.mpr ⟨((fun z => by cases z)), List.forall_mem_cons.mpr ⟨((fun z => by cases z)), List.forall_mem_cons.mpr ⟨((fun z => by cases z)), fun _ h => absurd h List.not_mem_nil⟩⟩⟩⟩⟩) false i k' h rfl
  · intro a M hlen hpre
    obtain ⟨th, rfl, hpre⟩ : ∃ th, a = [.inr (.inr (12, th))] ∧ (pz_im M) := by
      have hpre : (match (generalizing := false) a with | [.inr (.inr (12, th))] => pz_im M | _ => False) := hpre
      split at hpre
      · exact ⟨_, rfl, hpre⟩
      · exact hpre.elim
    exact Nat.le_of_ble_eq_true rfl
  · intro a M hlen hcan hM hpre Ok hgo
    obtain ⟨th, rfl, hpre⟩ : ∃ th, a = [.inr (.inr (12, th))] ∧ (pz_im M) := by
      have hpre : (match (generalizing := false) a with | [.inr (.inr (12, th))] => pz_im M | _ => False) := hpre
      split at hpre
      · exact ⟨_, rfl, hpre⟩
      · exact hpre.elim
    obtain ⟨k_th, hc_th⟩ := pz_tlm hcan
    have k_th : pz_kd th = 12 ∧ th < 231 := k_th
    have R_th := pz_kd12 k_th.1
    subst R_th
    clear k_th
    have hI : pz_im M := hpre
    have hI0 := hI
    have hS : pz_sm M M := pz_sm.rf
    have L9 : ∀ (fo : Nat) (x1 : Int) (x2 : Int) (x3 : Int) (d4 : Option pz_V) (d5 : Option pz_V) (d6 : Option pz_V) (d7 : Option pz_V) (N9 : pz_M), (12 - x3).toNat < fo → (pz_sm M N9) → (0 ≤ x3) → Ok 9 [some (.inr (.inr (12, 1))), some (.inl x1), some (.inl x2), some (.inl x3), d4, d5, d6, d7] [] N9 := by
      intro fo
      induction fo with
      | zero => exact fun _ _ _ _ _ _ _ _ hn => absurd hn (Nat.not_lt_zero _)
      | succ fo ih9 =>
        intro x1 x2 x3 d4 d5 d6 d7 N9 hn9 hS g9_1
        have hI : pz_im N9 := hS.1.1.1 hI0
        have F88 := hS.2
        have I88 := hI0.1.1
        have L61 : ∀ (fu : Nat) (x1 : Int) (x2 : Int) (x3 : Int) (x4 : Int) (x5 : Int) (x6 : Int) (x7 : Int) (N61 : pz_M), (12 - x7).toNat < fu → (pz_sm M N61) → (0 ≤ x7) → (0 ≤ x3) → (x3 < M 60 88) → (M 60 88 ≤ 12) → (x4 < 12) → ((x5 = 1 ∧ x4 = M 60 88 - 1) ∨ (x5 = 0 ∧ x3 < x4)) → ((12 - x3).toNat < fo + 1) → Ok 61 [some (.inr (.inr (12, 1))), some (.inl x1), some (.inl x2), some (.inl x3), some (.inl x4), some (.inl x5), some (.inl x6), some (.inl x7)] [] N61 := by
          intro fu
          induction fu with
          | zero => exact fun _ _ _ _ _ _ _ _ hn => absurd hn (Nat.not_lt_zero _)
          | succ fu ih61 =>
            intro x1 x2 x3 x4 x5 x6 x7 N61 hn61 hS g61_1 g61_2 g61_3 g61_4 g61_5 g61_6 g61_7
            have hI : pz_im N61 := hS.1.1.1 hI0
            have F88 := hS.2
            have I88 := hI0.1.1
            have L124 : ∀ (x1 : Int) (x2 : Int) (x3 : Int) (x4 : Int) (x5 : Int) (x6 : Int) (x7 : Int) (N124 : pz_M), (pz_sm M N124) → (0 ≤ x7) → (x7 < 12) → (0 ≤ x3) → (x3 < M 60 88) → (M 60 88 ≤ 12) → (x4 < 12) → ((x5 = 1 ∧ x4 = M 60 88 - 1) ∨ (x5 = 0 ∧ x3 < x4)) → ((12 - x3).toNat < fo + 1) → ((12 - x7).toNat < fu + 1) → Ok 124 [some (.inr (.inr (12, 1))), some (.inl x1), some (.inl x2), some (.inl x3), some (.inl x4), some (.inl x5), some (.inl x6), some (.inl x7)] [] N124 := by
              intro x1 x2 x3 x4 x5 x6 x7 N124 hS g124_1 g124_2 g124_3 g124_4 g124_5 g124_6 g124_7 g124_8 g124_9
              have hI : pz_im N124 := hS.1.1.1 hI0
              have F88 := hS.2
              have I88 := hI0.1.1
              refine hgo (fun p => Nat.beq p 9 || Nat.beq p 61 || Nat.beq p 124) 84 124 _ _ _ ?_
              intro v124 e124 a124 b124
              rw [pz_wi (by omega) (by omega)] at e124
              clear a124 b124
              exact ih61 _ _ _ _ _ _ _ _ (by omega) hS (by omega) (by omega) (by omega) (by omega) (by omega) (by omega) (by omega)
            refine hgo (fun p => Nat.beq p 9 || Nat.beq p 61 || Nat.beq p 124) 84 61 _ _ _ ?_
            refine And.intro (fun h65 => ?_) (fun h65 => ?_)
            · skip
              refine And.intro (fun h132 => ?_) (fun h132 => ?_)
              · skip
                exact ih9 _ _ _ _ _ _ _ _ (by omega) hS (by omega)
              · skip
                refine pz_nrc (c := 60) rfl ?_
                refine And.intro (by omega) (And.intro (show _ < (1725 : Int) from by omega) ?_)
                intro v141 e141 a141 b141
                replace e141 : v141 = N61 60 88 := e141
                have I141 : 0 ≤ v141 ∧ v141 ≤ 12 := by
                  rw [e141]
                  exact hI.1.1
                clear a141 b141
                exact ih9 _ _ _ _ _ _ _ _ (by omega) hS (by omega)
            · skip
              refine And.intro (fun h70 => ?_) (fun h70 => ?_)
              · skip
                refine And.intro (fun h132 => ?_) (fun h132 => ?_)
                · skip
                  exact ih9 _ _ _ _ _ _ _ _ (by omega) hS (by omega)
                · skip
                  refine pz_nrc (c := 60) rfl ?_
                  refine And.intro (by omega) (And.intro (show _ < (1725 : Int) from by omega) ?_)
                  intro v141 e141 a141 b141
                  replace e141 : v141 = N61 60 88 := e141
                  have I141 : 0 ≤ v141 ∧ v141 ≤ 12 := by
                    rw [e141]
                    exact hI.1.1
                  clear a141 b141
                  exact ih9 _ _ _ _ _ _ _ _ (by omega) hS (by omega)
              · skip
                refine And.intro (And.intro hI (And.intro (by omega) (by omega))) ?_
                intro v76 M76 a76 b76 q76
                obtain ⟨q76, z76⟩ := q76
                subst z76
                clear a76 b76
                refine And.intro (fun h79 => ?_) (fun h79 => ?_)
                · skip
                  clear h79 q76
                  exact L124 _ _ _ _ _ _ _ _ hS (by omega) (by omega) (by omega) (by omega) (by omega) (by omega) (by omega) (by omega) (by omega)
                · skip
                  clear h79 q76
                  refine And.intro (fun h86 => ?_) (fun h86 => ?_)
                  · skip
                    refine pz_nrc (c := 60) rfl ?_
                    intro v105 e105 a105 b105
                    rw [pz_wi (by omega) (by omega)] at e105
                    clear a105 b105
                    refine pz_nrc (c := 60) rfl ?_
                    refine And.intro (by omega) (And.intro (show _ < (1725 : Int) from by omega) ?_)
                    intro v111 e111 a111 b111
                    replace e111 : v111 = N61 60 0 := e111
                    refine And.intro (by omega) (And.intro (show _ < (1725 : Int) from by omega) ?_)
                    intro M112 e112
                    have hS : pz_sm M M112 := by
                      rw [e112]
                      exact pz_sm_u hS (pz_mn_60 (by omega)) (fun h => absurd h.1 (by decide)) (by omega) (pz_iom_w1 (by omega) (by omega))
                    have hI : pz_im M112 := hS.1.1.1 hI0
                    clear e105
                    refine And.intro (hI) ?_
                    intro M118 q118
                    obtain ⟨q118, z118⟩ := q118
                    have hS : pz_sm M M118 := hS.tr z118
                    have hI : pz_im M118 := hS.1.1.1 hI0
                    intro v121 e121 a121 b121
                    exact L124 _ _ _ _ _ _ _ _ hS (by omega) (by omega) (by omega) (by omega) (by omega) (by omega) (by omega) (by omega) (by omega)
                  · skip
                    refine And.intro (fun h91 => ?_) (fun h91 => ?_)
                    · skip
                      refine pz_nrc (c := 60) rfl ?_
                      intro v105 e105 a105 b105
                      rw [pz_wi (by omega) (by omega)] at e105
                      clear a105 b105
                      refine pz_nrc (c := 60) rfl ?_
                      refine And.intro (by omega) (And.intro (show _ < (1725 : Int) from by omega) ?_)
                      intro v111 e111 a111 b111
                      replace e111 : v111 = N61 60 0 := e111
                      refine And.intro (by omega) (And.intro (show _ < (1725 : Int) from by omega) ?_)
                      intro M112 e112
                      have hS : pz_sm M M112 := by
                        rw [e112]
                        exact pz_sm_u hS (pz_mn_60 (by omega)) (fun h => absurd h.1 (by decide)) (by omega) (pz_iom_w1 (by omega) (by omega))
                      have hI : pz_im M112 := hS.1.1.1 hI0
                      clear e105
                      refine And.intro (hI) ?_
                      intro M118 q118
                      obtain ⟨q118, z118⟩ := q118
                      have hS : pz_sm M M118 := hS.tr z118
                      have hI : pz_im M118 := hS.1.1.1 hI0
                      intro v121 e121 a121 b121
                      exact L124 _ _ _ _ _ _ _ _ hS (by omega) (by omega) (by omega) (by omega) (by omega) (by omega) (by omega) (by omega) (by omega)
                    · skip
                      exact L124 _ _ _ _ _ _ _ _ hS (by omega) (by omega) (by omega) (by omega) (by omega) (by omega) (by omega) (by omega) (by omega)
        refine hgo (fun p => Nat.beq p 9 || Nat.beq p 61 || Nat.beq p 124) 84 9 _ _ _ ?_
        refine pz_nrc (c := 60) rfl ?_
        refine And.intro (by omega) (And.intro (show _ < (1725 : Int) from by omega) ?_)
        intro v16 e16 a16 b16
        replace e16 : v16 = N9 60 88 := e16
        have I16 : 0 ≤ v16 ∧ v16 ≤ 12 := by
          rw [e16]
          exact hI.1.1
        clear a16 b16
        refine And.intro (fun h17 => ?_) (fun h17 => ?_)
        · skip
          refine And.intro rfl ?_
          exact ⟨trivial, hS⟩
        · skip
          refine And.intro (And.intro hI (And.intro (by omega) (by omega))) ?_
          intro v23 M23 a23 b23 q23
          obtain ⟨q23, z23⟩ := q23
          subst z23
          refine pz_nrc (c := 60) rfl ?_
          refine And.intro (by omega) (And.intro (show _ < (1725 : Int) from by omega) ?_)
          intro v36 e36 a36 b36
          replace e36 : v36 = N9 60 88 := e36
          have I36 : 0 ≤ v36 ∧ v36 ≤ 12 := by
            rw [e36]
            exact hI.1.1
          clear a36 b36
          intro v38 e38 a38 b38
          rw [pz_wi (by omega) (by omega)] at e38
          clear a38 b38
          refine And.intro (fun h39 => ?_) (fun h39 => ?_)
          · skip
            refine And.intro (And.intro hI (And.intro (by omega) (by omega))) ?_
            intro v53 M53 a53 b53 q53
            obtain ⟨q53, z53⟩ := q53
            subst z53
            clear a53 b53
            exact L61 _ _ _ _ _ _ _ _ _ (Nat.lt_succ_self _) hS (by omega) (by omega) (by omega) (by omega) (by omega) (by omega) (by omega)
          · skip
            refine And.intro (And.intro hI (And.intro (by omega) (by omega))) ?_
            intro v53 M53 a53 b53 q53
            obtain ⟨q53, z53⟩ := q53
            subst z53
            clear a53 b53
            exact L61 _ _ _ _ _ _ _ _ _ (Nat.lt_succ_self _) hS (by omega) (by omega) (by omega) (by omega) (by omega) (by omega) (by omega)
    refine hgo (fun p => Nat.beq p 9 || Nat.beq p 61 || Nat.beq p 124) 84 0 _ [] M ?_
    refine And.intro (hI) ?_
    intro v1 M1 a1 b1 q1
    obtain ⟨q1, z1⟩ := q1
    subst z1
    exact L9 _ _ _ _ _ _ _ _ _ (Nat.lt_succ_self _) hS (by omega)
theorem v_X12_moves {fr lo i : Nat} {own : String} (h1 : 2 + 1 ≤ fr) (h2 : 8 + (8 + 11) + 44 ≤ lo) (h3 : .methodLink own i yX12_moves ∈ lw_tbl) : pz_cV fr lo own i k_X12_moves :=
  pz_cVk (maxL := 8) (fr' := 2) (lo' := 44) 0 12 h_X12_moves rfl ⟨by decide +kernel, by decide +kernel, by decide +kernel⟩ ⟨(pz_mt 1568 (by decide +kernel)), (pz_mt 1567 (by decide +kernel)), (pz_ms 67 (by decide +kernel)), (pz_mt 13 (by decide +kernel))⟩ (Or.inl ⟨TX12, 28, rfl⟩) (fun a M _ h => by
    have h : (match (generalizing := false) a with | [.inr (.inr (12, th))] => pz_im M | _ => False) := h
    split at h
    · exact ⟨_, _, rfl⟩
    · exact h.elim) h1 h2 h3
def k_X12_aDay : pz_C := (1, 1, fun a M => (match a with | [.inr (.inr (12, th))] => pz_im M | _ => False), fun a M r M' => (match a, r with | [.inr (.inr (12, th))], some (.inl v) => (True) ∧ pz_sm M M' | _, _ => False))
abbrev ct_X12_aDay : List (Bool × Nat × pz_C) := [(true, 367, k_X12_does), (true, 349, k_X12_canPaper), (true, 370, k_X12_readyOf), (true, 373, k_X12_falls), (true, 352, k_X12_getsReady), (true, 317, k_X12_isThere), (true, 376, k_X12_leaveOf), (true, 379, k_X12_leaves), (true, 382, k_X12_moves), (true, 288, k_X12_isBridged), (true, 385, k_X12_costOf), (false, 51, k_X12_greater)]
set_option maxRecDepth 100000 in
set_option maxHeartbeats 4000000 in
theorem h_X12_aDay : pz_H yX12_aDay cX12_aDay 3 (some .int) k_X12_aDay 7 162 := by
  refine pz_mk (own := RX12) (tb := t_X12_aDay) (fl := pz_flf fl_RX12) (ci := pz_cif ci_RX12) (ct := pz_ctf ct_X12_aDay) (rz := false) (by decide +kernel) rfl t_X12_aDay_ok (pz_flk fl_RX12_ok) (pz_cik ci_RX12_ok) ?_ ?_ (Or.inl ⟨rfl, rfl⟩) ?_ ?_
  · exact fun i k' h => pz_ctk (l := ct_X12_aDay) (P := fun b i k => b = true → pz_cV 7 162 RX12 i k) (List.forall_mem_cons.mpr ⟨(fun _ => v_X12_does (by decide) (by decide) (pz_mt 1535 (by decide +kernel))), List.forall_mem_cons.mpr ⟨(fun _ => v_X12_canPaper (by decide) (by decide) (pz_mt 1515 (by decide +kernel))), List.forall_mem_cons.mpr ⟨(fun _ => v_X12_readyOf (by decide) (by decide) (pz_mt 1539 (by decide +kernel))), List.forall_mem_cons.mpr ⟨(fun _ => v_X12_falls (by decide) (by decide) (pz_mt 1543 (by decide +kernel))), List.forall_mem_cons.mpr ⟨(fun _ => v_X12_getsReady (by decide) (by decide) (pz_mt 1519 (by decide +kernel))), List.forall_mem_cons.mpr ⟨(fun _ => v_X12_isThere (by decide) (by decide) (pz_mt 1415 (by decide +kernel))), List.forall_mem_cons.mpr ⟨(fun _ => v_X12_leaveOf (by decide) (by decide) (pz_mt 1553 (by decide +kernel))), List.forall_mem_cons.mpr ⟨(fun _ => v_X12_leaves (by decide) (by decide) (pz_mt 1557 (by decide +kernel))), List.forall_mem_cons.mpr ⟨(fun _ => v_X12_moves (by decide) (by decide) (pz_mt 1565 (by decide +kernel))), List.forall_mem_cons.mpr ⟨(fun _ => v_X12_isBridged (by decide) (by decide) (pz_mt 1450 (by decide +kernel))), List.forall_mem_cons.mpr ⟨(fun _ => v_X12_costOf (by decide) (by decide) (pz_mt 1577 (by decide +kernel))), List.forall_mem_cons.mpr ⟨((fun z => by cases z)), fun _ h => absurd h List.not_mem_nil⟩⟩⟩⟩⟩⟩⟩⟩⟩⟩⟩⟩) true i k' h rfl
  · exact fun i k' h => pz_ctk (l := ct_X12_aDay) (P := fun b i k => b = false → (pz_cS 7 162 RX12 i k ∨ (k = pz_kac ∧ 1 ≤ 7 ∧ 60 ≤ 162 ∧ Cond.methodLink RX12 i arraycopyName ∈ pz_tbl))) (List.forall_mem_cons.mpr ⟨((fun z => by cases z)), List.forall_mem_cons.mpr ⟨((fun z => by cases z)), List.forall_mem_cons.mpr ⟨((fun z => by cases z)), List.forall_mem_cons.mpr ⟨((fun z => by cases z)), List.forall_mem_cons.mpr ⟨((fun z => by cases z)), List.forall_mem_cons.mpr ⟨((fun z => by cases z)), List.forall_mem_cons.mpr ⟨((fun z => by cases z)), List.forall_mem_cons.mpr ⟨((fun z => by cases z)), List.forall_mem_cons.mpr ⟨((fun z => by cases z)), List.forall_mem_cons.mpr ⟨((fun z => by cases z)), List.forall_mem_cons.mpr ⟨((fun z => by cases z)), List.forall_mem_cons.mpr ⟨(fun _ => Or.inl (s_X12_greater (by decide) (by decide) (Or.inl (pz_mt 1447 (by decide +kernel))))), fun _ h => absurd h List.not_mem_nil⟩⟩⟩⟩⟩⟩⟩⟩⟩⟩⟩⟩) false i k' h rfl
  · intro a M hlen hpre
    obtain ⟨th, rfl, hpre⟩ : ∃ th, a = [.inr (.inr (12, th))] ∧ (pz_im M) := by
      have hpre : (match (generalizing := false) a with | [.inr (.inr (12, th))] => pz_im M | _ => False) := hpre
      split at hpre
      · exact ⟨_, rfl, hpre⟩
      · exact hpre.elim
    exact Nat.le_of_ble_eq_true rfl
  · intro a M hlen hcan hM hpre Ok hgo
    obtain ⟨th, rfl, hpre⟩ : ∃ th, a = [.inr (.inr (12, th))] ∧ (pz_im M) := by
      have hpre : (match (generalizing := false) a with | [.inr (.inr (12, th))] => pz_im M | _ => False) := hpre
      split at hpre
      · exact ⟨_, rfl, hpre⟩
      · exact hpre.elim
    obtain ⟨k_th, hc_th⟩ := pz_tlm hcan
    have k_th : pz_kd th = 12 ∧ th < 231 := k_th
    have R_th := pz_kd12 k_th.1
    subst R_th
    clear k_th
    have hI : pz_im M := hpre
    have hI0 := hI
    have hS : pz_sm M M := pz_sm.rf
    have L156 : ∀ (fu : Nat) (x1 : Int) (x2 : Int) (N156 : pz_M), (12 - x2).toNat < fu → (pz_sm M N156) → (0 ≤ x2) → Ok 156 [some (.inr (.inr (12, 1))), some (.inl x1), some (.inl x2)] [] N156 := by
      intro fu
      induction fu with
      | zero => exact fun _ _ _ hn => absurd hn (Nat.not_lt_zero _)
      | succ fu ih156 =>
        intro x1 x2 N156 hn156 hS g156_1
        have hI : pz_im N156 := hS.1.1.1 hI0
        have L213 : ∀ (x1 : Int) (x2 : Int) (N213 : pz_M), (pz_sm M N213) → (0 ≤ x2) → (x2 < 12) → ((12 - x2).toNat < fu + 1) → Ok 213 [some (.inr (.inr (12, 1))), some (.inl x1), some (.inl x2)] [] N213 := by
          intro x1 x2 N213 hS g213_1 g213_2 g213_3
          have hI : pz_im N213 := hS.1.1.1 hI0
          refine hgo (fun p => Nat.beq p 2 || Nat.beq p 45 || Nat.beq p 53 || Nat.beq p 89 || Nat.beq p 97 || Nat.beq p 125 || Nat.beq p 143 || Nat.beq p 156 || Nat.beq p 213) 133 213 _ _ _ ?_
          intro v213 e213 a213 b213
          rw [pz_wi (by omega) (by omega)] at e213
          clear a213 b213
          exact ih156 _ _ _ (by omega) hS (by omega)
        refine hgo (fun p => Nat.beq p 2 || Nat.beq p 45 || Nat.beq p 53 || Nat.beq p 89 || Nat.beq p 97 || Nat.beq p 125 || Nat.beq p 143 || Nat.beq p 156 || Nat.beq p 213) 133 156 _ _ _ ?_
        refine pz_nrc (c := 60) rfl ?_
        refine And.intro (by omega) (And.intro (show _ < (1725 : Int) from by omega) ?_)
        intro v163 e163 a163 b163
        replace e163 : v163 = N156 60 88 := e163
        have I163 : 0 ≤ v163 ∧ v163 ≤ 12 := by
          rw [e163]
          exact hI.1.1
        clear a163 b163
        refine And.intro (fun h164 => ?_) (fun h164 => ?_)
        · skip
          refine pz_nrc (c := 60) rfl ?_
          refine And.intro (by omega) (And.intro (show _ < (1725 : Int) from by omega) ?_)
          intro v225 e225 a225 b225
          replace e225 : v225 = N156 60 0 := e225
          intro v227 e227 a227 b227
          refine And.intro (by omega) (And.intro (show _ < (1725 : Int) from by omega) ?_)
          intro M228 e228
          have hS : pz_sm M M228 := by
            rw [e228]
            exact pz_sm_u hS (pz_mn_60 (by omega)) (fun h => absurd h.1 (by decide)) (by omega) (pz_iom_w0 (by omega))
          have hI : pz_im M228 := hS.1.1.1 hI0
          clear e227
          refine And.intro rfl ?_
          exact ⟨trivial, hS⟩
        · skip
          refine And.intro (And.intro hI (And.intro (by omega) (by omega))) ?_
          intro v169 M169 a169 b169 q169
          obtain ⟨q169, z169⟩ := q169
          subst z169
          clear a169 b169
          refine And.intro (fun h172 => ?_) (fun h172 => ?_)
          · skip
            clear h172 q169
            exact L213 _ _ _ hS (by omega) (by omega) (by omega)
          · skip
            clear h172 q169
            refine And.intro (hI) ?_
            intro v177 M177 a177 b177 q177
            obtain ⟨q177, z177⟩ := q177
            subst z177
            clear a177 b177
            refine And.intro (fun h180 => ?_) (fun h180 => ?_)
            · skip
              replace q177 := q177.resolve_left (fun z => absurd (z.1.symm.trans h180) (by decide))
              clear h180 q177
              exact L213 _ _ _ hS (by omega) (by omega) (by omega)
            · skip
              replace q177 := q177.resolve_right h180
              clear h180
              refine pz_nrc (c := 60) rfl ?_
              intro v190 e190 a190 b190
              rw [pz_wi (by omega) (by omega)] at e190
              clear a190 b190
              refine pz_nrc (c := 60) rfl ?_
              intro v201 e201 a201 b201
              rw [pz_wi (by omega) (by omega)] at e201
              clear a201 b201
              refine And.intro (by omega) (And.intro (show _ < (1725 : Int) from by omega) ?_)
              intro v202 e202 a202 b202
              refine And.intro (And.intro hI (And.intro (by omega) (by omega))) ?_
              intro v205 M205 a205 b205 q205
              obtain ⟨q205, z205⟩ := q205
              have hS : pz_sm M M205 := hS.tr z205
              have hI : pz_im M205 := hS.1.1.1 hI0
              intro v208 e208 a208 b208
              refine And.intro (True.intro) ?_
              intro v209 M209 a209 b209 q209
              obtain ⟨q209, z209⟩ := q209
              subst z209
              replace q209 : (-9999) ≤ v209 ∧ v208 ≤ v209 := by omega
              refine And.intro (by omega) (And.intro (show _ < (1725 : Int) from by omega) ?_)
              intro M212 e212
              have hS : pz_sm M M212 := by
                rw [e212]
                exact pz_sm_u hS (pz_mn_60 (by omega)) (fun h => absurd h.1 (by decide)) (by omega) (pz_iom_w1 (by omega) (by omega))
              have hI : pz_im M212 := hS.1.1.1 hI0
              clear e190
              exact L213 _ _ _ hS (by omega) (by omega) (by omega)
    have L97 : ∀ (fu : Nat) (x1 : Int) (d2 : Option pz_V) (N97 : pz_M), (12 - x1).toNat < fu → (pz_sm M N97) → (0 ≤ x1) → Ok 97 [some (.inr (.inr (12, 1))), some (.inl x1), d2] [] N97 := by
      intro fu
      induction fu with
      | zero => exact fun _ _ _ hn => absurd hn (Nat.not_lt_zero _)
      | succ fu ih97 =>
        intro x1 d2 N97 hn97 hS g97_1
        have hI : pz_im N97 := hS.1.1.1 hI0
        have L143 : ∀ (x1 : Int) (x2 : Int) (N143 : pz_M), (pz_sm M N143) → (0 ≤ x1) → (x1 < 12) → ((12 - x1).toNat < fu + 1) → Ok 143 [some (.inr (.inr (12, 1))), some (.inl x1), some (.inl x2)] [] N143 := by
          intro x1 x2 N143 hS g143_1 g143_2 g143_3
          have hI : pz_im N143 := hS.1.1.1 hI0
          refine hgo (fun p => Nat.beq p 2 || Nat.beq p 45 || Nat.beq p 53 || Nat.beq p 89 || Nat.beq p 97 || Nat.beq p 125 || Nat.beq p 143 || Nat.beq p 156 || Nat.beq p 213) 133 143 _ _ _ ?_
          intro v143 e143 a143 b143
          rw [pz_wi (by omega) (by omega)] at e143
          clear a143 b143
          exact ih97 _ _ _ (by omega) hS (by omega)
        have L125 : ∀ (x1 : Int) (d2 : Option pz_V) (s0 : Int) (N125 : pz_M), (pz_sm M N125) → (0 ≤ x1) → (x1 < 12) → ((12 - x1).toNat < fu + 1) → Ok 125 [some (.inr (.inr (12, 1))), some (.inl x1), d2] [.inl s0] N125 := by
          intro x1 d2 s0 N125 hS g125_1 g125_2 g125_3
          have hI : pz_im N125 := hS.1.1.1 hI0
          refine hgo (fun p => Nat.beq p 2 || Nat.beq p 45 || Nat.beq p 53 || Nat.beq p 89 || Nat.beq p 97 || Nat.beq p 125 || Nat.beq p 143 || Nat.beq p 156 || Nat.beq p 213) 133 125 _ _ _ ?_
          refine And.intro (fun h127 => ?_) (fun h127 => ?_)
          · skip
            exact L143 _ _ _ hS (by omega) (by omega) (by omega)
          · skip
            refine And.intro (hI) ?_
            intro v132 M132 a132 b132 q132
            obtain ⟨q132, z132⟩ := q132
            have hS : pz_sm M M132 := hS.tr z132
            have hI : pz_im M132 := hS.1.1.1 hI0
            clear a132 b132
            refine And.intro (fun h135 => ?_) (fun h135 => ?_)
            · skip
              clear h135 q132
              exact L143 _ _ _ hS (by omega) (by omega) (by omega)
            · skip
              clear h135 q132
              refine And.intro (And.intro hI (And.intro (by omega) (by omega))) ?_
              intro M140 q140
              obtain ⟨q140, z140⟩ := q140
              have hS : pz_sm M M140 := hS.tr z140
              have hI : pz_im M140 := hS.1.1.1 hI0
              exact L143 _ _ _ hS (by omega) (by omega) (by omega)
        refine hgo (fun p => Nat.beq p 2 || Nat.beq p 45 || Nat.beq p 53 || Nat.beq p 89 || Nat.beq p 97 || Nat.beq p 125 || Nat.beq p 143 || Nat.beq p 156 || Nat.beq p 213) 133 97 _ _ _ ?_
        refine pz_nrc (c := 60) rfl ?_
        refine And.intro (by omega) (And.intro (show _ < (1725 : Int) from by omega) ?_)
        intro v104 e104 a104 b104
        replace e104 : v104 = N97 60 88 := e104
        have I104 : 0 ≤ v104 ∧ v104 ≤ 12 := by
          rw [e104]
          exact hI.1.1
        clear a104 b104
        refine And.intro (fun h105 => ?_) (fun h105 => ?_)
        · skip
          refine And.intro (hI) ?_
          intro v150 M150 a150 b150 q150
          obtain ⟨q150, z150⟩ := q150
          have hS : pz_sm M M150 := hS.tr z150
          have hI : pz_im M150 := hS.1.1.1 hI0
          exact L156 _ _ _ _ (Nat.lt_succ_self _) hS (by omega)
        · skip
          refine And.intro (hI) ?_
          intro v110 M110 a110 b110 q110
          obtain ⟨q110, z110⟩ := q110
          subst z110
          clear a110 b110
          refine And.intro (fun h113 => ?_) (fun h113 => ?_)
          · skip
            replace q110 := q110.resolve_left (fun z => absurd (z.1.symm.trans h113) (by decide))
            clear h113 q110
            exact L125 _ _ _ _ hS (by omega) (by omega) (by omega)
          · skip
            replace q110 := q110.resolve_right h113
            clear h113
            refine And.intro (And.intro hI (And.intro (by omega) (by omega))) ?_
            intro v118 M118 a118 b118 q118
            obtain ⟨q118, z118⟩ := q118
            have hS : pz_sm M M118 := hS.tr z118
            have hI : pz_im M118 := hS.1.1.1 hI0
            exact L125 _ _ _ _ hS (by omega) (by omega) (by omega)
    have L53 : ∀ (fu : Nat) (x1 : Int) (d2 : Option pz_V) (N53 : pz_M), (12 - x1).toNat < fu → (pz_sm M N53) → (0 ≤ x1) → Ok 53 [some (.inr (.inr (12, 1))), some (.inl x1), d2] [] N53 := by
      intro fu
      induction fu with
      | zero => exact fun _ _ _ hn => absurd hn (Nat.not_lt_zero _)
      | succ fu ih53 =>
        intro x1 d2 N53 hn53 hS g53_1
        have hI : pz_im N53 := hS.1.1.1 hI0
        have L89 : ∀ (x1 : Int) (d2 : Option pz_V) (N89 : pz_M), (pz_sm M N89) → (0 ≤ x1) → (x1 < 12) → ((12 - x1).toNat < fu + 1) → Ok 89 [some (.inr (.inr (12, 1))), some (.inl x1), d2] [] N89 := by
          intro x1 d2 N89 hS g89_1 g89_2 g89_3
          have hI : pz_im N89 := hS.1.1.1 hI0
          refine hgo (fun p => Nat.beq p 2 || Nat.beq p 45 || Nat.beq p 53 || Nat.beq p 89 || Nat.beq p 97 || Nat.beq p 125 || Nat.beq p 143 || Nat.beq p 156 || Nat.beq p 213) 133 89 _ _ _ ?_
          intro v89 e89 a89 b89
          rw [pz_wi (by omega) (by omega)] at e89
          clear a89 b89
          exact ih53 _ _ _ (by omega) hS (by omega)
        refine hgo (fun p => Nat.beq p 2 || Nat.beq p 45 || Nat.beq p 53 || Nat.beq p 89 || Nat.beq p 97 || Nat.beq p 125 || Nat.beq p 143 || Nat.beq p 156 || Nat.beq p 213) 133 53 _ _ _ ?_
        refine pz_nrc (c := 60) rfl ?_
        refine And.intro (by omega) (And.intro (show _ < (1725 : Int) from by omega) ?_)
        intro v60 e60 a60 b60
        replace e60 : v60 = N53 60 88 := e60
        have I60 : 0 ≤ v60 ∧ v60 ≤ 12 := by
          rw [e60]
          exact hI.1.1
        clear a60 b60
        refine And.intro (fun h61 => ?_) (fun h61 => ?_)
        · skip
          exact L97 _ _ _ _ (Nat.lt_succ_self _) hS (by omega)
        · skip
          refine And.intro (hI) ?_
          intro v66 M66 a66 b66 q66
          obtain ⟨q66, z66⟩ := q66
          subst z66
          clear a66 b66
          refine And.intro (fun h69 => ?_) (fun h69 => ?_)
          · skip
            replace q66 := q66.resolve_left (fun z => absurd (z.1.symm.trans h69) (by decide))
            clear h69 q66
            exact L89 _ _ _ hS (by omega) (by omega) (by omega)
          · skip
            replace q66 := q66.resolve_right h69
            clear h69
            refine And.intro (And.intro hI (And.intro (by omega) (by omega))) ?_
            intro v75 M75 a75 b75 q75
            obtain ⟨q75, z75⟩ := q75
            have hS : pz_sm M M75 := hS.tr z75
            have hI : pz_im M75 := hS.1.1.1 hI0
            refine And.intro (hI) ?_
            intro v78 M78 a78 b78 q78
            obtain ⟨q78, z78⟩ := q78
            have hS : pz_sm M M78 := hS.tr z78
            have hI : pz_im M78 := hS.1.1.1 hI0
            clear a78 b78
            refine And.intro (fun h81 => ?_) (fun h81 => ?_)
            · skip
              clear h81 q78
              exact L89 _ _ _ hS (by omega) (by omega) (by omega)
            · skip
              clear h81 q78
              refine And.intro (And.intro hI (And.intro (by omega) (by omega))) ?_
              intro M86 q86
              obtain ⟨q86, z86⟩ := q86
              have hS : pz_sm M M86 := hS.tr z86
              have hI : pz_im M86 := hS.1.1.1 hI0
              exact L89 _ _ _ hS (by omega) (by omega) (by omega)
    have L2 : ∀ (fu : Nat) (x1 : Int) (d2 : Option pz_V) (N2 : pz_M), (16 - x1).toNat < fu → (pz_sm M N2) → (0 ≤ x1) → Ok 2 [some (.inr (.inr (12, 1))), some (.inl x1), d2] [] N2 := by
      intro fu
      induction fu with
      | zero => exact fun _ _ _ hn => absurd hn (Nat.not_lt_zero _)
      | succ fu ih2 =>
        intro x1 d2 N2 hn2 hS g2_1
        have hI : pz_im N2 := hS.1.1.1 hI0
        have L45 : ∀ (x1 : Int) (d2 : Option pz_V) (N45 : pz_M), (pz_sm M N45) → (0 ≤ x1) → (x1 < 16) → ((16 - x1).toNat < fu + 1) → Ok 45 [some (.inr (.inr (12, 1))), some (.inl x1), d2] [] N45 := by
          intro x1 d2 N45 hS g45_1 g45_2 g45_3
          have hI : pz_im N45 := hS.1.1.1 hI0
          refine hgo (fun p => Nat.beq p 2 || Nat.beq p 45 || Nat.beq p 53 || Nat.beq p 89 || Nat.beq p 97 || Nat.beq p 125 || Nat.beq p 143 || Nat.beq p 156 || Nat.beq p 213) 133 45 _ _ _ ?_
          intro v45 e45 a45 b45
          rw [pz_wi (by omega) (by omega)] at e45
          clear a45 b45
          exact ih2 _ _ _ (by omega) hS (by omega)
        refine hgo (fun p => Nat.beq p 2 || Nat.beq p 45 || Nat.beq p 53 || Nat.beq p 89 || Nat.beq p 97 || Nat.beq p 125 || Nat.beq p 143 || Nat.beq p 156 || Nat.beq p 213) 133 2 _ _ _ ?_
        refine pz_nrc (c := 60) rfl ?_
        refine And.intro (by omega) (And.intro (show _ < (1725 : Int) from by omega) ?_)
        intro v9 e9 a9 b9
        replace e9 : v9 = N2 60 90 := e9
        have I9 : 0 ≤ v9 ∧ v9 ≤ 16 := by
          rw [e9]
          exact hI.1.2.2.1
        clear a9 b9
        refine And.intro (fun h10 => ?_) (fun h10 => ?_)
        · skip
          exact L53 _ _ _ _ (Nat.lt_succ_self _) hS (by omega)
        · skip
          refine pz_nrc (c := 60) rfl ?_
          intro v22 e22 a22 b22
          rw [pz_wi (by omega) (by omega)] at e22
          clear a22 b22
          intro v23 e23 a23 b23
          rw [pz_wi (by omega) (by omega)] at e23
          clear a23 b23
          refine And.intro (by omega) (And.intro (show _ < (1725 : Int) from by omega) ?_)
          intro v24 e24 a24 b24
          refine pz_nrc (c := 60) rfl ?_
          refine And.intro (by omega) (And.intro (show _ < (1725 : Int) from by omega) ?_)
          intro v30 e30 a30 b30
          replace e30 : v30 = N2 60 0 := e30
          refine And.intro (fun h31 => ?_) (fun h31 => ?_)
          · skip
            exact L45 _ _ _ hS (by omega) (by omega) (by omega)
          · skip
            intro v40 e40 a40 b40
            rw [pz_wi (by omega) (by omega)] at e40
            clear a40 b40
            intro v41 e41 a41 b41
            rw [pz_wi (by omega) (by omega)] at e41
            clear a41 b41
            refine And.intro (And.intro hI (And.intro (by omega) (by omega))) ?_
            intro M42 q42
            obtain ⟨q42, z42⟩ := q42
            have hS : pz_sm M M42 := hS.tr z42
            have hI : pz_im M42 := hS.1.1.1 hI0
            exact L45 _ _ _ hS (by omega) (by omega) (by omega)
    refine hgo (fun p => Nat.beq p 2 || Nat.beq p 45 || Nat.beq p 53 || Nat.beq p 89 || Nat.beq p 97 || Nat.beq p 125 || Nat.beq p 143 || Nat.beq p 156 || Nat.beq p 213) 133 0 _ [] M ?_
    exact L2 _ _ _ _ (Nat.lt_succ_self _) hS (by omega)
theorem v_X12_aDay {fr lo i : Nat} {own : String} (h1 : 7 + 1 ≤ fr) (h2 : 8 + (3 + 11) + 162 ≤ lo) (h3 : .methodLink own i yX12_aDay ∈ lw_tbl) : pz_cV fr lo own i k_X12_aDay :=
  pz_cVk (maxL := 3) (fr' := 7) (lo' := 162) 0 12 h_X12_aDay rfl ⟨by decide +kernel, by decide +kernel, by decide +kernel⟩ ⟨(pz_mt 1534 (by decide +kernel)), (pz_mt 1533 (by decide +kernel)), (pz_ms 59 (by decide +kernel)), (pz_mt 13 (by decide +kernel))⟩ (Or.inl ⟨TX12, 28, rfl⟩) (fun a M _ h => by
    have h : (match (generalizing := false) a with | [.inr (.inr (12, th))] => pz_im M | _ => False) := h
    split at h
    · exact ⟨_, _, rfl⟩
    · exact h.elim) h1 h2 h3
