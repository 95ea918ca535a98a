noncomputable def k3_X12_notes : pz_C := (4, 0, fun a M => (match a with | [.inr (.inr (12, th)), .inl x, .inl y, .inl z] => pz_im M | _ => False), fun a M r M' => (match a, r with | [.inr (.inr (12, th)), .inl x, .inl y, .inl z], none => (M' 60 = sd_note (sd_Tr M) (M 60) x y z) ∧ pz_rl pz_QD M M' | _, _ => False))
noncomputable abbrev ct3_X12_notes : List (Bool × Nat × pz_C) := []
set_option maxRecDepth 100000 in
set_option maxHeartbeats 4000000 in
theorem h3_X12_notes : pz_H yX12_notes cX12_notes 5 none k3_X12_notes 0 0 := by
  refine pz_mk (own := RX12) (tb := t_X12_notes) (fl := pz_flf fl_RX12) (ci := pz_cif ci_RX12) (ct := pz_ctf ct3_X12_notes) (rz := false) (by decide +kernel) rfl t_X12_notes_ok (pz_flk fl_RX12_ok) (pz_cik ci_RX12_ok) ?_ ?_ (rfl) ?_ ?_
  · exact fun i k' h => pz_ctk (l := ct3_X12_notes) (P := fun b i k => b = true → pz_cV 0 0 RX12 i k) (fun _ h => absurd h List.not_mem_nil) true i k' h rfl
  · exact fun i k' h => pz_ctk (l := ct3_X12_notes) (P := fun b i k => b = false → (pz_cS 0 0 RX12 i k ∨ (k = pz_kac ∧ 1 ≤ 0 ∧ 60 ≤ 0 ∧ Cond.methodLink RX12 i arraycopyName ∈ pz_tbl))) (fun _ h => absurd h List.not_mem_nil) false i k' h rfl
  · intro a M hlen hpre
    obtain ⟨th, x, y, z, rfl, hpre⟩ : ∃ th x y z, a = [.inr (.inr (12, th)), .inl x, .inl y, .inl z] ∧ (pz_im M) := by
      have hpre : (match (generalizing := false) a with | [.inr (.inr (12, th)), .inl x, .inl y, .inl z] => pz_im M | _ => False) := hpre
      split at hpre
      · exact ⟨_, _, _, _, rfl, hpre⟩
      · exact hpre.elim
    exact Nat.le_of_ble_eq_true rfl
  · intro a M hlen hcan hM hpre Ok hgo
    obtain ⟨th, x, y, z, rfl, hpre⟩ : ∃ th x y z, a = [.inr (.inr (12, th)), .inl x, .inl y, .inl z] ∧ (pz_im M) := by
      have hpre : (match (generalizing := false) a with | [.inr (.inr (12, th)), .inl x, .inl y, .inl z] => pz_im M | _ => False) := hpre
      split at hpre
      · exact ⟨_, _, _, _, rfl, hpre⟩
      · exact hpre.elim
    obtain ⟨k_th, hc_th⟩ := pz_tlm hcan
    have k_th : pz_kd th = 12 ∧ th < 231 := k_th
    have R_th := pz_kd12 k_th.1
    subst R_th
    clear k_th
    obtain ⟨k_x, hc_x⟩ := pz_tlm hc_th
    have l_x : -2147483648 ≤ x := k_x.1
    have u_x : x ≤ 2147483647 := k_x.2
    obtain ⟨k_y, hc_y⟩ := pz_tlm hc_x
    have l_y : -2147483648 ≤ y := k_y.1
    have u_y : y ≤ 2147483647 := k_y.2
    obtain ⟨k_z, hc_z⟩ := pz_tlm hc_y
    have l_z : -2147483648 ≤ z := k_z.1
    have u_z : z ≤ 2147483647 := k_z.2
    have hI : pz_im M := hpre
    have hI0 := hI
    have hS : pz_rl pz_QD M M := pz_rl.rf
    refine hgo (fun _ => false) 59 0 _ [] M ?_
    intro v1 e1 a1 b1
    refine And.intro (fun h4 => ?_) (fun h4 => ?_)
    · skip
      refine And.intro rfl ?_
      refine ⟨?_, hS⟩
      unfold sd_Tr
      first
        | rw [sd_note_n (Or.inl (decide_eq_false (by omega)))]
        | rw [sd_note_n (Or.inr (by omega))]
    · skip
      refine pz_nrc (c := 60) rfl ?_
      refine And.intro (by omega) (And.intro (show _ < (1725 : Int) from by omega) ?_)
      intro v12 e12 a12 b12
      replace e12 : v12 = M 60 3 := e12
      have I12 : 0 ≤ v12 ∧ v12 ≤ 150 := by
        rw [e12]
        exact hI.1.2.2.2.2
      clear a12 b12
      refine And.intro (fun h16 => ?_) (fun h16 => ?_)
      · skip
        replace h16 : v12 ≤ 149 := by omega
        refine pz_nrc (c := 60) rfl ?_
        refine And.intro (by omega) (And.intro (show _ < (1725 : Int) from by omega) ?_)
        intro v29 e29 a29 b29
        replace e29 : v29 = M 60 3 := e29
        have I29 : 0 ≤ v29 ∧ v29 ≤ 150 := by
          rw [e29]
          exact hI.1.2.2.2.2
        clear a29 b29
        intro v30 e30 a30 b30
        rw [pz_wi (by omega) (by omega)] at e30
        clear a30 b30
        intro v31 e31 a31 b31
        rw [pz_wi (by omega) (by omega)] at e31
        clear a31 b31
        refine pz_nrc (c := 60) rfl ?_
        refine pz_nrc (c := 60) rfl ?_
        refine And.intro (by omega) (And.intro (show _ < (1725 : Int) from by omega) ?_)
        intro v45 e45 a45 b45
        replace e45 : v45 = M 60 0 := e45
        refine And.intro (by omega) (And.intro (show _ < (1725 : Int) from by omega) ?_)
        intro M46 e46
        have hS : pz_rl pz_QD M M46 := by
          rw [e46]
          exact pz_rl_u hS (by unfold pz_QD; omega) (pz_iom_w2 (by omega) (by omega))
        have hI : pz_im M46 := hS.1 hI0
        have T46_0 : M46 60 3 = M 60 3 := by
          rw [e46]
          exact (pz_une (by omega))
        refine pz_nrc (c := 60) rfl ?_
        intro v54 e54 a54 b54
        rw [pz_wi (by omega) (by omega)] at e54
        clear a54 b54
        refine And.intro (by omega) (And.intro (show _ < (1725 : Int) from by omega) ?_)
        intro M56 e56
        have hS : pz_rl pz_QD M M56 := by
          rw [e56]
          exact pz_rl_u hS (by unfold pz_QD; omega) (pz_iom_w2 (by omega) (by omega))
        have hI : pz_im M56 := hS.1 hI0
        have T56_0 : M56 60 3 = M 60 3 := by
          rw [e56]
          exact (pz_une (by omega)).trans T46_0
        clear T46_0
        refine pz_nrc (c := 60) rfl ?_
        intro v64 e64 a64 b64
        rw [pz_wi (by omega) (by omega)] at e64
        clear a64 b64
        refine And.intro (by omega) (And.intro (show _ < (1725 : Int) from by omega) ?_)
        intro M66 e66
        have hS : pz_rl pz_QD M M66 := by
          rw [e66]
          exact pz_rl_u hS (by unfold pz_QD; omega) (pz_iom_w2 (by omega) (by omega))
        have hI : pz_im M66 := hS.1 hI0
        have T66_0 : M66 60 3 = M 60 3 := by
          rw [e66]
          exact (pz_une (by omega)).trans T56_0
        clear T56_0
        refine pz_nrc (c := 60) rfl ?_
        intro v74 e74 a74 b74
        rw [pz_wi (by omega) (by omega)] at e74
        clear a74 b74
        refine And.intro (by omega) (And.intro (show _ < (1725 : Int) from by omega) ?_)
        intro M76 e76
        have hS : pz_rl pz_QD M M76 := by
          rw [e76]
          exact pz_rl_u hS (by unfold pz_QD; omega) (pz_iom_w2 (by omega) (by omega))
        have hI : pz_im M76 := hS.1 hI0
        have T76_0 : M76 60 3 = M 60 3 := by
          rw [e76]
          exact (pz_une (by omega)).trans T66_0
        clear T66_0
        refine pz_nrc (c := 60) rfl ?_
        refine And.intro (by omega) (And.intro (show _ < (1725 : Int) from by omega) ?_)
        intro v83 e83 a83 b83
        replace e83 : v83 = M76 60 3 := e83
        have I83 : 0 ≤ v83 ∧ v83 ≤ 150 := by
          rw [e83]
          exact hI.1.2.2.2.2
        clear a83 b83
        replace e83 := e83.trans T76_0
        intro v85 e85 a85 b85
        rw [pz_wi (by omega) (by omega)] at e85
        clear a85 b85
        refine And.intro (by omega) (And.intro (show _ < (1725 : Int) from by omega) ?_)
        intro M86 e86
        have hS : pz_rl pz_QD M M86 := by
          rw [e86]
          exact pz_rl_u hS (by unfold pz_QD; omega) (pz_iom_3 (by omega))
        have hI : pz_im M86 := hS.1 hI0
        have T86_0 : M86 60 3 = v85 := by rw [e86]; exact pz_uu
        refine And.intro rfl ?_
        refine ⟨?_, hS⟩
        unfold sd_Tr
        rw [show decide (M 1 26 ≠ 0) = true from decide_eq_true (by omega), e86, sd_um, e76, sd_um, e66, sd_um, e56, sd_um, e46, sd_um, show v31.toNat = 241 + 4 * (M 60 3).toNat by omega, show v54.toNat = 242 + 4 * (M 60 3).toNat by omega, show v64.toNat = 243 + 4 * (M 60 3).toNat by omega, show v74.toNat = 244 + 4 * (M 60 3).toNat by omega, show v85 = M 60 3 + 1 by omega, e45]
        exact (if_pos ⟨rfl, by omega⟩).symm
      · skip
        refine And.intro rfl ?_
        refine ⟨?_, hS⟩
        unfold sd_Tr
        first
          | rw [sd_note_n (Or.inl (decide_eq_false (by omega)))]
          | rw [sd_note_n (Or.inr (by omega))]
theorem v3_X12_notes {fr lo i : Nat} {own : String} (h1 : 0 + 1 ≤ fr) (h2 : 8 + (5 + 11) + 0 ≤ lo) (h3 : .methodLink own i yX12_notes ∈ lw_tbl) : pz_cV fr lo own i k3_X12_notes :=
  pz_cVk (maxL := 5) (fr' := 0) (lo' := 0) 3 12 h3_X12_notes rfl ⟨by decide +kernel, by decide +kernel, by decide +kernel⟩ ⟨(pz_mt 1486 (by decide +kernel)), (pz_mt 1485 (by decide +kernel)), (pz_ms 52 (by decide +kernel)), (pz_mt 13 (by decide +kernel))⟩ (Or.inl ⟨TX12, 28, rfl⟩) (fun a M _ h => by
    have h : (match (generalizing := false) a with | [.inr (.inr (12, th)), .inl x, .inl y, .inl z] => pz_im M | _ => False) := h
    split at h
    · exact ⟨_, _, rfl⟩
    · exact h.elim) h1 h2 h3
noncomputable def k3_X12_draw : pz_C := (2, 1, fun a M => (match a with | [.inr (.inr (12, th)), .inl n] => pz_im M ∧ n ≠ 0 | _ => False), fun a M r M' => (match a, r with | [.inr (.inr (12, th)), .inl n], some (.inl v) => (M' 60 = sd_u (M 60) 2 (sd_st (M 60 2)) ∧ v = pz_w ((pz_shu (sd_st (M 60 2)) 8).tmod n)) ∧ pz_rl pz_QD M M' | _, _ => False))
noncomputable abbrev ct3_X12_draw : List (Bool × Nat × pz_C) := []
set_option maxRecDepth 100000 in
set_option maxHeartbeats 4000000 in
theorem h3_X12_draw : pz_H yX12_draw cX12_draw 2 (some .int) k3_X12_draw 0 0 := by
  refine pz_mk (own := RX12) (tb := t_X12_draw) (fl := pz_flf fl_RX12) (ci := pz_cif ci_RX12) (ct := pz_ctf ct3_X12_draw) (rz := false) (by decide +kernel) rfl t_X12_draw_ok (pz_flk fl_RX12_ok) (pz_cik ci_RX12_ok) ?_ ?_ (Or.inl ⟨rfl, rfl⟩) ?_ ?_
  · exact fun i k' h => pz_ctk (l := ct3_X12_draw) (P := fun b i k => b = true → pz_cV 0 0 RX12 i k) (fun _ h => absurd h List.not_mem_nil) true i k' h rfl
  · exact fun i k' h => pz_ctk (l := ct3_X12_draw) (P := fun b i k => b = false → (pz_cS 0 0 RX12 i k ∨ (k = pz_kac ∧ 1 ≤ 0 ∧ 60 ≤ 0 ∧ Cond.methodLink RX12 i arraycopyName ∈ pz_tbl))) (fun _ h => absurd h List.not_mem_nil) false i k' h rfl
  · intro a M hlen hpre
    obtain ⟨th, n, rfl, hpre⟩ : ∃ th n, a = [.inr (.inr (12, th)), .inl n] ∧ (pz_im M ∧ n ≠ 0) := by
      have hpre : (match (generalizing := false) a with | [.inr (.inr (12, th)), .inl n] => pz_im M ∧ n ≠ 0 | _ => False) := hpre
      split at hpre
      · exact ⟨_, _, rfl, hpre⟩
      · exact hpre.elim
    exact Nat.le_of_ble_eq_true rfl
  · intro a M hlen hcan hM hpre Ok hgo
    obtain ⟨th, n, rfl, hpre⟩ : ∃ th n, a = [.inr (.inr (12, th)), .inl n] ∧ (pz_im M ∧ n ≠ 0) := by
      have hpre : (match (generalizing := false) a with | [.inr (.inr (12, th)), .inl n] => pz_im M ∧ n ≠ 0 | _ => False) := hpre
      split at hpre
      · exact ⟨_, _, rfl, hpre⟩
      · exact hpre.elim
    obtain ⟨k_th, hc_th⟩ := pz_tlm hcan
    have k_th : pz_kd th = 12 ∧ th < 231 := k_th
    have R_th := pz_kd12 k_th.1
    subst R_th
    clear k_th
    obtain ⟨k_n, hc_n⟩ := pz_tlm hc_th
    have l_n : -2147483648 ≤ n := k_n.1
    have u_n : n ≤ 2147483647 := k_n.2
    have hI : pz_im M := hpre.1
    have hI0 := hI
    have hS : pz_rl pz_QD M M := pz_rl.rf
    refine hgo (fun _ => false) 23 0 _ [] M ?_
    refine pz_nrc (c := 60) rfl ?_
    refine pz_nrc (c := 60) rfl ?_
    refine And.intro (by omega) (And.intro (show _ < (1725 : Int) from by omega) ?_)
    intro v12 e12 a12 b12
    replace e12 : v12 = M 60 2 := e12
    intro v13 e13 a13 b13
    intro v16 e16 a16 b16
    refine And.intro (by omega) (And.intro (show _ < (1725 : Int) from by omega) ?_)
    intro M17 e17
    have hS : pz_rl pz_QD M M17 := by
      rw [e17]
      exact pz_rl_u hS (by unfold pz_QD; omega) (pz_iom_w0 (by omega))
    have hI : pz_im M17 := hS.1 hI0
    refine pz_nrc (c := 60) rfl ?_
    refine And.intro (by omega) (And.intro (show _ < (1725 : Int) from by omega) ?_)
    intro v23 e23 a23 b23
    replace e23 : v23 = M17 60 2 := e23
    intro v26 e26 a26 b26
    refine And.intro (by omega) ?_
    intro v28 e28 a28 b28
    refine And.intro rfl ?_
    have E : v16 = sd_st (M 60 2) := by
      unfold sd_st
      rw [e16, e13, e12]
    have E23 : v23 = sd_st (M 60 2) := by
      rw [e23, e17]
      exact (pz_ue ⟨rfl, rfl⟩).trans E
    refine ⟨⟨?_, ?_⟩, hS⟩
    · rw [e17, sd_um, E]
      rfl
    · rw [e28, e26, E23]
      rfl
theorem v3_X12_draw {fr lo i : Nat} {own : String} (h1 : 0 + 1 ≤ fr) (h2 : 8 + (2 + 11) + 0 ≤ lo) (h3 : .methodLink own i yX12_draw ∈ lw_tbl) : pz_cV fr lo own i k3_X12_draw :=
  pz_cVk (maxL := 2) (fr' := 0) (lo' := 0) 1 12 h3_X12_draw rfl ⟨by decide +kernel, by decide +kernel, by decide +kernel⟩ ⟨(pz_mt 1550 (by decide +kernel)), (pz_mt 1549 (by decide +kernel)), (pz_ms 63 (by decide +kernel)), (pz_mt 13 (by decide +kernel))⟩ (Or.inl ⟨TX12, 28, rfl⟩) (fun a M _ h => by
    have h : (match (generalizing := false) a with | [.inr (.inr (12, th)), .inl n] => pz_im M ∧ n ≠ 0 | _ => False) := h
    split at h
    · exact ⟨_, _, rfl⟩
    · exact h.elim) h1 h2 h3
noncomputable def k3_X12_falls : pz_C := (2, 1, fun a M => (match a with | [.inr (.inr (12, th)), .inl x] => pz_im M | _ => False), fun a M r M' => (match a, r with | [.inr (.inr (12, th)), .inl x], some (.inl v) => ((v = 0 ∨ v = 1) ∧ (v = 1 ↔ sd_fb (sd_Tr M) (M 60) x = true) ∧ M' 60 = sd_fF (sd_Tr M) (M 60)) ∧ pz_rl pz_QD M M' | _, _ => False))
noncomputable abbrev ct3_X12_falls : List (Bool × Nat × pz_C) := [(true, 355, k3_X12_draw)]
set_option maxRecDepth 100000 in
set_option maxHeartbeats 4000000 in
theorem h3_X12_falls : pz_H yX12_falls cX12_falls 2 (some .boolean) k3_X12_falls 1 21 := by
  refine pz_mk (own := RX12) (tb := t_X12_falls) (fl := pz_flf fl_RX12) (ci := pz_cif ci_RX12) (ct := pz_ctf ct3_X12_falls) (rz := true) (by decide +kernel) rfl t_X12_falls_ok (pz_flk fl_RX12_ok) (pz_cik ci_RX12_ok) ?_ ?_ (Or.inr ⟨rfl, rfl⟩) ?_ ?_
  · exact fun i k' h => pz_ctk (l := ct3_X12_falls) (P := fun b i k => b = true → pz_cV 1 21 RX12 i k) (List.forall_mem_cons.mpr ⟨(fun _ => v3_X12_draw (by decide) (by decide) (pz_mt 1547 (by decide +kernel))), fun _ h => absurd h List.not_mem_nil⟩) true i k' h rfl
  · exact fun i k' h => pz_ctk (l := ct3_X12_falls) (P := fun b i k => b = false → (pz_cS 1 21 RX12 i k ∨ (k = pz_kac ∧ 1 ≤ 1 ∧ 60 ≤ 21 ∧ Cond.methodLink RX12 i arraycopyName ∈ pz_tbl))) (List.forall_mem_cons.mpr ⟨((fun z => by cases z)), fun _ h => absurd h List.not_mem_nil⟩) false i k' h rfl
  · intro a M hlen hpre
    obtain ⟨th, x, rfl, hpre⟩ : ∃ th x, a = [.inr (.inr (12, th)), .inl x] ∧ (pz_im M) := by
      have hpre : (match (generalizing := false) a with | [.inr (.inr (12, th)), .inl x] => pz_im M | _ => False) := hpre
      split at hpre
      · exact ⟨_, _, rfl, hpre⟩
      · exact hpre.elim
    exact Nat.le_of_ble_eq_true rfl
  · intro a M hlen hcan hM hpre Ok hgo
    obtain ⟨th, x, rfl, hpre⟩ : ∃ th x, a = [.inr (.inr (12, th)), .inl x] ∧ (pz_im M) := by
      have hpre : (match (generalizing := false) a with | [.inr (.inr (12, th)), .inl x] => pz_im M | _ => False) := hpre
      split at hpre
      · exact ⟨_, _, rfl, hpre⟩
      · exact hpre.elim
    obtain ⟨k_th, hc_th⟩ := pz_tlm hcan
    have k_th : pz_kd th = 12 ∧ th < 231 := k_th
    have R_th := pz_kd12 k_th.1
    subst R_th
    clear k_th
    obtain ⟨k_x, hc_x⟩ := pz_tlm hc_th
    have l_x : -2147483648 ≤ x := k_x.1
    have u_x : x ≤ 2147483647 := k_x.2
    have hI : pz_im M := hpre
    have hI0 := hI
    have hS : pz_rl pz_QD M M := pz_rl.rf
    refine hgo (fun _ => false) 21 0 _ [] M ?_
    intro v1 e1 a1 b1
    refine And.intro (fun h4 => ?_) (fun h4 => ?_)
    · skip
      refine And.intro (fun h30 => ?_) (fun h30 => ?_)
      · skip
        refine And.intro (by omega) ?_
        refine And.intro rfl ?_
        refine ⟨?_, hS⟩
        unfold sd_Tr
        first
          | (rw [show decide (M 1 26 ≠ 0) = false from decide_eq_false (by omega)]
             refine ⟨by omega, ?_, rfl⟩
             show _ ↔ decide ((500 : Int) ≤ x) = true
             rw [decide_eq_true_iff]
             omega)
          | (rw [show decide (M 1 26 ≠ 0) = true from decide_eq_true (by omega)]
             refine ⟨by omega, ?_, q11.1⟩
             show _ ↔ decide (sd_ch (sd_st (M 60 2)) < x) = true
             rw [decide_eq_true_iff]
             unfold sd_ch
             rw [← q11.2]
             omega)
      · skip
        refine And.intro (by omega) ?_
        refine And.intro rfl ?_
        refine ⟨?_, hS⟩
        unfold sd_Tr
        first
          | (rw [show decide (M 1 26 ≠ 0) = false from decide_eq_false (by omega)]
             refine ⟨by omega, ?_, rfl⟩
             show _ ↔ decide ((500 : Int) ≤ x) = true
             rw [decide_eq_true_iff]
             omega)
          | (rw [show decide (M 1 26 ≠ 0) = true from decide_eq_true (by omega)]
             refine ⟨by omega, ?_, q11.1⟩
             show _ ↔ decide (sd_ch (sd_st (M 60 2)) < x) = true
             rw [decide_eq_true_iff]
             unfold sd_ch
             rw [← q11.2]
             omega)
    · skip
      refine And.intro (And.intro hI (by omega)) ?_
      intro v11 M11 a11 b11 q11
      obtain ⟨q11, z11⟩ := q11
      have hS : pz_rl pz_QD M M11 := hS.tr z11
      have hI : pz_im M11 := hS.1 hI0
      refine And.intro (fun h15 => ?_) (fun h15 => ?_)
      · skip
        refine And.intro (by omega) ?_
        refine And.intro rfl ?_
        refine ⟨?_, hS⟩
        unfold sd_Tr
        first
          | (rw [show decide (M 1 26 ≠ 0) = false from decide_eq_false (by omega)]
             refine ⟨by omega, ?_, rfl⟩
             show _ ↔ decide ((500 : Int) ≤ x) = true
             rw [decide_eq_true_iff]
             omega)
          | (rw [show decide (M 1 26 ≠ 0) = true from decide_eq_true (by omega)]
             refine ⟨by omega, ?_, q11.1⟩
             show _ ↔ decide (sd_ch (sd_st (M 60 2)) < x) = true
             rw [decide_eq_true_iff]
             unfold sd_ch
             rw [← q11.2]
             omega)
      · skip
        refine And.intro (by omega) ?_
        refine And.intro rfl ?_
        refine ⟨?_, hS⟩
        unfold sd_Tr
        first
          | (rw [show decide (M 1 26 ≠ 0) = false from decide_eq_false (by omega)]
             refine ⟨by omega, ?_, rfl⟩
             show _ ↔ decide ((500 : Int) ≤ x) = true
             rw [decide_eq_true_iff]
             omega)
          | (rw [show decide (M 1 26 ≠ 0) = true from decide_eq_true (by omega)]
             refine ⟨by omega, ?_, q11.1⟩
             show _ ↔ decide (sd_ch (sd_st (M 60 2)) < x) = true
             rw [decide_eq_true_iff]
             unfold sd_ch
             rw [← q11.2]
             omega)
theorem v3_X12_falls {fr lo i : Nat} {own : String} (h1 : 1 + 1 ≤ fr) (h2 : 8 + (2 + 11) + 21 ≤ lo) (h3 : .methodLink own i yX12_falls ∈ lw_tbl) : pz_cV fr lo own i k3_X12_falls :=
  pz_cVk (maxL := 2) (fr' := 1) (lo' := 21) 1 12 h3_X12_falls rfl ⟨by decide +kernel, by decide +kernel, by decide +kernel⟩ ⟨(pz_mt 1546 (by decide +kernel)), (pz_mt 1545 (by decide +kernel)), (pz_ms 62 (by decide +kernel)), (pz_mt 13 (by decide +kernel))⟩ (Or.inl ⟨TX12, 28, rfl⟩) (fun a M _ h => by
    have h : (match (generalizing := false) a with | [.inr (.inr (12, th)), .inl x] => pz_im M | _ => False) := h
    split at h
    · exact ⟨_, _, rfl⟩
    · exact h.elim) h1 h2 h3
noncomputable def k3_X12_getsReady : pz_C := (2, 0, fun a M => (match a with | [.inr (.inr (12, th)), .inl i] => pz_im M ∧ 0 ≤ i ∧ i < 12 | _ => False), fun a M r M' => (match a, r with | [.inr (.inr (12, th)), .inl i], none => (M' 60 = sd_get (sd_Tr M) (M 60) i.toNat) ∧ pz_rl pz_QD M M' | _, _ => False))
noncomputable abbrev ct3_X12_getsReady : List (Bool × Nat × pz_C) := [(true, 323, k3_X12_notes)]
set_option maxRecDepth 100000 in
set_option maxHeartbeats 4000000 in
theorem h3_X12_getsReady : pz_H yX12_getsReady cX12_getsReady 2 none k3_X12_getsReady 1 24 := by
  refine pz_mk (own := RX12) (tb := t_X12_getsReady) (fl := pz_flf fl_RX12) (ci := pz_cif ci_RX12) (ct := pz_ctf ct3_X12_getsReady) (rz := false) (by decide +kernel) rfl t_X12_getsReady_ok (pz_flk fl_RX12_ok) (pz_cik ci_RX12_ok) ?_ ?_ (rfl) ?_ ?_
  · exact fun i k' h => pz_ctk (l := ct3_X12_getsReady) (P := fun b i k => b = true → pz_cV 1 24 RX12 i k) (List.forall_mem_cons.mpr ⟨(fun _ => v3_X12_notes (by decide) (by decide) (pz_mt 1483 (by decide +kernel))), fun _ h => absurd h List.not_mem_nil⟩) true i k' h rfl
  · exact fun i k' h => pz_ctk (l := ct3_X12_getsReady) (P := fun b i k => b = false → (pz_cS 1 24 RX12 i k ∨ (k = pz_kac ∧ 1 ≤ 1 ∧ 60 ≤ 24 ∧ Cond.methodLink RX12 i arraycopyName ∈ pz_tbl))) (List.forall_mem_cons.mpr ⟨((fun z => by cases z)), fun _ h => absurd h List.not_mem_nil⟩) false i k' h rfl
  · intro a M hlen hpre
    obtain ⟨th, i, rfl, hpre⟩ : ∃ th i, a = [.inr (.inr (12, th)), .inl i] ∧ (pz_im M ∧ 0 ≤ i ∧ i < 12) := by
      have hpre : (match (generalizing := false) a with | [.inr (.inr (12, th)), .inl i] => pz_im M ∧ 0 ≤ i ∧ i < 12 | _ => False) := hpre
      split at hpre
      · exact ⟨_, _, rfl, hpre⟩
      · exact hpre.elim
    exact Nat.le_of_ble_eq_true rfl
  · intro a M hlen hcan hM hpre Ok hgo
    obtain ⟨th, i, rfl, hpre⟩ : ∃ th i, a = [.inr (.inr (12, th)), .inl i] ∧ (pz_im M ∧ 0 ≤ i ∧ i < 12) := by
      have hpre : (match (generalizing := false) a with | [.inr (.inr (12, th)), .inl i] => pz_im M ∧ 0 ≤ i ∧ i < 12 | _ => False) := hpre
      split at hpre
      · exact ⟨_, _, rfl, hpre⟩
      · exact hpre.elim
    obtain ⟨k_th, hc_th⟩ := pz_tlm hcan
    have k_th : pz_kd th = 12 ∧ th < 231 := k_th
    have R_th := pz_kd12 k_th.1
    subst R_th
    clear k_th
    obtain ⟨k_i, hc_i⟩ := pz_tlm hc_th
    have l_i : -2147483648 ≤ i := k_i.1
    have u_i : i ≤ 2147483647 := k_i.2
    have hI : pz_im M := hpre.1
    have hI0 := hI
    have hS : pz_rl pz_QD M M := pz_rl.rf
    refine hgo (fun _ => false) 15 0 _ [] M ?_
    refine pz_nrc (c := 60) rfl ?_
    intro v7 e7 a7 b7
    rw [pz_wi (by omega) (by omega)] at e7
    clear a7 b7
    refine And.intro (by omega) (And.intro (show _ < (1725 : Int) from by omega) ?_)
    intro M9 e9
    have hS : pz_rl pz_QD M M9 := by
      rw [e9]
      exact pz_rl_u hS (by unfold pz_QD; omega) (pz_iom_w1 (by omega) (by omega))
    have hI : pz_im M9 := hS.1 hI0
    refine And.intro (hI) ?_
    intro M14 q14
    obtain ⟨q14, z14⟩ := q14
    have hS : pz_rl pz_QD M M14 := hS.tr z14
    have hI : pz_im M14 := hS.1 hI0
    refine And.intro rfl ?_
    refine ⟨?_, hS⟩
    have q := q14
    have T : sd_Tr M9 = sd_Tr M := by
      unfold sd_Tr
      rw [e9, pz_una (by decide)]
    rw [T, e9, sd_um, show v7.toNat = 40 + i.toNat by omega] at q
    rw [q]
    unfold sd_get
    rw [show ((i.toNat : Nat) : Int) = i by omega]
theorem v3_X12_getsReady {fr lo i : Nat} {own : String} (h1 : 1 + 1 ≤ fr) (h2 : 8 + (2 + 11) + 24 ≤ lo) (h3 : .methodLink own i yX12_getsReady ∈ lw_tbl) : pz_cV fr lo own i k3_X12_getsReady :=
  pz_cVk (maxL := 2) (fr' := 1) (lo' := 24) 1 12 h3_X12_getsReady rfl ⟨by decide +kernel, by decide +kernel, by decide +kernel⟩ ⟨(pz_mt 1522 (by decide +kernel)), (pz_mt 1521 (by decide +kernel)), (pz_ms 58 (by decide +kernel)), (pz_mt 13 (by decide +kernel))⟩ (Or.inl ⟨TX12, 28, rfl⟩) (fun a M _ h => by
    have h : (match (generalizing := false) a with | [.inr (.inr (12, th)), .inl i] => pz_im M ∧ 0 ≤ i ∧ i < 12 | _ => False) := h
    split at h
    · exact ⟨_, _, rfl⟩
    · exact h.elim) h1 h2 h3
noncomputable def k3_X12_bridges0 : pz_C := (2, 0, fun a M => (match a with | [.inr (.inr (12, th)), .inl i] => pz_im M ∧ 0 ≤ i ∧ i < 12 | _ => False), fun a M r M' => (match a, r with | [.inr (.inr (12, th)), .inl i], none => (M' 60 = sd_bri (sd_Tr M) (M 60) i.toNat) ∧ pz_rl pz_QD M M' | _, _ => False))
noncomputable abbrev ct3_X12_bridges0 : List (Bool × Nat × pz_C) := [(true, 323, k3_X12_notes)]
set_option maxRecDepth 100000 in
set_option maxHeartbeats 4000000 in
theorem h3_X12_bridges0 : pz_H yX12_bridges0 cX12_bridges0 2 none k3_X12_bridges0 1 24 := by
  refine pz_mk (own := RX12) (tb := t_X12_bridges0) (fl := pz_flf fl_RX12) (ci := pz_cif ci_RX12) (ct := pz_ctf ct3_X12_bridges0) (rz := false) (by decide +kernel) rfl t_X12_bridges0_ok (pz_flk fl_RX12_ok) (pz_cik ci_RX12_ok) ?_ ?_ (rfl) ?_ ?_
  · exact fun i k' h => pz_ctk (l := ct3_X12_bridges0) (P := fun b i k => b = true → pz_cV 1 24 RX12 i k) (List.forall_mem_cons.mpr ⟨(fun _ => v3_X12_notes (by decide) (by decide) (pz_mt 1483 (by decide +kernel))), fun _ h => absurd h List.not_mem_nil⟩) true i k' h rfl
  · exact fun i k' h => pz_ctk (l := ct3_X12_bridges0) (P := fun b i k => b = false → (pz_cS 1 24 RX12 i k ∨ (k = pz_kac ∧ 1 ≤ 1 ∧ 60 ≤ 24 ∧ Cond.methodLink RX12 i arraycopyName ∈ pz_tbl))) (List.forall_mem_cons.mpr ⟨((fun z => by cases z)), fun _ h => absurd h List.not_mem_nil⟩) false i k' h rfl
  · intro a M hlen hpre
    obtain ⟨th, i, rfl, hpre⟩ : ∃ th i, a = [.inr (.inr (12, th)), .inl i] ∧ (pz_im M ∧ 0 ≤ i ∧ i < 12) := by
      have hpre : (match (generalizing := false) a with | [.inr (.inr (12, th)), .inl i] => pz_im M ∧ 0 ≤ i ∧ i < 12 | _ => False) := hpre
      split at hpre
      · exact ⟨_, _, rfl, hpre⟩
      · exact hpre.elim
    exact Nat.le_of_ble_eq_true rfl
  · intro a M hlen hcan hM hpre Ok hgo
    obtain ⟨th, i, rfl, hpre⟩ : ∃ th i, a = [.inr (.inr (12, th)), .inl i] ∧ (pz_im M ∧ 0 ≤ i ∧ i < 12) := by
      have hpre : (match (generalizing := false) a with | [.inr (.inr (12, th)), .inl i] => pz_im M ∧ 0 ≤ i ∧ i < 12 | _ => False) := hpre
      split at hpre
      · exact ⟨_, _, rfl, hpre⟩
      · exact hpre.elim
    obtain ⟨k_th, hc_th⟩ := pz_tlm hcan
    have k_th : pz_kd th = 12 ∧ th < 231 := k_th
    have R_th := pz_kd12 k_th.1
    subst R_th
    clear k_th
    obtain ⟨k_i, hc_i⟩ := pz_tlm hc_th
    have l_i : -2147483648 ≤ i := k_i.1
    have u_i : i ≤ 2147483647 := k_i.2
    have hI : pz_im M := hpre.1
    have hI0 := hI
    have hS : pz_rl pz_QD M M := pz_rl.rf
    refine hgo (fun _ => false) 15 0 _ [] M ?_
    refine pz_nrc (c := 60) rfl ?_
    intro v7 e7 a7 b7
    rw [pz_wi (by omega) (by omega)] at e7
    clear a7 b7
    refine And.intro (by omega) (And.intro (show _ < (1725 : Int) from by omega) ?_)
    intro M9 e9
    have hS : pz_rl pz_QD M M9 := by
      rw [e9]
      exact pz_rl_u hS (by unfold pz_QD; omega) (pz_iom_w1 (by omega) (by omega))
    have hI : pz_im M9 := hS.1 hI0
    refine And.intro (hI) ?_
    intro M14 q14
    obtain ⟨q14, z14⟩ := q14
    have hS : pz_rl pz_QD M M14 := hS.tr z14
    have hI : pz_im M14 := hS.1 hI0
    refine And.intro rfl ?_
    refine ⟨?_, hS⟩
    have q := q14
    have T : sd_Tr M9 = sd_Tr M := by
      unfold sd_Tr
      rw [e9, pz_una (by decide)]
    rw [T, e9, sd_um, show v7.toNat = 64 + i.toNat by omega] at q
    rw [q]
    unfold sd_bri
    rw [show ((i.toNat : Nat) : Int) = i by omega]
theorem v3_X12_bridges0 {fr lo i : Nat} {own : String} (h1 : 1 + 1 ≤ fr) (h2 : 8 + (2 + 11) + 24 ≤ lo) (h3 : .methodLink own i yX12_bridges0 ∈ lw_tbl) : pz_cV fr lo own i k3_X12_bridges0 :=
  pz_cVk (maxL := 2) (fr' := 1) (lo' := 24) 1 12 h3_X12_bridges0 rfl ⟨by decide +kernel, by decide +kernel, by decide +kernel⟩ ⟨(pz_mt 1498 (by decide +kernel)), (pz_mt 1497 (by decide +kernel)), (pz_ms 54 (by decide +kernel)), (pz_mt 13 (by decide +kernel))⟩ (Or.inl ⟨TX12, 28, rfl⟩) (fun a M _ h => by
    have h : (match (generalizing := false) a with | [.inr (.inr (12, th)), .inl i] => pz_im M ∧ 0 ≤ i ∧ i < 12 | _ => False) := h
    split at h
    · exact ⟨_, _, rfl⟩
    · exact h.elim) h1 h2 h3
noncomputable def k3_X12_isThere : pz_C := (2, 1, fun a M => (match a with | [.inr (.inr (12, th)), .inl i] => pz_im M | _ => False), fun a M r M' => (match a, r with | [.inr (.inr (12, th)), .inl i], some (.inl v) => ((v = 1 ∧ 0 ≤ i ∧ i < M 60 88 ∧ M 60 88 ≤ 12 ∧ ¬ M 60 (52 + i).toNat = 1 ∧ M 60 (76 + i).toNat = -1) ∨ (v = 0 ∧ ¬ (0 ≤ i ∧ i < M 60 88 ∧ M 60 88 ≤ 12 ∧ ¬ M 60 (52 + i).toNat = 1 ∧ M 60 (76 + i).toNat = -1))) ∧ M = M' | _, _ => False))
noncomputable abbrev ct3_X12_isThere : List (Bool × Nat × pz_C) := [(true, 58, k_X12_isLink), (true, 62, k3_X12_isOut), (true, 65, k3_X12_hasMoved)]
set_option maxRecDepth 100000 in
set_option maxHeartbeats 4000000 in
theorem h3_X12_isThere : pz_H yX12_isThere cX12_isThere 2 (some .boolean) k3_X12_isThere 2 43 := by
  refine pz_mk (own := RX12) (tb := t_X12_isThere) (fl := pz_flf fl_RX12) (ci := pz_cif ci_RX12) (ct := pz_ctf ct3_X12_isThere) (rz := true) (by decide +kernel) rfl t_X12_isThere_ok (pz_flk fl_RX12_ok) (pz_cik ci_RX12_ok) ?_ ?_ (Or.inr ⟨rfl, rfl⟩) ?_ ?_
  · exact fun i k' h => pz_ctk (l := ct3_X12_isThere) (P := fun b i k => b = true → pz_cV 2 43 RX12 i k) (List.forall_mem_cons.mpr ⟨(fun _ => v_X12_isLink (by decide) (by decide) (pz_mt 1224 (by decide +kernel))), List.forall_mem_cons.mpr ⟨(fun _ => v3_X12_isOut (by decide) (by decide) (pz_mt 1419 (by decide +kernel))), List.forall_mem_cons.mpr ⟨(fun _ => v3_X12_hasMoved (by decide) (by decide) (pz_mt 1423 (by decide +kernel))), fun _ h => absurd h List.not_mem_nil⟩⟩⟩) true i k' h rfl
  · exact fun i k' h => pz_ctk (l := ct3_X12_isThere) (P := fun b i k => b = false → (pz_cS 2 43 RX12 i k ∨ (k = pz_kac ∧ 1 ≤ 2 ∧ 60 ≤ 43 ∧ Cond.methodLink RX12 i arraycopyName ∈ pz_tbl))) (List.forall_mem_cons.mpr ⟨((fun z => by cases z)), List.forall_mem_cons.mpr ⟨((fun z => by cases z)), List.forall_mem_cons.mpr ⟨((fun z => by cases z)), fun _ h => absurd h List.not_mem_nil⟩⟩⟩) false i k' h rfl
  · intro a M hlen hpre
    obtain ⟨th, i, rfl, hpre⟩ : ∃ th i, a = [.inr (.inr (12, th)), .inl i] ∧ (pz_im M) := by
      have hpre : (match (generalizing := false) a with | [.inr (.inr (12, th)), .inl i] => pz_im M | _ => False) := hpre
      split at hpre
      · exact ⟨_, _, rfl, hpre⟩
      · exact hpre.elim
    exact Nat.le_of_ble_eq_true rfl
  · intro a M hlen hcan hM hpre Ok hgo
    obtain ⟨th, i, rfl, hpre⟩ : ∃ th i, a = [.inr (.inr (12, th)), .inl i] ∧ (pz_im M) := by
      have hpre : (match (generalizing := false) a with | [.inr (.inr (12, th)), .inl i] => pz_im M | _ => False) := hpre
      split at hpre
      · exact ⟨_, _, rfl, hpre⟩
      · exact hpre.elim
    obtain ⟨k_th, hc_th⟩ := pz_tlm hcan
    have k_th : pz_kd th = 12 ∧ th < 231 := k_th
    have R_th := pz_kd12 k_th.1
    subst R_th
    clear k_th
    obtain ⟨k_i, hc_i⟩ := pz_tlm hc_th
    have l_i : -2147483648 ≤ i := k_i.1
    have u_i : i ≤ 2147483647 := k_i.2
    have hI : pz_im M := hpre
    have I88 := hI.1.1
    refine hgo (fun _ => false) 18 0 _ [] M ?_
    refine And.intro (hI) ?_
    intro v2 M2 a2 b2 q2
    obtain ⟨q2, z2⟩ := q2
    subst z2
    clear a2 b2
    refine And.intro (fun h5 => ?_) (fun h5 => ?_)
    · skip
      replace q2 := q2.resolve_left (fun z => absurd (z.1.symm.trans h5) (by decide))
      clear h5
      refine And.intro (by omega) ?_
      refine And.intro rfl ?_
      exact ⟨by omega, rfl⟩
    · skip
      replace q2 := q2.resolve_right (fun z => h5 z.1)
      clear h5
      refine And.intro (And.intro hI (And.intro (by omega) (by omega))) ?_
      intro v10 M10 a10 b10 q10
      obtain ⟨q10, z10⟩ := q10
      subst z10
      clear a10 b10
      refine And.intro (fun h13 => ?_) (fun h13 => ?_)
      · skip
        replace q10 := q10.resolve_right (fun z => h13 z.1)
        clear h13
        refine And.intro (by omega) ?_
        refine And.intro rfl ?_
        exact ⟨by omega, rfl⟩
      · skip
        replace q10 := q10.resolve_left (fun z => absurd (z.1.symm.trans h13) (by decide))
        clear h13
        refine And.intro (And.intro hI (And.intro (by omega) (by omega))) ?_
        intro v18 M18 a18 b18 q18
        obtain ⟨q18, z18⟩ := q18
        subst z18
        clear a18 b18
        refine And.intro (fun h21 => ?_) (fun h21 => ?_)
        · skip
          replace q18 := q18.resolve_right (fun z => h21 z.1)
          clear h21
          refine And.intro (by omega) ?_
          refine And.intro rfl ?_
          exact ⟨by omega, rfl⟩
        · skip
          replace q18 := q18.resolve_left (fun z => absurd (z.1.symm.trans h21) (by decide))
          clear h21
          refine And.intro (by omega) ?_
          refine And.intro rfl ?_
          exact ⟨by omega, rfl⟩
theorem v3_X12_isThere {fr lo i : Nat} {own : String} (h1 : 2 + 1 ≤ fr) (h2 : 8 + (2 + 11) + 43 ≤ lo) (h3 : .methodLink own i yX12_isThere ∈ lw_tbl) : pz_cV fr lo own i k3_X12_isThere :=
  pz_cVk (maxL := 2) (fr' := 2) (lo' := 43) 1 12 h3_X12_isThere rfl ⟨by decide +kernel, by decide +kernel, by decide +kernel⟩ ⟨(pz_mt 1418 (by decide +kernel)), (pz_mt 1417 (by decide +kernel)), (pz_ms 38 (by decide +kernel)), (pz_mt 13 (by decide +kernel))⟩ (Or.inl ⟨TX12, 28, rfl⟩) (fun a M _ h => by
    have h : (match (generalizing := false) a with | [.inr (.inr (12, th)), .inl i] => pz_im M | _ => False) := h
    split at h
    · exact ⟨_, _, rfl⟩
    · exact h.elim) h1 h2 h3
noncomputable def k3_X12_canPaper : pz_C := (2, 1, fun a M => (match a with | [.inr (.inr (12, th)), .inl i] => pz_im M | _ => False), fun a M r M' => (match a, r with | [.inr (.inr (12, th)), .inl i], some (.inl v) => ((v = 1 ∧ 0 ≤ i ∧ i < M 60 88 ∧ M 60 88 ≤ 12 ∧ ¬ M 60 (52 + i).toNat = 1 ∧ M 60 (76 + i).toNat = -1 ∧ ¬ M 60 (40 + i).toNat = 1) ∨ (v = 0 ∧ ¬ (0 ≤ i ∧ i < M 60 88 ∧ M 60 88 ≤ 12 ∧ ¬ M 60 (52 + i).toNat = 1 ∧ M 60 (76 + i).toNat = -1 ∧ ¬ M 60 (40 + i).toNat = 1))) ∧ M = M' | _, _ => False))
noncomputable abbrev ct3_X12_canPaper : List (Bool × Nat × pz_C) := [(true, 317, k3_X12_isThere), (true, 297, k3_X12_isReady)]
set_option maxRecDepth 100000 in
set_option maxHeartbeats 4000000 in
theorem h3_X12_canPaper : pz_H yX12_canPaper cX12_canPaper 2 (some .boolean) k3_X12_canPaper 3 64 := by
  refine pz_mk (own := RX12) (tb := t_X12_canPaper) (fl := pz_flf fl_RX12) (ci := pz_cif ci_RX12) (ct := pz_ctf ct3_X12_canPaper) (rz := true) (by decide +kernel) rfl t_X12_canPaper_ok (pz_flk fl_RX12_ok) (pz_cik ci_RX12_ok) ?_ ?_ (Or.inr ⟨rfl, rfl⟩) ?_ ?_
  · exact fun i k' h => pz_ctk (l := ct3_X12_canPaper) (P := fun b i k => b = true → pz_cV 3 64 RX12 i k) (List.forall_mem_cons.mpr ⟨(fun _ => v3_X12_isThere (by decide) (by decide) (pz_mt 1415 (by decide +kernel))), List.forall_mem_cons.mpr ⟨(fun _ => v3_X12_isReady (by decide) (by decide) (pz_mt 1465 (by decide +kernel))), fun _ h => absurd h List.not_mem_nil⟩⟩) true i k' h rfl
  · exact fun i k' h => pz_ctk (l := ct3_X12_canPaper) (P := fun b i k => b = false → (pz_cS 3 64 RX12 i k ∨ (k = pz_kac ∧ 1 ≤ 3 ∧ 60 ≤ 64 ∧ Cond.methodLink RX12 i arraycopyName ∈ pz_tbl))) (List.forall_mem_cons.mpr ⟨((fun z => by cases z)), List.forall_mem_cons.mpr ⟨((fun z => by cases z)), fun _ h => absurd h List.not_mem_nil⟩⟩) false i k' h rfl
  · intro a M hlen hpre
    obtain ⟨th, i, rfl, hpre⟩ : ∃ th i, a = [.inr (.inr (12, th)), .inl i] ∧ (pz_im M) := by
      have hpre : (match (generalizing := false) a with | [.inr (.inr (12, th)), .inl i] => pz_im M | _ => False) := hpre
      split at hpre
      · exact ⟨_, _, rfl, hpre⟩
      · exact hpre.elim
    exact Nat.le_of_ble_eq_true rfl
  · intro a M hlen hcan hM hpre Ok hgo
    obtain ⟨th, i, rfl, hpre⟩ : ∃ th i, a = [.inr (.inr (12, th)), .inl i] ∧ (pz_im M) := by
      have hpre : (match (generalizing := false) a with | [.inr (.inr (12, th)), .inl i] => pz_im M | _ => False) := hpre
      split at hpre
      · exact ⟨_, _, rfl, hpre⟩
      · exact hpre.elim
    obtain ⟨k_th, hc_th⟩ := pz_tlm hcan
    have k_th : pz_kd th = 12 ∧ th < 231 := k_th
    have R_th := pz_kd12 k_th.1
    subst R_th
    clear k_th
    obtain ⟨k_i, hc_i⟩ := pz_tlm hc_th
    have l_i : -2147483648 ≤ i := k_i.1
    have u_i : i ≤ 2147483647 := k_i.2
    have hI : pz_im M := hpre
    refine hgo (fun _ => false) 14 0 _ [] M ?_
    refine And.intro (hI) ?_
    intro v2 M2 a2 b2 q2
    obtain ⟨q2, z2⟩ := q2
    subst z2
    clear a2 b2
    refine And.intro (fun h5 => ?_) (fun h5 => ?_)
    · skip
      replace q2 := q2.resolve_left (fun z => absurd (z.1.symm.trans h5) (by decide))
      clear h5
      refine And.intro (by omega) ?_
      refine And.intro rfl ?_
      exact ⟨by omega, rfl⟩
    · skip
      replace q2 := q2.resolve_right (fun z => h5 z.1)
      clear h5
      refine And.intro (And.intro hI (And.intro (by omega) (by omega))) ?_
      intro v10 M10 a10 b10 q10
      obtain ⟨q10, z10⟩ := q10
      subst z10
      clear a10 b10
      refine And.intro (fun h13 => ?_) (fun h13 => ?_)
      · skip
        replace q10 := q10.resolve_right (fun z => h13 z.1)
        clear h13
        refine And.intro (by omega) ?_
        refine And.intro rfl ?_
        exact ⟨by omega, rfl⟩
      · skip
        replace q10 := q10.resolve_left (fun z => absurd (z.1.symm.trans h13) (by decide))
        clear h13
        refine And.intro (by omega) ?_
        refine And.intro rfl ?_
        exact ⟨by omega, rfl⟩
theorem v3_X12_canPaper {fr lo i : Nat} {own : String} (h1 : 3 + 1 ≤ fr) (h2 : 8 + (2 + 11) + 64 ≤ lo) (h3 : .methodLink own i yX12_canPaper ∈ lw_tbl) : pz_cV fr lo own i k3_X12_canPaper :=
  pz_cVk (maxL := 2) (fr' := 3) (lo' := 64) 1 12 h3_X12_canPaper rfl ⟨by decide +kernel, by decide +kernel, by decide +kernel⟩ ⟨(pz_mt 1518 (by decide +kernel)), (pz_mt 1517 (by decide +kernel)), (pz_ms 57 (by decide +kernel)), (pz_mt 13 (by decide +kernel))⟩ (Or.inl ⟨TX12, 28, rfl⟩) (fun a M _ h => by
    have h : (match (generalizing := false) a with | [.inr (.inr (12, th)), .inl i] => pz_im M | _ => False) := h
    split at h
    · exact ⟨_, _, rfl⟩
    · exact h.elim) h1 h2 h3
noncomputable def k3_X12_canAsk : pz_C := (2, 1, fun a M => (match a with | [.inr (.inr (12, th)), .inl i] => pz_im M | _ => False), fun a M r M' => (match a, r with | [.inr (.inr (12, th)), .inl i], some (.inl v) => ((v = 1 ∧ 0 ≤ i ∧ i + 1 < M 60 88 ∧ M 60 88 ≤ 12 ∧ ¬ M 60 (52 + (i + 1)).toNat = 1 ∧ M 60 (76 + (i + 1)).toNat = -1) ∨ (v = 0 ∧ ¬ (0 ≤ i ∧ i + 1 < M 60 88 ∧ M 60 88 ≤ 12 ∧ ¬ M 60 (52 + (i + 1)).toNat = 1 ∧ M 60 (76 + (i + 1)).toNat = -1))) ∧ M = M' | _, _ => False))
noncomputable abbrev ct3_X12_canAsk : List (Bool × Nat × pz_C) := [(true, 58, k_X12_isLink), (true, 317, k3_X12_isThere)]
set_option maxRecDepth 100000 in
set_option maxHeartbeats 4000000 in
theorem h3_X12_canAsk : pz_H yX12_canAsk cX12_canAsk 2 (some .boolean) k3_X12_canAsk 3 64 := by
  refine pz_mk (own := RX12) (tb := t_X12_canAsk) (fl := pz_flf fl_RX12) (ci := pz_cif ci_RX12) (ct := pz_ctf ct3_X12_canAsk) (rz := true) (by decide +kernel) rfl t_X12_canAsk_ok (pz_flk fl_RX12_ok) (pz_cik ci_RX12_ok) ?_ ?_ (Or.inr ⟨rfl, rfl⟩) ?_ ?_
  · exact fun i k' h => pz_ctk (l := ct3_X12_canAsk) (P := fun b i k => b = true → pz_cV 3 64 RX12 i k) (List.forall_mem_cons.mpr ⟨(fun _ => v_X12_isLink (by decide) (by decide) (pz_mt 1224 (by decide +kernel))), List.forall_mem_cons.mpr ⟨(fun _ => v3_X12_isThere (by decide) (by decide) (pz_mt 1415 (by decide +kernel))), fun _ h => absurd h List.not_mem_nil⟩⟩) true i k' h rfl
  · exact fun i k' h => pz_ctk (l := ct3_X12_canAsk) (P := fun b i k => b = false → (pz_cS 3 64 RX12 i k ∨ (k = pz_kac ∧ 1 ≤ 3 ∧ 60 ≤ 64 ∧ Cond.methodLink RX12 i arraycopyName ∈ pz_tbl))) (List.forall_mem_cons.mpr ⟨((fun z => by cases z)), List.forall_mem_cons.mpr ⟨((fun z => by cases z)), fun _ h => absurd h List.not_mem_nil⟩⟩) false i k' h rfl
  · intro a M hlen hpre
    obtain ⟨th, i, rfl, hpre⟩ : ∃ th i, a = [.inr (.inr (12, th)), .inl i] ∧ (pz_im M) := by
      have hpre : (match (generalizing := false) a with | [.inr (.inr (12, th)), .inl i] => pz_im M | _ => False) := hpre
      split at hpre
      · exact ⟨_, _, rfl, hpre⟩
      · exact hpre.elim
    exact Nat.le_of_ble_eq_true rfl
  · intro a M hlen hcan hM hpre Ok hgo
    obtain ⟨th, i, rfl, hpre⟩ : ∃ th i, a = [.inr (.inr (12, th)), .inl i] ∧ (pz_im M) := by
      have hpre : (match (generalizing := false) a with | [.inr (.inr (12, th)), .inl i] => pz_im M | _ => False) := hpre
      split at hpre
      · exact ⟨_, _, rfl, hpre⟩
      · exact hpre.elim
    obtain ⟨k_th, hc_th⟩ := pz_tlm hcan
    have k_th : pz_kd th = 12 ∧ th < 231 := k_th
    have R_th := pz_kd12 k_th.1
    subst R_th
    clear k_th
    obtain ⟨k_i, hc_i⟩ := pz_tlm hc_th
    have l_i : -2147483648 ≤ i := k_i.1
    have u_i : i ≤ 2147483647 := k_i.2
    have hI : pz_im M := hpre
    have I88 := hI.1.1
    refine hgo (fun _ => false) 16 0 _ [] M ?_
    refine And.intro (hI) ?_
    intro v2 M2 a2 b2 q2
    obtain ⟨q2, z2⟩ := q2
    subst z2
    clear a2 b2
    refine And.intro (fun h5 => ?_) (fun h5 => ?_)
    · skip
      replace q2 := q2.resolve_left (fun z => absurd (z.1.symm.trans h5) (by decide))
      clear h5
      refine And.intro (by omega) ?_
      refine And.intro rfl ?_
      exact ⟨by omega, rfl⟩
    · skip
      replace q2 := q2.resolve_right (fun z => h5 z.1)
      clear h5
      intro v11 e11 a11 b11
      rw [pz_wi (by omega) (by omega)] at e11
      clear a11 b11
      refine And.intro (hI) ?_
      intro v12 M12 a12 b12 q12
      obtain ⟨q12, z12⟩ := q12
      subst z12
      clear a12 b12
      rw [show v11 = i + 1 by omega] at q12
      refine And.intro (fun h15 => ?_) (fun h15 => ?_)
      · skip
        replace q12 := q12.resolve_left (fun z => absurd (z.1.symm.trans h15) (by decide))
        refine And.intro (by omega) ?_
        refine And.intro rfl ?_
        exact ⟨by omega, rfl⟩
      · skip
        replace q12 := q12.resolve_right (fun z => h15 z.1)
        refine And.intro (by omega) ?_
        refine And.intro rfl ?_
        exact ⟨by omega, rfl⟩
theorem v3_X12_canAsk {fr lo i : Nat} {own : String} (h1 : 3 + 1 ≤ fr) (h2 : 8 + (2 + 11) + 64 ≤ lo) (h3 : .methodLink own i yX12_canAsk ∈ lw_tbl) : pz_cV fr lo own i k3_X12_canAsk :=
  pz_cVk (maxL := 2) (fr' := 3) (lo' := 64) 1 12 h3_X12_canAsk rfl ⟨by decide +kernel, by decide +kernel, by decide +kernel⟩ ⟨(pz_mt 1414 (by decide +kernel)), (pz_mt 1413 (by decide +kernel)), (pz_ms 37 (by decide +kernel)), (pz_mt 13 (by decide +kernel))⟩ (Or.inl ⟨TX12, 28, rfl⟩) (fun a M _ h => by
    have h : (match (generalizing := false) a with | [.inr (.inr (12, th)), .inl i] => pz_im M | _ => False) := h
    split at h
    · exact ⟨_, _, rfl⟩
    · exact h.elim) h1 h2 h3
noncomputable def k3_X12_canBridge : pz_C := (2, 1, fun a M => (match a with | [.inr (.inr (12, th)), .inl i] => pz_im M | _ => False), fun a M r M' => (match a, r with | [.inr (.inr (12, th)), .inl i], some (.inl v) => ((v = 1 ∧ 0 ≤ i ∧ i < M 60 88 ∧ M 60 88 ≤ 12 ∧ ¬ M 60 (52 + i).toNat = 1 ∧ M 60 (76 + i).toNat = -1 ∧ 0 < i ∧ i + 1 < M 60 88 ∧ ¬ M 60 (64 + i).toNat = 1) ∨ (v = 0 ∧ ¬ (0 ≤ i ∧ i < M 60 88 ∧ M 60 88 ≤ 12 ∧ ¬ M 60 (52 + i).toNat = 1 ∧ M 60 (76 + i).toNat = -1 ∧ 0 < i ∧ i + 1 < M 60 88 ∧ ¬ M 60 (64 + i).toNat = 1))) ∧ M = M' | _, _ => False))
noncomputable abbrev ct3_X12_canBridge : List (Bool × Nat × pz_C) := [(true, 317, k3_X12_isThere), (true, 288, k3_X12_isBridged)]
set_option maxRecDepth 100000 in
set_option maxHeartbeats 4000000 in
theorem h3_X12_canBridge : pz_H yX12_canBridge cX12_canBridge 2 (some .boolean) k3_X12_canBridge 3 64 := by
  refine pz_mk (own := RX12) (tb := t_X12_canBridge) (fl := pz_flf fl_RX12) (ci := pz_cif ci_RX12) (ct := pz_ctf ct3_X12_canBridge) (rz := true) (by decide +kernel) rfl t_X12_canBridge_ok (pz_flk fl_RX12_ok) (pz_cik ci_RX12_ok) ?_ ?_ (Or.inr ⟨rfl, rfl⟩) ?_ ?_
  · exact fun i k' h => pz_ctk (l := ct3_X12_canBridge) (P := fun b i k => b = true → pz_cV 3 64 RX12 i k) (List.forall_mem_cons.mpr ⟨(fun _ => v3_X12_isThere (by decide) (by decide) (pz_mt 1415 (by decide +kernel))), List.forall_mem_cons.mpr ⟨(fun _ => v3_X12_isBridged (by decide) (by decide) (pz_mt 1450 (by decide +kernel))), fun _ h => absurd h List.not_mem_nil⟩⟩) true i k' h rfl
  · exact fun i k' h => pz_ctk (l := ct3_X12_canBridge) (P := fun b i k => b = false → (pz_cS 3 64 RX12 i k ∨ (k = pz_kac ∧ 1 ≤ 3 ∧ 60 ≤ 64 ∧ Cond.methodLink RX12 i arraycopyName ∈ pz_tbl))) (List.forall_mem_cons.mpr ⟨((fun z => by cases z)), List.forall_mem_cons.mpr ⟨((fun z => by cases z)), fun _ h => absurd h List.not_mem_nil⟩⟩) false i k' h rfl
  · intro a M hlen hpre
    obtain ⟨th, i, rfl, hpre⟩ : ∃ th i, a = [.inr (.inr (12, th)), .inl i] ∧ (pz_im M) := by
      have hpre : (match (generalizing := false) a with | [.inr (.inr (12, th)), .inl i] => pz_im M | _ => False) := hpre
      split at hpre
      · exact ⟨_, _, rfl, hpre⟩
      · exact hpre.elim
    exact Nat.le_of_ble_eq_true rfl
  · intro a M hlen hcan hM hpre Ok hgo
    obtain ⟨th, i, rfl, hpre⟩ : ∃ th i, a = [.inr (.inr (12, th)), .inl i] ∧ (pz_im M) := by
      have hpre : (match (generalizing := false) a with | [.inr (.inr (12, th)), .inl i] => pz_im M | _ => False) := hpre
      split at hpre
      · exact ⟨_, _, rfl, hpre⟩
      · exact hpre.elim
    obtain ⟨k_th, hc_th⟩ := pz_tlm hcan
    have k_th : pz_kd th = 12 ∧ th < 231 := k_th
    have R_th := pz_kd12 k_th.1
    subst R_th
    clear k_th
    obtain ⟨k_i, hc_i⟩ := pz_tlm hc_th
    have l_i : -2147483648 ≤ i := k_i.1
    have u_i : i ≤ 2147483647 := k_i.2
    have hI : pz_im M := hpre
    have I88 := hI.1.1
    refine hgo (fun _ => false) 24 0 _ [] M ?_
    refine And.intro (hI) ?_
    intro v2 M2 a2 b2 q2
    obtain ⟨q2, z2⟩ := q2
    subst z2
    clear a2 b2
    refine And.intro (fun h5 => ?_) (fun h5 => ?_)
    · skip
      replace q2 := q2.resolve_left (fun z => absurd (z.1.symm.trans h5) (by decide))
      clear h5
      refine And.intro (by omega) ?_
      refine And.intro rfl ?_
      exact ⟨by omega, rfl⟩
    · skip
      replace q2 := q2.resolve_right (fun z => h5 z.1)
      clear h5
      refine And.intro (fun h9 => ?_) (fun h9 => ?_)
      · skip
        refine And.intro (by omega) ?_
        refine And.intro rfl ?_
        exact ⟨by omega, rfl⟩
      · skip
        refine pz_nrc (c := 60) rfl ?_
        refine And.intro (by omega) (And.intro (show _ < (1725 : Int) from by omega) ?_)
        intro v19 e19 a19 b19
        replace e19 : v19 = M 60 88 := e19
        have I19 : 0 ≤ v19 ∧ v19 ≤ 12 := by
          rw [e19]
          exact hI.1.1
        clear a19 b19
        intro v21 e21 a21 b21
        rw [pz_wi (by omega) (by omega)] at e21
        clear a21 b21
        refine And.intro (fun h22 => ?_) (fun h22 => ?_)
        · skip
          refine And.intro (by omega) ?_
          refine And.intro rfl ?_
          exact ⟨by omega, rfl⟩
        · skip
          refine And.intro (And.intro hI (And.intro (by omega) (by omega))) ?_
          intro v27 M27 a27 b27 q27
          obtain ⟨q27, z27⟩ := q27
          subst z27
          clear a27 b27
          refine And.intro (fun h30 => ?_) (fun h30 => ?_)
          · skip
            replace q27 := q27.resolve_right (fun z => h30 z.1)
            clear h30
            refine And.intro (by omega) ?_
            refine And.intro rfl ?_
            exact ⟨by omega, rfl⟩
          · skip
            replace q27 := q27.resolve_left (fun z => absurd (z.1.symm.trans h30) (by decide))
            clear h30
            refine And.intro (by omega) ?_
            refine And.intro rfl ?_
            exact ⟨by omega, rfl⟩
theorem v3_X12_canBridge {fr lo i : Nat} {own : String} (h1 : 3 + 1 ≤ fr) (h2 : 8 + (2 + 11) + 64 ≤ lo) (h3 : .methodLink own i yX12_canBridge ∈ lw_tbl) : pz_cV fr lo own i k3_X12_canBridge :=
  pz_cVk (maxL := 2) (fr' := 3) (lo' := 64) 1 12 h3_X12_canBridge rfl ⟨by decide +kernel, by decide +kernel, by decide +kernel⟩ ⟨(pz_mt 1494 (by decide +kernel)), (pz_mt 1493 (by decide +kernel)), (pz_ms 53 (by decide +kernel)), (pz_mt 13 (by decide +kernel))⟩ (Or.inl ⟨TX12, 28, rfl⟩) (fun a M _ h => by
    have h : (match (generalizing := false) a with | [.inr (.inr (12, th)), .inl i] => pz_im M | _ => False) := h
    split at h
    · exact ⟨_, _, rfl⟩
    · exact h.elim) h1 h2 h3
noncomputable def k3_X12_canPay0 : pz_C := (4, 1, fun a M => (match a with | [.inr (.inr (12, th)), .inl i, .inl j, .inl n] => pz_im M | _ => False), fun a M r M' => (match a, r with | [.inr (.inr (12, th)), .inl i, .inl j, .inl n], some (.inl v) => ((v = 1 ∧ 0 ≤ i ∧ i < M 60 88 ∧ 0 ≤ j ∧ j < M 60 88 ∧ M 60 88 ≤ 12 ∧ ¬ i = j ∧ -9999 ≤ pz_w (M 60 (16 + i).toNat - n) ∧ pz_w (M 60 (16 + j).toNat + n) ≤ 9999) ∨ (v = 0 ∧ ¬ (0 ≤ i ∧ i < M 60 88 ∧ 0 ≤ j ∧ j < M 60 88 ∧ M 60 88 ≤ 12 ∧ ¬ i = j ∧ -9999 ≤ pz_w (M 60 (16 + i).toNat - n) ∧ pz_w (M 60 (16 + j).toNat + n) ≤ 9999))) ∧ M = M' | _, _ => False))
noncomputable abbrev ct3_X12_canPay0 : List (Bool × Nat × pz_C) := [(true, 58, k_X12_isLink)]
set_option maxRecDepth 100000 in
set_option maxHeartbeats 4000000 in
theorem h3_X12_canPay0 : pz_H yX12_canPay0 cX12_canPay0 4 (some .boolean) k3_X12_canPay0 2 43 := by
  refine pz_mk (own := RX12) (tb := t_X12_canPay0) (fl := pz_flf fl_RX12) (ci := pz_cif ci_RX12) (ct := pz_ctf ct3_X12_canPay0) (rz := true) (by decide +kernel) rfl t_X12_canPay0_ok (pz_flk fl_RX12_ok) (pz_cik ci_RX12_ok) ?_ ?_ (Or.inr ⟨rfl, rfl⟩) ?_ ?_
  · exact fun i k' h => pz_ctk (l := ct3_X12_canPay0) (P := fun b i k => b = true → pz_cV 2 43 RX12 i k) (List.forall_mem_cons.mpr ⟨(fun _ => v_X12_isLink (by decide) (by decide) (pz_mt 1224 (by decide +kernel))), fun _ h => absurd h List.not_mem_nil⟩) true i k' h rfl
  · exact fun i k' h => pz_ctk (l := ct3_X12_canPay0) (P := fun b i k => b = false → (pz_cS 2 43 RX12 i k ∨ (k = pz_kac ∧ 1 ≤ 2 ∧ 60 ≤ 43 ∧ Cond.methodLink RX12 i arraycopyName ∈ pz_tbl))) (List.forall_mem_cons.mpr ⟨((fun z => by cases z)), fun _ h => absurd h List.not_mem_nil⟩) false i k' h rfl
  · intro a M hlen hpre
    obtain ⟨th, i, j, n, rfl, hpre⟩ : ∃ th i j n, a = [.inr (.inr (12, th)), .inl i, .inl j, .inl n] ∧ (pz_im M) := by
      have hpre : (match (generalizing := false) a with | [.inr (.inr (12, th)), .inl i, .inl j, .inl n] => pz_im M | _ => False) := hpre
      split at hpre
      · exact ⟨_, _, _, _, rfl, hpre⟩
      · exact hpre.elim
    exact Nat.le_of_ble_eq_true rfl
  · intro a M hlen hcan hM hpre Ok hgo
    obtain ⟨th, i, j, n, rfl, hpre⟩ : ∃ th i j n, a = [.inr (.inr (12, th)), .inl i, .inl j, .inl n] ∧ (pz_im M) := by
      have hpre : (match (generalizing := false) a with | [.inr (.inr (12, th)), .inl i, .inl j, .inl n] => pz_im M | _ => False) := hpre
      split at hpre
      · exact ⟨_, _, _, _, rfl, hpre⟩
      · exact hpre.elim
    obtain ⟨k_th, hc_th⟩ := pz_tlm hcan
    have k_th : pz_kd th = 12 ∧ th < 231 := k_th
    have R_th := pz_kd12 k_th.1
    subst R_th
    clear k_th
    obtain ⟨k_i, hc_i⟩ := pz_tlm hc_th
    have l_i : -2147483648 ≤ i := k_i.1
    have u_i : i ≤ 2147483647 := k_i.2
    obtain ⟨k_j, hc_j⟩ := pz_tlm hc_i
    have l_j : -2147483648 ≤ j := k_j.1
    have u_j : j ≤ 2147483647 := k_j.2
    obtain ⟨k_n, hc_n⟩ := pz_tlm hc_j
    have l_n : -2147483648 ≤ n := k_n.1
    have u_n : n ≤ 2147483647 := k_n.2
    have hI : pz_im M := hpre
    have I88 := hI.1.1
    refine hgo (fun _ => false) 37 0 _ [] M ?_
    refine And.intro (hI) ?_
    intro v2 M2 a2 b2 q2
    obtain ⟨q2, z2⟩ := q2
    subst z2
    clear a2 b2
    refine And.intro (fun h5 => ?_) (fun h5 => ?_)
    · skip
      replace q2 := q2.resolve_left (fun z => absurd (z.1.symm.trans h5) (by decide))
      clear h5
      refine And.intro (by omega) ?_
      refine And.intro rfl ?_
      refine ⟨?_, rfl⟩
      first
        | (rw [e29] at e31
           rw [e46] at e48
           rw [← e31, ← e48]
           omega)
        | (rw [e29] at e31
           rw [← e31]
           omega)
        | omega
    · skip
      replace q2 := q2.resolve_right (fun z => h5 z.1)
      clear h5
      refine And.intro (hI) ?_
      intro v10 M10 a10 b10 q10
      obtain ⟨q10, z10⟩ := q10
      subst z10
      clear a10 b10
      refine And.intro (fun h13 => ?_) (fun h13 => ?_)
      · skip
        replace q10 := q10.resolve_left (fun z => absurd (z.1.symm.trans h13) (by decide))
        clear h13
        refine And.intro (by omega) ?_
        refine And.intro rfl ?_
        refine ⟨?_, rfl⟩
        first
          | (rw [e29] at e31
             rw [e46] at e48
             rw [← e31, ← e48]
             omega)
          | (rw [e29] at e31
             rw [← e31]
             omega)
          | omega
      · skip
        replace q10 := q10.resolve_right (fun z => h13 z.1)
        clear h13
        refine And.intro (fun h18 => ?_) (fun h18 => ?_)
        · skip
          refine And.intro (by omega) ?_
          refine And.intro rfl ?_
          refine ⟨?_, rfl⟩
          first
            | (rw [e29] at e31
               rw [e46] at e48
               rw [← e31, ← e48]
               omega)
            | (rw [e29] at e31
               rw [← e31]
               omega)
            | omega
        · skip
          refine pz_nrc (c := 60) rfl ?_
          intro v28 e28 a28 b28
          rw [pz_wi (by omega) (by omega)] at e28
          clear a28 b28
          refine And.intro (by omega) (And.intro (show _ < (1725 : Int) from by omega) ?_)
          intro v29 e29 a29 b29
          rw [show v28 = 16 + i by omega] at e29
          intro v31 e31 a31 b31
          refine And.intro (fun h35 => ?_) (fun h35 => ?_)
          · skip
            refine And.intro (by omega) ?_
            refine And.intro rfl ?_
            refine ⟨?_, rfl⟩
            first
              | (rw [e29] at e31
                 rw [e46] at e48
                 rw [← e31, ← e48]
                 omega)
              | (rw [e29] at e31
                 rw [← e31]
                 omega)
              | omega
          · skip
            refine pz_nrc (c := 60) rfl ?_
            intro v45 e45 a45 b45
            rw [pz_wi (by omega) (by omega)] at e45
            clear a45 b45
            refine And.intro (by omega) (And.intro (show _ < (1725 : Int) from by omega) ?_)
            intro v46 e46 a46 b46
            rw [show v45 = 16 + j by omega] at e46
            intro v48 e48 a48 b48
            refine And.intro (fun h52 => ?_) (fun h52 => ?_)
            · skip
              refine And.intro (by omega) ?_
              refine And.intro rfl ?_
              refine ⟨?_, rfl⟩
              first
                | (rw [e29] at e31
                   rw [e46] at e48
                   rw [← e31, ← e48]
                   omega)
                | (rw [e29] at e31
                   rw [← e31]
                   omega)
                | omega
            · skip
              refine And.intro (by omega) ?_
              refine And.intro rfl ?_
              refine ⟨?_, rfl⟩
              first
                | (rw [e29] at e31
                   rw [e46] at e48
                   rw [← e31, ← e48]
                   omega)
                | (rw [e29] at e31
                   rw [← e31]
                   omega)
                | omega
theorem v3_X12_canPay0 {fr lo i : Nat} {own : String} (h1 : 2 + 1 ≤ fr) (h2 : 8 + (4 + 11) + 43 ≤ lo) (h3 : .methodLink own i yX12_canPay0 ∈ lw_tbl) : pz_cV fr lo own i k3_X12_canPay0 :=
  pz_cVk (maxL := 4) (fr' := 2) (lo' := 43) 3 12 h3_X12_canPay0 rfl ⟨by decide +kernel, by decide +kernel, by decide +kernel⟩ ⟨(pz_mt 1506 (by decide +kernel)), (pz_mt 1505 (by decide +kernel)), (pz_ms 55 (by decide +kernel)), (pz_mt 13 (by decide +kernel))⟩ (Or.inl ⟨TX12, 28, rfl⟩) (fun a M _ h => by
    have h : (match (generalizing := false) a with | [.inr (.inr (12, th)), .inl i, .inl j, .inl n] => pz_im M | _ => False) := h
    split at h
    · exact ⟨_, _, rfl⟩
    · exact h.elim) h1 h2 h3
noncomputable def k3_X12_canPay : pz_C := (2, 1, fun a M => (match a with | [.inr (.inr (12, th)), .inl i] => pz_im M ∧ 0 ≤ i ∧ i < 12 | _ => False), fun a M r M' => (match a, r with | [.inr (.inr (12, th)), .inl i], some (.inl v) => ((v = 0 ∨ v = 1) ∧ (v = 1 ↔ (i = M 60 88 - 1 ∨ M 60 (5 + i).toNat ≤ pz_w (M 60 (16 + i).toNat + if i = 0 then 0 else M 60 (4 + i).toNat)))) ∧ M = M' | _, _ => False))
noncomputable abbrev ct3_X12_canPay : List (Bool × Nat × pz_C) := []
set_option maxRecDepth 100000 in
set_option maxHeartbeats 4000000 in
theorem h3_X12_canPay : pz_H yX12_canPay cX12_canPay 2 (some .boolean) k3_X12_canPay 0 0 := by
  refine pz_mk (own := RX12) (tb := t_X12_canPay) (fl := pz_flf fl_RX12) (ci := pz_cif ci_RX12) (ct := pz_ctf ct3_X12_canPay) (rz := true) (by decide +kernel) rfl t_X12_canPay_ok (pz_flk fl_RX12_ok) (pz_cik ci_RX12_ok) ?_ ?_ (Or.inr ⟨rfl, rfl⟩) ?_ ?_
  · exact fun i k' h => pz_ctk (l := ct3_X12_canPay) (P := fun b i k => b = true → pz_cV 0 0 RX12 i k) (fun _ h => absurd h List.not_mem_nil) true i k' h rfl
  · exact fun i k' h => pz_ctk (l := ct3_X12_canPay) (P := fun b i k => b = false → (pz_cS 0 0 RX12 i k ∨ (k = pz_kac ∧ 1 ≤ 0 ∧ 60 ≤ 0 ∧ Cond.methodLink RX12 i arraycopyName ∈ pz_tbl))) (fun _ h => absurd h List.not_mem_nil) false i k' h rfl
  · intro a M hlen hpre
    obtain ⟨th, i, rfl, hpre⟩ : ∃ th i, a = [.inr (.inr (12, th)), .inl i] ∧ (pz_im M ∧ 0 ≤ i ∧ i < 12) := by
      have hpre : (match (generalizing := false) a with | [.inr (.inr (12, th)), .inl i] => pz_im M ∧ 0 ≤ i ∧ i < 12 | _ => False) := hpre
      split at hpre
      · exact ⟨_, _, rfl, hpre⟩
      · exact hpre.elim
    exact Nat.le_of_ble_eq_true rfl
  · intro a M hlen hcan hM hpre Ok hgo
    obtain ⟨th, i, rfl, hpre⟩ : ∃ th i, a = [.inr (.inr (12, th)), .inl i] ∧ (pz_im M ∧ 0 ≤ i ∧ i < 12) := by
      have hpre : (match (generalizing := false) a with | [.inr (.inr (12, th)), .inl i] => pz_im M ∧ 0 ≤ i ∧ i < 12 | _ => False) := hpre
      split at hpre
      · exact ⟨_, _, rfl, hpre⟩
      · exact hpre.elim
    obtain ⟨k_th, hc_th⟩ := pz_tlm hcan
    have k_th : pz_kd th = 12 ∧ th < 231 := k_th
    have R_th := pz_kd12 k_th.1
    subst R_th
    clear k_th
    obtain ⟨k_i, hc_i⟩ := pz_tlm hc_th
    have l_i : -2147483648 ≤ i := k_i.1
    have u_i : i ≤ 2147483647 := k_i.2
    have hI : pz_im M := hpre.1
    refine hgo (fun _ => false) 42 0 _ [] M ?_
    refine pz_nrc (c := 60) rfl ?_
    refine And.intro (by omega) (And.intro (show _ < (1725 : Int) from by omega) ?_)
    intro v7 e7 a7 b7
    replace e7 : v7 = M 60 88 := e7
    have I7 : 0 ≤ v7 ∧ v7 ≤ 12 := by
      rw [e7]
      exact hI.1.1
    clear a7 b7
    intro v9 e9 a9 b9
    rw [pz_wi (by omega) (by omega)] at e9
    clear a9 b9
    refine And.intro (fun h10 => ?_) (fun h10 => ?_)
    · skip
      refine pz_nrc (c := 60) rfl ?_
      intro v21 e21 a21 b21
      rw [pz_wi (by omega) (by omega)] at e21
      clear a21 b21
      intro v23 e23 a23 b23
      rw [pz_wi (by omega) (by omega)] at e23
      clear a23 b23
      refine And.intro (by omega) (And.intro (show _ < (1725 : Int) from by omega) ?_)
      intro v24 e24 a24 b24
      rw [show v23 = 5 + i by omega] at e24
      refine pz_nrc (c := 60) rfl ?_
      intro v32 e32 a32 b32
      rw [pz_wi (by omega) (by omega)] at e32
      clear a32 b32
      refine And.intro (by omega) (And.intro (show _ < (1725 : Int) from by omega) ?_)
      intro v33 e33 a33 b33
      rw [show v32 = 16 + i by omega] at e33
      refine And.intro (fun h35 => ?_) (fun h35 => ?_)
      · skip
        replace h35 : 1 ≤ i := by omega
        refine pz_nrc (c := 60) rfl ?_
        intro v48 e48 a48 b48
        rw [pz_wi (by omega) (by omega)] at e48
        clear a48 b48
        refine And.intro (by omega) (And.intro (show _ < (1725 : Int) from by omega) ?_)
        intro v49 e49 a49 b49
        rw [show v48 = 4 + i by omega] at e49
        intro v50 e50 a50 b50
        refine And.intro (fun h51 => ?_) (fun h51 => ?_)
        · skip
          refine And.intro (by omega) ?_
          refine And.intro rfl ?_
          refine ⟨?_, rfl⟩
          first
            | exact ⟨by omega, ⟨fun _ => Or.inl (by omega), fun _ => rfl⟩⟩
            | (have E : v50 = pz_w (M 60 (16 + i).toNat + if i = 0 then 0 else M 60 (4 + i).toNat) := by
                 first
                   | rw [e50, e33, if_pos (by omega)]
                   | rw [e50, e33, if_neg (by omega), e49]
               rw [← E]
               omega)
        · skip
          refine And.intro (by omega) ?_
          refine And.intro rfl ?_
          refine ⟨?_, rfl⟩
          first
            | exact ⟨by omega, ⟨fun _ => Or.inl (by omega), fun _ => rfl⟩⟩
            | (have E : v50 = pz_w (M 60 (16 + i).toNat + if i = 0 then 0 else M 60 (4 + i).toNat) := by
                 first
                   | rw [e50, e33, if_pos (by omega)]
                   | rw [e50, e33, if_neg (by omega), e49]
               rw [← E]
               omega)
      · skip
        intro v50 e50 a50 b50
        refine And.intro (fun h51 => ?_) (fun h51 => ?_)
        · skip
          refine And.intro (by omega) ?_
          refine And.intro rfl ?_
          refine ⟨?_, rfl⟩
          first
            | exact ⟨by omega, ⟨fun _ => Or.inl (by omega), fun _ => rfl⟩⟩
            | (have E : v50 = pz_w (M 60 (16 + i).toNat + if i = 0 then 0 else M 60 (4 + i).toNat) := by
                 first
                   | rw [e50, e33, if_pos (by omega)]
                   | rw [e50, e33, if_neg (by omega), e49]
               rw [← E]
               omega)
        · skip
          refine And.intro (by omega) ?_
          refine And.intro rfl ?_
          refine ⟨?_, rfl⟩
          first
            | exact ⟨by omega, ⟨fun _ => Or.inl (by omega), fun _ => rfl⟩⟩
            | (have E : v50 = pz_w (M 60 (16 + i).toNat + if i = 0 then 0 else M 60 (4 + i).toNat) := by
                 first
                   | rw [e50, e33, if_pos (by omega)]
                   | rw [e50, e33, if_neg (by omega), e49]
               rw [← E]
               omega)
    · skip
      refine And.intro (by omega) ?_
      refine And.intro rfl ?_
      refine ⟨?_, rfl⟩
      first
        | exact ⟨by omega, ⟨fun _ => Or.inl (by omega), fun _ => rfl⟩⟩
        | (have E : v50 = pz_w (M 60 (16 + i).toNat + if i = 0 then 0 else M 60 (4 + i).toNat) := by
             first
               | rw [e50, e33, if_pos (by omega)]
               | rw [e50, e33, if_neg (by omega), e49]
           rw [← E]
           omega)
theorem v3_X12_canPay {fr lo i : Nat} {own : String} (h1 : 0 + 1 ≤ fr) (h2 : 8 + (2 + 11) + 0 ≤ lo) (h3 : .methodLink own i yX12_canPay ∈ lw_tbl) : pz_cV fr lo own i k3_X12_canPay :=
  pz_cVk (maxL := 2) (fr' := 0) (lo' := 0) 1 12 h3_X12_canPay rfl ⟨by decide +kernel, by decide +kernel, by decide +kernel⟩ ⟨(pz_mt 1576 (by decide +kernel)), (pz_mt 1575 (by decide +kernel)), (pz_ms 69 (by decide +kernel)), (pz_mt 13 (by decide +kernel))⟩ (Or.inl ⟨TX12, 28, rfl⟩) (fun a M _ h => by
    have h : (match (generalizing := false) a with | [.inr (.inr (12, th)), .inl i] => pz_im M ∧ 0 ≤ i ∧ i < 12 | _ => False) := h
    split at h
    · exact ⟨_, _, rfl⟩
    · exact h.elim) h1 h2 h3
noncomputable def k3_X12_unreadies : pz_C := (2, 0, fun a M => (match a with | [.inr (.inr (12, th)), .inl i] => pz_im M | _ => False), fun a M r M' => (match a, r with | [.inr (.inr (12, th)), .inl i], none => (M' 60 = sd_lvk (M 60) i) ∧ pz_rl pz_QD M M' | _, _ => False))
noncomputable abbrev ct3_X12_unreadies : List (Bool × Nat × pz_C) := [(true, 58, k_X12_isLink), (true, 65, k3_X12_hasMoved)]
set_option maxRecDepth 100000 in
set_option maxHeartbeats 4000000 in
theorem h3_X12_unreadies : pz_H yX12_unreadies cX12_unreadies 2 none k3_X12_unreadies 2 43 := by
  refine pz_mk (own := RX12) (tb := t_X12_unreadies) (fl := pz_flf fl_RX12) (ci := pz_cif ci_RX12) (ct := pz_ctf ct3_X12_unreadies) (rz := false) (by decide +kernel) rfl t_X12_unreadies_ok (pz_flk fl_RX12_ok) (pz_cik ci_RX12_ok) ?_ ?_ (rfl) ?_ ?_
  · exact fun i k' h => pz_ctk (l := ct3_X12_unreadies) (P := fun b i k => b = true → pz_cV 2 43 RX12 i k) (List.forall_mem_cons.mpr ⟨(fun _ => v_X12_isLink (by decide) (by decide) (pz_mt 1224 (by decide +kernel))), List.forall_mem_cons.mpr ⟨(fun _ => v3_X12_hasMoved (by decide) (by decide) (pz_mt 1423 (by decide +kernel))), fun _ h => absurd h List.not_mem_nil⟩⟩) true i k' h rfl
  · exact fun i k' h => pz_ctk (l := ct3_X12_unreadies) (P := fun b i k => b = false → (pz_cS 2 43 RX12 i k ∨ (k = pz_kac ∧ 1 ≤ 2 ∧ 60 ≤ 43 ∧ Cond.methodLink RX12 i arraycopyName ∈ pz_tbl))) (List.forall_mem_cons.mpr ⟨((fun z => by cases z)), List.forall_mem_cons.mpr ⟨((fun z => by cases z)), fun _ h => absurd h List.not_mem_nil⟩⟩) false i k' h rfl
  · intro a M hlen hpre
    obtain ⟨th, i, rfl, hpre⟩ : ∃ th i, a = [.inr (.inr (12, th)), .inl i] ∧ (pz_im M) := by
      have hpre : (match (generalizing := false) a with | [.inr (.inr (12, th)), .inl i] => pz_im M | _ => False) := hpre
      split at hpre
      · exact ⟨_, _, rfl, hpre⟩
      · exact hpre.elim
    exact Nat.le_of_ble_eq_true rfl
  · intro a M hlen hcan hM hpre Ok hgo
    obtain ⟨th, i, rfl, hpre⟩ : ∃ th i, a = [.inr (.inr (12, th)), .inl i] ∧ (pz_im M) := by
      have hpre : (match (generalizing := false) a with | [.inr (.inr (12, th)), .inl i] => pz_im M | _ => False) := hpre
      split at hpre
      · exact ⟨_, _, rfl, hpre⟩
      · exact hpre.elim
    obtain ⟨k_th, hc_th⟩ := pz_tlm hcan
    have k_th : pz_kd th = 12 ∧ th < 231 := k_th
    have R_th := pz_kd12 k_th.1
    subst R_th
    clear k_th
    obtain ⟨k_i, hc_i⟩ := pz_tlm hc_th
    have l_i : -2147483648 ≤ i := k_i.1
    have u_i : i ≤ 2147483647 := k_i.2
    have hI : pz_im M := hpre
    have hI0 := hI
    have hS : pz_rl pz_QD M M := pz_rl.rf
    have I88 := hI.1.1
    refine hgo (fun _ => false) 18 0 _ [] M ?_
    refine And.intro (hI) ?_
    intro v2 M2 a2 b2 q2
    obtain ⟨q2, z2⟩ := q2
    subst z2
    clear a2 b2
    refine And.intro (fun h5 => ?_) (fun h5 => ?_)
    · skip
      replace q2 := q2.resolve_left (fun z => absurd (z.1.symm.trans h5) (by decide))
      clear h5
      refine And.intro rfl ?_
      refine ⟨?_, hS⟩
      unfold sd_lvk
      first
        | (rw [e25, sd_um, show v23.toNat = 40 + i.toNat by omega]
           exact (if_pos ⟨by omega, by omega, by rw [← show (76 + i).toNat = 76 + i.toNat by omega]; omega⟩).symm)
        | exact (if_neg (fun z => by
            have z3 := z.2.2
            rw [← show (76 + i).toNat = 76 + i.toNat by omega] at z3
            omega)).symm
        | exact (if_neg (fun z => by omega)).symm
    · skip
      replace q2 := q2.resolve_right (fun z => h5 z.1)
      clear h5
      refine And.intro (And.intro hI (And.intro (by omega) (by omega))) ?_
      intro v10 M10 a10 b10 q10
      obtain ⟨q10, z10⟩ := q10
      subst z10
      clear a10 b10
      refine And.intro (fun h13 => ?_) (fun h13 => ?_)
      · skip
        replace q10 := q10.resolve_right (fun z => h13 z.1)
        clear h13
        refine And.intro rfl ?_
        refine ⟨?_, hS⟩
        unfold sd_lvk
        first
          | (rw [e25, sd_um, show v23.toNat = 40 + i.toNat by omega]
             exact (if_pos ⟨by omega, by omega, by rw [← show (76 + i).toNat = 76 + i.toNat by omega]; omega⟩).symm)
          | exact (if_neg (fun z => by
              have z3 := z.2.2
              rw [← show (76 + i).toNat = 76 + i.toNat by omega] at z3
              omega)).symm
          | exact (if_neg (fun z => by omega)).symm
      · skip
        replace q10 := q10.resolve_left (fun z => absurd (z.1.symm.trans h13) (by decide))
        clear h13
        refine pz_nrc (c := 60) rfl ?_
        intro v23 e23 a23 b23
        rw [pz_wi (by omega) (by omega)] at e23
        clear a23 b23
        refine And.intro (by omega) (And.intro (show _ < (1725 : Int) from by omega) ?_)
        intro M25 e25
        have hS : pz_rl pz_QD M M25 := by
          rw [e25]
          exact pz_rl_u hS (by unfold pz_QD; omega) (pz_iom_w1 (by omega) (by omega))
        have hI : pz_im M25 := hS.1 hI0
        refine And.intro rfl ?_
        refine ⟨?_, hS⟩
        unfold sd_lvk
        first
          | (rw [e25, sd_um, show v23.toNat = 40 + i.toNat by omega]
             exact (if_pos ⟨by omega, by omega, by rw [← show (76 + i).toNat = 76 + i.toNat by omega]; omega⟩).symm)
          | exact (if_neg (fun z => by
              have z3 := z.2.2
              rw [← show (76 + i).toNat = 76 + i.toNat by omega] at z3
              omega)).symm
          | exact (if_neg (fun z => by omega)).symm
theorem v3_X12_unreadies {fr lo i : Nat} {own : String} (h1 : 2 + 1 ≤ fr) (h2 : 8 + (2 + 11) + 43 ≤ lo) (h3 : .methodLink own i yX12_unreadies ∈ lw_tbl) : pz_cV fr lo own i k3_X12_unreadies :=
  pz_cVk (maxL := 2) (fr' := 2) (lo' := 43) 1 12 h3_X12_unreadies rfl ⟨by decide +kernel, by decide +kernel, by decide +kernel⟩ ⟨(pz_mt 1564 (by decide +kernel)), (pz_mt 1563 (by decide +kernel)), (pz_ms 66 (by decide +kernel)), (pz_mt 13 (by decide +kernel))⟩ (Or.inl ⟨TX12, 28, rfl⟩) (fun a M _ h => by
    have h : (match (generalizing := false) a with | [.inr (.inr (12, th)), .inl i] => pz_im M | _ => False) := h
    split at h
    · exact ⟨_, _, rfl⟩
    · exact h.elim) h1 h2 h3
noncomputable def k3_X12_leaves : pz_C := (2, 0, fun a M => (match a with | [.inr (.inr (12, th)), .inl i] => pz_im M ∧ 0 ≤ i ∧ i < 12 | _ => False), fun a M r M' => (match a, r with | [.inr (.inr (12, th)), .inl i], none => (M' 60 = sd_lev (sd_Tr M) (M 60) i.toNat) ∧ pz_rl pz_QD M M' | _, _ => False))
noncomputable abbrev ct3_X12_leaves : List (Bool × Nat × pz_C) := [(true, 358, k3_X12_unreadies), (true, 323, k3_X12_notes)]
set_option maxRecDepth 100000 in
set_option maxHeartbeats 4000000 in
theorem h3_X12_leaves : pz_H yX12_leaves cX12_leaves 2 none k3_X12_leaves 3 64 := by
  refine pz_mk (own := RX12) (tb := t_X12_leaves) (fl := pz_flf fl_RX12) (ci := pz_cif ci_RX12) (ct := pz_ctf ct3_X12_leaves) (rz := false) (by decide +kernel) rfl t_X12_leaves_ok (pz_flk fl_RX12_ok) (pz_cik ci_RX12_ok) ?_ ?_ (rfl) ?_ ?_
  · exact fun i k' h => pz_ctk (l := ct3_X12_leaves) (P := fun b i k => b = true → pz_cV 3 64 RX12 i k) (List.forall_mem_cons.mpr ⟨(fun _ => v3_X12_unreadies (by decide) (by decide) (pz_mt 1561 (by decide +kernel))), List.forall_mem_cons.mpr ⟨(fun _ => v3_X12_notes (by decide) (by decide) (pz_mt 1483 (by decide +kernel))), fun _ h => absurd h List.not_mem_nil⟩⟩) true i k' h rfl
  · exact fun i k' h => pz_ctk (l := ct3_X12_leaves) (P := fun b i k => b = false → (pz_cS 3 64 RX12 i k ∨ (k = pz_kac ∧ 1 ≤ 3 ∧ 60 ≤ 64 ∧ Cond.methodLink RX12 i arraycopyName ∈ pz_tbl))) (List.forall_mem_cons.mpr ⟨((fun z => by cases z)), List.forall_mem_cons.mpr ⟨((fun z => by cases z)), fun _ h => absurd h List.not_mem_nil⟩⟩) false i k' h rfl
  · intro a M hlen hpre
    obtain ⟨th, i, rfl, hpre⟩ : ∃ th i, a = [.inr (.inr (12, th)), .inl i] ∧ (pz_im M ∧ 0 ≤ i ∧ i < 12) := by
      have hpre : (match (generalizing := false) a with | [.inr (.inr (12, th)), .inl i] => pz_im M ∧ 0 ≤ i ∧ i < 12 | _ => False) := hpre
      split at hpre
      · exact ⟨_, _, rfl, hpre⟩
      · exact hpre.elim
    exact Nat.le_of_ble_eq_true rfl
  · intro a M hlen hcan hM hpre Ok hgo
    obtain ⟨th, i, rfl, hpre⟩ : ∃ th i, a = [.inr (.inr (12, th)), .inl i] ∧ (pz_im M ∧ 0 ≤ i ∧ i < 12) := by
      have hpre : (match (generalizing := false) a with | [.inr (.inr (12, th)), .inl i] => pz_im M ∧ 0 ≤ i ∧ i < 12 | _ => False) := hpre
      split at hpre
      · exact ⟨_, _, rfl, hpre⟩
      · exact hpre.elim
    obtain ⟨k_th, hc_th⟩ := pz_tlm hcan
    have k_th : pz_kd th = 12 ∧ th < 231 := k_th
    have R_th := pz_kd12 k_th.1
    subst R_th
    clear k_th
    obtain ⟨k_i, hc_i⟩ := pz_tlm hc_th
    have l_i : -2147483648 ≤ i := k_i.1
    have u_i : i ≤ 2147483647 := k_i.2
    have hI : pz_im M := hpre.1
    have hI0 := hI
    have hS : pz_rl pz_QD M M := pz_rl.rf
    have I88 := hI.1.1
    refine hgo (fun _ => false) 40 0 _ [] M ?_
    refine pz_nrc (c := 60) rfl ?_
    intro v7 e7 a7 b7
    rw [pz_wi (by omega) (by omega)] at e7
    clear a7 b7
    refine And.intro (by omega) (And.intro (show _ < (1725 : Int) from by omega) ?_)
    intro M9 e9
    have hS : pz_rl pz_QD M M9 := by
      rw [e9]
      exact pz_rl_u hS (by unfold pz_QD; omega) (pz_iom_w1 (by omega) (by omega))
    have hI : pz_im M9 := hS.1 hI0
    refine pz_nrc (c := 60) rfl ?_
    refine And.intro (by omega) (And.intro (show _ < (1725 : Int) from by omega) ?_)
    intro v16 e16 a16 b16
    replace e16 : v16 = M9 60 1 := e16
    intro v18 e18 a18 b18
    refine And.intro (by omega) (And.intro (show _ < (1725 : Int) from by omega) ?_)
    intro M19 e19
    have hS : pz_rl pz_QD M M19 := by
      rw [e19]
      exact pz_rl_u hS (by unfold pz_QD; omega) (pz_iom_w0 (by omega))
    have hI : pz_im M19 := hS.1 hI0
    refine pz_nrc (c := 60) rfl ?_
    intro v27 e27 a27 b27
    rw [pz_wi (by omega) (by omega)] at e27
    clear a27 b27
    refine And.intro (by omega) (And.intro (show _ < (1725 : Int) from by omega) ?_)
    intro M29 e29
    have hS : pz_rl pz_QD M M29 := by
      rw [e29]
      exact pz_rl_u hS (by unfold pz_QD; omega) (pz_iom_w1 (by omega) (by omega))
    have hI : pz_im M29 := hS.1 hI0
    intro v33 e33 a33 b33
    rw [pz_wi (by omega) (by omega)] at e33
    clear a33 b33
    refine And.intro (hI) ?_
    intro M34 q34
    obtain ⟨q34, z34⟩ := q34
    have hS : pz_rl pz_QD M M34 := hS.tr z34
    have hI : pz_im M34 := hS.1 hI0
    intro v40 e40 a40 b40
    rw [pz_wi (by omega) (by omega)] at e40
    clear a40 b40
    refine And.intro (hI) ?_
    intro M41 q41
    obtain ⟨q41, z41⟩ := q41
    have hS : pz_rl pz_QD M M41 := hS.tr z41
    have hI : pz_im M41 := hS.1 hI0
    have hS41 := hS
    refine And.intro (hI) ?_
    intro M48 q48
    obtain ⟨q48, z48⟩ := q48
    have hS : pz_rl pz_QD M M48 := hS.tr z48
    have hI : pz_im M48 := hS.1 hI0
    refine And.intro rfl ?_
    refine ⟨?_, hS⟩
    have T : sd_Tr M41 = sd_Tr M := by
      unfold sd_Tr
      rw [hS41.2 1 26 (by unfold pz_QD; omega)]
    have V16 : v16 = M 60 1 := by
      rw [e16, e9]
      exact pz_unk (by omega)
    rw [q48, T, q41, q34, e29, sd_um, e19, sd_um, e9, sd_um, sd_lev_k, e18, V16, show v7.toNat = 52 + i.toNat by omega, show v27.toNat = 40 + i.toNat by omega, show v33 = ((i.toNat : Nat) : Int) - 1 by omega, show v40 = ((i.toNat : Nat) : Int) + 1 by omega, show ((i.toNat : Nat) : Int) = i by omega]
    rfl
theorem v3_X12_leaves {fr lo i : Nat} {own : String} (h1 : 3 + 1 ≤ fr) (h2 : 8 + (2 + 11) + 64 ≤ lo) (h3 : .methodLink own i yX12_leaves ∈ lw_tbl) : pz_cV fr lo own i k3_X12_leaves :=
  pz_cVk (maxL := 2) (fr' := 3) (lo' := 64) 1 12 h3_X12_leaves rfl ⟨by decide +kernel, by decide +kernel, by decide +kernel⟩ ⟨(pz_mt 1560 (by decide +kernel)), (pz_mt 1559 (by decide +kernel)), (pz_ms 65 (by decide +kernel)), (pz_mt 13 (by decide +kernel))⟩ (Or.inl ⟨TX12, 28, rfl⟩) (fun a M _ h => by
    have h : (match (generalizing := false) a with | [.inr (.inr (12, th)), .inl i] => pz_im M ∧ 0 ≤ i ∧ i < 12 | _ => False) := h
    split at h
    · exact ⟨_, _, rfl⟩
    · exact h.elim) h1 h2 h3
